section
-- ===== PART A: goes FIRST, ahead of the names: the tables' words, and 'selects' of the private methods out of them =====
/-- a private method of a class that the tables say can be made, by its rows of tables_1 -/
def lw_okq (q : MethodName × Nat) : Prop := (q.1.cls ≠ "java/lang/invoke/MethodHandle" ∧ q.1.cls ≠ "java/lang/invoke/VarHandle") ∧ Cond.instantiable q.1.cls q.2 ∈ tables_1 ∧ Cond.privateMethod q.1 ∈ tables_1 ∧ Cond.instanceMethod q.1 ∈ tables_1
theorem lw_p0 : lw_okq (⟨"java/lang/Throwable", "fillInStackTrace", "(I)Ljava/lang/Throwable;"⟩, 6) := ⟨⟨by decide +kernel, by decide +kernel⟩, List.mem_of_getElem? (i := 226) (by decide +kernel), List.mem_of_getElem? (i := 224) (by decide +kernel), List.mem_of_getElem? (i := 225) (by decide +kernel)⟩
theorem lw_p1 : lw_okq (⟨"Gladehall$Numbers", "append", "(I)Z"⟩, 3) := ⟨⟨by decide +kernel, by decide +kernel⟩, List.mem_of_getElem? (i := 40) (by decide +kernel), List.mem_of_getElem? (i := 256) (by decide +kernel), List.mem_of_getElem? (i := 257) (by decide +kernel)⟩
theorem lw_p2 : lw_okq (⟨"Gladehall", "playerOf", "(I)LGladehall$Player;"⟩, 5) := ⟨⟨by decide +kernel, by decide +kernel⟩, List.mem_of_getElem? (i := 18) (by decide +kernel), List.mem_of_getElem? (i := 284) (by decide +kernel), List.mem_of_getElem? (i := 285) (by decide +kernel)⟩
theorem lw_p3 : lw_okq (⟨"Gladehall", "fillShop", "(LGladehall$Player;)V"⟩, 5) := ⟨⟨by decide +kernel, by decide +kernel⟩, List.mem_of_getElem? (i := 18) (by decide +kernel), List.mem_of_getElem? (i := 305) (by decide +kernel), List.mem_of_getElem? (i := 306) (by decide +kernel)⟩
theorem lw_p4 : lw_okq (⟨"Gladehall$Pool", "putBack", "(II)V"⟩, 1) := ⟨⟨by decide +kernel, by decide +kernel⟩, List.mem_of_getElem? (i := 28) (by decide +kernel), List.mem_of_getElem? (i := 309) (by decide +kernel), List.mem_of_getElem? (i := 310) (by decide +kernel)⟩
theorem lw_p5 : lw_okq (⟨"Gladehall$Numbers", "take", "()I"⟩, 3) := ⟨⟨by decide +kernel, by decide +kernel⟩, List.mem_of_getElem? (i := 40) (by decide +kernel), List.mem_of_getElem? (i := 313) (by decide +kernel), List.mem_of_getElem? (i := 314) (by decide +kernel)⟩
theorem lw_p6 : lw_okq (⟨"Gladehall$Pool", "draw", "(II)I"⟩, 1) := ⟨⟨by decide +kernel, by decide +kernel⟩, List.mem_of_getElem? (i := 28) (by decide +kernel), List.mem_of_getElem? (i := 317) (by decide +kernel), List.mem_of_getElem? (i := 318) (by decide +kernel)⟩
theorem lw_p7 : lw_okq (⟨"Gladehall$Pool", "unitsUpTo", "(I)I"⟩, 1) := ⟨⟨by decide +kernel, by decide +kernel⟩, List.mem_of_getElem? (i := 28) (by decide +kernel), List.mem_of_getElem? (i := 321) (by decide +kernel), List.mem_of_getElem? (i := 322) (by decide +kernel)⟩
theorem lw_p8 : lw_okq (⟨"Gladehall$UnitRow", "append", "(II)Z"⟩, 3) := ⟨⟨by decide +kernel, by decide +kernel⟩, List.mem_of_getElem? (i := 105) (by decide +kernel), List.mem_of_getElem? (i := 373) (by decide +kernel), List.mem_of_getElem? (i := 374) (by decide +kernel)⟩
theorem lw_p9 : lw_okq (⟨"Gladehall$Player", "mergeThrees", "()V"⟩, 8) := ⟨⟨by decide +kernel, by decide +kernel⟩, List.mem_of_getElem? (i := 99) (by decide +kernel), List.mem_of_getElem? (i := 378) (by decide +kernel), List.mem_of_getElem? (i := 379) (by decide +kernel)⟩
theorem lw_p10 : lw_okq (⟨"Gladehall$Player", "mergeFirstThree", "()Z"⟩, 8) := ⟨⟨by decide +kernel, by decide +kernel⟩, List.mem_of_getElem? (i := 99) (by decide +kernel), List.mem_of_getElem? (i := 382) (by decide +kernel), List.mem_of_getElem? (i := 383) (by decide +kernel)⟩
theorem lw_p11 : lw_okq (⟨"Gladehall$UnitRow", "countOf", "(II)I"⟩, 3) := ⟨⟨by decide +kernel, by decide +kernel⟩, List.mem_of_getElem? (i := 105) (by decide +kernel), List.mem_of_getElem? (i := 386) (by decide +kernel), List.mem_of_getElem? (i := 387) (by decide +kernel)⟩
theorem lw_p12 : lw_okq (⟨"Gladehall$Player", "mergeThree", "(II)V"⟩, 8) := ⟨⟨by decide +kernel, by decide +kernel⟩, List.mem_of_getElem? (i := 99) (by decide +kernel), List.mem_of_getElem? (i := 390) (by decide +kernel), List.mem_of_getElem? (i := 391) (by decide +kernel)⟩
theorem lw_p13 : lw_okq (⟨"Gladehall$Player", "rowOfFirst", "(II)LGladehall$UnitRow;"⟩, 8) := ⟨⟨by decide +kernel, by decide +kernel⟩, List.mem_of_getElem? (i := 99) (by decide +kernel), List.mem_of_getElem? (i := 394) (by decide +kernel), List.mem_of_getElem? (i := 395) (by decide +kernel)⟩
theorem lw_p14 : lw_okq (⟨"Gladehall$UnitRow", "find", "(II)I"⟩, 3) := ⟨⟨by decide +kernel, by decide +kernel⟩, List.mem_of_getElem? (i := 105) (by decide +kernel), List.mem_of_getElem? (i := 398) (by decide +kernel), List.mem_of_getElem? (i := 399) (by decide +kernel)⟩
theorem lw_p15 : lw_okq (⟨"Gladehall$UnitRow", "removeAt", "(I)V"⟩, 3) := ⟨⟨by decide +kernel, by decide +kernel⟩, List.mem_of_getElem? (i := 105) (by decide +kernel), List.mem_of_getElem? (i := 402) (by decide +kernel), List.mem_of_getElem? (i := 403) (by decide +kernel)⟩
def lw_privs_1 : List (MethodName × Nat) := [(⟨"java/lang/Throwable", "fillInStackTrace", "(I)Ljava/lang/Throwable;"⟩, 6), (⟨"Gladehall$Numbers", "append", "(I)Z"⟩, 3), (⟨"Gladehall", "playerOf", "(I)LGladehall$Player;"⟩, 5), (⟨"Gladehall", "fillShop", "(LGladehall$Player;)V"⟩, 5), (⟨"Gladehall$Pool", "putBack", "(II)V"⟩, 1), (⟨"Gladehall$Numbers", "take", "()I"⟩, 3), (⟨"Gladehall$Pool", "draw", "(II)I"⟩, 1), (⟨"Gladehall$Pool", "unitsUpTo", "(I)I"⟩, 1), (⟨"Gladehall$UnitRow", "append", "(II)Z"⟩, 3), (⟨"Gladehall$Player", "mergeThrees", "()V"⟩, 8), (⟨"Gladehall$Player", "mergeFirstThree", "()Z"⟩, 8), (⟨"Gladehall$UnitRow", "countOf", "(II)I"⟩, 3), (⟨"Gladehall$Player", "mergeThree", "(II)V"⟩, 8), (⟨"Gladehall$Player", "rowOfFirst", "(II)LGladehall$UnitRow;"⟩, 8), (⟨"Gladehall$UnitRow", "find", "(II)I"⟩, 3), (⟨"Gladehall$UnitRow", "removeAt", "(I)V"⟩, 3)]
theorem lw_r1 : ∀ q ∈ lw_privs_1, lw_okq q := List.forall_mem_cons.mpr ⟨lw_p0, List.forall_mem_cons.mpr ⟨lw_p1, List.forall_mem_cons.mpr ⟨lw_p2, List.forall_mem_cons.mpr ⟨lw_p3, List.forall_mem_cons.mpr ⟨lw_p4, List.forall_mem_cons.mpr ⟨lw_p5, List.forall_mem_cons.mpr ⟨lw_p6, List.forall_mem_cons.mpr ⟨lw_p7, List.forall_mem_cons.mpr ⟨lw_p8, List.forall_mem_cons.mpr ⟨lw_p9, List.forall_mem_cons.mpr ⟨lw_p10, List.forall_mem_cons.mpr ⟨lw_p11, List.forall_mem_cons.mpr ⟨lw_p12, List.forall_mem_cons.mpr ⟨lw_p13, List.forall_mem_cons.mpr ⟨lw_p14, List.forall_mem_cons.mpr ⟨lw_p15, fun _ h => absurd h List.not_mem_nil⟩⟩⟩⟩⟩⟩⟩⟩⟩⟩⟩⟩⟩⟩⟩⟩
theorem lw_p16 : lw_okq (⟨"Gladehall$UnitRow", "has", "(I)Z"⟩, 3) := ⟨⟨by decide +kernel, by decide +kernel⟩, List.mem_of_getElem? (i := 105) (by decide +kernel), List.mem_of_getElem? (i := 406) (by decide +kernel), List.mem_of_getElem? (i := 407) (by decide +kernel)⟩
theorem lw_p17 : lw_okq (⟨"Gladehall$Player", "addGold", "(I)V"⟩, 8) := ⟨⟨by decide +kernel, by decide +kernel⟩, List.mem_of_getElem? (i := 99) (by decide +kernel), List.mem_of_getElem? (i := 426) (by decide +kernel), List.mem_of_getElem? (i := 427) (by decide +kernel)⟩
theorem lw_p18 : lw_okq (⟨"Gladehall", "fightPair", "(II)V"⟩, 5) := ⟨⟨by decide +kernel, by decide +kernel⟩, List.mem_of_getElem? (i := 18) (by decide +kernel), List.mem_of_getElem? (i := 458) (by decide +kernel), List.mem_of_getElem? (i := 459) (by decide +kernel)⟩
theorem lw_p19 : lw_okq (⟨"Gladehall", "musterSides", "(II)V"⟩, 5) := ⟨⟨by decide +kernel, by decide +kernel⟩, List.mem_of_getElem? (i := 18) (by decide +kernel), List.mem_of_getElem? (i := 462) (by decide +kernel), List.mem_of_getElem? (i := 463) (by decide +kernel)⟩
theorem lw_p20 : lw_okq (⟨"Gladehall$Battle", "muster", "(LGladehall$UnitRow;LGladehall$UnitRow;)V"⟩, 5) := ⟨⟨by decide +kernel, by decide +kernel⟩, List.mem_of_getElem? (i := 57) (by decide +kernel), List.mem_of_getElem? (i := 467) (by decide +kernel), List.mem_of_getElem? (i := 468) (by decide +kernel)⟩
theorem lw_p21 : lw_okq (⟨"Gladehall$Side", "muster", "(LGladehall$UnitRow;)V"⟩, 4) := ⟨⟨by decide +kernel, by decide +kernel⟩, List.mem_of_getElem? (i := 63) (by decide +kernel), List.mem_of_getElem? (i := 471) (by decide +kernel), List.mem_of_getElem? (i := 472) (by decide +kernel)⟩
theorem lw_p22 : lw_okq (⟨"Gladehall$UnitRow", "healthAt", "(I)I"⟩, 3) := ⟨⟨by decide +kernel, by decide +kernel⟩, List.mem_of_getElem? (i := 105) (by decide +kernel), List.mem_of_getElem? (i := 476) (by decide +kernel), List.mem_of_getElem? (i := 477) (by decide +kernel)⟩
theorem lw_p23 : lw_okq (⟨"Gladehall$UnitRow", "strengthAt", "(I)I"⟩, 3) := ⟨⟨by decide +kernel, by decide +kernel⟩, List.mem_of_getElem? (i := 105) (by decide +kernel), List.mem_of_getElem? (i := 481) (by decide +kernel), List.mem_of_getElem? (i := 482) (by decide +kernel)⟩
theorem lw_p24 : lw_okq (⟨"Gladehall$UnitRow", "hasKind", "(I)Z"⟩, 3) := ⟨⟨by decide +kernel, by decide +kernel⟩, List.mem_of_getElem? (i := 105) (by decide +kernel), List.mem_of_getElem? (i := 485) (by decide +kernel), List.mem_of_getElem? (i := 486) (by decide +kernel)⟩
theorem lw_p25 : lw_okq (⟨"Gladehall$Battle", "fightOut", "()V"⟩, 5) := ⟨⟨by decide +kernel, by decide +kernel⟩, List.mem_of_getElem? (i := 57) (by decide +kernel), List.mem_of_getElem? (i := 489) (by decide +kernel), List.mem_of_getElem? (i := 490) (by decide +kernel)⟩
theorem lw_p26 : lw_okq (⟨"Gladehall$Side", "takeTurn", "()I"⟩, 4) := ⟨⟨by decide +kernel, by decide +kernel⟩, List.mem_of_getElem? (i := 63) (by decide +kernel), List.mem_of_getElem? (i := 493) (by decide +kernel), List.mem_of_getElem? (i := 494) (by decide +kernel)⟩
theorem lw_p27 : lw_okq (⟨"Gladehall$Side", "firstLiving", "()I"⟩, 4) := ⟨⟨by decide +kernel, by decide +kernel⟩, List.mem_of_getElem? (i := 63) (by decide +kernel), List.mem_of_getElem? (i := 497) (by decide +kernel), List.mem_of_getElem? (i := 498) (by decide +kernel)⟩
theorem lw_p28 : lw_okq (⟨"Gladehall$Battle", "result", "()I"⟩, 5) := ⟨⟨by decide +kernel, by decide +kernel⟩, List.mem_of_getElem? (i := 57) (by decide +kernel), List.mem_of_getElem? (i := 501) (by decide +kernel), List.mem_of_getElem? (i := 502) (by decide +kernel)⟩
theorem lw_p29 : lw_okq (⟨"Gladehall$Side", "living", "()I"⟩, 4) := ⟨⟨by decide +kernel, by decide +kernel⟩, List.mem_of_getElem? (i := 63) (by decide +kernel), List.mem_of_getElem? (i := 505) (by decide +kernel), List.mem_of_getElem? (i := 506) (by decide +kernel)⟩
theorem lw_p30 : lw_okq (⟨"Gladehall$Player", "win", "()V"⟩, 8) := ⟨⟨by decide +kernel, by decide +kernel⟩, List.mem_of_getElem? (i := 99) (by decide +kernel), List.mem_of_getElem? (i := 509) (by decide +kernel), List.mem_of_getElem? (i := 510) (by decide +kernel)⟩
theorem lw_p31 : lw_okq (⟨"Gladehall$Player", "lose", "(I)V"⟩, 8) := ⟨⟨by decide +kernel, by decide +kernel⟩, List.mem_of_getElem? (i := 99) (by decide +kernel), List.mem_of_getElem? (i := 513) (by decide +kernel), List.mem_of_getElem? (i := 514) (by decide +kernel)⟩
def lw_privs_2 : List (MethodName × Nat) := [(⟨"Gladehall$UnitRow", "has", "(I)Z"⟩, 3), (⟨"Gladehall$Player", "addGold", "(I)V"⟩, 8), (⟨"Gladehall", "fightPair", "(II)V"⟩, 5), (⟨"Gladehall", "musterSides", "(II)V"⟩, 5), (⟨"Gladehall$Battle", "muster", "(LGladehall$UnitRow;LGladehall$UnitRow;)V"⟩, 5), (⟨"Gladehall$Side", "muster", "(LGladehall$UnitRow;)V"⟩, 4), (⟨"Gladehall$UnitRow", "healthAt", "(I)I"⟩, 3), (⟨"Gladehall$UnitRow", "strengthAt", "(I)I"⟩, 3), (⟨"Gladehall$UnitRow", "hasKind", "(I)Z"⟩, 3), (⟨"Gladehall$Battle", "fightOut", "()V"⟩, 5), (⟨"Gladehall$Side", "takeTurn", "()I"⟩, 4), (⟨"Gladehall$Side", "firstLiving", "()I"⟩, 4), (⟨"Gladehall$Battle", "result", "()I"⟩, 5), (⟨"Gladehall$Side", "living", "()I"⟩, 4), (⟨"Gladehall$Player", "win", "()V"⟩, 8), (⟨"Gladehall$Player", "lose", "(I)V"⟩, 8)]
theorem lw_r2 : ∀ q ∈ lw_privs_2, lw_okq q := List.forall_mem_cons.mpr ⟨lw_p16, List.forall_mem_cons.mpr ⟨lw_p17, List.forall_mem_cons.mpr ⟨lw_p18, List.forall_mem_cons.mpr ⟨lw_p19, List.forall_mem_cons.mpr ⟨lw_p20, List.forall_mem_cons.mpr ⟨lw_p21, List.forall_mem_cons.mpr ⟨lw_p22, List.forall_mem_cons.mpr ⟨lw_p23, List.forall_mem_cons.mpr ⟨lw_p24, List.forall_mem_cons.mpr ⟨lw_p25, List.forall_mem_cons.mpr ⟨lw_p26, List.forall_mem_cons.mpr ⟨lw_p27, List.forall_mem_cons.mpr ⟨lw_p28, List.forall_mem_cons.mpr ⟨lw_p29, List.forall_mem_cons.mpr ⟨lw_p30, List.forall_mem_cons.mpr ⟨lw_p31, fun _ h => absurd h List.not_mem_nil⟩⟩⟩⟩⟩⟩⟩⟩⟩⟩⟩⟩⟩⟩⟩⟩
theorem lw_p32 : lw_okq (⟨"Gladehall$Player", "earn", "()V"⟩, 8) := ⟨⟨by decide +kernel, by decide +kernel⟩, List.mem_of_getElem? (i := 99) (by decide +kernel), List.mem_of_getElem? (i := 517) (by decide +kernel), List.mem_of_getElem? (i := 518) (by decide +kernel)⟩
theorem lw_p33 : lw_okq (⟨"Gladehall", "fillUnlockedShops", "()V"⟩, 5) := ⟨⟨by decide +kernel, by decide +kernel⟩, List.mem_of_getElem? (i := 18) (by decide +kernel), List.mem_of_getElem? (i := 522) (by decide +kernel), List.mem_of_getElem? (i := 523) (by decide +kernel)⟩
theorem lw_p34 : lw_okq (⟨"Gladehall", "playersWithHealth", "()I"⟩, 5) := ⟨⟨by decide +kernel, by decide +kernel⟩, List.mem_of_getElem? (i := 18) (by decide +kernel), List.mem_of_getElem? (i := 526) (by decide +kernel), List.mem_of_getElem? (i := 527) (by decide +kernel)⟩
theorem lw_p35 : lw_okq (⟨"Gladehall$Battle", "redo", "()V"⟩, 5) := ⟨⟨by decide +kernel, by decide +kernel⟩, List.mem_of_getElem? (i := 57) (by decide +kernel), List.mem_of_getElem? (i := 544) (by decide +kernel), List.mem_of_getElem? (i := 545) (by decide +kernel)⟩
theorem lw_p36 : lw_okq (⟨"Gladehall$UnitRow", "unitAt", "(I)I"⟩, 3) := ⟨⟨by decide +kernel, by decide +kernel⟩, List.mem_of_getElem? (i := 105) (by decide +kernel), List.mem_of_getElem? (i := 584) (by decide +kernel), List.mem_of_getElem? (i := 585) (by decide +kernel)⟩
theorem lw_p37 : lw_okq (⟨"Gladehall$Player", "unitsHeld", "(I)I"⟩, 8) := ⟨⟨by decide +kernel, by decide +kernel⟩, List.mem_of_getElem? (i := 99) (by decide +kernel), List.mem_of_getElem? (i := 622) (by decide +kernel), List.mem_of_getElem? (i := 623) (by decide +kernel)⟩
theorem lw_p38 : lw_okq (⟨"Gladehall$UnitRow", "unitsHeld", "(I)I"⟩, 3) := ⟨⟨by decide +kernel, by decide +kernel⟩, List.mem_of_getElem? (i := 105) (by decide +kernel), List.mem_of_getElem? (i := 626) (by decide +kernel), List.mem_of_getElem? (i := 627) (by decide +kernel)⟩
theorem lw_p39 : lw_okq (⟨"GladehallModel", "holds", "(I)Z"⟩, 19) := ⟨⟨by decide +kernel, by decide +kernel⟩, List.mem_of_getElem? (i := 631) (by decide +kernel), List.mem_of_getElem? (i := 707) (by decide +kernel), List.mem_of_getElem? (i := 708) (by decide +kernel)⟩
theorem lw_p40 : lw_okq (⟨"GladehallModel", "fills", "(I)V"⟩, 19) := ⟨⟨by decide +kernel, by decide +kernel⟩, List.mem_of_getElem? (i := 631) (by decide +kernel), List.mem_of_getElem? (i := 718) (by decide +kernel), List.mem_of_getElem? (i := 719) (by decide +kernel)⟩
theorem lw_p41 : lw_okq (⟨"GladehallModel", "fillsSlot", "(II)V"⟩, 19) := ⟨⟨by decide +kernel, by decide +kernel⟩, List.mem_of_getElem? (i := 631) (by decide +kernel), List.mem_of_getElem? (i := 722) (by decide +kernel), List.mem_of_getElem? (i := 723) (by decide +kernel)⟩
theorem lw_p42 : lw_okq (⟨"GladehallModel", "next", "()I"⟩, 19) := ⟨⟨by decide +kernel, by decide +kernel⟩, List.mem_of_getElem? (i := 631) (by decide +kernel), List.mem_of_getElem? (i := 726) (by decide +kernel), List.mem_of_getElem? (i := 727) (by decide +kernel)⟩
theorem lw_p43 : lw_okq (⟨"GladehallModel", "errorOfBuy", "(II)I"⟩, 19) := ⟨⟨by decide +kernel, by decide +kernel⟩, List.mem_of_getElem? (i := 631) (by decide +kernel), List.mem_of_getElem? (i := 745) (by decide +kernel), List.mem_of_getElem? (i := 746) (by decide +kernel)⟩
theorem lw_p44 : lw_okq (⟨"GladehallModel", "merges", "(I)V"⟩, 19) := ⟨⟨by decide +kernel, by decide +kernel⟩, List.mem_of_getElem? (i := 631) (by decide +kernel), List.mem_of_getElem? (i := 752) (by decide +kernel), List.mem_of_getElem? (i := 753) (by decide +kernel)⟩
theorem lw_p45 : lw_okq (⟨"GladehallModel", "alike", "(II)I"⟩, 19) := ⟨⟨by decide +kernel, by decide +kernel⟩, List.mem_of_getElem? (i := 631) (by decide +kernel), List.mem_of_getElem? (i := 756) (by decide +kernel), List.mem_of_getElem? (i := 757) (by decide +kernel)⟩
theorem lw_p46 : lw_okq (⟨"GladehallModel", "merge", "(II)V"⟩, 19) := ⟨⟨by decide +kernel, by decide +kernel⟩, List.mem_of_getElem? (i := 631) (by decide +kernel), List.mem_of_getElem? (i := 760) (by decide +kernel), List.mem_of_getElem? (i := 761) (by decide +kernel)⟩
theorem lw_p47 : lw_okq (⟨"GladehallModel", "placeOf", "(III)I"⟩, 19) := ⟨⟨by decide +kernel, by decide +kernel⟩, List.mem_of_getElem? (i := 631) (by decide +kernel), List.mem_of_getElem? (i := 764) (by decide +kernel), List.mem_of_getElem? (i := 765) (by decide +kernel)⟩
def lw_privs_3 : List (MethodName × Nat) := [(⟨"Gladehall$Player", "earn", "()V"⟩, 8), (⟨"Gladehall", "fillUnlockedShops", "()V"⟩, 5), (⟨"Gladehall", "playersWithHealth", "()I"⟩, 5), (⟨"Gladehall$Battle", "redo", "()V"⟩, 5), (⟨"Gladehall$UnitRow", "unitAt", "(I)I"⟩, 3), (⟨"Gladehall$Player", "unitsHeld", "(I)I"⟩, 8), (⟨"Gladehall$UnitRow", "unitsHeld", "(I)I"⟩, 3), (⟨"GladehallModel", "holds", "(I)Z"⟩, 19), (⟨"GladehallModel", "fills", "(I)V"⟩, 19), (⟨"GladehallModel", "fillsSlot", "(II)V"⟩, 19), (⟨"GladehallModel", "next", "()I"⟩, 19), (⟨"GladehallModel", "errorOfBuy", "(II)I"⟩, 19), (⟨"GladehallModel", "merges", "(I)V"⟩, 19), (⟨"GladehallModel", "alike", "(II)I"⟩, 19), (⟨"GladehallModel", "merge", "(II)V"⟩, 19), (⟨"GladehallModel", "placeOf", "(III)I"⟩, 19)]
theorem lw_r3 : ∀ q ∈ lw_privs_3, lw_okq q := List.forall_mem_cons.mpr ⟨lw_p32, List.forall_mem_cons.mpr ⟨lw_p33, List.forall_mem_cons.mpr ⟨lw_p34, List.forall_mem_cons.mpr ⟨lw_p35, List.forall_mem_cons.mpr ⟨lw_p36, List.forall_mem_cons.mpr ⟨lw_p37, List.forall_mem_cons.mpr ⟨lw_p38, List.forall_mem_cons.mpr ⟨lw_p39, List.forall_mem_cons.mpr ⟨lw_p40, List.forall_mem_cons.mpr ⟨lw_p41, List.forall_mem_cons.mpr ⟨lw_p42, List.forall_mem_cons.mpr ⟨lw_p43, List.forall_mem_cons.mpr ⟨lw_p44, List.forall_mem_cons.mpr ⟨lw_p45, List.forall_mem_cons.mpr ⟨lw_p46, List.forall_mem_cons.mpr ⟨lw_p47, fun _ h => absurd h List.not_mem_nil⟩⟩⟩⟩⟩⟩⟩⟩⟩⟩⟩⟩⟩⟩⟩⟩
theorem lw_p48 : lw_okq (⟨"GladehallModel", "takes", "(II)V"⟩, 19) := ⟨⟨by decide +kernel, by decide +kernel⟩, List.mem_of_getElem? (i := 631) (by decide +kernel), List.mem_of_getElem? (i := 768) (by decide +kernel), List.mem_of_getElem? (i := 769) (by decide +kernel)⟩
theorem lw_p49 : lw_okq (⟨"GladehallModel", "takesOffBoard", "(II)V"⟩, 19) := ⟨⟨by decide +kernel, by decide +kernel⟩, List.mem_of_getElem? (i := 631) (by decide +kernel), List.mem_of_getElem? (i := 772) (by decide +kernel), List.mem_of_getElem? (i := 773) (by decide +kernel)⟩
theorem lw_p50 : lw_okq (⟨"GladehallModel", "takesOffBench", "(II)V"⟩, 19) := ⟨⟨by decide +kernel, by decide +kernel⟩, List.mem_of_getElem? (i := 631) (by decide +kernel), List.mem_of_getElem? (i := 776) (by decide +kernel), List.mem_of_getElem? (i := 777) (by decide +kernel)⟩
theorem lw_p51 : lw_okq (⟨"GladehallModel", "isOnBench", "(II)Z"⟩, 19) := ⟨⟨by decide +kernel, by decide +kernel⟩, List.mem_of_getElem? (i := 631) (by decide +kernel), List.mem_of_getElem? (i := 784) (by decide +kernel), List.mem_of_getElem? (i := 785) (by decide +kernel)⟩
theorem lw_p52 : lw_okq (⟨"GladehallModel", "isOnBoard", "(II)Z"⟩, 19) := ⟨⟨by decide +kernel, by decide +kernel⟩, List.mem_of_getElem? (i := 631) (by decide +kernel), List.mem_of_getElem? (i := 802) (by decide +kernel), List.mem_of_getElem? (i := 803) (by decide +kernel)⟩
theorem lw_p53 : lw_okq (⟨"GladehallModel", "pairs", "(II)V"⟩, 19) := ⟨⟨by decide +kernel, by decide +kernel⟩, List.mem_of_getElem? (i := 631) (by decide +kernel), List.mem_of_getElem? (i := 810) (by decide +kernel), List.mem_of_getElem? (i := 811) (by decide +kernel)⟩
theorem lw_p54 : lw_okq (⟨"GladehallModel", "fought", "(II)I"⟩, 19) := ⟨⟨by decide +kernel, by decide +kernel⟩, List.mem_of_getElem? (i := 631) (by decide +kernel), List.mem_of_getElem? (i := 814) (by decide +kernel), List.mem_of_getElem? (i := 815) (by decide +kernel)⟩
theorem lw_p55 : lw_okq (⟨"GladehallModel", "stands", "(II)V"⟩, 19) := ⟨⟨by decide +kernel, by decide +kernel⟩, List.mem_of_getElem? (i := 631) (by decide +kernel), List.mem_of_getElem? (i := 818) (by decide +kernel), List.mem_of_getElem? (i := 819) (by decide +kernel)⟩
theorem lw_p56 : lw_okq (⟨"GladehallModel", "living", "(I)I"⟩, 19) := ⟨⟨by decide +kernel, by decide +kernel⟩, List.mem_of_getElem? (i := 631) (by decide +kernel), List.mem_of_getElem? (i := 822) (by decide +kernel), List.mem_of_getElem? (i := 823) (by decide +kernel)⟩
theorem lw_p57 : lw_okq (⟨"GladehallModel", "blows", "(II)V"⟩, 19) := ⟨⟨by decide +kernel, by decide +kernel⟩, List.mem_of_getElem? (i := 631) (by decide +kernel), List.mem_of_getElem? (i := 826) (by decide +kernel), List.mem_of_getElem? (i := 827) (by decide +kernel)⟩
theorem lw_p58 : lw_okq (⟨"GladehallModel", "blowOf", "(II)I"⟩, 19) := ⟨⟨by decide +kernel, by decide +kernel⟩, List.mem_of_getElem? (i := 631) (by decide +kernel), List.mem_of_getElem? (i := 830) (by decide +kernel), List.mem_of_getElem? (i := 831) (by decide +kernel)⟩
theorem lw_p59 : lw_okq (⟨"GladehallModel", "wins", "(III)V"⟩, 19) := ⟨⟨by decide +kernel, by decide +kernel⟩, List.mem_of_getElem? (i := 631) (by decide +kernel), List.mem_of_getElem? (i := 834) (by decide +kernel), List.mem_of_getElem? (i := 835) (by decide +kernel)⟩
theorem lw_p60 : lw_okq (⟨"GladehallModel", "mayFight", "(II)Z"⟩, 19) := ⟨⟨by decide +kernel, by decide +kernel⟩, List.mem_of_getElem? (i := 631) (by decide +kernel), List.mem_of_getElem? (i := 849) (by decide +kernel), List.mem_of_getElem? (i := 850) (by decide +kernel)⟩
def lw_privs_4 : List (MethodName × Nat) := [(⟨"GladehallModel", "takes", "(II)V"⟩, 19), (⟨"GladehallModel", "takesOffBoard", "(II)V"⟩, 19), (⟨"GladehallModel", "takesOffBench", "(II)V"⟩, 19), (⟨"GladehallModel", "isOnBench", "(II)Z"⟩, 19), (⟨"GladehallModel", "isOnBoard", "(II)Z"⟩, 19), (⟨"GladehallModel", "pairs", "(II)V"⟩, 19), (⟨"GladehallModel", "fought", "(II)I"⟩, 19), (⟨"GladehallModel", "stands", "(II)V"⟩, 19), (⟨"GladehallModel", "living", "(I)I"⟩, 19), (⟨"GladehallModel", "blows", "(II)V"⟩, 19), (⟨"GladehallModel", "blowOf", "(II)I"⟩, 19), (⟨"GladehallModel", "wins", "(III)V"⟩, 19), (⟨"GladehallModel", "mayFight", "(II)Z"⟩, 19)]
theorem lw_r4 : ∀ q ∈ lw_privs_4, lw_okq q := List.forall_mem_cons.mpr ⟨lw_p48, List.forall_mem_cons.mpr ⟨lw_p49, List.forall_mem_cons.mpr ⟨lw_p50, List.forall_mem_cons.mpr ⟨lw_p51, List.forall_mem_cons.mpr ⟨lw_p52, List.forall_mem_cons.mpr ⟨lw_p53, List.forall_mem_cons.mpr ⟨lw_p54, List.forall_mem_cons.mpr ⟨lw_p55, List.forall_mem_cons.mpr ⟨lw_p56, List.forall_mem_cons.mpr ⟨lw_p57, List.forall_mem_cons.mpr ⟨lw_p58, List.forall_mem_cons.mpr ⟨lw_p59, List.forall_mem_cons.mpr ⟨lw_p60, fun _ h => absurd h List.not_mem_nil⟩⟩⟩⟩⟩⟩⟩⟩⟩⟩⟩⟩⟩
def lw_privs : List (MethodName × Nat) := lw_privs_1 ++ (lw_privs_2 ++ (lw_privs_3 ++ (lw_privs_4)))
def lw_tbl : List Cond := k2_sels lw_privs ++ tables_1
theorem lw_privs_ok : ∀ q ∈ lw_privs, lw_okq q := by
  show ∀ q ∈ lw_privs_1 ++ (lw_privs_2 ++ (lw_privs_3 ++ (lw_privs_4))), lw_okq q
  exact List.forall_mem_append.mpr ⟨lw_r1, List.forall_mem_append.mpr ⟨lw_r2, List.forall_mem_append.mpr ⟨lw_r3, lw_r4⟩⟩⟩
end
section
/-! ===== BEGIN words of one list among another's, by their places ===== -/
/-! ===== END ===== -/

/-! ===== BEGIN exceptions that leave a method, and their catching by the caller (launches without stack traces) ===== -/
section VXA
/-! The laws vx_back, vx_callV, vx_callS, vx_callSW, vx_throw0, vx_throwS follow proofs of the library, with one case more: JvmDerived/Free/Laws.lean (Back.of_free), Shelf42/LK1.lean (callV, callS), Shelf/KitTraced.lean (throwNew0V, throwNewS). -/
/-- where a method has thrown q: the class by its name, the cell, what was written, the world -/
def vx_T (XC : String → State → State → Prop) (st : State) (q : Addr) (t : State) (mc ms : Nat) (free : Addr → Prop) : Prop :=
  ∃ (E : String) (ce : Cell) (L : List Loc), XC E st t ∧ t.heap[q]? = some ce ∧ ce.vm = .none ∧ st.vm.findClass E = some ce.cls ∧ st.WarmedH t.vm ∧ st.sameButNew ({ t with vm := st.vm } : State) L mc ms ∧ ∀ z ∈ L, free z.base
def vx_Q (Qc : Array Value → State → Outcome → State → Prop) (XC : String → State → State → Prop) (mc ms : Nat) (free : Addr → Prop) : Array Value → State → Outcome → State → Prop := fun a st o t =>
  (Qc a st o t ∧ ∃ L, FrameEnd st o t L mc ms ∧ ∀ q ∈ L, free q.base) ∨ ∃ q, o = .threw q ∧ vx_T XC st q t mc ms free
/-- a callee that returns or throws -/
def vx_Met (l : Launch) (y : MethodName) (ws : List Cond) (rm : Room) (Pc : Array Value → State → Prop) (Qc : Array Value → State → Outcome → State → Prop) (XC : String → State → State → Prop) (mc ms : Nat) (free : Addr → Prop) : Prop :=
  MetFree l y (headSpec ws rm) Pc (fun _ _ _ _ _ => True) (vx_Q Qc XC mc ms free)
def vx_Post (XC : String → State → State → Prop) (mc ms : Nat) (free : Addr → Prop) : Pt → Array Value → Addr → Pt → Prop := fun A a q B =>
  ∃ (g : JFrame) (mk : MethodId) (t : State) (L : List Loc) (E : String) (ce : Cell), B.U.heap = t.heap ∧ B.U.vm = t.vm ∧ XC E (A.U.calling g mk a) t ∧ t.heap[q]? = some ce ∧ ce.vm = .none ∧ A.U.vm.findClass E = some ce.cls ∧ B.locs = A.locs ++ L ∧ (∀ z ∈ L, free z.base) ∧ B.cells = A.cells + mc ∧ B.slots = A.slots + ms
def vx_Back (l : Launch) (R : Room) (p : Program) (e : Env) (below : List Frame) (s : State) (sargs : Array Value) (y : MethodName) (len W9 : Nat)
    (Pre : Pt → Array Value → Prop) (Post : Pt → Array Value → Option Value → Pt → Prop) (PostX : Pt → Array Value → Addr → Pt → Prop) : Prop :=
  ∀ (m : MethodId) (meth : Method) (c : Code) (A : Pt) (g : JFrame) (ig : Instr) (mk : MethodId) (a : Array Value),
    Stand p l e R s m sargs below meth c A.U A.locs A.cells A.slots → g.method = m → g.locals.size = c.maxLocals → decode c.code g.pc = .ok (ig, len) →
    2 * g.monitorRoom + (g.stack.map fun v => v.category).sum ≤ W9 → A.U.methodNamed? y = some mk → Pre A a →
    (∃ (v : Option Value) (B : Pt), Stand p l e R s m sargs below meth c B.U B.locs B.cells B.slots ∧ Post A a v B ∧
      Steps p.tables e below (doInvoke e (A.U.setTop g) [] mk a).1 (B.U.setTop { g with pc := g.pc + len, stack := v.toList ++ g.stack })) ∨
    (∃ (q : Addr) (B : Pt), Stand p l e R s m sargs below meth c B.U B.locs B.cells B.slots ∧ PostX A a q B ∧
      Steps p.tables e below (doInvoke e (A.U.setTop g) [] mk a).1 ((B.U.setTop g).pushFrame (.throwing q)))
section Payer
variable {l : Launch} {R : Room} {p : Program} {e : Env} {below : List Frame} {s : State} {sargs : Array Value} {y : MethodName} {len W9 : Nat}
theorem vx_back {ws : List Cond} {rm : Room} {Pc : Array Value → State → Prop} {Qc : Array Value → State → Outcome → State → Prop} {XC : String → State → State → Prop} {mc ms : Nat} {free : Addr → Prop} {bytes : ByteArray} {maxL : Nat} {ret : Option FieldType}
    (hM : vx_Met l y ws rm Pc Qc XC mc ms free) (hblind : FrameBlind Pc) (hrc : rm.cells = mc) (hrs : rm.slots = ms)
    (hframes : rm.frames + 1 ≤ R.frames) (hlocals : W9 + (maxL + 11) + rm.locals ≤ R.locals)
    (hws : ∀ w ∈ ws, ∀ a' U, s.WarmedH U.vm → w.before a' U = true) (hcode : Cond.code y bytes maxL ret ∈ ws) (hinit : ∀ a' U, s.WarmedH U.vm → (Cond.initialized y.cls).before a' U = true) :
    vx_Back l R p e below s sargs y len W9 (PreOf R mc ms Pc) (PostOf Qc mc ms free) (vx_Post XC mc ms free) := by
  intro m meth c A g ig mk a X hg hsize hdg hW hn hp
  have h1 : (headSpec ws rm).pre.before a A.U = true := atoms_intro fun w hw => hws w hw _ _ X.warmed
  have h2 : (Cond.code y bytes maxL ret).before a A.U = true := hws _ hcode _ _ X.warmed
  have h3 : (Cond.initialized y.cls).before a A.U = true := hinit _ _ X.warmed
  have h4 : A.cells + (headSpec ws rm).room.cells ≤ R.cells := by rw [show (headSpec ws rm).room.cells = mc from hrc]; exact hp.1
  have h5 : A.slots + (headSpec ws rm).room.slots ≤ R.slots := by rw [show (headSpec ws rm).room.slots = ms from hrs]; exact hp.2.1
  have hPc : Pc a (A.U.calling g mk a) := hblind _ _ _ _ hp.2.2
  obtain ⟨U, Ls, c0, s0⟩ := A
  dsimp only [Pt.U, Pt.locs, Pt.cells, Pt.slots] at h1 h2 h3 h4 h5 X hn hPc ⊢
  obtain ⟨methY, cY, hmY, hcY, -, hlY, -, -, -, -⟩ := Cond.code_spec hn h2
  obtain ⟨kY, hkY, -⟩ := className_of_methodNamed hn
  have hinitY : kY.init = .initialized := Cond.initialized_spec (findClass_of_methodNamed hn) hkY h3
  have h : At U g.method c below := by rw [hg]; exact X.here
  have hlocals9 : W9 + (maxL + 11) + (headSpec ws rm).room.locals ≤ R.locals := hlocals
  have happ : (headSpec ws rm).appliesLoose y e.platform (U.calling g mk a) = true :=
    Spec.appliesLoose_calling (g := g) h hdg hn hkY hinitY
      (X.room_calling (g := g) (R' := (headSpec ws rm).room) hsize hmY hcY hframes (by rw [hlY]; omega) h4 h5) h1
  obtain ⟨mid, hmid⟩ := h.above
  have hfr : (U.setTop g).frames = (.java g :: mid) ++ below := by rw [State.frames_setTop' g h.top, hmid]; rfl
  obtain ⟨o, s₂, hsteps, -, hend, hq⟩ := Steps.callFree hM p X.admits X.cas X.clock (acts := []) hfr happ hPc trivial
  have hq' : vx_Q Qc XC mc ms free a (U.calling g mk a) o s₂ := hq
  rw [State.frames_setTop' g h.top] at hend
  obtain ⟨g₀, hg0⟩ := Option.isSome_iff_exists.mp h.top
  obtain ⟨r, hr⟩ := State.topJava?_eq_some.mp hg0
  have hr' : (({ U with heap := s₂.heap, slotsUsed := s₂.slotsUsed } : State).setVm s₂.vm).frames = .java g₀ :: r := hr
  rcases hq' with ⟨hqc, L, hfe, hL⟩ | ⟨q, rfl, E, ce, L, hx, hce, hcv, hcl, hW₂, hsm, hL⟩
  · obtain ⟨⟨v, rfl⟩, hW₂, e2, q2, q3, q4, q5, q6⟩ := id hfe
    have e3 : s₂ = ({ (U.calling g mk a).setFrames s₂.frames with heap := s₂.heap, slotsUsed := s₂.slotsUsed } : State).setVm s₂.vm := by
      have : s₂ = ({ s₂ with vm := (U.calling g mk a).vm } : State).setVm s₂.vm := rfl
      rw [e2] at this
      exact this
    obtain ⟨c₂, i₂, len₂, hc₂, hd₂, hf₂⟩ := hend
    have hW' : U.WarmedH s₂.vm := hW₂
    have hcc : c₂ = c := by
      have h1 : s₂.code? g.method = U.code? g.method := by
        rw [State.code?_eq, State.code?_eq, hW'.alike.method?]
      exact Option.some.inj (hc₂.symm.trans (h1.trans h.code))
    subst hcc
    have hlen : len₂ = len := by rw [hdg] at hd₂; cases hd₂; rfl
    subst hlen
    have hs₂ : s₂ = (({ U with heap := s₂.heap, slotsUsed := s₂.slotsUsed } : State).setVm s₂.vm).setTop { g with pc := g.pc + len₂, stack := v.toList ++ g.stack } := by
      refine e3.trans ?_
      rw [hf₂, State.calling_eq h.top, State.setFrames_setFrames, State.setTop_of_frames _ hr', hr]
      rfl
    have hsame : U.sameButNew ({ U with heap := s₂.heap, slotsUsed := s₂.slotsUsed } : State) L mc ms := by
      refine ⟨?_, q2, q3, q4, q5, q6⟩
      obtain ⟨t, ht, -⟩ := State.frames_cons hr
      show ({ U with heap := s₂.heap, slotsUsed := s₂.slotsUsed } : State) = { U.setFrames U.frames with heap := s₂.heap, slotsUsed := s₂.slotsUsed }
      rw [State.setFrames_self ht]
    subst hg
    refine Or.inl ⟨v, ⟨(({ U with heap := s₂.heap, slotsUsed := s₂.slotsUsed } : State).setVm s₂.vm), Ls ++ L, c0 + mc, s0 + ms⟩,
      ⟨X.admits, X.cas, X.clock, X.frames, X.room, X.hears, X.method, X.code, (X.here.setHeapUsed s₂.heap s₂.slotsUsed).setVm hW'.alike, X.tail, State.WarmedH.trans X.warmed hW', X.limits, X.bytes, X.same.trans (hsame.setVm s.vm)⟩,
      ⟨g, mk, s₂, L, rfl, rfl, hqc, rfl, hL, rfl, rfl⟩, ?_⟩
    show Steps p.tables e below _ ((({ U with heap := s₂.heap, slotsUsed := s₂.slotsUsed } : State).setVm s₂.vm).setTop { g with pc := g.pc + len₂, stack := v.toList ++ g.stack })
    rw [← hs₂]
    exact hsteps
  · obtain ⟨e2, q2, q3, q4, q5, q6⟩ := id hsm
    have e3 : s₂ = ({ (U.calling g mk a).setFrames s₂.frames with heap := s₂.heap, slotsUsed := s₂.slotsUsed } : State).setVm s₂.vm := by
      have : s₂ = ({ s₂ with vm := (U.calling g mk a).vm } : State).setVm s₂.vm := rfl
      rw [e2] at this
      exact this
    have hf₂ : s₂.frames = .throwing q :: .java g :: U.frames.tail := hend
    have hW' : U.WarmedH s₂.vm := hW₂
    have hs₂ : s₂ = ((({ U with heap := s₂.heap, slotsUsed := s₂.slotsUsed } : State).setVm s₂.vm).setTop g).pushFrame (.throwing q) := by
      refine e3.trans ?_
      rw [hf₂, State.calling_eq h.top, State.setFrames_setFrames, State.pushFrame, State.frames_setTop _ hr', State.setTop_of_frames _ hr', State.setFrames_setFrames, hr]
      rfl
    have hsame : U.sameButNew ({ U with heap := s₂.heap, slotsUsed := s₂.slotsUsed } : State) L mc ms := by
      refine ⟨?_, q2, q3, q4, q5, q6⟩
      obtain ⟨t, ht, -⟩ := State.frames_cons hr
      show ({ U with heap := s₂.heap, slotsUsed := s₂.slotsUsed } : State) = { U.setFrames U.frames with heap := s₂.heap, slotsUsed := s₂.slotsUsed }
      rw [State.setFrames_self ht]
    subst hg
    refine Or.inr ⟨q, ⟨(({ U with heap := s₂.heap, slotsUsed := s₂.slotsUsed } : State).setVm s₂.vm), Ls ++ L, c0 + mc, s0 + ms⟩,
      ⟨X.admits, X.cas, X.clock, X.frames, X.room, X.hears, X.method, X.code, (X.here.setHeapUsed s₂.heap s₂.slotsUsed).setVm hW'.alike, X.tail, State.WarmedH.trans X.warmed hW', X.limits, X.bytes, X.same.trans (hsame.setVm s.vm)⟩,
      ⟨g, mk, s₂, L, E, ce, rfl, rfl, hx, hce, hcv, hcl, rfl, hL, rfl, rfl⟩, ?_⟩
    show Steps p.tables e below _ (((({ U with heap := s₂.heap, slotsUsed := s₂.slotsUsed } : State).setVm s₂.vm).setTop g).pushFrame (.throwing q))
    rw [← hs₂]
    exact hsteps
end Payer
section Calls
variable {p : Program} {l : Launch} {e : Env} {R : Room} {s : State} {m : MethodId} {args : Array Value} {below : List Frame} {meth : Method} {c : Code} {T : State} {locs : List Loc} {cells slots : Nat}
theorem vx_callV (X : Stand p l e R s m args below meth c T locs cells slots) (hexec : p.tables.exec = Jvm.exec) {own C : String} {index : Nat} {y : MethodName} {bytes : ByteArray} {maxL : Nat} {ret : Option FieldType}
    (hown : s.vm.findClass own = some m.cls) (hlink : (Cond.methodLink own index y).before args s = true) (hinst : (Cond.instanceMethod y).before args s = true) (hsel : (Cond.selects C y y).before args s = true)
    (hcode : (Cond.code y bytes maxL ret).before args s = true) (hy : y.cls ≠ "java/lang/invoke/MethodHandle" ∧ y.cls ≠ "java/lang/invoke/VarHandle")
    {W9 : Nat} {Pre : Pt → Array Value → Prop} {Post : Pt → Array Value → Option Value → Pt → Prop} {PostX : Pt → Array Value → Addr → Pt → Prop} (hK : vx_Back l R p e below s args y 3 W9 Pre Post PostX)
    {b : Addr} {cellB : Cell} (hcell : T.heap[b]? = some cellB) (hobj : cellB.vm.isStatics = false) (hcls : s.vm.findClass C = some cellB.cls)
    {g : JFrame} (hg : g.method = m) (hsize : g.locals.size = c.maxLocals) {argsL rest : List Value} (hlen : ∀ sig, parseMethodDescriptor y.desc = some sig → argsL.length = sig.parameters.length)
    (hstack : g.stack = argsL.reverse ++ .ref b :: rest) (hW : 2 * g.monitorRoom + (rest.map fun v => v.category).sum ≤ W9) (hdg : decode c.code g.pc = .ok (.invokevirtual index, 3))
    (hpre : ∀ vm₁, s.WarmedH vm₁ → Pre ⟨T.setVm vm₁, locs, cells, slots⟩ (Value.ref b :: argsL).toArray) :
    (∃ (v : Option Value) (vm₁ : Vm) (B : Pt), s.WarmedH vm₁ ∧ Stand p l e R s m args below meth c B.U B.locs B.cells B.slots ∧ Post ⟨T.setVm vm₁, locs, cells, slots⟩ (Value.ref b :: argsL).toArray v B ∧
      ∀ target, Steps p.tables e below (B.U.setTop { g with pc := g.pc + 3, stack := v.toList ++ rest }) target → Steps p.tables e below (T.setTop g) target) ∨
    (∃ (q : Addr) (vm₁ : Vm) (B : Pt), s.WarmedH vm₁ ∧ Stand p l e R s m args below meth c B.U B.locs B.cells B.slots ∧ PostX ⟨T.setVm vm₁, locs, cells, slots⟩ (Value.ref b :: argsL).toArray q B ∧
      Steps p.tables e below (T.setTop g) ((B.U.setTop { g with stack := rest }).pushFrame (.throwing q))) := by
  obtain ⟨mk, methM, hnamed, hmethM, hstM, habM⟩ := Cond.instanceMethod_spec hinst
  obtain ⟨methM', cM, hmethM', -, -, -, -, -, -, hsigM⟩ := Cond.code_spec hnamed hcode
  cases hmethM.symm.trans hmethM'
  obtain ⟨c2, r2, m2, q1, q2, q3, q4, kP, hkP, hkPi⟩ := Cond.selects_spec hsel
  cases hcls.symm.trans q1
  cases (State.methodFound?_of_named hnamed hy).symm.trans q2
  cases hnamed.symm.trans q3
  have hselP : selectMethod e.platform s.vm cellB.cls mk = .method mk := by rw [Launch.admits_selectMethod X.admits]; exact q4
  obtain ⟨vm₁, X₁, hstep₁⟩ := X.invokevirtual hexec hown hlink hnamed hmethM hstM hkP hkPi hy (a := b) (cell := cellB) hcell
    (fun z h => by rw [h] at hobj; cases hobj) hselP hmethM habM hkP hkPi (g := g) hg (argsL := argsL) (rest := rest) (hlen _ hsigM) hstack hdg
  rcases hK m meth c ⟨T.setVm vm₁, locs, cells, slots⟩ { g with stack := rest } (.invokevirtual index) mk (Value.ref b :: argsL).toArray X₁ hg hsize hdg hW (X₁.named hnamed) (hpre vm₁ X₁.warmed) with ⟨v, B, X', hpost, hsteps⟩ | ⟨q, B, X', hpost, hsteps⟩
  · exact Or.inl ⟨v, vm₁, B, X₁.warmed, X', hpost, fun target h => hstep₁ _ fun acts => by rw [doInvoke_state]; exact hsteps.trans h⟩
  · exact Or.inr ⟨q, vm₁, B, X₁.warmed, X', hpost, hstep₁ _ fun acts => by rw [doInvoke_state]; exact hsteps⟩
theorem vx_callS (X : Stand p l e R s m args below meth c T locs cells slots) (hexec : p.tables.exec = Jvm.exec) {own : String} {index : Nat} {y : MethodName} {bytes : ByteArray} {maxL : Nat} {ret : Option FieldType}
    (hown : s.vm.findClass own = some m.cls) (hlink : (Cond.methodLink own index y).before args s = true) (hstat : (Cond.static y).before args s = true) (hinit : (Cond.initialized y.cls).before args s = true)
    (hcode : (Cond.code y bytes maxL ret).before args s = true) (hy : y.cls ≠ "java/lang/invoke/MethodHandle" ∧ y.cls ≠ "java/lang/invoke/VarHandle")
    {W9 : Nat} {Pre : Pt → Array Value → Prop} {Post : Pt → Array Value → Option Value → Pt → Prop} {PostX : Pt → Array Value → Addr → Pt → Prop} (hK : vx_Back l R p e below s args y 3 W9 Pre Post PostX)
    {g : JFrame} (hg : g.method = m) (hsize : g.locals.size = c.maxLocals) {argsL rest : List Value} (hlen : ∀ sig, parseMethodDescriptor y.desc = some sig → argsL.length = sig.parameters.length)
    (hstack : g.stack = argsL.reverse ++ rest) (hW : 2 * g.monitorRoom + (rest.map fun v => v.category).sum ≤ W9) (hdg : decode c.code g.pc = .ok (.invokestatic index, 3))
    (hpre : ∀ vm₁, s.WarmedH vm₁ → Pre ⟨T.setVm vm₁, locs, cells, slots⟩ argsL.toArray) :
    (∃ (v : Option Value) (vm₁ : Vm) (B : Pt), s.WarmedH vm₁ ∧ Stand p l e R s m args below meth c B.U B.locs B.cells B.slots ∧ Post ⟨T.setVm vm₁, locs, cells, slots⟩ argsL.toArray v B ∧
      ∀ target, Steps p.tables e below (B.U.setTop { g with pc := g.pc + 3, stack := v.toList ++ rest }) target → Steps p.tables e below (T.setTop g) target) ∨
    (∃ (q : Addr) (vm₁ : Vm) (B : Pt), s.WarmedH vm₁ ∧ Stand p l e R s m args below meth c B.U B.locs B.cells B.slots ∧ PostX ⟨T.setVm vm₁, locs, cells, slots⟩ argsL.toArray q B ∧
      Steps p.tables e below (T.setTop g) ((B.U.setTop { g with stack := rest }).pushFrame (.throwing q))) := by
  obtain ⟨mk, hnamed⟩ := Cond.code_named hcode
  obtain ⟨methM, cM, hmethM, -, -, -, -, -, -, hsigM⟩ := Cond.code_spec hnamed hcode
  have hstatic : methM.isStatic = true := Cond.static_spec hnamed hmethM hstat
  obtain ⟨kP, hkP, -⟩ := className_of_methodNamed hnamed
  have hinitP : kP.init = .initialized := Cond.initialized_spec (findClass_of_methodNamed hnamed) hkP hinit
  obtain ⟨vm₁, X₁, hstep₁⟩ := X.invokestatic hexec hown hlink hnamed hmethM hstatic hkP hinitP hy (g := g) hg (argsL := argsL) (rest := rest) (hlen _ hsigM) hstack hdg
  rcases hK m meth c ⟨T.setVm vm₁, locs, cells, slots⟩ { g with stack := rest } (.invokestatic index) mk argsL.toArray X₁ hg hsize hdg hW (X₁.named hnamed) (hpre vm₁ X₁.warmed) with ⟨v, B, X', hpost, hsteps⟩ | ⟨q, B, X', hpost, hsteps⟩
  · exact Or.inl ⟨v, vm₁, B, X₁.warmed, X', hpost, fun target h => hstep₁ _ fun acts => by rw [doInvoke_state]; exact hsteps.trans h⟩
  · exact Or.inr ⟨q, vm₁, B, X₁.warmed, X', hpost, hstep₁ _ fun acts => by rw [doInvoke_state]; exact hsteps⟩
end Calls
theorem vx_cls {s : State} {T : State} {vm₁ : Vm} {E : String} {k : ClassId} (hW : s.WarmedH vm₁) (h : (T.setVm vm₁).vm.findClass E = some k) : s.vm.findClass E = some k := by
  have h1 : vm₁.findClass E = some k := h
  rw [hW.alike.findClass] at h1
  exact h1
/-- the method's frame g, with q thrown over it -/
def vx_W (p : Program) (l : Launch) (e : Env) (R : Room) (s : State) (m : MethodId) (args : Array Value) (below : List Frame) (meth : Method) (c : Code) (H : Heap) (locs : List Loc) (cells slots : Nat) (Q : State → Prop) (g : JFrame) (q : Addr) : Prop :=
  ∀ T : State, T.heap = H → Stand p l e R s m args below meth c T locs cells slots → ∃ t, Steps p.tables e below ((T.setTop g).pushFrame (.throwing q)) t ∧ Q t
def vx_Run (p : Program) (l : Launch) (e : Env) (R : Room) (s : State) (m : MethodId) (args : Array Value) (below : List Frame) (meth : Method) (c : Code) (H : Heap) (locs : List Loc) (cells slots mc ms : Nat) (g : JFrame) (rest : List Value) (Qa : State → Outcome → State → Prop) (XC : String → State → State → Prop) (free : Addr → Prop) : Prop :=
  ∀ T : State, T.heap = H → Stand p l e R s m args below meth c T locs cells slots →
    (∃ (v : Option Value) (st₀ t T' : State) (L : List Loc), st₀.heap = H ∧ Stand p l e R s m args below meth c T' (locs ++ L) (cells + mc) (slots + ms) ∧ (∀ q ∈ L, free q.base) ∧ T'.heap = t.heap ∧ T'.vm = t.vm ∧ Qa st₀ (.returned v) t ∧
      Goes p e below T g T' { g with pc := g.pc + 3, stack := v.toList ++ rest }) ∨
    (∃ (q : Addr) (st₀ t T' : State) (L : List Loc) (E : String) (ce : Cell), st₀.heap = H ∧ Stand p l e R s m args below meth c T' (locs ++ L) (cells + mc) (slots + ms) ∧ (∀ z ∈ L, free z.base) ∧ T'.heap = t.heap ∧ T'.vm = t.vm ∧ XC E st₀ t ∧ t.heap[q]? = some ce ∧ ce.vm = .none ∧ s.vm.findClass E = some ce.cls ∧
      Steps p.tables e below (T.setTop g) ((T'.setTop { g with stack := rest }).pushFrame (.throwing q)))
def vx_X {S : Type} (px : S → Prop) (B : String → S → State → Prop) (A : Nat → Prop) : String → State → State → Prop := fun E st t => ∃ u : S, px u ∧ B E u t ∧ va_F A st t
section Runs
variable {p : Program} {l : Launch} {e : Env} {R : Room} {s : State} {m : MethodId} {args : Array Value} {below : List Frame} {meth : Method} {c : Code} {H : Heap} {locs : List Loc} {cells slots : Nat}
variable {y : MethodName} {bytes cc : ByteArray} {maxL nL mc ms n index : Nat} {ret : Option FieldType} {ws : List Cond} {rm : Room} {Pc : Array Value → State → Prop} {Qc : Array Value → State → Outcome → State → Prop} {XC : String → State → State → Prop} {free : Addr → Prop} {Ts : List Cond} {own C : String} {b : Addr} {As rest : List Value} {g : JFrame}
theorem vx_callBack (cb : CallB R s args own index y bytes maxL ret ws rm mc ms n) (hM : vx_Met l y ws rm Pc Qc XC mc ms free) (hbl : FrameBlind Pc) : vx_Back l R p e below s args y 3 8 (PreOf R mc ms Pc) (PostOf Qc mc ms free) (vx_Post XC mc ms free) := by
  obtain ⟨hrc, hrs, hfr, hlo, hws, hcw, -, hini, -⟩ := cb
  exact vx_back (bytes := bytes) (maxL := maxL) (ret := ret) hM hbl hrc hrs hfr hlo hws hcw (fun a' U hW => word_at hW (Or.inl (by first | rfl | simp [Cond.onTables, Cond.keeps, Cond.steady])) hini)
theorem vx_runV (S : CallFix p m c cc nL s args Ts own) (hM : vx_Met l y ws rm Pc Qc XC mc ms free) (cw : CallW R s args own C index y bytes maxL ret ws rm mc ms n) (hp : PreV s H C b Pc As)
    (hg : g.method = m) (hn : As.length = n) (hsize : g.locals.size = nL) (hstack : g.stack = As.reverse ++ .ref b :: rest) (hW : 2 * g.monitorRoom + (rest.map fun v => v.category).sum ≤ 8) (hdg : decode cc g.pc = .ok (.invokevirtual index, 3)) (hf : cells + mc ≤ R.cells ∧ slots + ms ≤ R.slots) :
    vx_Run p l e R s m args below meth c H locs cells slots mc ms g rest (Qc (Value.ref b :: As).toArray) XC free := by
  have hK : vx_Back l R p e below s args y 3 8 (PreOf R mc ms Pc) (PostOf Qc mc ms free) (vx_Post XC mc ms free) := vx_callBack cw.1 hM hp.1
  obtain ⟨⟨-, -, -, -, -, -, hcode, -, hy, hlen, hl⟩, hin, hse⟩ := cw
  obtain ⟨hx, hb, hml, ho, -⟩ := S
  obtain ⟨-, ⟨cellB, hcB, hoB, hclB⟩, hPc⟩ := hp
  intro T hT X
  rcases vx_callV X hx (C := C) (bytes := bytes) (maxL := maxL) (ret := ret) ho hl hin hse hcode hy hK (by rw [hT]; exact hcB) hoB hclB hg (hsize.trans hml.symm) (argsL := As) (rest := rest) (fun sig h => hn.trans (hlen sig h)) hstack hW (by rw [hb]; exact hdg)
    (fun vm₁ hW₁ => ⟨hf.1, hf.2, hPc (T.setVm vm₁) hT hW₁⟩) with ⟨v, vm₁, ⟨U', l2, c2, s2⟩, hW₁, X', ⟨g', mk, t, L, e1, e2, hq, h1, hL, h2, h3⟩, st⟩ | ⟨q, vm₁, ⟨U', l2, c2, s2⟩, hW₁, X', ⟨g', mk, t, L, E, ce, e1, e2, hq, hce, hcv, hcl, h1, hL, h2, h3⟩, st⟩
  · dsimp only [Pt.U, Pt.locs, Pt.cells, Pt.slots] at X' e1 e2 h1 h2 h3 st
    subst h1; subst h2; subst h3
    exact Or.inl ⟨v, (T.setVm vm₁).calling g' mk (Value.ref b :: As).toArray, t, U', L, hT, X', hL, e1, e2, hq, st⟩
  · dsimp only [Pt.U, Pt.locs, Pt.cells, Pt.slots] at X' e1 e2 h1 h2 h3 st hcl
    subst h1; subst h2; subst h3
    exact Or.inr ⟨q, (T.setVm vm₁).calling g' mk (Value.ref b :: As).toArray, t, U', L, E, ce, hT, X', hL, e1, e2, hq, hce, hcv, vx_cls hW₁ hcl, st⟩
theorem vx_runS (S : CallFix p m c cc nL s args Ts own) (hM : vx_Met l y ws rm Pc Qc XC mc ms free) (cw : CallB R s args own index y bytes maxL ret ws rm mc ms n ∧ (Cond.static y).before args s = true) (hp : PreS s H Pc As)
    (hg : g.method = m) (hn : As.length = n) (hsize : g.locals.size = nL) (hstack : g.stack = As.reverse ++ rest) (hW : 2 * g.monitorRoom + (rest.map fun v => v.category).sum ≤ 8) (hdg : decode cc g.pc = .ok (.invokestatic index, 3)) (hf : cells + mc ≤ R.cells ∧ slots + ms ≤ R.slots) :
    vx_Run p l e R s m args below meth c H locs cells slots mc ms g rest (Qc As.toArray) XC free := by
  have hK : vx_Back l R p e below s args y 3 8 (PreOf R mc ms Pc) (PostOf Qc mc ms free) (vx_Post XC mc ms free) := vx_callBack cw.1 hM hp.1
  obtain ⟨⟨-, -, -, -, -, -, hcode, hini, hy, hlen, hl⟩, hstt⟩ := cw
  obtain ⟨hx, hb, hml, ho, -⟩ := S
  intro T hT X
  rcases vx_callS X hx (bytes := bytes) (maxL := maxL) (ret := ret) ho hl hstt hini hcode hy hK hg (hsize.trans hml.symm) (argsL := As) (rest := rest) (fun sig h => hn.trans (hlen sig h)) hstack hW (by rw [hb]; exact hdg)
    (fun vm₁ hW₁ => ⟨hf.1, hf.2, hp.2 (T.setVm vm₁) hT hW₁⟩) with ⟨v, vm₁, ⟨U', l2, c2, s2⟩, hW₁, X', ⟨g', mk, t, L, e1, e2, hq, h1, hL, h2, h3⟩, st⟩ | ⟨q, vm₁, ⟨U', l2, c2, s2⟩, hW₁, X', ⟨g', mk, t, L, E, ce, e1, e2, hq, hce, hcv, hcl, h1, hL, h2, h3⟩, st⟩
  · dsimp only [Pt.U, Pt.locs, Pt.cells, Pt.slots] at X' e1 e2 h1 h2 h3 st
    subst h1; subst h2; subst h3
    exact Or.inl ⟨v, (T.setVm vm₁).calling g' mk As.toArray, t, U', L, hT, X', hL, e1, e2, hq, st⟩
  · dsimp only [Pt.U, Pt.locs, Pt.cells, Pt.slots] at X' e1 e2 h1 h2 h3 st hcl
    subst h1; subst h2; subst h3
    exact Or.inr ⟨q, (T.setVm vm₁).calling g' mk As.toArray, t, U', L, E, ce, hT, X', hL, e1, e2, hq, hce, hcv, vx_cls hW₁ hcl, st⟩
end Runs
section Rows
variable {p : Program} {l : Launch} {e : Env} {R : Room} {s : State} {m : MethodId} {args : Array Value} {below : List Frame} {meth : Method} {c : Code} {H : Heap} {locs : List Loc} {cells slots : Nat} {Q : State → Prop}
variable {mc ms : Nat} {free : Addr → Prop} {A0 A1 : Nat → Prop} {H0 : Heap} {a : Array Value} {pc : Nat} {ls : Array Slot} {st0 rest : List Value}
theorem vx_keep {st₀ t T' : State} {L : List Loc} (h0 : st₀.heap = H) (e1 : T'.heap = t.heap) (hS : va_S A0 H0 H locs) (hA : ∀ q, q < H.size → A1 q → A0 q) (hf : ∀ q, free q → A0 q) (hL : ∀ q ∈ L, free q.base) (hF : va_F A1 st₀ t) :
    H.size ≤ T'.heap.size ∧ (∀ q : Nat, q < H.size → ¬ A1 q → T'.heap[q]? = H[q]?) ∧ va_S A0 H0 T'.heap (locs ++ L) := by
  obtain ⟨hz, hk⟩ := hF
  rw [h0] at hz hk
  exact ⟨by rw [e1]; exact hz, fun q h1 h2 => by rw [e1]; exact hk q h1 h2,
    ⟨Nat.le_trans hS.1 (by rw [e1]; exact hz), fun q h1 h2 => by rw [e1, hk q (Nat.lt_of_lt_of_le h1 hS.1) (fun z => h2 (hA q (Nat.lt_of_lt_of_le h1 hS.1) z))]; exact hS.2.1 q h1 h2, fun q hq => by
      rcases List.mem_append.mp hq with h | h
      · exact hS.2.2 q h
      · exact hf _ (hL q h)⟩⟩
theorem vx_calli {S SX : Type} {post : Int32 → S → Prop} {px : SX → Prop} {B : S → State → Prop} {BX : String → SX → State → Prop} {AX : Nat → Prop} (hr : vx_Run p l e R s m args below meth c H locs cells slots mc ms (F0 m pc ls st0) rest (va_Qi post B A1 a) (vx_X px BX AX) free) (hS : va_S A0 H0 H locs) (hA : ∀ q, q < H.size → A1 q → A0 q) (hf : ∀ q, free q → A0 q) (hAX : ∀ q, q < H.size → AX q → A0 q)
    (kx : ∀ (E : String) (ce : Cell) (q9 : Addr) (u : SX) (t : State) (H1 : Heap) (locs1 : List Loc), t.heap = H1 → s.vm.Alike t.vm → px u → BX E u t → H.size ≤ H1.size → (∀ q : Nat, q < H.size → ¬ AX q → H1[q]? = H[q]?) → va_S A0 H0 H1 locs1 → H1[q9]? = some ce → ce.vm = .none → s.vm.findClass E = some ce.cls → vx_W p l e R s m args below meth c H1 locs1 (cells + mc) (slots + ms) Q (F0 m pc ls rest) q9)
    (kk : ∀ (r : Int32) (u : S) (t : State) (H1 : Heap) (locs1 : List Loc), t.heap = H1 → s.vm.Alike t.vm → post r u → B u t → H.size ≤ H1.size → (∀ q : Nat, q < H.size → ¬ A1 q → H1[q]? = H[q]?) → va_S A0 H0 H1 locs1 → W p l e R s m args below meth c H1 locs1 (cells + mc) (slots + ms) Q (F0 m (pc + 3) ls (.int r :: rest))) : W p l e R s m args below meth c H locs cells slots Q (F0 m pc ls st0) := by
  intro T hT X
  rcases hr T hT X with ⟨v, st₀, t, T', L, h0, X', hL, e1, e2, ⟨⟨r, u, hv, hp, hb⟩, hF⟩, st⟩ | ⟨q, st₀, t, T', L, E, ce, h0, X', hL, e1, e2, ⟨u, hp, hb, hF⟩, hce, hcv, hcl, st⟩
  · cases hv
    obtain ⟨k1, k2, k3⟩ := vx_keep h0 e1 hS hA hf hL hF
    obtain ⟨t2, a1, b1⟩ := kk r u t T'.heap (locs ++ L) e1.symm (by rw [← e2]; exact X'.warmed.alike) hp hb k1 k2 k3 T' rfl X'
    exact ⟨t2, st t2 a1, b1⟩
  · obtain ⟨k1, k2, k3⟩ := vx_keep h0 e1 hS hAX hf hL hF
    obtain ⟨t2, a1, b1⟩ := kx E ce q u t T'.heap (locs ++ L) e1.symm (by rw [← e2]; exact X'.warmed.alike) hp hb k1 k2 k3 (by rw [e1]; exact hce) hcv hcl T' rfl X'
    exact ⟨t2, st.trans a1, b1⟩
theorem vx_calll {S SX : Type} {post : Int64 → S → Prop} {px : SX → Prop} {B : S → State → Prop} {BX : String → SX → State → Prop} {AX : Nat → Prop} (hr : vx_Run p l e R s m args below meth c H locs cells slots mc ms (F0 m pc ls st0) rest (va_Ql post B A1 a) (vx_X px BX AX) free) (hS : va_S A0 H0 H locs) (hA : ∀ q, q < H.size → A1 q → A0 q) (hf : ∀ q, free q → A0 q) (hAX : ∀ q, q < H.size → AX q → A0 q)
    (kx : ∀ (E : String) (ce : Cell) (q9 : Addr) (u : SX) (t : State) (H1 : Heap) (locs1 : List Loc), t.heap = H1 → s.vm.Alike t.vm → px u → BX E u t → H.size ≤ H1.size → (∀ q : Nat, q < H.size → ¬ AX q → H1[q]? = H[q]?) → va_S A0 H0 H1 locs1 → H1[q9]? = some ce → ce.vm = .none → s.vm.findClass E = some ce.cls → vx_W p l e R s m args below meth c H1 locs1 (cells + mc) (slots + ms) Q (F0 m pc ls rest) q9)
    (kk : ∀ (r : Int64) (u : S) (t : State) (H1 : Heap) (locs1 : List Loc), t.heap = H1 → s.vm.Alike t.vm → post r u → B u t → H.size ≤ H1.size → (∀ q : Nat, q < H.size → ¬ A1 q → H1[q]? = H[q]?) → va_S A0 H0 H1 locs1 → W p l e R s m args below meth c H1 locs1 (cells + mc) (slots + ms) Q (F0 m (pc + 3) ls (.long r :: rest))) : W p l e R s m args below meth c H locs cells slots Q (F0 m pc ls st0) := by
  intro T hT X
  rcases hr T hT X with ⟨v, st₀, t, T', L, h0, X', hL, e1, e2, ⟨⟨r, u, hv, hp, hb⟩, hF⟩, st⟩ | ⟨q, st₀, t, T', L, E, ce, h0, X', hL, e1, e2, ⟨u, hp, hb, hF⟩, hce, hcv, hcl, st⟩
  · cases hv
    obtain ⟨k1, k2, k3⟩ := vx_keep h0 e1 hS hA hf hL hF
    obtain ⟨t2, a1, b1⟩ := kk r u t T'.heap (locs ++ L) e1.symm (by rw [← e2]; exact X'.warmed.alike) hp hb k1 k2 k3 T' rfl X'
    exact ⟨t2, st t2 a1, b1⟩
  · obtain ⟨k1, k2, k3⟩ := vx_keep h0 e1 hS hAX hf hL hF
    obtain ⟨t2, a1, b1⟩ := kx E ce q u t T'.heap (locs ++ L) e1.symm (by rw [← e2]; exact X'.warmed.alike) hp hb k1 k2 k3 (by rw [e1]; exact hce) hcv hcl T' rfl X'
    exact ⟨t2, st.trans a1, b1⟩
theorem vx_callf {S SX : Type} {post : UInt32 → S → Prop} {px : SX → Prop} {B : S → State → Prop} {BX : String → SX → State → Prop} {AX : Nat → Prop} (hr : vx_Run p l e R s m args below meth c H locs cells slots mc ms (F0 m pc ls st0) rest (va_Qf post B A1 a) (vx_X px BX AX) free) (hS : va_S A0 H0 H locs) (hA : ∀ q, q < H.size → A1 q → A0 q) (hf : ∀ q, free q → A0 q) (hAX : ∀ q, q < H.size → AX q → A0 q)
    (kx : ∀ (E : String) (ce : Cell) (q9 : Addr) (u : SX) (t : State) (H1 : Heap) (locs1 : List Loc), t.heap = H1 → s.vm.Alike t.vm → px u → BX E u t → H.size ≤ H1.size → (∀ q : Nat, q < H.size → ¬ AX q → H1[q]? = H[q]?) → va_S A0 H0 H1 locs1 → H1[q9]? = some ce → ce.vm = .none → s.vm.findClass E = some ce.cls → vx_W p l e R s m args below meth c H1 locs1 (cells + mc) (slots + ms) Q (F0 m pc ls rest) q9)
    (kk : ∀ (r : UInt32) (u : S) (t : State) (H1 : Heap) (locs1 : List Loc), t.heap = H1 → s.vm.Alike t.vm → post r u → B u t → H.size ≤ H1.size → (∀ q : Nat, q < H.size → ¬ A1 q → H1[q]? = H[q]?) → va_S A0 H0 H1 locs1 → W p l e R s m args below meth c H1 locs1 (cells + mc) (slots + ms) Q (F0 m (pc + 3) ls (.float r :: rest))) : W p l e R s m args below meth c H locs cells slots Q (F0 m pc ls st0) := by
  intro T hT X
  rcases hr T hT X with ⟨v, st₀, t, T', L, h0, X', hL, e1, e2, ⟨⟨r, u, hv, hp, hb⟩, hF⟩, st⟩ | ⟨q, st₀, t, T', L, E, ce, h0, X', hL, e1, e2, ⟨u, hp, hb, hF⟩, hce, hcv, hcl, st⟩
  · cases hv
    obtain ⟨k1, k2, k3⟩ := vx_keep h0 e1 hS hA hf hL hF
    obtain ⟨t2, a1, b1⟩ := kk r u t T'.heap (locs ++ L) e1.symm (by rw [← e2]; exact X'.warmed.alike) hp hb k1 k2 k3 T' rfl X'
    exact ⟨t2, st t2 a1, b1⟩
  · obtain ⟨k1, k2, k3⟩ := vx_keep h0 e1 hS hAX hf hL hF
    obtain ⟨t2, a1, b1⟩ := kx E ce q u t T'.heap (locs ++ L) e1.symm (by rw [← e2]; exact X'.warmed.alike) hp hb k1 k2 k3 (by rw [e1]; exact hce) hcv hcl T' rfl X'
    exact ⟨t2, st.trans a1, b1⟩
theorem vx_calld {S SX : Type} {post : UInt64 → S → Prop} {px : SX → Prop} {B : S → State → Prop} {BX : String → SX → State → Prop} {AX : Nat → Prop} (hr : vx_Run p l e R s m args below meth c H locs cells slots mc ms (F0 m pc ls st0) rest (va_Qd post B A1 a) (vx_X px BX AX) free) (hS : va_S A0 H0 H locs) (hA : ∀ q, q < H.size → A1 q → A0 q) (hf : ∀ q, free q → A0 q) (hAX : ∀ q, q < H.size → AX q → A0 q)
    (kx : ∀ (E : String) (ce : Cell) (q9 : Addr) (u : SX) (t : State) (H1 : Heap) (locs1 : List Loc), t.heap = H1 → s.vm.Alike t.vm → px u → BX E u t → H.size ≤ H1.size → (∀ q : Nat, q < H.size → ¬ AX q → H1[q]? = H[q]?) → va_S A0 H0 H1 locs1 → H1[q9]? = some ce → ce.vm = .none → s.vm.findClass E = some ce.cls → vx_W p l e R s m args below meth c H1 locs1 (cells + mc) (slots + ms) Q (F0 m pc ls rest) q9)
    (kk : ∀ (r : UInt64) (u : S) (t : State) (H1 : Heap) (locs1 : List Loc), t.heap = H1 → s.vm.Alike t.vm → post r u → B u t → H.size ≤ H1.size → (∀ q : Nat, q < H.size → ¬ A1 q → H1[q]? = H[q]?) → va_S A0 H0 H1 locs1 → W p l e R s m args below meth c H1 locs1 (cells + mc) (slots + ms) Q (F0 m (pc + 3) ls (.double r :: rest))) : W p l e R s m args below meth c H locs cells slots Q (F0 m pc ls st0) := by
  intro T hT X
  rcases hr T hT X with ⟨v, st₀, t, T', L, h0, X', hL, e1, e2, ⟨⟨r, u, hv, hp, hb⟩, hF⟩, st⟩ | ⟨q, st₀, t, T', L, E, ce, h0, X', hL, e1, e2, ⟨u, hp, hb, hF⟩, hce, hcv, hcl, st⟩
  · cases hv
    obtain ⟨k1, k2, k3⟩ := vx_keep h0 e1 hS hA hf hL hF
    obtain ⟨t2, a1, b1⟩ := kk r u t T'.heap (locs ++ L) e1.symm (by rw [← e2]; exact X'.warmed.alike) hp hb k1 k2 k3 T' rfl X'
    exact ⟨t2, st t2 a1, b1⟩
  · obtain ⟨k1, k2, k3⟩ := vx_keep h0 e1 hS hAX hf hL hF
    obtain ⟨t2, a1, b1⟩ := kx E ce q u t T'.heap (locs ++ L) e1.symm (by rw [← e2]; exact X'.warmed.alike) hp hb k1 k2 k3 (by rw [e1]; exact hce) hcv hcl T' rfl X'
    exact ⟨t2, st.trans a1, b1⟩
theorem vx_callv {S SX : Type} {post : S → Prop} {px : SX → Prop} {B : S → State → Prop} {BX : String → SX → State → Prop} {AX : Nat → Prop} (hr : vx_Run p l e R s m args below meth c H locs cells slots mc ms (F0 m pc ls st0) rest (va_Qv post B A1 a) (vx_X px BX AX) free) (hS : va_S A0 H0 H locs) (hA : ∀ q, q < H.size → A1 q → A0 q) (hf : ∀ q, free q → A0 q) (hAX : ∀ q, q < H.size → AX q → A0 q)
    (kx : ∀ (E : String) (ce : Cell) (q9 : Addr) (u : SX) (t : State) (H1 : Heap) (locs1 : List Loc), t.heap = H1 → s.vm.Alike t.vm → px u → BX E u t → H.size ≤ H1.size → (∀ q : Nat, q < H.size → ¬ AX q → H1[q]? = H[q]?) → va_S A0 H0 H1 locs1 → H1[q9]? = some ce → ce.vm = .none → s.vm.findClass E = some ce.cls → vx_W p l e R s m args below meth c H1 locs1 (cells + mc) (slots + ms) Q (F0 m pc ls rest) q9)
    (kk : ∀ (u : S) (t : State) (H1 : Heap) (locs1 : List Loc), t.heap = H1 → s.vm.Alike t.vm → post u → B u t → H.size ≤ H1.size → (∀ q : Nat, q < H.size → ¬ A1 q → H1[q]? = H[q]?) → va_S A0 H0 H1 locs1 → W p l e R s m args below meth c H1 locs1 (cells + mc) (slots + ms) Q (F0 m (pc + 3) ls (rest))) : W p l e R s m args below meth c H locs cells slots Q (F0 m pc ls st0) := by
  intro T hT X
  rcases hr T hT X with ⟨v, st₀, t, T', L, h0, X', hL, e1, e2, ⟨⟨u, hv, hp, hb⟩, hF⟩, st⟩ | ⟨q, st₀, t, T', L, E, ce, h0, X', hL, e1, e2, ⟨u, hp, hb, hF⟩, hce, hcv, hcl, st⟩
  · cases hv
    obtain ⟨k1, k2, k3⟩ := vx_keep h0 e1 hS hA hf hL hF
    obtain ⟨t2, a1, b1⟩ := kk u t T'.heap (locs ++ L) e1.symm (by rw [← e2]; exact X'.warmed.alike) hp hb k1 k2 k3 T' rfl X'
    exact ⟨t2, st t2 a1, b1⟩
  · obtain ⟨k1, k2, k3⟩ := vx_keep h0 e1 hS hAX hf hL hF
    obtain ⟨t2, a1, b1⟩ := kx E ce q u t T'.heap (locs ++ L) e1.symm (by rw [← e2]; exact X'.warmed.alike) hp hb k1 k2 k3 (by rw [e1]; exact hce) hcv hcl T' rfl X'
    exact ⟨t2, st.trans a1, b1⟩
/-- caught by the row x of this method's table; the rows ahead don't take it -/
theorem vx_catch {own name : String} {E : String} {ce : Cell} {q : Addr} (hown : s.vm.findClass own = some m.cls) (pre : List ExceptionTableEntry) (x : ExceptionTableEntry) (suf : List ExceptionTableEntry) (hsplit : c.exceptionTable.toList = pre ++ x :: suf)
    (hpass : ∀ z ∈ pre, covers z pc = false ∨ (z.catchType ≠ 0 ∧ ∃ nm : String, (Cond.classLink own z.catchType nm).before args s = true ∧ va_Nc E nm s)) (hx : covers x pc = true) (h0 : x.catchType ≠ 0)
    (hlink : (Cond.classLink own x.catchType name).before args s = true) (hcast : (Cond.castable E name).before args s = true) (hcell : H[q]? = some ce) (hv : ce.vm = .none) (hcl : s.vm.findClass E = some ce.cls)
    (kk : W p l e R s m args below meth c H locs cells slots Q (F0 m x.handlerPc ls [.ref q])) : vx_W p l e R s m args below meth c H locs cells slots Q (F0 m pc ls rest) q := by
  intro T hT X
  have hpl : e.platform.magicAccessors = ({} : Platform).magicAccessors := by rw [X.admits.platform]
  obtain ⟨c3, c4, hc3, hc4, hasg⟩ := Cond.castable_spec hcast
  cases Option.some.inj (hc3.symm.trans hcl)
  obtain ⟨c5, hc5, hcl5⟩ := Cond.classLink_spec hown hlink e.platform hpl
  cases Option.some.inj (hc4.symm.trans hc5)
  obtain ⟨vm', X', st⟩ := X.thenCaughtThrough q (g := F0 m pc ls rest) rfl (Steps.refl _) (by rw [hT]; exact hcell) (by rw [hv]; rfl) (by obtain ⟨k9, h9, -⟩ := Vm.findClass_spec hcl; exact ⟨k9, h9⟩) pre x suf hsplit
    (fun z hz => by
      rcases hpass z hz with h | ⟨hz0, nm, hl1, hn1⟩
      · exact Or.inl h
      · obtain ⟨c6, hc6, hcl6⟩ := Cond.classLink_spec hown hl1 e.platform hpl
        obtain ⟨a8, b8, h1, h2, h3⟩ := hn1
        cases Option.some.inj (h1.symm.trans hcl)
        cases Option.some.inj (h2.symm.trans hc6)
        exact Or.inr ⟨hz0, _, hcl6, h3⟩) hx (Or.inr ⟨h0, c4, hcl5, hasg⟩)
  obtain ⟨t, a1, b1⟩ := kk (T.setVm vm') hT X'
  exact ⟨t, st.trans a1, b1⟩
end Rows
section Ends
variable {p : Program} {l : Launch} {e : Env} {R : Room} {s : State} {m : MethodId} {args : Array Value} {below : List Frame} {meth : Method} {c : Code} {H : Heap} {locs : List Loc} {cells slots : Nat} {Q : State → Prop}
variable {mc ms : Nat} {free : Addr → Prop} {A0 A1 : Nat → Prop} {H0 : Heap} {a : Array Value} {ls : Array Slot} {st0 rest : List Value}
variable {Qc : Array Value → State → Outcome → State → Prop} {XC : String → State → State → Prop}
/-- what a body that may throw owes at its end -/
def vx_MQ (below : List Frame) (Qc : Array Value → State → Outcome → State → Prop) (XC : String → State → State → Prop) (a : Array Value) (s : State) (mc ms : Nat) (free : Addr → Prop) : State → Prop := fun t =>
  ∃ o, t.status = .running ∧ Ended t below o ∧ vx_Q Qc XC mc ms free a s o t
theorem vx_ret {g : JFrame} {mc ms : Nat} (k : W p l e R s m args below meth c H locs cells slots (MQ below Qc args s mc ms free) g) : W p l e R s m args below meth c H locs cells slots (vx_MQ below Qc XC args s mc ms free) g := by
  intro T hT X
  obtain ⟨t, a1, o, b1, b2, b3, b4⟩ := k T hT X
  exact ⟨t, a1, o, b1, b2, Or.inl ⟨b3, b4⟩⟩
/-- not caught here: it goes on to the caller -/
theorem vx_widen {g : JFrame} {q : Addr} {k n : Nat} (h1 : cells ≤ k) (h2 : slots ≤ n) (kk : vx_W p l e R s m args below meth c H locs k n Q g q) : vx_W p l e R s m args below meth c H locs cells slots Q g q := fun T hT X => kk T hT (stand_widen X h1 h2)
theorem vx_out {pc : Nat} {E : String} {ce : Cell} {q : Addr} {mc ms : Nat} (hout : ∀ x ∈ c.exceptionTable.toList, covers x pc = false) (hlocks : meth.locks = false) (hcell : H[q]? = some ce) (hv : ce.vm = .none) (hcl : s.vm.findClass E = some ce.cls)
    (hx : ∀ t : State, t.heap = H → s.vm.Alike t.vm → XC E s t) (hf : ∀ z ∈ locs, free z.base) (hc : cells ≤ mc) (hs : slots ≤ ms) :
    vx_W p l e R s m args below meth c H locs cells slots (vx_MQ below Qc XC args s mc ms free) (F0 m pc ls rest) q := by
  intro T hT X
  obtain ⟨st1, hrun, hend, hW, hsm⟩ := X.leaveThrown q (g := F0 m pc ls rest) rfl rfl rfl hout hlocks
  have hcell9 : (T.setFrames (.throwing q :: below)).heap[q]? = some ce := by
    show T.heap[q]? = some ce
    rw [hT]; exact hcell
  exact ⟨_, st1, .threw q, hrun, hend, Or.inr ⟨q, rfl, E, ce, locs, hx _ hT hW.alike, hcell9, hv, hcl, hW, hsm.mono hc hs, hf⟩⟩
theorem vx_frame {U : State} {k n : Nat} (h : s.sameButNew ({ U with vm := s.vm } : State) locs k n) : s.heap.size ≤ U.heap.size ∧ ∀ q : Nat, q < s.heap.size → (∀ z ∈ locs, z.base ≠ q) → U.heap[q]? = s.heap[q]? := by
  obtain ⟨-, h2, -, -, -, h6⟩ := h
  refine ⟨h2, fun q hq hz => ?_⟩
  obtain ⟨c9, e1, e2, e3, e4⟩ := h6 q _ (Array.getElem?_eq_getElem hq)
  have hs : c9.slots = (s.heap[q]).slots := Array.ext_getElem? fun i => e4 i fun hm => hz _ hm rfl
  have h9 : c9 = s.heap[q] := by
    rw [hs] at e2
    exact e2
  have e5 : U.heap[q]? = some c9 := e1
  rw [e5, h9, Array.getElem?_eq_getElem hq]
/-- the words of a throw but the four that speak of the heap -/
def vx_no (w : Cond) : Bool := decide (w ≠ .isRef (.static Bundle.tN "UNASSIGNED_STACK" Bundle.steD)) && decide (w ≠ .isRef (.static Bundle.tN "SUPPRESSED_SENTINEL" Bundle.listD)) && decide (w ≠ .laysStatic Bundle.tN "UNASSIGNED_STACK" Bundle.steD) && decide (w ≠ .laysStatic Bundle.tN "SUPPRESSED_SENTINEL" Bundle.listD)
def vx_at0 (own : String) (ic : Nat) (X : String) (names : List String) : List Cond := (Bundle.ownAtoms0 own ic X names).filter vx_no
def vx_atS (own : String) (ic : Nat) (X : String) (names : List String) : List Cond := (Bundle.ownAtoms own ic X names).filter vx_no
/-- a word that the tables alone decide, or a good one -/
def vx_ot (w : Cond) : Bool := w.onTables || goodWord w
theorem vx_ot_at {args a' : Array Value} {s U : State} {w : Cond} (hW : s.WarmedH U.vm) (hvm : s.vm = U.vm) (hg : vx_ot w = true) (h : w.before args s = true) : w.before a' U = true := by
  simp only [vx_ot, Bool.or_eq_true] at hg
  rcases hg with hg | hg
  · exact va_tabs hg hvm h
  · exact word_at hW (good_of_word hg) h
/-- a list's words: the good ones out of the method's own list, the others by premises of their own -/
theorem vx_hat {args : Array Value} {s : State} {L B : List Cond} (h1 : ∀ w ∈ L.filter goodWord, w.before args s = true) (h2 : ∀ w ∈ L.filter (fun w => !goodWord w), w ∈ B) (h3 : ∀ w ∈ B, w.before args s = true) : ∀ w ∈ L, w.before args s = true := by
  intro w hw
  by_cases g : goodWord w = true
  · exact h1 w (List.mem_filter.mpr ⟨hw, g⟩)
  · refine h3 w (h2 w (List.mem_filter.mpr ⟨hw, ?_⟩))
    show (!goodWord w) = true
    cases hgw : goodWord w
    · rfl
    · exact absurd hgw g
theorem vx_c {args : Array Value} {s : State} {w : Cond} {B : List Cond} (h : w.before args s = true) (t : ∀ w ∈ B, w.before args s = true) : ∀ w' ∈ w :: B, w'.before args s = true := fun w' h' => (List.mem_cons.mp h').elim (fun e => by rw [e]; exact h) (t w')
theorem vx_n {args : Array Value} {s : State} : ∀ w ∈ ([] : List Cond), w.before args s = true := fun _ h => nomatch h
theorem vx_own {args : Array Value} {s : State} {L : List Cond} (h1 : ∀ w ∈ L.filter vx_no, w.before args s = true)
    (hU : (Cond.isRef (.static Bundle.tN "UNASSIGNED_STACK" Bundle.steD)).before args s = true) (hN : (Cond.isRef (.static Bundle.tN "SUPPRESSED_SENTINEL" Bundle.listD)).before args s = true)
    (lU : (Cond.laysStatic Bundle.tN "UNASSIGNED_STACK" Bundle.steD).before args s = true) (lN : (Cond.laysStatic Bundle.tN "SUPPRESSED_SENTINEL" Bundle.listD).before args s = true) : ∀ w ∈ L, w.before args s = true := by
  intro w hw
  by_cases e1 : w = .isRef (.static Bundle.tN "UNASSIGNED_STACK" Bundle.steD)
  · rw [e1]; exact hU
  · by_cases e2 : w = .isRef (.static Bundle.tN "SUPPRESSED_SENTINEL" Bundle.listD)
    · rw [e2]; exact hN
    · by_cases e3 : w = .laysStatic Bundle.tN "UNASSIGNED_STACK" Bundle.steD
      · rw [e3]; exact lU
      · by_cases e4 : w = .laysStatic Bundle.tN "SUPPRESSED_SENTINEL" Bundle.listD
        · rw [e4]; exact lN
        · exact h1 w (List.mem_filter.mpr ⟨hw, by unfold vx_no; rw [decide_eq_true e1, decide_eq_true e2, decide_eq_true e3, decide_eq_true e4]; rfl⟩)
/-- where a static field lies, its class's statics cell in H -/
def vx_L (C n d : String) (A : Nat → Prop) (U : State) (H : Heap) : Prop := ∃ (c : ClassId) (k : Class) (i : Nat) (f : Field) (a : Nat) (cell : Cell), U.vm.findClass C = some c ∧ U.fieldFound? C n d = some (c, k, i, f) ∧ f.isStatic = true ∧ k.statics = some a ∧ H[a]? = some cell ∧ cell.vm.isStatics = true ∧ cell.cls = c ∧ f.slot < cell.slots.size ∧ k.staticTypes[f.slot]? = some f.type ∧ ¬ A a
theorem vx_L.moved {C n d : String} {A : Nat → Prop} {u U : State} {H : Heap} (hvm : u.vm.Alike U.vm) (h : vx_L C n d A u H) : vx_L C n d A U H := by
  obtain ⟨c, k, i, f, a, cell, h1, h2, h3, h4, h5, h6, h7, h8, h9, h10⟩ := h
  obtain ⟨k', hi', he⟩ := State.fieldFound?_setVm hvm h2
  exact ⟨c, k', i, f, a, cell, by rw [hvm.findClass]; exact h1, hi', h3, by rw [he]; exact h4, h5, h6, h7, h8, by rw [he]; exact h9, h10⟩
theorem vx_L.kept {C n d : String} {A : Nat → Prop} {U : State} {H H1 : Heap} (h : vx_L C n d A U H) (hq : ∀ a : Nat, a < H.size → ¬ A a → H1[a]? = H[a]?) : vx_L C n d A U H1 := by
  obtain ⟨c, k, i, f, a, cell, h1, h2, h3, h4, h5, h6, h7, h8, h9, h10⟩ := h
  exact ⟨c, k, i, f, a, cell, h1, h2, h3, h4, by rw [hq a (Array.getElem?_eq_some_iff.mp h5).1 h10]; exact h5, h6, h7, h8, h9, h10⟩
theorem vx_L.narrow {C n d : String} {A B : Nat → Prop} {U : State} {H : Heap} (h : vx_L C n d A U H) (hAB : ∀ q, B q → A q) : vx_L C n d B U H := by
  obtain ⟨c, k, i, f, a, cell, h1, h2, h3, h4, h5, h6, h7, h8, h9, h10⟩ := h
  exact ⟨c, k, i, f, a, cell, h1, h2, h3, h4, h5, h6, h7, h8, h9, fun z => h10 (hAB _ z)⟩
theorem vx_L.word {C n d : String} {A : Nat → Prop} {s : State} {args : Array Value} (h : vx_L C n d A s s.heap) : (Cond.laysStatic C n d).before args s = true := by
  obtain ⟨c, k, i, f, a, cell, h1, h2, h3, h4, h5, h6, h7, h8, h9, -⟩ := h
  show (Cond.laysStatic C n d).holds args s none s [] = true
  exact Cond.laysStatic_of h1 h2 h3 h4 h5 h6 h7 h8 h9
/-- .. and what it holds: null or some reference -/
def vx_Zq (C n d : String) (A : Nat → Prop) (U : State) (H : Heap) : Prop := va_Zq C n d A U H ∧ vx_L C n d A U H
theorem vx_Zq.moved {C n d : String} {A : Nat → Prop} {u U : State} {H : Heap} (hvm : u.vm.Alike U.vm) (h : vx_Zq C n d A u H) : vx_Zq C n d A U H := ⟨va_Zq.moved hvm h.1, vx_L.moved hvm h.2⟩
theorem vx_Zq.kept {C n d : String} {A : Nat → Prop} {U : State} {H H1 : Heap} (h : vx_Zq C n d A U H) (hq : ∀ a : Nat, a < H.size → ¬ A a → H1[a]? = H[a]?) : vx_Zq C n d A U H1 := ⟨va_Zq.kept h.1 hq, vx_L.kept h.2 hq⟩
theorem vx_Zq.narrow {C n d : String} {A B : Nat → Prop} {U : State} {H : Heap} (h : vx_Zq C n d A U H) (hAB : ∀ q, B q → A q) : vx_Zq C n d B U H := ⟨va_Zq.narrow h.1 hAB, vx_L.narrow h.2 hAB⟩
theorem vx_Zqof {args : Array Value} {s : State} {C n d : String} {A : Nat → Prop} (hl : (Cond.laysStatic C n d).before args s = true) (hini : (Cond.initialized C).before args s = true) (h : (Cond.isRef (.static C n d)).before args s = true) (hA : ∀ a : Nat, a < s.heap.size → ¬ A a) : vx_Zq C n d A s s.heap := by
  refine ⟨va_Zqof hl hini h hA, ?_⟩
  obtain ⟨c, k, i, f, a, cell, h1, h2, h3, h4, h5, h6, h7, h8, h9⟩ := Cond.laysStatic_spec hl
  exact ⟨c, k, i, f, a, cell, h1, h2, h3, h4, h5, h6, h7, h8, h9, hA a (Array.getElem?_eq_some_iff.mp h5).1⟩
theorem vx_isRef {C n d : String} {v : Value} {A : Nat → Prop} {s : State} {args : Array Value} (h : va_Z C n d v A s s.heap) (hv : v.isRef = true) : (Cond.isRef (.static C n d)).before args s = true := by
  obtain ⟨cf, kf, fi, f, a, cell, h1, h2, h3, h4, h5, h6, h7, -⟩ := h
  have he : (Term.static C n d).eval args s none [] s = some v := by
    simp [Term.eval, State.fieldNamed?, h1, h2, h4, h5, h6, h7]
  simp only [Cond.before, Cond.holds, Cond.value, he]
  cases v <;> simp_all [Value.isRef]
theorem vx_isRefq {C n d : String} {A : Nat → Prop} {s : State} {args : Array Value} (h : va_Zq C n d A s s.heap) : (Cond.isRef (.static C n d)).before args s = true := by
  rcases h with h | ⟨t, h⟩
  · exact vx_isRef h rfl
  · exact vx_isRef h rfl
/-- the same frame, seen from here: as if the method were called anew in this heap -/
theorem vx_rebase {T : State} (X : Stand p l e R s m args below meth c T locs cells slots) {R' : Room} (hf : R'.frames ≤ R.frames) (hl : R'.locals ≤ R.locals) (hc : cells + R'.cells ≤ R.cells) (hs : slots + R'.slots ≤ R.slots) :
    Stand p l e R' ((T.setVm s.vm).setFrames (.invoking m args :: below)) m args below meth c T [] 0 0 := by
  have htop : (T.setVm s.vm).topJava?.isSome := X.here.top
  have hF : ((T.setVm s.vm).setFrames (.invoking m args :: below)).frames = .invoking m args :: below := State.frames_setFrames _ (State.cur_lt_of_top htop)
  obtain ⟨g₀, hg0⟩ := Option.isSome_iff_exists.mp htop
  obtain ⟨r, hr⟩ := State.topJava?_eq_some.mp hg0
  have hl9 : e.platform.stackLimits (T.setVm s.vm).me = e.platform.stackLimits s.me := X.limits
  have hb9 : (T.setVm s.vm).me.stackBytes = s.me.stackBytes := X.bytes
  refine ⟨X.admits, X.cas, X.clock, hF, ?_, X.hears, X.method, X.code, X.here, X.tail, X.warmed, ?_, ?_, ?_⟩
  · have h := X.room
    have hU : ((T.setVm s.vm).setFrames (.invoking m args :: below)).localsInUse = s.localsInUse := by
      rw [State.localsInUse_invoking hF (meth := meth) (c := c) X.method X.code, State.localsInUse_invoking X.frames X.method X.code]
    simp only [State.hasRoom, Bool.and_eq_true, decide_eq_true_eq] at h ⊢
    obtain ⟨⟨⟨⟨h1, h2, h3, h4, h5, h6⟩, h7⟩, h8⟩, h9⟩ := h
    rw [X.frames, List.length_cons] at h2 h3
    have q1 := X.heapSize
    have q2 := X.used
    simp only [hF, hU, List.length_cons, State.stackLimits_setFrames, State.stackBytes_setFrames, hl9, hb9]
    refine ⟨⟨⟨⟨by omega, by omega, by omega, by omega, by omega, h6⟩, ?_⟩, ?_⟩, X.book⟩
    · show T.heap.size + R'.cells ≤ e.platform.maxCells
      omega
    · show T.slotsUsed + R'.slots ≤ e.platform.maxSlots
      omega
  · rw [State.stackLimits_setFrames]; rfl
  · rw [State.stackBytes_setFrames]; rfl
  · refine ⟨?_, Nat.le_refl _, Nat.le_refl _, ?_, ?_, fun a c9 h9 => ⟨c9, h9, rfl, rfl, fun _ _ => rfl⟩⟩
    · obtain ⟨t, ht, -⟩ := State.frames_cons hr
      show T.setVm s.vm = { ((T.setVm s.vm).setFrames (.invoking m args :: below)).setFrames (T.setVm s.vm).frames with heap := T.heap, slotsUsed := T.slotsUsed }
      rw [State.setFrames_setFrames, State.setFrames_self ht]
      rfl
    · show T.slotsUsed = T.slotsUsed + ((T.heap.toList.drop T.heap.size).map (·.slots.size)).sum
      rw [List.drop_eq_nil_of_le (Nat.le_of_eq Array.length_toList)]
      rfl
    · show ((T.heap.toList.drop T.heap.size).map (·.slots.size)).sum ≤ 0
      rw [List.drop_eq_nil_of_le (Nat.le_of_eq Array.length_toList)]
      exact Nat.le_refl _
/-- 'throw new E()': new; dup; invokespecial; athrow -/
theorem vx_throw0 {cc : ByteArray} {pc : Nat} (hexec : p.tables.exec = Jvm.exec) (hb : c.code = cc) (hl : l.stackTraces = false) {own cls : String} {names : List String} {ik ic mc ms : Nat} {A : Nat → Prop}
    (hown : s.vm.findClass own = some m.cls) (hcls : Bundle.fit cls = true) (hnames : ∀ n ∈ names, Bundle.fit n = true)
    (hk : (Cond.classLink own ik cls).before args s = true) (hini : (Cond.initialized cls).before args s = true) (hat : ∀ w ∈ vx_at0 own ic cls names, w.before args s = true)
    (hgood : ∀ w ∈ Cond.classLink own ik cls :: Cond.initialized cls :: vx_at0 own ic cls names, vx_ot w = true)
    (hU : vx_Zq Bundle.tN "UNASSIGNED_STACK" Bundle.steD A s s.heap) (hN : vx_Zq Bundle.tN "SUPPRESSED_SENTINEL" Bundle.listD A s s.heap) (hS : va_S A s.heap H locs) (hsize : ls.size = c.maxLocals)
    (d0 : decode cc pc = .ok (.new ik, 3)) (d3 : decode cc (pc + 3) = .ok (.dup, 1)) (d4 : decode cc (pc + 4) = .ok (.invokespecial ic, 3)) (d7 : decode cc (pc + 7) = .ok (.athrow, 1))
    (hout : ∀ x ∈ c.exceptionTable.toList, covers x (pc + 7) = false)
    (hRframes : names.length + 3 < R.frames) (hRlocals : (rest.map fun v => v.category).sum + (13 * (names.length + 1) + 42) ≤ R.locals) (hRcells : cells + 1 ≤ R.cells) (hRslots : slots + 6 ≤ R.slots) (hlocks : meth.locks = false)
    (hx : ∀ t : State, s.vm.Alike t.vm → H.size ≤ t.heap.size → (∀ q : Nat, q < H.size → t.heap[q]? = H[q]?) → XC cls s t)
    (hf : ∀ z ∈ locs, free z.base) (hc : cells + 1 ≤ mc) (hs : slots + 6 ≤ ms) :
    W p l e R s m args below meth c H locs cells slots (vx_MQ below Qc XC args s mc ms free) (F0 m pc ls rest) := by
  intro T hT X
  have htr : e.platform.stackTraces = false := (show e.platform.stackTraces = l.stackTraces by rw [X.admits.platform]).trans hl
  have Y := vx_rebase X (R' := { frames := R.frames, locals := R.locals, cells := 1, slots := 6 }) (Nat.le_refl _) (Nat.le_refl _) hRcells hRslots
  obtain ⟨s', hA⟩ : ∃ z, z = (T.setVm s.vm).setFrames (.invoking m args :: below) := ⟨_, rfl⟩
  rw [← hA] at Y
  have hvm : s'.vm = s.vm := by rw [hA]; rfl
  have hhp : s'.heap = H := by rw [hA]; exact hT
  have hW0 : s.WarmedH s'.vm := by rw [hvm]; exact State.WarmedH.refl s
  have hat' : ∀ w ∈ vx_at0 own ic cls names, w.before args s' = true := fun w hw => vx_ot_at hW0 hvm.symm (hgood w (List.mem_cons_of_mem _ (List.mem_cons_of_mem _ hw))) (hat w hw)
  have hk' : (Cond.classLink own ik cls).before args s' = true := vx_ot_at hW0 hvm.symm (hgood _ List.mem_cons_self) hk
  have hini' : (Cond.initialized cls).before args s' = true := vx_ot_at hW0 hvm.symm (hgood _ (List.mem_cons_of_mem _ List.mem_cons_self)) hini
  have hU' : vx_Zq Bundle.tN "UNASSIGNED_STACK" Bundle.steD A s' s'.heap := by rw [hhp]; exact vx_Zq.moved hW0.alike (hU.kept hS.2.1)
  have hN' : vx_Zq Bundle.tN "SUPPRESSED_SENTINEL" Bundle.listD A s' s'.heap := by rw [hhp]; exact vx_Zq.moved hW0.alike (hN.kept hS.2.1)
  have h : ∀ w ∈ Bundle.ownAtoms0 own ic cls names, w.before args s' = true := vx_own hat' (vx_isRefq hU'.1) (vx_isRefq hN'.1) hU'.2.word hN'.2.word
  have hown' : s'.vm.findClass own = some m.cls := by rw [hvm]; exact hown
  have hins : (Cond.instantiable cls 6).before args s' = true := h _ (by simp [Bundle.ownAtoms0])
  obtain ⟨vm₁, cX, kX, hfX, hkX, -, -, X₁, st1⟩ := Y.newCold hexec (own := own) (C := cls) (index := ik) (n := 6) hown' hk' hins hini'
    (g := F0 m pc ls rest) rfl (by rw [hb]; exact d0) (Nat.le_refl _) (Nat.le_refl _)
  generalize hT1 : (T.setVm vm₁).pushCell { cls := cX, slots := kX.instanceTypes.map defaultValue, vm := .none } = T1 at X₁ st1
  have hcat : (Value.ref T.heap.size).category = 1 := rfl
  have hcellA : T1.heap[T.heap.size]? = some (freshCell cX kX) := by rw [← hT1]; exact State.heap_pushCell_size _ _
  have d3' : decode c.code (pc + 3) = .ok (.dup, 1) := by rw [hb]; exact d3
  obtain ⟨U, hsteps, hrun, hend, hW, hsame, ce, hce, hO⟩ := X₁.ctorThrow0 hexec htr (own := own) (cls := cls) (names := names) (ic := ic) hown' hcls hnames h (fun x hx => nomatch hx) hfX hkX hcellA (by rw [hhp, hT]; exact Nat.le_refl _)
    (g := { method := m, pc := pc + 4, locals := ls, stack := .ref T.heap.size :: .ref T.heap.size :: rest, locked := none }) rfl hsize rfl rfl (rest := rest) rfl
    (by rw [hb]; exact d4) (by rw [hb]; exact d7) hout hRframes (by simp only [List.map_cons, List.sum_cons, hcat]; omega) hlocks
  obtain ⟨f1, f2⟩ := vx_frame hsame
  rw [hhp] at f1 f2
  have hWs : s.WarmedH U.vm := State.WarmedH.trans hW0 hW
  have hcl : s.vm.findClass cls = some ce.cls := by
    have h9 := hO.cls
    rw [hvm] at h9
    exact h9
  have hall : s.sameButNew ({ U with vm := s.vm } : State) locs mc ms := by
    subst hA
    obtain ⟨e1, e2⟩ := hsame
    rw [State.setFrames_setFrames] at e1
    have h2 : (T.setVm s.vm).sameButNew ({ U with vm := s.vm } : State) [] (0 + 1) (0 + 6) := ⟨e1, e2⟩
    have h3 := X.same.trans h2
    rw [List.append_nil] at h3
    exact h3.mono hc hs
  refine ⟨U, ?_, .threw T.heap.size, hrun, hend, Or.inr ⟨T.heap.size, rfl, cls, ce, locs, hx U hWs.alike f1 (fun q hq => f2 q hq (fun z hz => nomatch hz)), hce, hO.vm, hcl, hWs, hall, hf⟩⟩
  refine st1 _ ?_
  show Steps p.tables e below (T1.setTop { method := m, pc := pc + 3, locals := ls, stack := .ref T.heap.size :: rest, locked := none }) _
  jvm_step X₁.here [X₁.here.top, hexec, d3', Value.category]
  exact hsteps
/-- 'throw new E("text")': new; dup; ldc; invokespecial; athrow -/
theorem vx_throwS {cc : ByteArray} {pc : Nat} (hexec : p.tables.exec = Jvm.exec) (hb : c.code = cc) (hl : l.stackTraces = false) {own cls text : String} {names : List String} {ik is ic mc ms sa : Nat} {A : Nat → Prop}
    (hown : s.vm.findClass own = some m.cls) (hcls : Bundle.fit cls = true) (hnames : ∀ n ∈ names, Bundle.fit n = true)
    (hk : (Cond.classLink own ik cls).before args s = true) (hini : (Cond.initialized cls).before args s = true) (hstr : vk_R own is text sa s) (hat : ∀ w ∈ vx_atS own ic cls names, w.before args s = true)
    (hgood : ∀ w ∈ Cond.classLink own ik cls :: Cond.initialized cls :: vx_atS own ic cls names, vx_ot w = true)
    (hU : vx_Zq Bundle.tN "UNASSIGNED_STACK" Bundle.steD A s s.heap) (hN : vx_Zq Bundle.tN "SUPPRESSED_SENTINEL" Bundle.listD A s s.heap) (hS : va_S A s.heap H locs) (hsize : ls.size = c.maxLocals)
    (d0 : decode cc pc = .ok (.new ik, 3)) (d3 : decode cc (pc + 3) = .ok (.dup, 1)) (d4 : decode cc (pc + 4) = .ok (.ldc is, 2)) (d6 : decode cc (pc + 6) = .ok (.invokespecial ic, 3)) (d9 : decode cc (pc + 9) = .ok (.athrow, 1))
    (hout : ∀ x ∈ c.exceptionTable.toList, covers x (pc + 9) = false)
    (hRframes : names.length + 3 < R.frames) (hRlocals : (rest.map fun v => v.category).sum + (13 * (names.length + 1) + 43) ≤ R.locals) (hRcells : cells + 1 ≤ R.cells) (hRslots : slots + 6 ≤ R.slots) (hlocks : meth.locks = false)
    (hx : ∀ t : State, s.vm.Alike t.vm → H.size ≤ t.heap.size → (∀ q : Nat, q < H.size → t.heap[q]? = H[q]?) → XC cls s t)
    (hf : ∀ z ∈ locs, free z.base) (hc : cells + 1 ≤ mc) (hs : slots + 6 ≤ ms) :
    W p l e R s m args below meth c H locs cells slots (vx_MQ below Qc XC args s mc ms free) (F0 m pc ls rest) := by
  intro T hT X
  have htr : e.platform.stackTraces = false := (show e.platform.stackTraces = l.stackTraces by rw [X.admits.platform]).trans hl
  have Y := vx_rebase X (R' := { frames := R.frames, locals := R.locals, cells := 1, slots := 6 }) (Nat.le_refl _) (Nat.le_refl _) hRcells hRslots
  obtain ⟨s', hA⟩ : ∃ z, z = (T.setVm s.vm).setFrames (.invoking m args :: below) := ⟨_, rfl⟩
  rw [← hA] at Y
  have hvm : s'.vm = s.vm := by rw [hA]; rfl
  have hhp : s'.heap = H := by rw [hA]; exact hT
  have hW0 : s.WarmedH s'.vm := by rw [hvm]; exact State.WarmedH.refl s
  have hat' : ∀ w ∈ vx_atS own ic cls names, w.before args s' = true := fun w hw => vx_ot_at hW0 hvm.symm (hgood w (List.mem_cons_of_mem _ (List.mem_cons_of_mem _ hw))) (hat w hw)
  have hk' : (Cond.classLink own ik cls).before args s' = true := vx_ot_at hW0 hvm.symm (hgood _ List.mem_cons_self) hk
  have hini' : (Cond.initialized cls).before args s' = true := vx_ot_at hW0 hvm.symm (hgood _ (List.mem_cons_of_mem _ List.mem_cons_self)) hini
  have hU' : vx_Zq Bundle.tN "UNASSIGNED_STACK" Bundle.steD A s' s'.heap := by rw [hhp]; exact vx_Zq.moved hW0.alike (hU.kept hS.2.1)
  have hN' : vx_Zq Bundle.tN "SUPPRESSED_SENTINEL" Bundle.listD A s' s'.heap := by rw [hhp]; exact vx_Zq.moved hW0.alike (hN.kept hS.2.1)
  have h : ∀ w ∈ Bundle.ownAtoms own ic cls names, w.before args s' = true := vx_own hat' (vx_isRefq hU'.1) (vx_isRefq hN'.1) hU'.2.word hN'.2.word
  have hown' : s'.vm.findClass own = some m.cls := by rw [hvm]; exact hown
  have hins : (Cond.instantiable cls 6).before args s' = true := h _ (by simp [Bundle.ownAtoms])
  obtain ⟨vm₁, cX, kX, hfX, hkX, -, -, X₁, st1⟩ := Y.newCold hexec (own := own) (C := cls) (index := ik) (n := 6) hown' hk' hins hini'
    (g := F0 m pc ls rest) rfl (by rw [hb]; exact d0) (Nat.le_refl _) (Nat.le_refl _)
  generalize hT1 : (T.setVm vm₁).pushCell { cls := cX, slots := kX.instanceTypes.map defaultValue, vm := .none } = T1 at X₁ st1
  have hcat : (Value.ref T.heap.size).category = 1 := rfl
  have hcellA : T1.heap[T.heap.size]? = some (freshCell cX kX) := by rw [← hT1]; exact State.heap_pushCell_size _ _
  have d3' : decode c.code (pc + 3) = .ok (.dup, 1) := by rw [hb]; exact d3
  have d4' : decode c.code (pc + 4) = .ok (.ldc is, 2) := by rw [hb]; exact d4
  have hstr' : vk_R own is text sa s' := vk_R.warm hW0 hstr
  obtain ⟨U, hsteps, hrun, hend, hW, hsame, ce, hce, hO⟩ := X₁.ctorThrowS hexec htr (own := own) (cls := cls) (names := names) (ic := ic) hown' hcls hnames h (fun x hx => nomatch hx) hfX hkX hcellA (by rw [hhp, hT]; exact Nat.le_refl _) (msg := .ref sa) rfl
    (g := { method := m, pc := pc + 6, locals := ls, stack := .ref sa :: .ref T.heap.size :: .ref T.heap.size :: rest, locked := none }) rfl hsize rfl rfl (rest := rest) rfl
    (by rw [hb]; exact d6) (by rw [hb]; exact d9) hout hRframes (by simp only [List.map_cons, List.sum_cons, hcat]; omega) hlocks
  obtain ⟨f1, f2⟩ := vx_frame hsame
  rw [hhp] at f1 f2
  have hWs : s.WarmedH U.vm := State.WarmedH.trans hW0 hW
  have hcl : s.vm.findClass cls = some ce.cls := by
    have h9 := hO.cls
    rw [hvm] at h9
    exact h9
  have hall : s.sameButNew ({ U with vm := s.vm } : State) locs mc ms := by
    subst hA
    obtain ⟨e1, e2⟩ := hsame
    rw [State.setFrames_setFrames] at e1
    have h2 : (T.setVm s.vm).sameButNew ({ U with vm := s.vm } : State) [] (0 + 1) (0 + 6) := ⟨e1, e2⟩
    have h3 := X.same.trans h2
    rw [List.append_nil] at h3
    exact h3.mono hc hs
  refine ⟨U, ?_, .threw T.heap.size, hrun, hend, Or.inr ⟨T.heap.size, rfl, cls, ce, locs, hx U hWs.alike f1 (fun q hq => f2 q hq (fun z hz => nomatch hz)), hce, hO.vm, hcl, hWs, hall, hf⟩⟩
  refine st1 _ ?_
  show Steps p.tables e below (T1.setTop { method := m, pc := pc + 3, locals := ls, stack := .ref T.heap.size :: rest, locked := none }) _
  jvm_step X₁.here [X₁.here.top, hexec, d3', Value.category]
  exact X₁.ldcString hexec (own := own) (text := text) (index := is) (a := sa) hown' hstr'.1 hstr'.2
    (g := { method := m, pc := pc + 4, locals := ls, stack := .ref T.heap.size :: .ref T.heap.size :: rest, locked := none }) rfl d4' _ hsteps
/-- 'throw new E("text")', the text by a wide index -/
theorem vx_throwSW {cc : ByteArray} {pc : Nat} (hexec : p.tables.exec = Jvm.exec) (hb : c.code = cc) (hl : l.stackTraces = false) {own cls text : String} {names : List String} {ik is ic mc ms sa : Nat} {A : Nat → Prop}
    (hown : s.vm.findClass own = some m.cls) (hcls : Bundle.fit cls = true) (hnames : ∀ n ∈ names, Bundle.fit n = true)
    (hk : (Cond.classLink own ik cls).before args s = true) (hini : (Cond.initialized cls).before args s = true) (hstr : vk_R own is text sa s) (hat : ∀ w ∈ vx_atS own ic cls names, w.before args s = true)
    (hgood : ∀ w ∈ Cond.classLink own ik cls :: Cond.initialized cls :: vx_atS own ic cls names, vx_ot w = true)
    (hU : vx_Zq Bundle.tN "UNASSIGNED_STACK" Bundle.steD A s s.heap) (hN : vx_Zq Bundle.tN "SUPPRESSED_SENTINEL" Bundle.listD A s s.heap) (hS : va_S A s.heap H locs) (hsize : ls.size = c.maxLocals)
    (d0 : decode cc pc = .ok (.new ik, 3)) (d3 : decode cc (pc + 3) = .ok (.dup, 1)) (d4 : decode cc (pc + 4) = .ok (.ldc_w is, 3)) (d7 : decode cc (pc + 7) = .ok (.invokespecial ic, 3)) (d10 : decode cc (pc + 10) = .ok (.athrow, 1))
    (hout : ∀ x ∈ c.exceptionTable.toList, covers x (pc + 10) = false)
    (hRframes : names.length + 3 < R.frames) (hRlocals : (rest.map fun v => v.category).sum + (13 * (names.length + 1) + 43) ≤ R.locals) (hRcells : cells + 1 ≤ R.cells) (hRslots : slots + 6 ≤ R.slots) (hlocks : meth.locks = false)
    (hx : ∀ t : State, s.vm.Alike t.vm → H.size ≤ t.heap.size → (∀ q : Nat, q < H.size → t.heap[q]? = H[q]?) → XC cls s t)
    (hf : ∀ z ∈ locs, free z.base) (hc : cells + 1 ≤ mc) (hs : slots + 6 ≤ ms) :
    W p l e R s m args below meth c H locs cells slots (vx_MQ below Qc XC args s mc ms free) (F0 m pc ls rest) := by
  intro T hT X
  have htr : e.platform.stackTraces = false := (show e.platform.stackTraces = l.stackTraces by rw [X.admits.platform]).trans hl
  have Y := vx_rebase X (R' := { frames := R.frames, locals := R.locals, cells := 1, slots := 6 }) (Nat.le_refl _) (Nat.le_refl _) hRcells hRslots
  obtain ⟨s', hA⟩ : ∃ z, z = (T.setVm s.vm).setFrames (.invoking m args :: below) := ⟨_, rfl⟩
  rw [← hA] at Y
  have hvm : s'.vm = s.vm := by rw [hA]; rfl
  have hhp : s'.heap = H := by rw [hA]; exact hT
  have hW0 : s.WarmedH s'.vm := by rw [hvm]; exact State.WarmedH.refl s
  have hat' : ∀ w ∈ vx_atS own ic cls names, w.before args s' = true := fun w hw => vx_ot_at hW0 hvm.symm (hgood w (List.mem_cons_of_mem _ (List.mem_cons_of_mem _ hw))) (hat w hw)
  have hk' : (Cond.classLink own ik cls).before args s' = true := vx_ot_at hW0 hvm.symm (hgood _ List.mem_cons_self) hk
  have hini' : (Cond.initialized cls).before args s' = true := vx_ot_at hW0 hvm.symm (hgood _ (List.mem_cons_of_mem _ List.mem_cons_self)) hini
  have hU' : vx_Zq Bundle.tN "UNASSIGNED_STACK" Bundle.steD A s' s'.heap := by rw [hhp]; exact vx_Zq.moved hW0.alike (hU.kept hS.2.1)
  have hN' : vx_Zq Bundle.tN "SUPPRESSED_SENTINEL" Bundle.listD A s' s'.heap := by rw [hhp]; exact vx_Zq.moved hW0.alike (hN.kept hS.2.1)
  have h : ∀ w ∈ Bundle.ownAtoms own ic cls names, w.before args s' = true := vx_own hat' (vx_isRefq hU'.1) (vx_isRefq hN'.1) hU'.2.word hN'.2.word
  have hown' : s'.vm.findClass own = some m.cls := by rw [hvm]; exact hown
  have hins : (Cond.instantiable cls 6).before args s' = true := h _ (by simp [Bundle.ownAtoms])
  obtain ⟨vm₁, cX, kX, hfX, hkX, -, -, X₁, st1⟩ := Y.newCold hexec (own := own) (C := cls) (index := ik) (n := 6) hown' hk' hins hini'
    (g := F0 m pc ls rest) rfl (by rw [hb]; exact d0) (Nat.le_refl _) (Nat.le_refl _)
  generalize hT1 : (T.setVm vm₁).pushCell { cls := cX, slots := kX.instanceTypes.map defaultValue, vm := .none } = T1 at X₁ st1
  have hcat : (Value.ref T.heap.size).category = 1 := rfl
  have hcellA : T1.heap[T.heap.size]? = some (freshCell cX kX) := by rw [← hT1]; exact State.heap_pushCell_size _ _
  have d3' : decode c.code (pc + 3) = .ok (.dup, 1) := by rw [hb]; exact d3
  have d4' : decode c.code (pc + 4) = .ok (.ldc_w is, 3) := by rw [hb]; exact d4
  have hstr' : vk_R own is text sa s' := vk_R.warm hW0 hstr
  obtain ⟨U, hsteps, hrun, hend, hW, hsame, ce, hce, hO⟩ := X₁.ctorThrowS hexec htr (own := own) (cls := cls) (names := names) (ic := ic) hown' hcls hnames h (fun x hx => nomatch hx) hfX hkX hcellA (by rw [hhp, hT]; exact Nat.le_refl _) (msg := .ref sa) rfl
    (g := { method := m, pc := pc + 7, locals := ls, stack := .ref sa :: .ref T.heap.size :: .ref T.heap.size :: rest, locked := none }) rfl hsize rfl rfl (rest := rest) rfl
    (by rw [hb]; exact d7) (by rw [hb]; exact d10) hout hRframes (by simp only [List.map_cons, List.sum_cons, hcat]; omega) hlocks
  obtain ⟨f1, f2⟩ := vx_frame hsame
  rw [hhp] at f1 f2
  have hWs : s.WarmedH U.vm := State.WarmedH.trans hW0 hW
  have hcl : s.vm.findClass cls = some ce.cls := by
    have h9 := hO.cls
    rw [hvm] at h9
    exact h9
  have hall : s.sameButNew ({ U with vm := s.vm } : State) locs mc ms := by
    subst hA
    obtain ⟨e1, e2⟩ := hsame
    rw [State.setFrames_setFrames] at e1
    have h2 : (T.setVm s.vm).sameButNew ({ U with vm := s.vm } : State) [] (0 + 1) (0 + 6) := ⟨e1, e2⟩
    have h3 := X.same.trans h2
    rw [List.append_nil] at h3
    exact h3.mono hc hs
  refine ⟨U, ?_, .threw T.heap.size, hrun, hend, Or.inr ⟨T.heap.size, rfl, cls, ce, locs, hx U hWs.alike f1 (fun q hq => f2 q hq (fun z hz => nomatch hz)), hce, hO.vm, hcl, hWs, hall, hf⟩⟩
  refine st1 _ ?_
  show Steps p.tables e below (T1.setTop { method := m, pc := pc + 3, locals := ls, stack := .ref T.heap.size :: rest, locked := none }) _
  jvm_step X₁.here [X₁.here.top, hexec, d3', Value.category]
  exact X₁.ldcStringW hexec (own := own) (text := text) (index := is) (a := sa) hown' hstr'.1 hstr'.2
    (g := { method := m, pc := pc + 4, locals := ls, stack := .ref T.heap.size :: .ref T.heap.size :: rest, locked := none }) rfl d4' _ hsteps
end Ends
section Bodies
variable {l : Launch}
theorem vx_ofW {y : MethodName} {ws ws' : List Cond} {rm : Room} {Pc : Array Value → State → Prop} {Qc : Array Value → State → Outcome → State → Prop} {XC : String → State → State → Prop} {mc ms : Nat} {free : Addr → Prop} {cc : ByteArray} {maxL : Nat} {ret : Option FieldType}
    (hy : plainName y.cls = true) (hw : ws = Cond.code y cc maxL ret :: ws')
    (body : ∀ p e s m args below meth c s₁, BodyLoose p l y (headSpec ws rm) cc maxL ret e s m args below meth c s₁ → c.maxLocals = maxL → (∀ x ∈ c.exceptionTable.toList, False) → Pc args s →
      W p l e (headSpec ws rm).room s m args below meth c s.heap [] 0 0 (vx_MQ below Qc XC args s mc ms free) (entryFrame m args maxL)) : vx_Met l y ws rm Pc Qc XC mc ms free := by
  refine MetFree.of_bodyS (code := cc) (maxLocals := maxL) (ret := ret) hy ?_ ?_
  · intro args s m h hn
    obtain ⟨meth, c, h1, h2, h3, h4, h5, h6, -, -⟩ := Cond.code_spec hn (atoms_spec (ws := ws) h _ (by rw [hw]; exact List.mem_cons_self))
    exact ⟨meth, c, h1, h2, h3, h4, h5, h6⟩
  · intro p e s m args below meth c s₁ B hml hP _
    have hh0 : s₁.heap = s.heap := by rw [B.state]; rfl
    have ht : ∀ x ∈ c.exceptionTable.toList, False := by
      obtain ⟨meth9, c9, h1, h2, -, -, -, -, h7, -⟩ := Cond.code_spec B.named (atoms_spec (ws := ws) B.pre _ (by rw [hw]; exact List.mem_cons_self))
      cases Option.some.inj (h1.symm.trans B.method)
      cases Option.some.inj (h2.symm.trans (Stand.of_body B).code)
      intro x hx
      rw [Array.isEmpty_iff.mp h7] at hx
      cases hx
    obtain ⟨t, a1, o, b1, b2, b3⟩ := body p e s m args below meth c s₁ B hml ht hP s₁ hh0 (Stand.of_body B)
    exact ⟨t, o, a1, b1, b2, b3⟩
/-- the table of a body with handlers -/
theorem vx_table {p : Program} {x y : MethodName} {S : Spec} {cc bytes : ByteArray} {maxL maxL' : Nat} {ret ret' : Option FieldType} {e : Env} {s s₁ : State} {m : MethodId} {args : Array Value} {below : List Frame} {meth : Method} {c : Code} {hh : List (Nat × Nat × Nat × Nat)}
    (B : BodyLoose p l y S cc maxL ret e s m args below meth c s₁) (h : (Cond.codeWith y bytes maxL' ret' hh).before args s = true) : c.exceptionTable.toList = tableOf hh := by
  obtain ⟨m9, meth9, c9, hn9, h1, h2, -, -, h6, -⟩ := Cond.codeWith_spec h
  cases Option.some.inj (hn9.symm.trans B.named)
  cases Option.some.inj (h1.symm.trans B.method)
  cases Option.some.inj (h2.symm.trans (Stand.of_body B).code)
  rw [← h6, table_eq]
end Bodies
end VXA
/-! ===== END ===== -/
/-! ===== BEGIN a static call of a method with an exception table ===== -/
section VXS
variable {p : Program} {l : Launch} {e : Env} {R : Room} {s : State} {m : MethodId} {args : Array Value} {below : List Frame} {meth : Method} {c : Code} {T : State} {H : Heap} {locs : List Loc} {cells slots : Nat}
abbrev vx_CSW (R : Room) (s : State) (args : Array Value) (own : String) (index : Nat) (y : MethodName) (bytes : ByteArray) (maxL : Nat) (ret : Option FieldType) (hh : List (Nat × Nat × Nat × Nat)) (ws : List Cond) (rm : Room) (mc ms n : Nat) : Prop :=
  (rm.cells = mc ∧ rm.slots = ms ∧ rm.frames + 1 ≤ R.frames ∧ 8 + (maxL + 11) + rm.locals ≤ R.locals ∧ (∀ w ∈ ws, ∀ (a' : Array Value) (U : State), s.WarmedH U.vm → w.before a' U = true) ∧ Cond.codeWith y bytes maxL ret hh ∈ ws) ∧
  (Cond.codeWith y bytes maxL ret hh).before args s = true ∧ (Cond.initialized y.cls).before args s = true ∧ (y.cls ≠ "java/lang/invoke/MethodHandle" ∧ y.cls ≠ "java/lang/invoke/VarHandle") ∧
  (∀ sig, parseMethodDescriptor y.desc = some sig → n = sig.parameters.length) ∧ (Cond.methodLink own index y).before args s = true ∧ (Cond.static y).before args s = true
theorem vx_cwSW {own : String} {index maxL mc ms : Nat} {y : MethodName} {bytes : ByteArray} {ret : Option FieldType} {hh : List (Nat × Nat × Nat × Nat)} {Ts ws ws' : List Cond} {rm : Room} (n : Nat) (ht : ∀ w ∈ Ts, w.before args s = true) (hT : GoodIn Ts (va_wsS own index y ws)) (hw : ws = Cond.codeWith y bytes maxL ret hh :: ws') (hrc : rm.cells = mc) (hrs : rm.slots = ms)
    (hd : y.cls ≠ "java/lang/invoke/MethodHandle" ∧ y.cls ≠ "java/lang/invoke/VarHandle" ∧ (parseMethodDescriptor y.desc).map (fun d => d.parameters.length) = some n) (hR : rm.frames + 1 ≤ R.frames ∧ 8 + (maxL + 11) + rm.locals ≤ R.locals) :
    vx_CSW R s args own index y bytes maxL ret hh ws rm mc ms n := by
  have ok : ∀ w ∈ va_wsS own index y ws, w.before args s = true := fun w h => ht w (hT w h).1
  have hG : GoodIn Ts ws := fun w h => hT w (by unfold va_wsS; exact List.mem_append_right _ h)
  have hc : Cond.codeWith y bytes maxL ret hh ∈ ws := by rw [hw]; exact List.mem_cons_self
  refine ⟨⟨hrc, hrs, hR.1, hR.2, pay_in ht hG, hc⟩, ht _ (hG _ hc).1, ok _ (by simp [va_wsS]), ⟨hd.1, hd.2.1⟩, fun sig h => ?_, ok _ (by simp [va_wsS]), ok _ (by simp [va_wsS])⟩
  have h2 := hd.2.2
  rw [h] at h2
  exact (Option.some.inj h2).symm
theorem vx_callSW (X : Stand p l e R s m args below meth c T locs cells slots) (hexec : p.tables.exec = Jvm.exec) {own : String} {index : Nat} {y : MethodName} {bytes : ByteArray} {maxL : Nat} {ret : Option FieldType} {hh : List (Nat × Nat × Nat × Nat)}
    (hown : s.vm.findClass own = some m.cls) (hlink : (Cond.methodLink own index y).before args s = true) (hstat : (Cond.static y).before args s = true) (hinit : (Cond.initialized y.cls).before args s = true)
    (hcode : (Cond.codeWith y bytes maxL ret hh).before args s = true) (hy : y.cls ≠ "java/lang/invoke/MethodHandle" ∧ y.cls ≠ "java/lang/invoke/VarHandle")
    {W9 : Nat} {Pre : Pt → Array Value → Prop} {Post : Pt → Array Value → Option Value → Pt → Prop} (hK : Back l R p e below s args y 3 W9 Pre Post)
    {g : JFrame} (hg : g.method = m) (hsize : g.locals.size = c.maxLocals) {argsL rest : List Value} (hlen : ∀ sig, parseMethodDescriptor y.desc = some sig → argsL.length = sig.parameters.length)
    (hstack : g.stack = argsL.reverse ++ rest) (hW : 2 * g.monitorRoom + (rest.map fun v => v.category).sum ≤ W9) (hdg : decode c.code g.pc = .ok (.invokestatic index, 3))
    (hpre : ∀ vm₁, s.WarmedH vm₁ → Pre ⟨T.setVm vm₁, locs, cells, slots⟩ argsL.toArray) :
    ∃ (v : Option Value) (vm₁ : Vm) (B : Pt), s.WarmedH vm₁ ∧ Stand p l e R s m args below meth c B.U B.locs B.cells B.slots ∧ Post ⟨T.setVm vm₁, locs, cells, slots⟩ argsL.toArray v B ∧
      ∀ target, Steps p.tables e below (B.U.setTop { g with pc := g.pc + 3, stack := v.toList ++ rest }) target → Steps p.tables e below (T.setTop g) target := by
  obtain ⟨mk, methM, cM, hnamed, hmethM, -, -, -, -, -, -, hsigM⟩ := Cond.codeWith_spec hcode
  have hstatic : methM.isStatic = true := Cond.static_spec hnamed hmethM hstat
  obtain ⟨kP, hkP, -⟩ := className_of_methodNamed hnamed
  have hinitP : kP.init = .initialized := Cond.initialized_spec (findClass_of_methodNamed hnamed) hkP hinit
  obtain ⟨vm₁, X₁, hstep₁⟩ := X.invokestatic hexec hown hlink hnamed hmethM hstatic hkP hinitP hy (g := g) hg (argsL := argsL) (rest := rest) (hlen _ hsigM) hstack hdg
  obtain ⟨v, B, X', hpost, hsteps⟩ := hK m meth c ⟨T.setVm vm₁, locs, cells, slots⟩ { g with stack := rest } (.invokestatic index) mk argsL.toArray X₁ hg hsize hdg hW (X₁.named hnamed) (hpre vm₁ X₁.warmed)
  exact ⟨v, vm₁, B, X₁.warmed, X', hpost, fun target h => hstep₁ _ fun acts => by rw [doInvoke_state]; exact hsteps.trans h⟩
theorem vx_runSW {y : MethodName} {bytes cc : ByteArray} {maxL nL mc ms n index : Nat} {ret : Option FieldType} {hh : List (Nat × Nat × Nat × Nat)} {ws : List Cond} {rm : Room} {Pc : Array Value → State → Prop} {Qc : Array Value → State → Outcome → State → Prop} {free : Addr → Prop} {Ts : List Cond} {own : String} {As rest : List Value} {g : JFrame}
    (S : CallFix p m c cc nL s args Ts own) (hM : Met l y ws rm Pc Qc mc ms free) (cw : vx_CSW R s args own index y bytes maxL ret hh ws rm mc ms n) (hp : PreS s H Pc As)
    (hg : g.method = m) (hn : As.length = n) (hsize : g.locals.size = nL) (hstack : g.stack = As.reverse ++ rest) (hW : 2 * g.monitorRoom + (rest.map fun v => v.category).sum ≤ 8) (hdg : decode cc g.pc = .ok (.invokestatic index, 3)) (hf : cells + mc ≤ R.cells ∧ slots + ms ≤ R.slots) :
    va_Run p l e R s m args below meth c H locs cells slots mc ms g rest (Qc As.toArray) (free) := by
  obtain ⟨⟨hrc, hrs, hfr, hlo, hws, hcw⟩, hcode, hini, hy, hlen, hl, hstt⟩ := cw
  have hK : Back l R p e below s args y 3 8 (PreOf R mc ms Pc) (PostOf Qc mc ms free) := va_backW (hh := hh) (bytes := bytes) (maxL := maxL) (ret := ret) hM hp.1 hrc hrs hfr hlo hws hcw (fun a' U hW => word_at hW (Or.inl (by first | rfl | simp [Cond.onTables, Cond.keeps, Cond.steady])) hini)
  obtain ⟨hx, hb, hml, ho, -⟩ := S
  intro T hT X
  obtain ⟨v, vm₁, ⟨U', l2, c2, s2⟩, hW₁, X', ⟨g', mk, t, L, e1, e2, hq, h1, hL, h2, h3⟩, st⟩ := vx_callSW X hx (hh := hh) (bytes := bytes) (maxL := maxL) (ret := ret) ho hl hstt hini hcode hy hK hg (hsize.trans hml.symm) (argsL := As) (rest := rest) (fun sig h => hn.trans (hlen sig h)) hstack hW (by rw [hb]; exact hdg)
    (fun vm₁ hW₁ => ⟨hf.1, hf.2, hp.2 (T.setVm vm₁) hT hW₁⟩)
  dsimp only [Pt.U, Pt.locs, Pt.cells, Pt.slots] at X' e1 e2 h1 h2 h3 st
  subst h1; subst h2; subst h3
  exact ⟨v, (T.setVm vm₁).calling g' mk As.toArray, t, U', L, hT, X', hL, e1, e2, hq, st⟩
/-- not caught here, past rows that name other classes: it goes on to the caller -/
theorem vx_outP {p : Program} {l : Launch} {e : Env} {R : Room} {s : State} {m : MethodId} {args : Array Value} {below : List Frame} {meth : Method} {c : Code} {H : Heap} {locs : List Loc} {cells slots : Nat} {free : Addr → Prop} {ls : Array Slot} {rest : List Value} {Qc : Array Value → State → Outcome → State → Prop} {XC : String → State → State → Prop}
    {pc : Nat} {own E : String} {ce : Cell} {q : Addr} {mc ms : Nat} (hown : s.vm.findClass own = some m.cls) (hlocks : meth.locks = false)
    (hpass : ∀ z ∈ c.exceptionTable.toList, covers z pc = false ∨ (z.catchType ≠ 0 ∧ ∃ nm : String, (Cond.classLink own z.catchType nm).before args s = true ∧ va_Nc E nm s)) (hcell : H[q]? = some ce) (hv : ce.vm = .none) (hcl : s.vm.findClass E = some ce.cls)
    (hx : ∀ t : State, t.heap = H → s.vm.Alike t.vm → XC E s t) (hf : ∀ z ∈ locs, free z.base) (hc : cells ≤ mc) (hs : slots ≤ ms) :
    vx_W p l e R s m args below meth c H locs cells slots (vx_MQ below Qc XC args s mc ms free) (F0 m pc ls rest) q := by
  intro T hT X
  have hpl : e.platform.magicAccessors = ({} : Platform).magicAccessors := by rw [X.admits.platform]
  obtain ⟨vm', hW', X', st⟩ := X.outThrough hlocks q (g := F0 m pc ls rest) rfl rfl rfl (cell := ce) (by rw [hT]; exact hcell) (by rw [hv]; rfl)
    (by obtain ⟨k9, h9, -⟩ := Vm.findClass_spec hcl; exact ⟨k9, h9⟩) (fun z hz => by
      rcases hpass z hz with h | ⟨hz0, nm, hl1, hn1⟩
      · exact Or.inl h
      · obtain ⟨c6, hc6, hcl6⟩ := Cond.classLink_spec hown hl1 e.platform hpl
        obtain ⟨a8, b8, h1, h2, h3⟩ := hn1
        cases Option.some.inj (h1.symm.trans hcl)
        cases Option.some.inj (h2.symm.trans hc6)
        exact Or.inr ⟨hz0, _, hcl6, h3⟩)
  obtain ⟨g₀, hfr⟩ := X'.frames_eq
  have hcell9 : ((T.setVm vm').setFrames (.throwing q :: below)).heap[q]? = some ce := by
    show T.heap[q]? = some ce
    rw [hT]; exact hcell
  have hend : Ended ((T.setVm vm').setFrames (.throwing q :: below)) below (.threw q) := State.frames_setFrames _ (State.cur_lt_of_frames hfr)
  refine ⟨(T.setVm vm').setFrames (.throwing q :: below), ?_, .threw q, X'.here.running, hend, Or.inr ⟨q, rfl, E, ce, locs, hx _ hT (X'.ends _).1.alike, hcell9, hv, hcl, (X'.ends _).1, (X'.ends _).2.mono hc hs, hf⟩⟩
  rw [X.pushThrowing_eq]
  exact st
/-- a thing of a world lies in the heap -/
theorem vx_lt {D : va_G} {cl : List vw_C} {ws : va_W} {H1 : Heap} (h : va_P D cl ws H1) {k : Nat} {q : Nat × va_E} (hk : ws[k]? = some q) : q.1 < H1.size := (h k q hk).lt
end VXS
/-! ===== END ===== -/
/-! ===== BEGIN methods with a table of their own: called by a name, returning or throwing ===== -/
section VXH
/-! vx_backW, vx_callVX, vx_callSX, vx_callVW, vx_runVW, vx_runVX, vx_runSX, vx_ofWH follow the same proofs as their sisters above (Free/Laws.lean, Shelf42/LK1.lean); vx_outP calls Shelf42/NT130.lean (outThrough). -/
section
variable {l : Launch} {R : Room} {p : Program} {e : Env} {below : List Frame} {s : State} {sargs : Array Value} {y : MethodName} {len W9 : Nat}
theorem vx_backW {ws : List Cond} {rm : Room} {Pc : Array Value → State → Prop} {Qc : Array Value → State → Outcome → State → Prop} {XC : String → State → State → Prop} {mc ms : Nat} {free : Addr → Prop} {bytes : ByteArray} {maxL : Nat} {ret : Option FieldType} {hh : List (Nat × Nat × Nat × Nat)}
    (hM : vx_Met l y ws rm Pc Qc XC mc ms free) (hblind : FrameBlind Pc) (hrc : rm.cells = mc) (hrs : rm.slots = ms)
    (hframes : rm.frames + 1 ≤ R.frames) (hlocals : W9 + (maxL + 11) + rm.locals ≤ R.locals)
    (hws : ∀ w ∈ ws, ∀ a' U, s.WarmedH U.vm → w.before a' U = true) (hcode : Cond.codeWith y bytes maxL ret hh ∈ ws) (hinit : ∀ a' U, s.WarmedH U.vm → (Cond.initialized y.cls).before a' U = true) :
    vx_Back l R p e below s sargs y len W9 (PreOf R mc ms Pc) (PostOf Qc mc ms free) (vx_Post XC mc ms free) := by
  intro m meth c A g ig mk a X hg hsize hdg hW hn hp
  have h1 : (headSpec ws rm).pre.before a A.U = true := atoms_intro fun w hw => hws w hw _ _ X.warmed
  have h2 : (Cond.codeWith y bytes maxL ret hh).before a A.U = true := hws _ hcode _ _ X.warmed
  have h3 : (Cond.initialized y.cls).before a A.U = true := hinit _ _ X.warmed
  have h4 : A.cells + (headSpec ws rm).room.cells ≤ R.cells := by rw [show (headSpec ws rm).room.cells = mc from hrc]; exact hp.1
  have h5 : A.slots + (headSpec ws rm).room.slots ≤ R.slots := by rw [show (headSpec ws rm).room.slots = ms from hrs]; exact hp.2.1
  have hPc : Pc a (A.U.calling g mk a) := hblind _ _ _ _ hp.2.2
  obtain ⟨U, Ls, c0, s0⟩ := A
  dsimp only [Pt.U, Pt.locs, Pt.cells, Pt.slots] at h1 h2 h3 h4 h5 X hn hPc ⊢
  obtain ⟨m9, methY, cY, hn9, hmY, hcY, -, hlY, -⟩ := Cond.codeWith_spec h2
  cases Option.some.inj (hn9.symm.trans hn)
  obtain ⟨kY, hkY, -⟩ := className_of_methodNamed hn
  have hinitY : kY.init = .initialized := Cond.initialized_spec (findClass_of_methodNamed hn) hkY h3
  have h : At U g.method c below := by rw [hg]; exact X.here
  have hlocals9 : W9 + (maxL + 11) + (headSpec ws rm).room.locals ≤ R.locals := hlocals
  have happ : (headSpec ws rm).appliesLoose y e.platform (U.calling g mk a) = true :=
    Spec.appliesLoose_calling (g := g) h hdg hn hkY hinitY
      (X.room_calling (g := g) (R' := (headSpec ws rm).room) hsize hmY hcY hframes (by rw [hlY]; omega) h4 h5) h1
  obtain ⟨mid, hmid⟩ := h.above
  have hfr : (U.setTop g).frames = (.java g :: mid) ++ below := by rw [State.frames_setTop' g h.top, hmid]; rfl
  obtain ⟨o, s₂, hsteps, -, hend, hq⟩ := Steps.callFree hM p X.admits X.cas X.clock (acts := []) hfr happ hPc trivial
  have hq' : vx_Q Qc XC mc ms free a (U.calling g mk a) o s₂ := hq
  rw [State.frames_setTop' g h.top] at hend
  obtain ⟨g₀, hg0⟩ := Option.isSome_iff_exists.mp h.top
  obtain ⟨r, hr⟩ := State.topJava?_eq_some.mp hg0
  have hr' : (({ U with heap := s₂.heap, slotsUsed := s₂.slotsUsed } : State).setVm s₂.vm).frames = .java g₀ :: r := hr
  rcases hq' with ⟨hqc, L, hfe, hL⟩ | ⟨q, rfl, E, ce, L, hx, hce, hcv, hcl, hW₂, hsm, hL⟩
  · obtain ⟨⟨v, rfl⟩, hW₂, e2, q2, q3, q4, q5, q6⟩ := id hfe
    have e3 : s₂ = ({ (U.calling g mk a).setFrames s₂.frames with heap := s₂.heap, slotsUsed := s₂.slotsUsed } : State).setVm s₂.vm := by
      have : s₂ = ({ s₂ with vm := (U.calling g mk a).vm } : State).setVm s₂.vm := rfl
      rw [e2] at this
      exact this
    obtain ⟨c₂, i₂, len₂, hc₂, hd₂, hf₂⟩ := hend
    have hW' : U.WarmedH s₂.vm := hW₂
    have hcc : c₂ = c := by
      have h1 : s₂.code? g.method = U.code? g.method := by
        rw [State.code?_eq, State.code?_eq, hW'.alike.method?]
      exact Option.some.inj (hc₂.symm.trans (h1.trans h.code))
    subst hcc
    have hlen : len₂ = len := by rw [hdg] at hd₂; cases hd₂; rfl
    subst hlen
    have hs₂ : s₂ = (({ U with heap := s₂.heap, slotsUsed := s₂.slotsUsed } : State).setVm s₂.vm).setTop { g with pc := g.pc + len₂, stack := v.toList ++ g.stack } := by
      refine e3.trans ?_
      rw [hf₂, State.calling_eq h.top, State.setFrames_setFrames, State.setTop_of_frames _ hr', hr]
      rfl
    have hsame : U.sameButNew ({ U with heap := s₂.heap, slotsUsed := s₂.slotsUsed } : State) L mc ms := by
      refine ⟨?_, q2, q3, q4, q5, q6⟩
      obtain ⟨t, ht, -⟩ := State.frames_cons hr
      show ({ U with heap := s₂.heap, slotsUsed := s₂.slotsUsed } : State) = { U.setFrames U.frames with heap := s₂.heap, slotsUsed := s₂.slotsUsed }
      rw [State.setFrames_self ht]
    subst hg
    refine Or.inl ⟨v, ⟨(({ U with heap := s₂.heap, slotsUsed := s₂.slotsUsed } : State).setVm s₂.vm), Ls ++ L, c0 + mc, s0 + ms⟩,
      ⟨X.admits, X.cas, X.clock, X.frames, X.room, X.hears, X.method, X.code, (X.here.setHeapUsed s₂.heap s₂.slotsUsed).setVm hW'.alike, X.tail, State.WarmedH.trans X.warmed hW', X.limits, X.bytes, X.same.trans (hsame.setVm s.vm)⟩,
      ⟨g, mk, s₂, L, rfl, rfl, hqc, rfl, hL, rfl, rfl⟩, ?_⟩
    show Steps p.tables e below _ ((({ U with heap := s₂.heap, slotsUsed := s₂.slotsUsed } : State).setVm s₂.vm).setTop { g with pc := g.pc + len₂, stack := v.toList ++ g.stack })
    rw [← hs₂]
    exact hsteps
  · obtain ⟨e2, q2, q3, q4, q5, q6⟩ := id hsm
    have e3 : s₂ = ({ (U.calling g mk a).setFrames s₂.frames with heap := s₂.heap, slotsUsed := s₂.slotsUsed } : State).setVm s₂.vm := by
      have : s₂ = ({ s₂ with vm := (U.calling g mk a).vm } : State).setVm s₂.vm := rfl
      rw [e2] at this
      exact this
    have hf₂ : s₂.frames = .throwing q :: .java g :: U.frames.tail := hend
    have hW' : U.WarmedH s₂.vm := hW₂
    have hs₂ : s₂ = ((({ U with heap := s₂.heap, slotsUsed := s₂.slotsUsed } : State).setVm s₂.vm).setTop g).pushFrame (.throwing q) := by
      refine e3.trans ?_
      rw [hf₂, State.calling_eq h.top, State.setFrames_setFrames, State.pushFrame, State.frames_setTop _ hr', State.setTop_of_frames _ hr', State.setFrames_setFrames, hr]
      rfl
    have hsame : U.sameButNew ({ U with heap := s₂.heap, slotsUsed := s₂.slotsUsed } : State) L mc ms := by
      refine ⟨?_, q2, q3, q4, q5, q6⟩
      obtain ⟨t, ht, -⟩ := State.frames_cons hr
      show ({ U with heap := s₂.heap, slotsUsed := s₂.slotsUsed } : State) = { U.setFrames U.frames with heap := s₂.heap, slotsUsed := s₂.slotsUsed }
      rw [State.setFrames_self ht]
    subst hg
    refine Or.inr ⟨q, ⟨(({ U with heap := s₂.heap, slotsUsed := s₂.slotsUsed } : State).setVm s₂.vm), Ls ++ L, c0 + mc, s0 + ms⟩,
      ⟨X.admits, X.cas, X.clock, X.frames, X.room, X.hears, X.method, X.code, (X.here.setHeapUsed s₂.heap s₂.slotsUsed).setVm hW'.alike, X.tail, State.WarmedH.trans X.warmed hW', X.limits, X.bytes, X.same.trans (hsame.setVm s.vm)⟩,
      ⟨g, mk, s₂, L, E, ce, rfl, rfl, hx, hce, hcv, hcl, rfl, hL, rfl, rfl⟩, ?_⟩
    show Steps p.tables e below _ (((({ U with heap := s₂.heap, slotsUsed := s₂.slotsUsed } : State).setVm s₂.vm).setTop g).pushFrame (.throwing q))
    rw [← hs₂]
    exact hsteps
end
variable {p : Program} {l : Launch} {e : Env} {R : Room} {s : State} {m : MethodId} {args : Array Value} {below : List Frame} {meth : Method} {c : Code} {T : State} {H : Heap} {locs : List Loc} {cells slots : Nat}
theorem vx_callVX (X : Stand p l e R s m args below meth c T locs cells slots) (hexec : p.tables.exec = Jvm.exec) {own C : String} {index : Nat} {y : MethodName} {bytes : ByteArray} {maxL : Nat} {ret : Option FieldType} {hh : List (Nat × Nat × Nat × Nat)}
    (hown : s.vm.findClass own = some m.cls) (hlink : (Cond.methodLink own index y).before args s = true) (hinst : (Cond.instanceMethod y).before args s = true) (hsel : (Cond.selects C y y).before args s = true)
    (hcode : (Cond.codeWith y bytes maxL ret hh).before args s = true) (hy : y.cls ≠ "java/lang/invoke/MethodHandle" ∧ y.cls ≠ "java/lang/invoke/VarHandle")
    {W9 : Nat} {Pre : Pt → Array Value → Prop} {Post : Pt → Array Value → Option Value → Pt → Prop} {PostX : Pt → Array Value → Addr → Pt → Prop} (hK : vx_Back l R p e below s args y 3 W9 Pre Post PostX)
    {b : Addr} {cellB : Cell} (hcell : T.heap[b]? = some cellB) (hobj : cellB.vm.isStatics = false) (hcls : s.vm.findClass C = some cellB.cls)
    {g : JFrame} (hg : g.method = m) (hsize : g.locals.size = c.maxLocals) {argsL rest : List Value} (hlen : ∀ sig, parseMethodDescriptor y.desc = some sig → argsL.length = sig.parameters.length)
    (hstack : g.stack = argsL.reverse ++ .ref b :: rest) (hW : 2 * g.monitorRoom + (rest.map fun v => v.category).sum ≤ W9) (hdg : decode c.code g.pc = .ok (.invokevirtual index, 3))
    (hpre : ∀ vm₁, s.WarmedH vm₁ → Pre ⟨T.setVm vm₁, locs, cells, slots⟩ (Value.ref b :: argsL).toArray) :
    (∃ (v : Option Value) (vm₁ : Vm) (B : Pt), s.WarmedH vm₁ ∧ Stand p l e R s m args below meth c B.U B.locs B.cells B.slots ∧ Post ⟨T.setVm vm₁, locs, cells, slots⟩ (Value.ref b :: argsL).toArray v B ∧
      ∀ target, Steps p.tables e below (B.U.setTop { g with pc := g.pc + 3, stack := v.toList ++ rest }) target → Steps p.tables e below (T.setTop g) target) ∨
    (∃ (q : Addr) (vm₁ : Vm) (B : Pt), s.WarmedH vm₁ ∧ Stand p l e R s m args below meth c B.U B.locs B.cells B.slots ∧ PostX ⟨T.setVm vm₁, locs, cells, slots⟩ (Value.ref b :: argsL).toArray q B ∧
      Steps p.tables e below (T.setTop g) ((B.U.setTop { g with stack := rest }).pushFrame (.throwing q))) := by
  obtain ⟨mk, methM, hnamed, hmethM, hstM, habM⟩ := Cond.instanceMethod_spec hinst
  obtain ⟨m8, methM', cM, hn8, hmethM', -, -, -, -, -, -, hsigM⟩ := Cond.codeWith_spec hcode
  cases Option.some.inj (hn8.symm.trans hnamed)
  cases hmethM.symm.trans hmethM'
  obtain ⟨c2, r2, m2, q1, q2, q3, q4, kP, hkP, hkPi⟩ := Cond.selects_spec hsel
  cases hcls.symm.trans q1
  cases (State.methodFound?_of_named hnamed hy).symm.trans q2
  cases hnamed.symm.trans q3
  have hselP : selectMethod e.platform s.vm cellB.cls mk = .method mk := by rw [Launch.admits_selectMethod X.admits]; exact q4
  obtain ⟨vm₁, X₁, hstep₁⟩ := X.invokevirtual hexec hown hlink hnamed hmethM hstM hkP hkPi hy (a := b) (cell := cellB) hcell
    (fun z h => by rw [h] at hobj; cases hobj) hselP hmethM habM hkP hkPi (g := g) hg (argsL := argsL) (rest := rest) (hlen _ hsigM) hstack hdg
  rcases hK m meth c ⟨T.setVm vm₁, locs, cells, slots⟩ { g with stack := rest } (.invokevirtual index) mk (Value.ref b :: argsL).toArray X₁ hg hsize hdg hW (X₁.named hnamed) (hpre vm₁ X₁.warmed) with ⟨v, B, X', hpost, hsteps⟩ | ⟨q, B, X', hpost, hsteps⟩
  · exact Or.inl ⟨v, vm₁, B, X₁.warmed, X', hpost, fun target h => hstep₁ _ fun acts => by rw [doInvoke_state]; exact hsteps.trans h⟩
  · exact Or.inr ⟨q, vm₁, B, X₁.warmed, X', hpost, hstep₁ _ fun acts => by rw [doInvoke_state]; exact hsteps⟩
theorem vx_callSX (X : Stand p l e R s m args below meth c T locs cells slots) (hexec : p.tables.exec = Jvm.exec) {own : String} {index : Nat} {y : MethodName} {bytes : ByteArray} {maxL : Nat} {ret : Option FieldType} {hh : List (Nat × Nat × Nat × Nat)}
    (hown : s.vm.findClass own = some m.cls) (hlink : (Cond.methodLink own index y).before args s = true) (hstat : (Cond.static y).before args s = true) (hinit : (Cond.initialized y.cls).before args s = true)
    (hcode : (Cond.codeWith y bytes maxL ret hh).before args s = true) (hy : y.cls ≠ "java/lang/invoke/MethodHandle" ∧ y.cls ≠ "java/lang/invoke/VarHandle")
    {W9 : Nat} {Pre : Pt → Array Value → Prop} {Post : Pt → Array Value → Option Value → Pt → Prop} {PostX : Pt → Array Value → Addr → Pt → Prop} (hK : vx_Back l R p e below s args y 3 W9 Pre Post PostX)
    {g : JFrame} (hg : g.method = m) (hsize : g.locals.size = c.maxLocals) {argsL rest : List Value} (hlen : ∀ sig, parseMethodDescriptor y.desc = some sig → argsL.length = sig.parameters.length)
    (hstack : g.stack = argsL.reverse ++ rest) (hW : 2 * g.monitorRoom + (rest.map fun v => v.category).sum ≤ W9) (hdg : decode c.code g.pc = .ok (.invokestatic index, 3))
    (hpre : ∀ vm₁, s.WarmedH vm₁ → Pre ⟨T.setVm vm₁, locs, cells, slots⟩ argsL.toArray) :
    (∃ (v : Option Value) (vm₁ : Vm) (B : Pt), s.WarmedH vm₁ ∧ Stand p l e R s m args below meth c B.U B.locs B.cells B.slots ∧ Post ⟨T.setVm vm₁, locs, cells, slots⟩ argsL.toArray v B ∧
      ∀ target, Steps p.tables e below (B.U.setTop { g with pc := g.pc + 3, stack := v.toList ++ rest }) target → Steps p.tables e below (T.setTop g) target) ∨
    (∃ (q : Addr) (vm₁ : Vm) (B : Pt), s.WarmedH vm₁ ∧ Stand p l e R s m args below meth c B.U B.locs B.cells B.slots ∧ PostX ⟨T.setVm vm₁, locs, cells, slots⟩ argsL.toArray q B ∧
      Steps p.tables e below (T.setTop g) ((B.U.setTop { g with stack := rest }).pushFrame (.throwing q))) := by
  obtain ⟨mk, methM, cM, hnamed, hmethM, -, -, -, -, -, -, hsigM⟩ := Cond.codeWith_spec hcode
  have hstatic : methM.isStatic = true := Cond.static_spec hnamed hmethM hstat
  obtain ⟨kP, hkP, -⟩ := className_of_methodNamed hnamed
  have hinitP : kP.init = .initialized := Cond.initialized_spec (findClass_of_methodNamed hnamed) hkP hinit
  obtain ⟨vm₁, X₁, hstep₁⟩ := X.invokestatic hexec hown hlink hnamed hmethM hstatic hkP hinitP hy (g := g) hg (argsL := argsL) (rest := rest) (hlen _ hsigM) hstack hdg
  rcases hK m meth c ⟨T.setVm vm₁, locs, cells, slots⟩ { g with stack := rest } (.invokestatic index) mk argsL.toArray X₁ hg hsize hdg hW (X₁.named hnamed) (hpre vm₁ X₁.warmed) with ⟨v, B, X', hpost, hsteps⟩ | ⟨q, B, X', hpost, hsteps⟩
  · exact Or.inl ⟨v, vm₁, B, X₁.warmed, X', hpost, fun target h => hstep₁ _ fun acts => by rw [doInvoke_state]; exact hsteps.trans h⟩
  · exact Or.inr ⟨q, vm₁, B, X₁.warmed, X', hpost, hstep₁ _ fun acts => by rw [doInvoke_state]; exact hsteps⟩
theorem vx_callVW (X : Stand p l e R s m args below meth c T locs cells slots) (hexec : p.tables.exec = Jvm.exec) {own C : String} {index : Nat} {y : MethodName} {bytes : ByteArray} {maxL : Nat} {ret : Option FieldType} {hh : List (Nat × Nat × Nat × Nat)}
    (hown : s.vm.findClass own = some m.cls) (hlink : (Cond.methodLink own index y).before args s = true) (hinst : (Cond.instanceMethod y).before args s = true) (hsel : (Cond.selects C y y).before args s = true)
    (hcode : (Cond.codeWith y bytes maxL ret hh).before args s = true) (hy : y.cls ≠ "java/lang/invoke/MethodHandle" ∧ y.cls ≠ "java/lang/invoke/VarHandle")
    {W9 : Nat} {Pre : Pt → Array Value → Prop} {Post : Pt → Array Value → Option Value → Pt → Prop} (hK : Back l R p e below s args y 3 W9 Pre Post)
    {b : Addr} {cellB : Cell} (hcell : T.heap[b]? = some cellB) (hobj : cellB.vm.isStatics = false) (hcls : s.vm.findClass C = some cellB.cls)
    {g : JFrame} (hg : g.method = m) (hsize : g.locals.size = c.maxLocals) {argsL rest : List Value} (hlen : ∀ sig, parseMethodDescriptor y.desc = some sig → argsL.length = sig.parameters.length)
    (hstack : g.stack = argsL.reverse ++ .ref b :: rest) (hW : 2 * g.monitorRoom + (rest.map fun v => v.category).sum ≤ W9) (hdg : decode c.code g.pc = .ok (.invokevirtual index, 3))
    (hpre : ∀ vm₁, s.WarmedH vm₁ → Pre ⟨T.setVm vm₁, locs, cells, slots⟩ (Value.ref b :: argsL).toArray) :
    ∃ (v : Option Value) (vm₁ : Vm) (B : Pt), s.WarmedH vm₁ ∧ Stand p l e R s m args below meth c B.U B.locs B.cells B.slots ∧ Post ⟨T.setVm vm₁, locs, cells, slots⟩ (Value.ref b :: argsL).toArray v B ∧
      ∀ target, Steps p.tables e below (B.U.setTop { g with pc := g.pc + 3, stack := v.toList ++ rest }) target → Steps p.tables e below (T.setTop g) target := by
  obtain ⟨mk, methM, hnamed, hmethM, hstM, habM⟩ := Cond.instanceMethod_spec hinst
  obtain ⟨m8, methM', cM, hn8, hmethM', -, -, -, -, -, -, hsigM⟩ := Cond.codeWith_spec hcode
  cases Option.some.inj (hn8.symm.trans hnamed)
  cases hmethM.symm.trans hmethM'
  obtain ⟨c2, r2, m2, q1, q2, q3, q4, kP, hkP, hkPi⟩ := Cond.selects_spec hsel
  cases hcls.symm.trans q1
  cases (State.methodFound?_of_named hnamed hy).symm.trans q2
  cases hnamed.symm.trans q3
  have hselP : selectMethod e.platform s.vm cellB.cls mk = .method mk := by rw [Launch.admits_selectMethod X.admits]; exact q4
  obtain ⟨vm₁, X₁, hstep₁⟩ := X.invokevirtual hexec hown hlink hnamed hmethM hstM hkP hkPi hy (a := b) (cell := cellB) hcell
    (fun z h => by rw [h] at hobj; cases hobj) hselP hmethM habM hkP hkPi (g := g) hg (argsL := argsL) (rest := rest) (hlen _ hsigM) hstack hdg
  obtain ⟨v, B, X', hpost, hsteps⟩ := hK m meth c ⟨T.setVm vm₁, locs, cells, slots⟩ { g with stack := rest } (.invokevirtual index) mk (Value.ref b :: argsL).toArray X₁ hg hsize hdg hW (X₁.named hnamed) (hpre vm₁ X₁.warmed)
  exact ⟨v, vm₁, B, X₁.warmed, X', hpost, fun target h => hstep₁ _ fun acts => by rw [doInvoke_state]; exact hsteps.trans h⟩
abbrev vx_CVW (R : Room) (s : State) (args : Array Value) (own C : String) (index : Nat) (y : MethodName) (bytes : ByteArray) (maxL : Nat) (ret : Option FieldType) (hh : List (Nat × Nat × Nat × Nat)) (ws : List Cond) (rm : Room) (mc ms n : Nat) : Prop :=
  (rm.cells = mc ∧ rm.slots = ms ∧ rm.frames + 1 ≤ R.frames ∧ 8 + (maxL + 11) + rm.locals ≤ R.locals ∧ (∀ w ∈ ws, ∀ (a' : Array Value) (U : State), s.WarmedH U.vm → w.before a' U = true) ∧ Cond.codeWith y bytes maxL ret hh ∈ ws) ∧
  (Cond.codeWith y bytes maxL ret hh).before args s = true ∧ (Cond.initialized y.cls).before args s = true ∧ (y.cls ≠ "java/lang/invoke/MethodHandle" ∧ y.cls ≠ "java/lang/invoke/VarHandle") ∧
  (∀ sig, parseMethodDescriptor y.desc = some sig → n = sig.parameters.length) ∧ (Cond.methodLink own index y).before args s = true ∧ (Cond.instanceMethod y).before args s = true ∧ (Cond.selects C y y).before args s = true
theorem vx_cwVW {own C : String} {index maxL mc ms : Nat} {y : MethodName} {bytes : ByteArray} {ret : Option FieldType} {hh : List (Nat × Nat × Nat × Nat)} {Ts ws ws' : List Cond} {rm : Room} (n : Nat) (ht : ∀ w ∈ Ts, w.before args s = true) (hT : GoodIn Ts (wsV own index C y ws)) (hw : ws = Cond.codeWith y bytes maxL ret hh :: ws') (hrc : rm.cells = mc) (hrs : rm.slots = ms)
    (hd : y.cls = C ∧ y.cls ≠ "java/lang/invoke/MethodHandle" ∧ y.cls ≠ "java/lang/invoke/VarHandle" ∧ (parseMethodDescriptor y.desc).map (fun d => d.parameters.length) = some n) (hR : rm.frames + 1 ≤ R.frames ∧ 8 + (maxL + 11) + rm.locals ≤ R.locals) :
    vx_CVW R s args own C index y bytes maxL ret hh ws rm mc ms n := by
  obtain ⟨hC, hd⟩ := hd
  subst hC
  have ok : ∀ w ∈ wsV own index y.cls y ws, w.before args s = true := fun w h => ht w (hT w h).1
  have hG : GoodIn Ts ws := fun w h => hT w (by unfold wsV; exact List.mem_append_right _ h)
  have hc : Cond.codeWith y bytes maxL ret hh ∈ ws := by rw [hw]; exact List.mem_cons_self
  refine ⟨⟨hrc, hrs, hR.1, hR.2, pay_in ht hG, hc⟩, ht _ (hG _ hc).1, ok _ (by simp [wsV]), ⟨hd.1, hd.2.1⟩, fun sig h => ?_, ok _ (by simp [wsV]), ok _ (by simp [wsV]), ok _ (by simp [wsV])⟩
  have h2 := hd.2.2
  rw [h] at h2
  exact (Option.some.inj h2).symm
theorem vx_runVW {y : MethodName} {bytes cc : ByteArray} {maxL nL mc ms n index : Nat} {ret : Option FieldType} {hh : List (Nat × Nat × Nat × Nat)} {ws : List Cond} {rm : Room} {Pc : Array Value → State → Prop} {Qc : Array Value → State → Outcome → State → Prop} {free : Addr → Prop} {Ts : List Cond} {own C : String} {b : Addr} {As rest : List Value} {g : JFrame}
    (S : CallFix p m c cc nL s args Ts own) (hM : Met l y ws rm Pc Qc mc ms free) (cw : vx_CVW R s args own C index y bytes maxL ret hh ws rm mc ms n) (hp : PreV s H C b Pc As)
    (hg : g.method = m) (hn : As.length = n) (hsize : g.locals.size = nL) (hstack : g.stack = As.reverse ++ .ref b :: rest) (hW : 2 * g.monitorRoom + (rest.map fun v => v.category).sum ≤ 8) (hdg : decode cc g.pc = .ok (.invokevirtual index, 3)) (hf : cells + mc ≤ R.cells ∧ slots + ms ≤ R.slots) :
    va_Run p l e R s m args below meth c H locs cells slots mc ms g rest (Qc (Value.ref b :: As).toArray) free := by
  obtain ⟨⟨hrc, hrs, hfr, hlo, hws, hcw⟩, hcode, hini, hy, hlen, hl, hin, hse⟩ := cw
  have hK : Back l R p e below s args y 3 8 (PreOf R mc ms Pc) (PostOf Qc mc ms free) := va_backW (hh := hh) (bytes := bytes) (maxL := maxL) (ret := ret) hM hp.1 hrc hrs hfr hlo hws hcw (fun a' U hW => word_at hW (Or.inl (by first | rfl | simp [Cond.onTables, Cond.keeps, Cond.steady])) hini)
  obtain ⟨hx, hb, hml, ho, -⟩ := S
  obtain ⟨-, ⟨cellB, hcB, hoB, hclB⟩, hPc⟩ := hp
  intro T hT X
  obtain ⟨v, vm₁, ⟨U', l2, c2, s2⟩, hW₁, X', ⟨g', mk, t, L, e1, e2, hq, h1, hL, h2, h3⟩, st⟩ := vx_callVW X hx (C := C) (hh := hh) (bytes := bytes) (maxL := maxL) (ret := ret) ho hl hin hse hcode hy hK (by rw [hT]; exact hcB) hoB hclB hg (hsize.trans hml.symm) (argsL := As) (rest := rest) (fun sig h => hn.trans (hlen sig h)) hstack hW (by rw [hb]; exact hdg)
    (fun vm₁ hW₁ => ⟨hf.1, hf.2, hPc (T.setVm vm₁) hT hW₁⟩)
  dsimp only [Pt.U, Pt.locs, Pt.cells, Pt.slots] at X' e1 e2 h1 h2 h3 st
  subst h1; subst h2; subst h3
  exact ⟨v, (T.setVm vm₁).calling g' mk (Value.ref b :: As).toArray, t, U', L, hT, X', hL, e1, e2, hq, st⟩
section
variable {y : MethodName} {bytes cc : ByteArray} {maxL nL mc ms n index : Nat} {ret : Option FieldType} {ws : List Cond} {rm : Room} {Pc : Array Value → State → Prop} {Qc : Array Value → State → Outcome → State → Prop} {XC : String → State → State → Prop} {free : Addr → Prop} {Ts : List Cond} {own C : String} {b : Addr} {As rest : List Value} {g : JFrame}
theorem vx_runVX {hh : List (Nat × Nat × Nat × Nat)} (S : CallFix p m c cc nL s args Ts own) (hM : vx_Met l y ws rm Pc Qc XC mc ms free) (cw : vx_CVW R s args own C index y bytes maxL ret hh ws rm mc ms n) (hp : PreV s H C b Pc As)
    (hg : g.method = m) (hn : As.length = n) (hsize : g.locals.size = nL) (hstack : g.stack = As.reverse ++ .ref b :: rest) (hW : 2 * g.monitorRoom + (rest.map fun v => v.category).sum ≤ 8) (hdg : decode cc g.pc = .ok (.invokevirtual index, 3)) (hf : cells + mc ≤ R.cells ∧ slots + ms ≤ R.slots) :
    vx_Run p l e R s m args below meth c H locs cells slots mc ms g rest (Qc (Value.ref b :: As).toArray) XC free := by
  obtain ⟨⟨hrc, hrs, hfr, hlo, hws, hcw⟩, hcode, hini, hy, hlen, hl, hin, hse⟩ := cw
  have hK : vx_Back l R p e below s args y 3 8 (PreOf R mc ms Pc) (PostOf Qc mc ms free) (vx_Post XC mc ms free) := vx_backW (hh := hh) (bytes := bytes) (maxL := maxL) (ret := ret) hM hp.1 hrc hrs hfr hlo hws hcw (fun a' U hW => word_at hW (Or.inl (by first | rfl | simp [Cond.onTables, Cond.keeps, Cond.steady])) hini)
  obtain ⟨hx, hb, hml, ho, -⟩ := S
  obtain ⟨-, ⟨cellB, hcB, hoB, hclB⟩, hPc⟩ := hp
  intro T hT X
  rcases vx_callVX X hx (C := C) (hh := hh) (bytes := bytes) (maxL := maxL) (ret := ret) ho hl hin hse hcode hy hK (by rw [hT]; exact hcB) hoB hclB hg (hsize.trans hml.symm) (argsL := As) (rest := rest) (fun sig h => hn.trans (hlen sig h)) hstack hW (by rw [hb]; exact hdg)
    (fun vm₁ hW₁ => ⟨hf.1, hf.2, hPc (T.setVm vm₁) hT hW₁⟩) with ⟨v, vm₁, ⟨U', l2, c2, s2⟩, hW₁, X', ⟨g', mk, t, L, e1, e2, hq, h1, hL, h2, h3⟩, st⟩ | ⟨q, vm₁, ⟨U', l2, c2, s2⟩, hW₁, X', ⟨g', mk, t, L, E, ce, e1, e2, hq, hce, hcv, hcl, h1, hL, h2, h3⟩, st⟩
  · dsimp only [Pt.U, Pt.locs, Pt.cells, Pt.slots] at X' e1 e2 h1 h2 h3 st
    subst h1; subst h2; subst h3
    exact Or.inl ⟨v, (T.setVm vm₁).calling g' mk (Value.ref b :: As).toArray, t, U', L, hT, X', hL, e1, e2, hq, st⟩
  · dsimp only [Pt.U, Pt.locs, Pt.cells, Pt.slots] at X' e1 e2 h1 h2 h3 st hcl
    subst h1; subst h2; subst h3
    exact Or.inr ⟨q, (T.setVm vm₁).calling g' mk (Value.ref b :: As).toArray, t, U', L, E, ce, hT, X', hL, e1, e2, hq, hce, hcv, vx_cls hW₁ hcl, st⟩
theorem vx_runSX {hh : List (Nat × Nat × Nat × Nat)} (S : CallFix p m c cc nL s args Ts own) (hM : vx_Met l y ws rm Pc Qc XC mc ms free) (cw : vx_CSW R s args own index y bytes maxL ret hh ws rm mc ms n) (hp : PreS s H Pc As)
    (hg : g.method = m) (hn : As.length = n) (hsize : g.locals.size = nL) (hstack : g.stack = As.reverse ++ rest) (hW : 2 * g.monitorRoom + (rest.map fun v => v.category).sum ≤ 8) (hdg : decode cc g.pc = .ok (.invokestatic index, 3)) (hf : cells + mc ≤ R.cells ∧ slots + ms ≤ R.slots) :
    vx_Run p l e R s m args below meth c H locs cells slots mc ms g rest (Qc As.toArray) XC free := by
  obtain ⟨⟨hrc, hrs, hfr, hlo, hws, hcw⟩, hcode, hini, hy, hlen, hl, hstt⟩ := cw
  have hK : vx_Back l R p e below s args y 3 8 (PreOf R mc ms Pc) (PostOf Qc mc ms free) (vx_Post XC mc ms free) := vx_backW (hh := hh) (bytes := bytes) (maxL := maxL) (ret := ret) hM hp.1 hrc hrs hfr hlo hws hcw (fun a' U hW => word_at hW (Or.inl (by first | rfl | simp [Cond.onTables, Cond.keeps, Cond.steady])) hini)
  obtain ⟨hx, hb, hml, ho, -⟩ := S
  intro T hT X
  rcases vx_callSX X hx (hh := hh) (bytes := bytes) (maxL := maxL) (ret := ret) ho hl hstt hini hcode hy hK hg (hsize.trans hml.symm) (argsL := As) (rest := rest) (fun sig h => hn.trans (hlen sig h)) hstack hW (by rw [hb]; exact hdg)
    (fun vm₁ hW₁ => ⟨hf.1, hf.2, hp.2 (T.setVm vm₁) hT hW₁⟩) with ⟨v, vm₁, ⟨U', l2, c2, s2⟩, hW₁, X', ⟨g', mk, t, L, e1, e2, hq, h1, hL, h2, h3⟩, st⟩ | ⟨q, vm₁, ⟨U', l2, c2, s2⟩, hW₁, X', ⟨g', mk, t, L, E, ce, e1, e2, hq, hce, hcv, hcl, h1, hL, h2, h3⟩, st⟩
  · dsimp only [Pt.U, Pt.locs, Pt.cells, Pt.slots] at X' e1 e2 h1 h2 h3 st
    subst h1; subst h2; subst h3
    exact Or.inl ⟨v, (T.setVm vm₁).calling g' mk As.toArray, t, U', L, hT, X', hL, e1, e2, hq, st⟩
  · dsimp only [Pt.U, Pt.locs, Pt.cells, Pt.slots] at X' e1 e2 h1 h2 h3 st hcl
    subst h1; subst h2; subst h3
    exact Or.inr ⟨q, (T.setVm vm₁).calling g' mk As.toArray, t, U', L, E, ce, hT, X', hL, e1, e2, hq, hce, hcv, vx_cls hW₁ hcl, st⟩
end
end VXH
theorem vx_ofWH {l : Launch} {y : MethodName} {ws ws' : List Cond} {rm : Room} {Pc : Array Value → State → Prop} {Qc : Array Value → State → Outcome → State → Prop} {XC : String → State → State → Prop} {mc ms : Nat} {free : Addr → Prop} {cc : ByteArray} {maxL : Nat} {ret : Option FieldType} {hh : List (Nat × Nat × Nat × Nat)}
    (hy : plainName y.cls = true) (hw : ws = Cond.codeWith y cc maxL ret hh :: ws')
    (body : ∀ p e s m args below meth c s₁, BodyLoose p l y (headSpec ws rm) cc maxL ret e s m args below meth c s₁ → c.maxLocals = maxL → Pc args s →
      W p l e (headSpec ws rm).room s m args below meth c s.heap [] 0 0 (vx_MQ below Qc XC args s mc ms free) (entryFrame m args maxL)) : vx_Met l y ws rm Pc Qc XC mc ms free := by
  refine MetFree.of_bodyS (code := cc) (maxLocals := maxL) (ret := ret) hy ?_ ?_
  · intro args s m h hn
    obtain ⟨m9, meth, c, hn9, h1, h2, h3, h4, -, h5, h6, -⟩ := Cond.codeWith_spec (atoms_spec (ws := ws) h _ (by rw [hw]; exact List.mem_cons_self))
    cases hn.symm.trans hn9
    exact ⟨meth, c, h1, h2, h3, h4, h5, h6⟩
  · intro p e s m args below meth c s₁ B hml hP _
    have hh0 : s₁.heap = s.heap := by rw [B.state]; rfl
    obtain ⟨t, a1, o, b1, b2, b3⟩ := body p e s m args below meth c s₁ B hml hP s₁ hh0 (Stand.of_body B)
    exact ⟨t, o, a1, b1, b2, b3⟩
/-! ===== END ===== -/

/-! ===== BEGIN printed: names, fields, word lists, decode rows ===== -/
def RX0 : String := "Gladehall$Battle"
def TX0 : u_T := fun k => match k with
  | 0 => ("Gladehall$Battle", "first", "LGladehall$Side;", true)
  | 1 => ("Gladehall$Battle", "second", "LGladehall$Side;", true)
  | 2 => ("Gladehall$Battle", "struckPlaces", "[I", true)
  | 3 => ("Gladehall$Battle", "struckHealths", "[I", true)
  | _ => ("Gladehall$Battle", "blowsStruck", "I", false)
def tyX0 : Nat → FieldType := fun k => match k with
  | 0 => .object "Gladehall$Side"
  | 1 => .object "Gladehall$Side"
  | 2 => .array .int
  | 3 => .array .int
  | _ => .int
abbrev wsX00 : List Cond := u_ws RX0 TX0 5
theorem nmX0 : ∀ a, a < 5 → ∀ b, b < 5 → a ≠ b → (TX0 a).2.1 ≠ (TX0 b).2.1 := by decide +kernel
theorem tyX0_ok : ∀ k, k < 5 → parseFieldDescriptor (TX0 k).2.2.1 = some (tyX0 k) := by decide +kernel
abbrev cX0_init : ByteArray := prog_2_method_1_code
def yX0_init : MethodName := ⟨RX0, "<init>", "()V"⟩
abbrev cX0_muster : ByteArray := prog_2_method_2_code
def yX0_muster : MethodName := ⟨RX0, "muster", "(LGladehall$UnitRow;LGladehall$UnitRow;)V"⟩
abbrev cX0_fightOut : ByteArray := prog_2_method_3_code
def yX0_fightOut : MethodName := ⟨RX0, "fightOut", "()V"⟩
abbrev cX0_redo : ByteArray := prog_2_method_4_code
def yX0_redo : MethodName := ⟨RX0, "redo", "()V"⟩
abbrev cX0_result : ByteArray := prog_2_method_5_code
def yX0_result : MethodName := ⟨RX0, "result", "()I"⟩
def RX1 : String := "Gladehall$Numbers"
def TX1 : u_T := fun k => match k with
  | 0 => ("Gladehall$Numbers", "ring", "[I", true)
  | 1 => ("Gladehall$Numbers", "first", "I", false)
  | _ => ("Gladehall$Numbers", "left", "I", false)
def tyX1 : Nat → FieldType := fun k => match k with
  | 0 => .array .int
  | 1 => .int
  | _ => .int
abbrev wsX10 : List Cond := u_ws RX1 TX1 3
theorem nmX1 : ∀ a, a < 3 → ∀ b, b < 3 → a ≠ b → (TX1 a).2.1 ≠ (TX1 b).2.1 := by decide +kernel
theorem tyX1_ok : ∀ k, k < 3 → parseFieldDescriptor (TX1 k).2.2.1 = some (tyX1 k) := by decide +kernel
abbrev cX1_init : ByteArray := prog_3_method_1_code
def yX1_init : MethodName := ⟨RX1, "<init>", "()V"⟩
abbrev cX1_append : ByteArray := prog_3_method_2_code
def yX1_append : MethodName := ⟨RX1, "append", "(I)Z"⟩
abbrev cX1_take : ByteArray := prog_3_method_3_code
def yX1_take : MethodName := ⟨RX1, "take", "()I"⟩
def RX2 : String := "Gladehall$Player"
def TX2 : u_T := fun k => match k with
  | 0 => ("Gladehall$Player", "gold", "I", false)
  | 1 => ("Gladehall$Player", "level", "I", false)
  | 2 => ("Gladehall$Player", "health", "I", false)
  | 3 => ("Gladehall$Player", "streak", "I", false)
  | 4 => ("Gladehall$Player", "locked", "Z", false)
  | 5 => ("Gladehall$Player", "shop", "[I", true)
  | 6 => ("Gladehall$Player", "bench", "LGladehall$UnitRow;", true)
  | _ => ("Gladehall$Player", "board", "LGladehall$UnitRow;", true)
def tyX2 : Nat → FieldType := fun k => match k with
  | 0 => .int
  | 1 => .int
  | 2 => .int
  | 3 => .int
  | 4 => .boolean
  | 5 => .array .int
  | 6 => .object "Gladehall$UnitRow"
  | _ => .object "Gladehall$UnitRow"
abbrev wsX20 : List Cond := u_ws RX2 TX2 8
theorem nmX2 : ∀ a, a < 8 → ∀ b, b < 8 → a ≠ b → (TX2 a).2.1 ≠ (TX2 b).2.1 := by decide +kernel
theorem tyX2_ok : ∀ k, k < 8 → parseFieldDescriptor (TX2 k).2.2.1 = some (tyX2 k) := by decide +kernel
abbrev cX2_init : ByteArray := prog_4_method_1_code
def yX2_init : MethodName := ⟨RX2, "<init>", "()V"⟩
abbrev cX2_addGold : ByteArray := prog_4_method_2_code
def yX2_addGold : MethodName := ⟨RX2, "addGold", "(I)V"⟩
abbrev cX2_earn : ByteArray := prog_4_method_3_code
def yX2_earn : MethodName := ⟨RX2, "earn", "()V"⟩
abbrev cX2_win : ByteArray := prog_4_method_4_code
def yX2_win : MethodName := ⟨RX2, "win", "()V"⟩
abbrev cX2_lose : ByteArray := prog_4_method_5_code
def yX2_lose : MethodName := ⟨RX2, "lose", "(I)V"⟩
abbrev cX2_unitsHeld : ByteArray := prog_4_method_6_code
def yX2_unitsHeld : MethodName := ⟨RX2, "unitsHeld", "(I)I"⟩
abbrev cX2_mergeThrees : ByteArray := prog_4_method_7_code
def yX2_mergeThrees : MethodName := ⟨RX2, "mergeThrees", "()V"⟩
abbrev cX2_mergeFirstThree : ByteArray := prog_4_method_8_code
def yX2_mergeFirstThree : MethodName := ⟨RX2, "mergeFirstThree", "()Z"⟩
abbrev cX2_mergeThree : ByteArray := prog_4_method_9_code
def yX2_mergeThree : MethodName := ⟨RX2, "mergeThree", "(II)V"⟩
abbrev cX2_rowOfFirst : ByteArray := prog_4_method_10_code
def yX2_rowOfFirst : MethodName := ⟨RX2, "rowOfFirst", "(II)LGladehall$UnitRow;"⟩
def RX3 : String := "Gladehall$Pool"
def TX3 : u_T := fun k => match k with
  | _ => ("Gladehall$Pool", "units", "[I", true)
def tyX3 : Nat → FieldType := fun k => match k with
  | _ => .array .int
abbrev wsX30 : List Cond := u_ws RX3 TX3 1
theorem nmX3 : ∀ a, a < 1 → ∀ b, b < 1 → a ≠ b → (TX3 a).2.1 ≠ (TX3 b).2.1 := by decide +kernel
theorem tyX3_ok : ∀ k, k < 1 → parseFieldDescriptor (TX3 k).2.2.1 = some (tyX3 k) := by decide +kernel
abbrev cX3_init : ByteArray := prog_5_method_1_code
def yX3_init : MethodName := ⟨RX3, "<init>", "()V"⟩
abbrev cX3_putBack : ByteArray := prog_5_method_2_code
def yX3_putBack : MethodName := ⟨RX3, "putBack", "(II)V"⟩
abbrev cX3_unitsUpTo : ByteArray := prog_5_method_3_code
def yX3_unitsUpTo : MethodName := ⟨RX3, "unitsUpTo", "(I)I"⟩
abbrev cX3_draw : ByteArray := prog_5_method_4_code
def yX3_draw : MethodName := ⟨RX3, "draw", "(II)I"⟩
def RX4 : String := "Gladehall$Side"
def TX4 : u_T := fun k => match k with
  | 0 => ("Gladehall$Side", "healths", "[I", true)
  | 1 => ("Gladehall$Side", "strengths", "[I", true)
  | 2 => ("Gladehall$Side", "size", "I", false)
  | _ => ("Gladehall$Side", "next", "I", false)
def tyX4 : Nat → FieldType := fun k => match k with
  | 0 => .array .int
  | 1 => .array .int
  | 2 => .int
  | _ => .int
abbrev wsX40 : List Cond := u_ws RX4 TX4 4
theorem nmX4 : ∀ a, a < 4 → ∀ b, b < 4 → a ≠ b → (TX4 a).2.1 ≠ (TX4 b).2.1 := by decide +kernel
theorem tyX4_ok : ∀ k, k < 4 → parseFieldDescriptor (TX4 k).2.2.1 = some (tyX4 k) := by decide +kernel
abbrev cX4_init : ByteArray := prog_6_method_1_code
def yX4_init : MethodName := ⟨RX4, "<init>", "()V"⟩
abbrev cX4_muster : ByteArray := prog_6_method_2_code
def yX4_muster : MethodName := ⟨RX4, "muster", "(LGladehall$UnitRow;)V"⟩
abbrev cX4_living : ByteArray := prog_6_method_3_code
def yX4_living : MethodName := ⟨RX4, "living", "()I"⟩
abbrev cX4_firstLiving : ByteArray := prog_6_method_4_code
def yX4_firstLiving : MethodName := ⟨RX4, "firstLiving", "()I"⟩
abbrev cX4_takeTurn : ByteArray := prog_6_method_5_code
def yX4_takeTurn : MethodName := ⟨RX4, "takeTurn", "()I"⟩
def RX5 : String := "Gladehall$UnitRow"
def TX5 : u_T := fun k => match k with
  | 0 => ("Gladehall$UnitRow", "kinds", "[I", true)
  | 1 => ("Gladehall$UnitRow", "stars", "[I", true)
  | _ => ("Gladehall$UnitRow", "size", "I", false)
def tyX5 : Nat → FieldType := fun k => match k with
  | 0 => .array .int
  | 1 => .array .int
  | _ => .int
abbrev wsX50 : List Cond := u_ws RX5 TX5 3
theorem nmX5 : ∀ a, a < 3 → ∀ b, b < 3 → a ≠ b → (TX5 a).2.1 ≠ (TX5 b).2.1 := by decide +kernel
theorem tyX5_ok : ∀ k, k < 3 → parseFieldDescriptor (TX5 k).2.2.1 = some (tyX5 k) := by decide +kernel
abbrev cX5_init : ByteArray := prog_7_method_1_code
def yX5_init : MethodName := ⟨RX5, "<init>", "(I)V"⟩
abbrev cX5_has : ByteArray := prog_7_method_2_code
def yX5_has : MethodName := ⟨RX5, "has", "(I)Z"⟩
abbrev cX5_append : ByteArray := prog_7_method_3_code
def yX5_append : MethodName := ⟨RX5, "append", "(II)Z"⟩
abbrev cX5_removeAt : ByteArray := prog_7_method_4_code
def yX5_removeAt : MethodName := ⟨RX5, "removeAt", "(I)V"⟩
abbrev cX5_find : ByteArray := prog_7_method_5_code
def yX5_find : MethodName := ⟨RX5, "find", "(II)I"⟩
abbrev cX5_countOf : ByteArray := prog_7_method_6_code
def yX5_countOf : MethodName := ⟨RX5, "countOf", "(II)I"⟩
abbrev cX5_hasKind : ByteArray := prog_7_method_7_code
def yX5_hasKind : MethodName := ⟨RX5, "hasKind", "(I)Z"⟩
abbrev cX5_unitsHeld : ByteArray := prog_7_method_8_code
def yX5_unitsHeld : MethodName := ⟨RX5, "unitsHeld", "(I)I"⟩
abbrev cX5_unitAt : ByteArray := prog_7_method_9_code
def yX5_unitAt : MethodName := ⟨RX5, "unitAt", "(I)I"⟩
abbrev cX5_healthAt : ByteArray := prog_7_method_10_code
def yX5_healthAt : MethodName := ⟨RX5, "healthAt", "(I)I"⟩
abbrev cX5_strengthAt : ByteArray := prog_7_method_11_code
def yX5_strengthAt : MethodName := ⟨RX5, "strengthAt", "(I)I"⟩
def RX6 : String := "Gladehall"
def TX6 : u_T := fun k => match k with
  | 0 => ("Gladehall", "players", "[LGladehall$Player;", true)
  | 1 => ("Gladehall", "stock", "LGladehall$Pool;", true)
  | 2 => ("Gladehall", "numbers", "LGladehall$Numbers;", true)
  | 3 => ("Gladehall", "battle", "LGladehall$Battle;", true)
  | _ => ("Gladehall", "roundsPlayed", "I", false)
def tyX6 : Nat → FieldType := fun k => match k with
  | 0 => .array (.object "Gladehall$Player")
  | 1 => .object "Gladehall$Pool"
  | 2 => .object "Gladehall$Numbers"
  | 3 => .object "Gladehall$Battle"
  | _ => .int
abbrev wsX60 : List Cond := u_ws RX6 TX6 5
theorem nmX6 : ∀ a, a < 5 → ∀ b, b < 5 → a ≠ b → (TX6 a).2.1 ≠ (TX6 b).2.1 := by decide +kernel
theorem tyX6_ok : ∀ k, k < 5 → parseFieldDescriptor (TX6 k).2.2.1 = some (tyX6 k) := by decide +kernel
abbrev cX6_init : ByteArray := prog_1_method_1_code
def yX6_init : MethodName := ⟨RX6, "<init>", "()V"⟩
abbrev cX6_tell : ByteArray := prog_1_method_2_code
def yX6_tell : MethodName := ⟨RX6, "tell", "(I)I"⟩
abbrev cX6_roll : ByteArray := prog_1_method_3_code
def yX6_roll : MethodName := ⟨RX6, "roll", "(I)I"⟩
abbrev cX6_toggleLock : ByteArray := prog_1_method_4_code
def yX6_toggleLock : MethodName := ⟨RX6, "toggleLock", "(I)Z"⟩
abbrev cX6_buyLevel : ByteArray := prog_1_method_5_code
def yX6_buyLevel : MethodName := ⟨RX6, "buyLevel", "(I)I"⟩
abbrev cX6_buy : ByteArray := prog_1_method_6_code
def yX6_buy : MethodName := ⟨RX6, "buy", "(II)I"⟩
abbrev cX6_sell : ByteArray := prog_1_method_7_code
def yX6_sell : MethodName := ⟨RX6, "sell", "(II)I"⟩
abbrev cX6_toBoard : ByteArray := prog_1_method_8_code
def yX6_toBoard : MethodName := ⟨RX6, "toBoard", "(II)I"⟩
abbrev cX6_toBench : ByteArray := prog_1_method_9_code
def yX6_toBench : MethodName := ⟨RX6, "toBench", "(II)I"⟩
abbrev cX6_round : ByteArray := prog_1_method_10_code
def yX6_round : MethodName := ⟨RX6, "round", "()I"⟩
abbrev cX6_rounds : ByteArray := prog_1_method_11_code
def yX6_rounds : MethodName := ⟨RX6, "rounds", "()I"⟩
abbrev cX6_fight : ByteArray := prog_1_method_12_code
def yX6_fight : MethodName := ⟨RX6, "fight", "(II)I"⟩
abbrev cX6_fightByRecord : ByteArray := prog_1_method_13_code
def yX6_fightByRecord : MethodName := ⟨RX6, "fightByRecord", "(II)I"⟩
abbrev cX6_gold : ByteArray := prog_1_method_14_code
def yX6_gold : MethodName := ⟨RX6, "gold", "(I)I"⟩
abbrev cX6_health : ByteArray := prog_1_method_15_code
def yX6_health : MethodName := ⟨RX6, "health", "(I)I"⟩
abbrev cX6_streak : ByteArray := prog_1_method_16_code
def yX6_streak : MethodName := ⟨RX6, "streak", "(I)I"⟩
abbrev cX6_shopAt : ByteArray := prog_1_method_17_code
def yX6_shopAt : MethodName := ⟨RX6, "shopAt", "(II)I"⟩
abbrev cX6_benchAt : ByteArray := prog_1_method_18_code
def yX6_benchAt : MethodName := ⟨RX6, "benchAt", "(II)I"⟩
abbrev cX6_boardAt : ByteArray := prog_1_method_19_code
def yX6_boardAt : MethodName := ⟨RX6, "boardAt", "(II)I"⟩
abbrev cX6_blow : ByteArray := prog_1_method_20_code
def yX6_blow : MethodName := ⟨RX6, "blow", "(II)I"⟩
abbrev cX6_pool : ByteArray := prog_1_method_21_code
def yX6_pool : MethodName := ⟨RX6, "pool", "(I)I"⟩
abbrev cX6_out : ByteArray := prog_1_method_22_code
def yX6_out : MethodName := ⟨RX6, "out", "(I)I"⟩
abbrev cX6_playerOf : ByteArray := prog_1_method_23_code
def yX6_playerOf : MethodName := ⟨RX6, "playerOf", "(I)LGladehall$Player;"⟩
abbrev cX6_requireKind : ByteArray := prog_1_method_24_code
def yX6_requireKind : MethodName := ⟨RX6, "requireKind", "(I)V"⟩
abbrev cX6_requireSlot : ByteArray := prog_1_method_25_code
def yX6_requireSlot : MethodName := ⟨RX6, "requireSlot", "(I)V"⟩
abbrev cX6_requireUnit : ByteArray := prog_1_method_26_code
def yX6_requireUnit : MethodName := ⟨RX6, "requireUnit", "(LGladehall$UnitRow;I)V"⟩
abbrev cX6_musterSides : ByteArray := prog_1_method_27_code
def yX6_musterSides : MethodName := ⟨RX6, "musterSides", "(II)V"⟩
abbrev cX6_fightPair : ByteArray := prog_1_method_28_code
def yX6_fightPair : MethodName := ⟨RX6, "fightPair", "(II)V"⟩
abbrev cX6_fillUnlockedShops : ByteArray := prog_1_method_29_code
def yX6_fillUnlockedShops : MethodName := ⟨RX6, "fillUnlockedShops", "()V"⟩
abbrev cX6_fillShop : ByteArray := prog_1_method_30_code
def yX6_fillShop : MethodName := ⟨RX6, "fillShop", "(LGladehall$Player;)V"⟩
abbrev cX6_playersWithHealth : ByteArray := prog_1_method_31_code
def yX6_playersWithHealth : MethodName := ⟨RX6, "playersWithHealth", "()I"⟩
abbrev cX6_costOf : ByteArray := prog_1_method_32_code
def yX6_costOf : MethodName := ⟨RX6, "costOf", "(I)I"⟩
abbrev cX6_unitsFor : ByteArray := prog_1_method_33_code
def yX6_unitsFor : MethodName := ⟨RX6, "unitsFor", "(I)I"⟩
def RX7 : String := "GladehallModel"
def TX7 : u_T := fun k => match k with
  | 0 => ("GladehallModel", "thrown", "I", false)
  | 1 => ("GladehallModel", "rounds", "I", false)
  | 2 => ("GladehallModel", "begin", "I", false)
  | 3 => ("GladehallModel", "told", "I", false)
  | 4 => ("GladehallModel", "numbers", "[I", true)
  | 5 => ("GladehallModel", "pool", "[I", true)
  | 6 => ("GladehallModel", "gold", "[I", true)
  | 7 => ("GladehallModel", "levels", "[I", true)
  | 8 => ("GladehallModel", "health", "[I", true)
  | 9 => ("GladehallModel", "streaks", "[I", true)
  | 10 => ("GladehallModel", "shops", "[I", true)
  | 11 => ("GladehallModel", "areLocked", "[Z", true)
  | 12 => ("GladehallModel", "benched", "[I", true)
  | 13 => ("GladehallModel", "benches", "[I", true)
  | 14 => ("GladehallModel", "boarded", "[I", true)
  | 15 => ("GladehallModel", "boards", "[I", true)
  | 16 => ("GladehallModel", "many", "[I", true)
  | 17 => ("GladehallModel", "turns", "[I", true)
  | _ => ("GladehallModel", "left", "[I", true)
def tyX7 : Nat → FieldType := fun k => match k with
  | 0 => .int
  | 1 => .int
  | 2 => .int
  | 3 => .int
  | 4 => .array .int
  | 5 => .array .int
  | 6 => .array .int
  | 7 => .array .int
  | 8 => .array .int
  | 9 => .array .int
  | 10 => .array .int
  | 11 => .array .boolean
  | 12 => .array .int
  | 13 => .array .int
  | 14 => .array .int
  | 15 => .array .int
  | 16 => .array .int
  | 17 => .array .int
  | _ => .array .int
abbrev wsX70 : List Cond := u_ws RX7 TX7 19
theorem nmX7 : ∀ a, a < 19 → ∀ b, b < 19 → a ≠ b → (TX7 a).2.1 ≠ (TX7 b).2.1 := by decide +kernel
theorem tyX7_ok : ∀ k, k < 19 → parseFieldDescriptor (TX7 k).2.2.1 = some (tyX7 k) := by decide +kernel
abbrev cX7_init : ByteArray := prog_9_method_1_code
def yX7_init : MethodName := ⟨RX7, "<init>", "()V"⟩
abbrev cX7_thrown : ByteArray := prog_9_method_2_code
def yX7_thrown : MethodName := ⟨RX7, "thrown", "()I"⟩
abbrev cX7_holds : ByteArray := prog_9_method_3_code
def yX7_holds : MethodName := ⟨RX7, "holds", "(I)Z"⟩
abbrev cX7_in : ByteArray := prog_9_method_4_code
def yX7_in : MethodName := ⟨RX7, "in", "(III)Z"⟩
abbrev cX7_isPlayer : ByteArray := prog_9_method_5_code
def yX7_isPlayer : MethodName := ⟨RX7, "isPlayer", "(I)Z"⟩
abbrev cX7_isSlot : ByteArray := prog_9_method_6_code
def yX7_isSlot : MethodName := ⟨RX7, "isSlot", "(II)Z"⟩
abbrev cX7_cost : ByteArray := prog_9_method_7_code
def yX7_cost : MethodName := ⟨RX7, "cost", "(I)I"⟩
abbrev cX7_worth : ByteArray := prog_9_method_8_code
def yX7_worth : MethodName := ⟨RX7, "worth", "(I)I"⟩
abbrev cX7_least : ByteArray := prog_9_method_9_code
def yX7_least : MethodName := ⟨RX7, "least", "(II)I"⟩
abbrev cX7_tell : ByteArray := prog_9_method_10_code
def yX7_tell : MethodName := ⟨RX7, "tell", "(I)I"⟩
abbrev cX7_next : ByteArray := prog_9_method_11_code
def yX7_next : MethodName := ⟨RX7, "next", "()I"⟩
abbrev cX7_fillsSlot : ByteArray := prog_9_method_12_code
def yX7_fillsSlot : MethodName := ⟨RX7, "fillsSlot", "(II)V"⟩
abbrev cX7_fills : ByteArray := prog_9_method_13_code
def yX7_fills : MethodName := ⟨RX7, "fills", "(I)V"⟩
abbrev cX7_roll : ByteArray := prog_9_method_14_code
def yX7_roll : MethodName := ⟨RX7, "roll", "(I)I"⟩
abbrev cX7_toggleLock : ByteArray := prog_9_method_15_code
def yX7_toggleLock : MethodName := ⟨RX7, "toggleLock", "(I)Z"⟩
abbrev cX7_buyLevel : ByteArray := prog_9_method_16_code
def yX7_buyLevel : MethodName := ⟨RX7, "buyLevel", "(I)I"⟩
abbrev cX7_alike : ByteArray := prog_9_method_17_code
def yX7_alike : MethodName := ⟨RX7, "alike", "(II)I"⟩
abbrev cX7_takesOffBoard : ByteArray := prog_9_method_18_code
def yX7_takesOffBoard : MethodName := ⟨RX7, "takesOffBoard", "(II)V"⟩
abbrev cX7_takesOffBench : ByteArray := prog_9_method_19_code
def yX7_takesOffBench : MethodName := ⟨RX7, "takesOffBench", "(II)V"⟩
abbrev cX7_placeOf : ByteArray := prog_9_method_20_code
def yX7_placeOf : MethodName := ⟨RX7, "placeOf", "(III)I"⟩
abbrev cX7_takes : ByteArray := prog_9_method_21_code
def yX7_takes : MethodName := ⟨RX7, "takes", "(II)V"⟩
abbrev cX7_merge : ByteArray := prog_9_method_22_code
def yX7_merge : MethodName := ⟨RX7, "merge", "(II)V"⟩
abbrev cX7_merges : ByteArray := prog_9_method_23_code
def yX7_merges : MethodName := ⟨RX7, "merges", "(I)V"⟩
abbrev cX7_errorOfBuy : ByteArray := prog_9_method_24_code
def yX7_errorOfBuy : MethodName := ⟨RX7, "errorOfBuy", "(II)I"⟩
abbrev cX7_buy : ByteArray := prog_9_method_25_code
def yX7_buy : MethodName := ⟨RX7, "buy", "(II)I"⟩
abbrev cX7_isOnBench : ByteArray := prog_9_method_26_code
def yX7_isOnBench : MethodName := ⟨RX7, "isOnBench", "(II)Z"⟩
abbrev cX7_isOnBoard : ByteArray := prog_9_method_27_code
def yX7_isOnBoard : MethodName := ⟨RX7, "isOnBoard", "(II)Z"⟩
abbrev cX7_sell : ByteArray := prog_9_method_28_code
def yX7_sell : MethodName := ⟨RX7, "sell", "(II)I"⟩
abbrev cX7_toBoard : ByteArray := prog_9_method_29_code
def yX7_toBoard : MethodName := ⟨RX7, "toBoard", "(II)I"⟩
abbrev cX7_toBench : ByteArray := prog_9_method_30_code
def yX7_toBench : MethodName := ⟨RX7, "toBench", "(II)I"⟩
abbrev cX7_blowOf : ByteArray := prog_9_method_31_code
def yX7_blowOf : MethodName := ⟨RX7, "blowOf", "(II)I"⟩
abbrev cX7_stands : ByteArray := prog_9_method_32_code
def yX7_stands : MethodName := ⟨RX7, "stands", "(II)V"⟩
abbrev cX7_living : ByteArray := prog_9_method_33_code
def yX7_living : MethodName := ⟨RX7, "living", "(I)I"⟩
abbrev cX7_blows : ByteArray := prog_9_method_34_code
def yX7_blows : MethodName := ⟨RX7, "blows", "(II)V"⟩
abbrev cX7_fought : ByteArray := prog_9_method_35_code
def yX7_fought : MethodName := ⟨RX7, "fought", "(II)I"⟩
abbrev cX7_wins : ByteArray := prog_9_method_36_code
def yX7_wins : MethodName := ⟨RX7, "wins", "(III)V"⟩
abbrev cX7_pairs : ByteArray := prog_9_method_37_code
def yX7_pairs : MethodName := ⟨RX7, "pairs", "(II)V"⟩
abbrev cX7_third : ByteArray := prog_9_method_38_code
def yX7_third : MethodName := ⟨RX7, "third", "(I)I"⟩
abbrev cX7_round : ByteArray := prog_9_method_39_code
def yX7_round : MethodName := ⟨RX7, "round", "()I"⟩
abbrev cX7_rounds : ByteArray := prog_9_method_40_code
def yX7_rounds : MethodName := ⟨RX7, "rounds", "()I"⟩
abbrev cX7_mayFight : ByteArray := prog_9_method_41_code
def yX7_mayFight : MethodName := ⟨RX7, "mayFight", "(II)Z"⟩
abbrev cX7_fight : ByteArray := prog_9_method_42_code
def yX7_fight : MethodName := ⟨RX7, "fight", "(II)I"⟩
abbrev cX7_fightByRecord : ByteArray := prog_9_method_43_code
def yX7_fightByRecord : MethodName := ⟨RX7, "fightByRecord", "(II)I"⟩
abbrev cX7_gold : ByteArray := prog_9_method_44_code
def yX7_gold : MethodName := ⟨RX7, "gold", "(I)I"⟩
abbrev cX7_health : ByteArray := prog_9_method_45_code
def yX7_health : MethodName := ⟨RX7, "health", "(I)I"⟩
abbrev cX7_streak : ByteArray := prog_9_method_46_code
def yX7_streak : MethodName := ⟨RX7, "streak", "(I)I"⟩
abbrev cX7_shopAt : ByteArray := prog_9_method_47_code
def yX7_shopAt : MethodName := ⟨RX7, "shopAt", "(II)I"⟩
abbrev cX7_benchAt : ByteArray := prog_9_method_48_code
def yX7_benchAt : MethodName := ⟨RX7, "benchAt", "(II)I"⟩
abbrev cX7_boardAt : ByteArray := prog_9_method_49_code
def yX7_boardAt : MethodName := ⟨RX7, "boardAt", "(II)I"⟩
abbrev cX7_blow : ByteArray := prog_9_method_50_code
def yX7_blow : MethodName := ⟨RX7, "blow", "(II)I"⟩
abbrev cX7_isKind : ByteArray := prog_9_method_51_code
def yX7_isKind : MethodName := ⟨RX7, "isKind", "(I)Z"⟩
abbrev cX7_pool : ByteArray := prog_9_method_52_code
def yX7_pool : MethodName := ⟨RX7, "pool", "(I)I"⟩
abbrev cX7_out : ByteArray := prog_9_method_53_code
def yX7_out : MethodName := ⟨RX7, "out", "(I)I"⟩
def RJx145de : String := "java/io/Serializable"
def TJx145de : u_T := fun k => match k with
  | _ => ("", "", "", false)
def tyJx145de : Nat → FieldType := fun k => match k with
  | _ => .int
theorem nmJx145de : ∀ a, a < 0 → ∀ b, b < 0 → a ≠ b → (TJx145de a).2.1 ≠ (TJx145de b).2.1 := by decide +kernel
theorem tyJx145de_ok : ∀ k, k < 0 → parseFieldDescriptor (TJx145de k).2.2.1 = some (tyJx145de k) := by decide +kernel
def RJ9 : String := "java/lang/Math"
def TJ9 : u_T := fun k => match k with
  | _ => ("", "", "", false)
def tyJ9 : Nat → FieldType := fun k => match k with
  | _ => .int
theorem nmJ9 : ∀ a, a < 0 → ∀ b, b < 0 → a ≠ b → (TJ9 a).2.1 ≠ (TJ9 b).2.1 := by decide +kernel
theorem tyJ9_ok : ∀ k, k < 0 → parseFieldDescriptor (TJ9 k).2.2.1 = some (tyJ9 k) := by decide +kernel
abbrev cJ9_min_7cf53 : ByteArray := prog_15_method_69_code
def yJ9_min_7cf53 : MethodName := ⟨RJ9, "min", "(II)I"⟩
def RJ0 : String := "java/lang/String"
def TJ0 : u_T := fun k => match k with
  | _ => ("", "", "", false)
def tyJ0 : Nat → FieldType := fun k => match k with
  | _ => .int
theorem nmJ0 : ∀ a, a < 0 → ∀ b, b < 0 → a ≠ b → (TJ0 a).2.1 ≠ (TJ0 b).2.1 := by decide +kernel
theorem tyJ0_ok : ∀ k, k < 0 → parseFieldDescriptor (TJ0 k).2.2.1 = some (tyJ0 k) := by decide +kernel
def RL : String := "GladehallLaw"
abbrev cL_tell : ByteArray := method_3_code
def yL_tell : MethodName := ⟨RL, "tell", "(LGladehall;I[J)I"⟩
abbrev cL_roll : ByteArray := method_4_code
def yL_roll : MethodName := ⟨RL, "roll", "(LGladehall;I[J)I"⟩
abbrev cL_toggleLock : ByteArray := method_5_code
def yL_toggleLock : MethodName := ⟨RL, "toggleLock", "(LGladehall;I[J)I"⟩
abbrev cL_buyLevel : ByteArray := method_6_code
def yL_buyLevel : MethodName := ⟨RL, "buyLevel", "(LGladehall;I[J)I"⟩
abbrev cL_buy : ByteArray := method_7_code
def yL_buy : MethodName := ⟨RL, "buy", "(LGladehall;II[J)I"⟩
abbrev cL_sell : ByteArray := method_8_code
def yL_sell : MethodName := ⟨RL, "sell", "(LGladehall;II[J)I"⟩
abbrev cL_toBoard : ByteArray := method_9_code
def yL_toBoard : MethodName := ⟨RL, "toBoard", "(LGladehall;II[J)I"⟩
abbrev cL_toBench : ByteArray := method_10_code
def yL_toBench : MethodName := ⟨RL, "toBench", "(LGladehall;II[J)I"⟩
abbrev cL_round : ByteArray := method_11_code
def yL_round : MethodName := ⟨RL, "round", "(LGladehall;[J)I"⟩
abbrev cL_fight : ByteArray := method_12_code
def yL_fight : MethodName := ⟨RL, "fight", "(LGladehall;II[J)I"⟩
abbrev cL_fightByRecord : ByteArray := method_13_code
def yL_fightByRecord : MethodName := ⟨RL, "fightByRecord", "(LGladehall;II[J)I"⟩
abbrev cL_gold : ByteArray := method_14_code
def yL_gold : MethodName := ⟨RL, "gold", "(LGladehall;I[J)I"⟩
abbrev cL_health : ByteArray := method_15_code
def yL_health : MethodName := ⟨RL, "health", "(LGladehall;I[J)I"⟩
abbrev cL_streak : ByteArray := method_16_code
def yL_streak : MethodName := ⟨RL, "streak", "(LGladehall;I[J)I"⟩
abbrev cL_shopAt : ByteArray := method_17_code
def yL_shopAt : MethodName := ⟨RL, "shopAt", "(LGladehall;II[J)I"⟩
abbrev cL_benchAt : ByteArray := method_18_code
def yL_benchAt : MethodName := ⟨RL, "benchAt", "(LGladehall;II[J)I"⟩
abbrev cL_boardAt : ByteArray := method_19_code
def yL_boardAt : MethodName := ⟨RL, "boardAt", "(LGladehall;II[J)I"⟩
abbrev cL_blow : ByteArray := method_20_code
def yL_blow : MethodName := ⟨RL, "blow", "(LGladehall;II[J)I"⟩
abbrev cL_pool : ByteArray := method_21_code
def yL_pool : MethodName := ⟨RL, "pool", "(LGladehall;I[J)I"⟩
abbrev cL_out : ByteArray := method_22_code
def yL_out : MethodName := ⟨RL, "out", "(LGladehall;I[J)I"⟩
abbrev cL_law : ByteArray := code
def yL_law : MethodName := ⟨RL, "law", "([I)Z"⟩
theorem dX0_init_0 : decode cX0_init 0 = .ok (.aload_n 0, 1) := by decide +kernel
theorem dX0_init_1 : decode cX0_init 1 = .ok (.invokespecial 3, 3) := by decide +kernel
theorem dX0_init_4 : decode cX0_init 4 = .ok (.aload_n 0, 1) := by decide +kernel
theorem dX0_init_5 : decode cX0_init 5 = .ok (.new 9, 3) := by decide +kernel
theorem dX0_init_8 : decode cX0_init 8 = .ok (.dup, 1) := by decide +kernel
theorem dX0_init_9 : decode cX0_init 9 = .ok (.invokespecial 11, 3) := by decide +kernel
theorem dX0_init_12 : decode cX0_init 12 = .ok (.putfield 12, 3) := by decide +kernel
theorem dX0_init_15 : decode cX0_init 15 = .ok (.aload_n 0, 1) := by decide +kernel
theorem dX0_init_16 : decode cX0_init 16 = .ok (.new 9, 3) := by decide +kernel
theorem dX0_init_19 : decode cX0_init 19 = .ok (.dup, 1) := by decide +kernel
theorem dX0_init_20 : decode cX0_init 20 = .ok (.invokespecial 11, 3) := by decide +kernel
theorem dX0_init_23 : decode cX0_init 23 = .ok (.putfield 18, 3) := by decide +kernel
theorem dX0_init_26 : decode cX0_init 26 = .ok (.aload_n 0, 1) := by decide +kernel
theorem dX0_init_27 : decode cX0_init 27 = .ok (.bipush 60, 2) := by decide +kernel
theorem dX0_init_29 : decode cX0_init 29 = .ok (.newarray .int, 2) := by decide +kernel
theorem dX0_init_31 : decode cX0_init 31 = .ok (.putfield 21, 3) := by decide +kernel
theorem dX0_init_34 : decode cX0_init 34 = .ok (.aload_n 0, 1) := by decide +kernel
theorem dX0_init_35 : decode cX0_init 35 = .ok (.bipush 60, 2) := by decide +kernel
theorem dX0_init_37 : decode cX0_init 37 = .ok (.newarray .int, 2) := by decide +kernel
theorem dX0_init_39 : decode cX0_init 39 = .ok (.putfield 25, 3) := by decide +kernel
theorem dX0_init_42 : decode cX0_init 42 = .ok (.return_, 1) := by decide +kernel
theorem dX0_muster_0 : decode cX0_muster 0 = .ok (.aload_n 0, 1) := by decide +kernel
theorem dX0_muster_1 : decode cX0_muster 1 = .ok (.getfield 12, 3) := by decide +kernel
theorem dX0_muster_4 : decode cX0_muster 4 = .ok (.aload_n 1, 1) := by decide +kernel
theorem dX0_muster_5 : decode cX0_muster 5 = .ok (.invokevirtual 28, 3) := by decide +kernel
theorem dX0_muster_8 : decode cX0_muster 8 = .ok (.aload_n 0, 1) := by decide +kernel
theorem dX0_muster_9 : decode cX0_muster 9 = .ok (.getfield 18, 3) := by decide +kernel
theorem dX0_muster_12 : decode cX0_muster 12 = .ok (.aload_n 2, 1) := by decide +kernel
theorem dX0_muster_13 : decode cX0_muster 13 = .ok (.invokevirtual 28, 3) := by decide +kernel
theorem dX0_muster_16 : decode cX0_muster 16 = .ok (.return_, 1) := by decide +kernel
theorem dX0_fightOut_0 : decode cX0_fightOut 0 = .ok (.aload_n 0, 1) := by decide +kernel
theorem dX0_fightOut_1 : decode cX0_fightOut 1 = .ok (.iconst 0, 1) := by decide +kernel
theorem dX0_fightOut_2 : decode cX0_fightOut 2 = .ok (.putfield 32, 3) := by decide +kernel
theorem dX0_fightOut_5 : decode cX0_fightOut 5 = .ok (.iconst 0, 1) := by decide +kernel
theorem dX0_fightOut_6 : decode cX0_fightOut 6 = .ok (.istore_n 1, 1) := by decide +kernel
theorem dX0_fightOut_7 : decode cX0_fightOut 7 = .ok (.iload_n 1, 1) := by decide +kernel
theorem dX0_fightOut_8 : decode cX0_fightOut 8 = .ok (.bipush 60, 2) := by decide +kernel
theorem dX0_fightOut_10 : decode cX0_fightOut 10 = .ok (.if_icmp .ge 118, 3) := by decide +kernel
theorem dX0_fightOut_13 : decode cX0_fightOut 13 = .ok (.iload_n 1, 1) := by decide +kernel
theorem dX0_fightOut_14 : decode cX0_fightOut 14 = .ok (.iconst 2, 1) := by decide +kernel
theorem dX0_fightOut_15 : decode cX0_fightOut 15 = .ok (.irem, 1) := by decide +kernel
theorem dX0_fightOut_16 : decode cX0_fightOut 16 = .ok (.ifCond .ne 10, 3) := by decide +kernel
theorem dX0_fightOut_19 : decode cX0_fightOut 19 = .ok (.aload_n 0, 1) := by decide +kernel
theorem dX0_fightOut_20 : decode cX0_fightOut 20 = .ok (.getfield 12, 3) := by decide +kernel
theorem dX0_fightOut_23 : decode cX0_fightOut 23 = .ok (.goto 7, 3) := by decide +kernel
theorem dX0_fightOut_26 : decode cX0_fightOut 26 = .ok (.aload_n 0, 1) := by decide +kernel
theorem dX0_fightOut_27 : decode cX0_fightOut 27 = .ok (.getfield 18, 3) := by decide +kernel
theorem dX0_fightOut_30 : decode cX0_fightOut 30 = .ok (.astore_n 2, 1) := by decide +kernel
theorem dX0_fightOut_31 : decode cX0_fightOut 31 = .ok (.iload_n 1, 1) := by decide +kernel
theorem dX0_fightOut_32 : decode cX0_fightOut 32 = .ok (.iconst 2, 1) := by decide +kernel
theorem dX0_fightOut_33 : decode cX0_fightOut 33 = .ok (.irem, 1) := by decide +kernel
theorem dX0_fightOut_34 : decode cX0_fightOut 34 = .ok (.ifCond .ne 10, 3) := by decide +kernel
theorem dX0_fightOut_37 : decode cX0_fightOut 37 = .ok (.aload_n 0, 1) := by decide +kernel
theorem dX0_fightOut_38 : decode cX0_fightOut 38 = .ok (.getfield 18, 3) := by decide +kernel
theorem dX0_fightOut_41 : decode cX0_fightOut 41 = .ok (.goto 7, 3) := by decide +kernel
theorem dX0_fightOut_44 : decode cX0_fightOut 44 = .ok (.aload_n 0, 1) := by decide +kernel
theorem dX0_fightOut_45 : decode cX0_fightOut 45 = .ok (.getfield 12, 3) := by decide +kernel
theorem dX0_fightOut_48 : decode cX0_fightOut 48 = .ok (.astore_n 3, 1) := by decide +kernel
theorem dX0_fightOut_49 : decode cX0_fightOut 49 = .ok (.aload_n 2, 1) := by decide +kernel
theorem dX0_fightOut_50 : decode cX0_fightOut 50 = .ok (.invokevirtual 36, 3) := by decide +kernel
theorem dX0_fightOut_53 : decode cX0_fightOut 53 = .ok (.istore 4, 2) := by decide +kernel
theorem dX0_fightOut_55 : decode cX0_fightOut 55 = .ok (.aload_n 3, 1) := by decide +kernel
theorem dX0_fightOut_56 : decode cX0_fightOut 56 = .ok (.invokevirtual 40, 3) := by decide +kernel
theorem dX0_fightOut_59 : decode cX0_fightOut 59 = .ok (.istore 5, 2) := by decide +kernel
theorem dX0_fightOut_61 : decode cX0_fightOut 61 = .ok (.iload 4, 2) := by decide +kernel
theorem dX0_fightOut_63 : decode cX0_fightOut 63 = .ok (.iconst (-1), 1) := by decide +kernel
theorem dX0_fightOut_64 : decode cX0_fightOut 64 = .ok (.if_icmp .eq 9, 3) := by decide +kernel
theorem dX0_fightOut_67 : decode cX0_fightOut 67 = .ok (.iload 5, 2) := by decide +kernel
theorem dX0_fightOut_69 : decode cX0_fightOut 69 = .ok (.iconst (-1), 1) := by decide +kernel
theorem dX0_fightOut_70 : decode cX0_fightOut 70 = .ok (.if_icmp .ne 4, 3) := by decide +kernel
theorem dX0_fightOut_73 : decode cX0_fightOut 73 = .ok (.return_, 1) := by decide +kernel
theorem dX0_fightOut_74 : decode cX0_fightOut 74 = .ok (.aload_n 3, 1) := by decide +kernel
theorem dX0_fightOut_75 : decode cX0_fightOut 75 = .ok (.getfield 43, 3) := by decide +kernel
theorem dX0_fightOut_78 : decode cX0_fightOut 78 = .ok (.iload 5, 2) := by decide +kernel
theorem dX0_fightOut_80 : decode cX0_fightOut 80 = .ok (.dup2, 1) := by decide +kernel
theorem dX0_fightOut_81 : decode cX0_fightOut 81 = .ok (.iaload, 1) := by decide +kernel
theorem dX0_fightOut_82 : decode cX0_fightOut 82 = .ok (.aload_n 2, 1) := by decide +kernel
theorem dX0_fightOut_83 : decode cX0_fightOut 83 = .ok (.getfield 46, 3) := by decide +kernel
theorem dX0_fightOut_86 : decode cX0_fightOut 86 = .ok (.iload 4, 2) := by decide +kernel
theorem dX0_fightOut_88 : decode cX0_fightOut 88 = .ok (.iaload, 1) := by decide +kernel
theorem dX0_fightOut_89 : decode cX0_fightOut 89 = .ok (.isub, 1) := by decide +kernel
theorem dX0_fightOut_90 : decode cX0_fightOut 90 = .ok (.iastore, 1) := by decide +kernel
theorem dX0_fightOut_91 : decode cX0_fightOut 91 = .ok (.aload_n 0, 1) := by decide +kernel
theorem dX0_fightOut_92 : decode cX0_fightOut 92 = .ok (.getfield 21, 3) := by decide +kernel
theorem dX0_fightOut_95 : decode cX0_fightOut 95 = .ok (.iload_n 1, 1) := by decide +kernel
theorem dX0_fightOut_96 : decode cX0_fightOut 96 = .ok (.iload 5, 2) := by decide +kernel
theorem dX0_fightOut_98 : decode cX0_fightOut 98 = .ok (.iastore, 1) := by decide +kernel
theorem dX0_fightOut_99 : decode cX0_fightOut 99 = .ok (.aload_n 0, 1) := by decide +kernel
theorem dX0_fightOut_100 : decode cX0_fightOut 100 = .ok (.getfield 25, 3) := by decide +kernel
theorem dX0_fightOut_103 : decode cX0_fightOut 103 = .ok (.iload_n 1, 1) := by decide +kernel
theorem dX0_fightOut_104 : decode cX0_fightOut 104 = .ok (.aload_n 2, 1) := by decide +kernel
theorem dX0_fightOut_105 : decode cX0_fightOut 105 = .ok (.getfield 46, 3) := by decide +kernel
theorem dX0_fightOut_108 : decode cX0_fightOut 108 = .ok (.iload 4, 2) := by decide +kernel
theorem dX0_fightOut_110 : decode cX0_fightOut 110 = .ok (.iaload, 1) := by decide +kernel
theorem dX0_fightOut_111 : decode cX0_fightOut 111 = .ok (.iastore, 1) := by decide +kernel
theorem dX0_fightOut_112 : decode cX0_fightOut 112 = .ok (.aload_n 0, 1) := by decide +kernel
theorem dX0_fightOut_113 : decode cX0_fightOut 113 = .ok (.dup, 1) := by decide +kernel
theorem dX0_fightOut_114 : decode cX0_fightOut 114 = .ok (.getfield 32, 3) := by decide +kernel
theorem dX0_fightOut_117 : decode cX0_fightOut 117 = .ok (.iconst 1, 1) := by decide +kernel
theorem dX0_fightOut_118 : decode cX0_fightOut 118 = .ok (.iadd, 1) := by decide +kernel
theorem dX0_fightOut_119 : decode cX0_fightOut 119 = .ok (.putfield 32, 3) := by decide +kernel
theorem dX0_fightOut_122 : decode cX0_fightOut 122 = .ok (.iinc 1 1, 3) := by decide +kernel
theorem dX0_fightOut_125 : decode cX0_fightOut 125 = .ok (.goto (-118), 3) := by decide +kernel
theorem dX0_fightOut_128 : decode cX0_fightOut 128 = .ok (.return_, 1) := by decide +kernel
theorem dX0_redo_0 : decode cX0_redo 0 = .ok (.iconst 0, 1) := by decide +kernel
theorem dX0_redo_1 : decode cX0_redo 1 = .ok (.istore_n 1, 1) := by decide +kernel
theorem dX0_redo_2 : decode cX0_redo 2 = .ok (.iload_n 1, 1) := by decide +kernel
theorem dX0_redo_3 : decode cX0_redo 3 = .ok (.aload_n 0, 1) := by decide +kernel
theorem dX0_redo_4 : decode cX0_redo 4 = .ok (.getfield 32, 3) := by decide +kernel
theorem dX0_redo_7 : decode cX0_redo 7 = .ok (.if_icmp .ge 47, 3) := by decide +kernel
theorem dX0_redo_10 : decode cX0_redo 10 = .ok (.iload_n 1, 1) := by decide +kernel
theorem dX0_redo_11 : decode cX0_redo 11 = .ok (.iconst 2, 1) := by decide +kernel
theorem dX0_redo_12 : decode cX0_redo 12 = .ok (.irem, 1) := by decide +kernel
theorem dX0_redo_13 : decode cX0_redo 13 = .ok (.ifCond .ne 10, 3) := by decide +kernel
theorem dX0_redo_16 : decode cX0_redo 16 = .ok (.aload_n 0, 1) := by decide +kernel
theorem dX0_redo_17 : decode cX0_redo 17 = .ok (.getfield 18, 3) := by decide +kernel
theorem dX0_redo_20 : decode cX0_redo 20 = .ok (.goto 7, 3) := by decide +kernel
theorem dX0_redo_23 : decode cX0_redo 23 = .ok (.aload_n 0, 1) := by decide +kernel
theorem dX0_redo_24 : decode cX0_redo 24 = .ok (.getfield 12, 3) := by decide +kernel
theorem dX0_redo_27 : decode cX0_redo 27 = .ok (.astore_n 2, 1) := by decide +kernel
theorem dX0_redo_28 : decode cX0_redo 28 = .ok (.aload_n 2, 1) := by decide +kernel
theorem dX0_redo_29 : decode cX0_redo 29 = .ok (.getfield 43, 3) := by decide +kernel
theorem dX0_redo_32 : decode cX0_redo 32 = .ok (.aload_n 0, 1) := by decide +kernel
theorem dX0_redo_33 : decode cX0_redo 33 = .ok (.getfield 21, 3) := by decide +kernel
theorem dX0_redo_36 : decode cX0_redo 36 = .ok (.iload_n 1, 1) := by decide +kernel
theorem dX0_redo_37 : decode cX0_redo 37 = .ok (.iaload, 1) := by decide +kernel
theorem dX0_redo_38 : decode cX0_redo 38 = .ok (.dup2, 1) := by decide +kernel
theorem dX0_redo_39 : decode cX0_redo 39 = .ok (.iaload, 1) := by decide +kernel
theorem dX0_redo_40 : decode cX0_redo 40 = .ok (.aload_n 0, 1) := by decide +kernel
theorem dX0_redo_41 : decode cX0_redo 41 = .ok (.getfield 25, 3) := by decide +kernel
theorem dX0_redo_44 : decode cX0_redo 44 = .ok (.iload_n 1, 1) := by decide +kernel
theorem dX0_redo_45 : decode cX0_redo 45 = .ok (.iaload, 1) := by decide +kernel
theorem dX0_redo_46 : decode cX0_redo 46 = .ok (.isub, 1) := by decide +kernel
theorem dX0_redo_47 : decode cX0_redo 47 = .ok (.iastore, 1) := by decide +kernel
theorem dX0_redo_48 : decode cX0_redo 48 = .ok (.iinc 1 1, 3) := by decide +kernel
theorem dX0_redo_51 : decode cX0_redo 51 = .ok (.goto (-49), 3) := by decide +kernel
theorem dX0_redo_54 : decode cX0_redo 54 = .ok (.return_, 1) := by decide +kernel
theorem dX0_result_0 : decode cX0_result 0 = .ok (.aload_n 0, 1) := by decide +kernel
theorem dX0_result_1 : decode cX0_result 1 = .ok (.getfield 12, 3) := by decide +kernel
theorem dX0_result_4 : decode cX0_result 4 = .ok (.invokevirtual 49, 3) := by decide +kernel
theorem dX0_result_7 : decode cX0_result 7 = .ok (.aload_n 0, 1) := by decide +kernel
theorem dX0_result_8 : decode cX0_result 8 = .ok (.getfield 18, 3) := by decide +kernel
theorem dX0_result_11 : decode cX0_result 11 = .ok (.invokevirtual 49, 3) := by decide +kernel
theorem dX0_result_14 : decode cX0_result 14 = .ok (.isub, 1) := by decide +kernel
theorem dX0_result_15 : decode cX0_result 15 = .ok (.ireturn, 1) := by decide +kernel
theorem dX1_init_0 : decode cX1_init 0 = .ok (.aload_n 0, 1) := by decide +kernel
theorem dX1_init_1 : decode cX1_init 1 = .ok (.invokespecial 3, 3) := by decide +kernel
theorem dX1_init_4 : decode cX1_init 4 = .ok (.aload_n 0, 1) := by decide +kernel
theorem dX1_init_5 : decode cX1_init 5 = .ok (.bipush 100, 2) := by decide +kernel
theorem dX1_init_7 : decode cX1_init 7 = .ok (.newarray .int, 2) := by decide +kernel
theorem dX1_init_9 : decode cX1_init 9 = .ok (.putfield 9, 3) := by decide +kernel
theorem dX1_init_12 : decode cX1_init 12 = .ok (.return_, 1) := by decide +kernel
theorem dX1_append_0 : decode cX1_append 0 = .ok (.aload_n 0, 1) := by decide +kernel
theorem dX1_append_1 : decode cX1_append 1 = .ok (.getfield 15, 3) := by decide +kernel
theorem dX1_append_4 : decode cX1_append 4 = .ok (.bipush 100, 2) := by decide +kernel
theorem dX1_append_6 : decode cX1_append 6 = .ok (.if_icmp .lt 5, 3) := by decide +kernel
theorem dX1_append_9 : decode cX1_append 9 = .ok (.iconst 0, 1) := by decide +kernel
theorem dX1_append_10 : decode cX1_append 10 = .ok (.ireturn, 1) := by decide +kernel
theorem dX1_append_11 : decode cX1_append 11 = .ok (.aload_n 0, 1) := by decide +kernel
theorem dX1_append_12 : decode cX1_append 12 = .ok (.getfield 9, 3) := by decide +kernel
theorem dX1_append_15 : decode cX1_append 15 = .ok (.aload_n 0, 1) := by decide +kernel
theorem dX1_append_16 : decode cX1_append 16 = .ok (.getfield 19, 3) := by decide +kernel
theorem dX1_append_19 : decode cX1_append 19 = .ok (.aload_n 0, 1) := by decide +kernel
theorem dX1_append_20 : decode cX1_append 20 = .ok (.getfield 15, 3) := by decide +kernel
theorem dX1_append_23 : decode cX1_append 23 = .ok (.iadd, 1) := by decide +kernel
theorem dX1_append_24 : decode cX1_append 24 = .ok (.bipush 100, 2) := by decide +kernel
theorem dX1_append_26 : decode cX1_append 26 = .ok (.irem, 1) := by decide +kernel
theorem dX1_append_27 : decode cX1_append 27 = .ok (.iload_n 1, 1) := by decide +kernel
theorem dX1_append_28 : decode cX1_append 28 = .ok (.iastore, 1) := by decide +kernel
theorem dX1_append_29 : decode cX1_append 29 = .ok (.aload_n 0, 1) := by decide +kernel
theorem dX1_append_30 : decode cX1_append 30 = .ok (.dup, 1) := by decide +kernel
theorem dX1_append_31 : decode cX1_append 31 = .ok (.getfield 15, 3) := by decide +kernel
theorem dX1_append_34 : decode cX1_append 34 = .ok (.iconst 1, 1) := by decide +kernel
theorem dX1_append_35 : decode cX1_append 35 = .ok (.iadd, 1) := by decide +kernel
theorem dX1_append_36 : decode cX1_append 36 = .ok (.putfield 15, 3) := by decide +kernel
theorem dX1_append_39 : decode cX1_append 39 = .ok (.iconst 1, 1) := by decide +kernel
theorem dX1_append_40 : decode cX1_append 40 = .ok (.ireturn, 1) := by decide +kernel
theorem dX1_take_0 : decode cX1_take 0 = .ok (.aload_n 0, 1) := by decide +kernel
theorem dX1_take_1 : decode cX1_take 1 = .ok (.getfield 15, 3) := by decide +kernel
theorem dX1_take_4 : decode cX1_take 4 = .ok (.ifCond .ne 5, 3) := by decide +kernel
theorem dX1_take_7 : decode cX1_take 7 = .ok (.iconst 0, 1) := by decide +kernel
theorem dX1_take_8 : decode cX1_take 8 = .ok (.ireturn, 1) := by decide +kernel
theorem dX1_take_9 : decode cX1_take 9 = .ok (.aload_n 0, 1) := by decide +kernel
theorem dX1_take_10 : decode cX1_take 10 = .ok (.getfield 9, 3) := by decide +kernel
theorem dX1_take_13 : decode cX1_take 13 = .ok (.aload_n 0, 1) := by decide +kernel
theorem dX1_take_14 : decode cX1_take 14 = .ok (.getfield 19, 3) := by decide +kernel
theorem dX1_take_17 : decode cX1_take 17 = .ok (.iaload, 1) := by decide +kernel
theorem dX1_take_18 : decode cX1_take 18 = .ok (.istore_n 1, 1) := by decide +kernel
theorem dX1_take_19 : decode cX1_take 19 = .ok (.aload_n 0, 1) := by decide +kernel
theorem dX1_take_20 : decode cX1_take 20 = .ok (.aload_n 0, 1) := by decide +kernel
theorem dX1_take_21 : decode cX1_take 21 = .ok (.getfield 19, 3) := by decide +kernel
theorem dX1_take_24 : decode cX1_take 24 = .ok (.iconst 1, 1) := by decide +kernel
theorem dX1_take_25 : decode cX1_take 25 = .ok (.iadd, 1) := by decide +kernel
theorem dX1_take_26 : decode cX1_take 26 = .ok (.bipush 100, 2) := by decide +kernel
theorem dX1_take_28 : decode cX1_take 28 = .ok (.irem, 1) := by decide +kernel
theorem dX1_take_29 : decode cX1_take 29 = .ok (.putfield 19, 3) := by decide +kernel
theorem dX1_take_32 : decode cX1_take 32 = .ok (.aload_n 0, 1) := by decide +kernel
theorem dX1_take_33 : decode cX1_take 33 = .ok (.dup, 1) := by decide +kernel
theorem dX1_take_34 : decode cX1_take 34 = .ok (.getfield 15, 3) := by decide +kernel
theorem dX1_take_37 : decode cX1_take 37 = .ok (.iconst 1, 1) := by decide +kernel
theorem dX1_take_38 : decode cX1_take 38 = .ok (.isub, 1) := by decide +kernel
theorem dX1_take_39 : decode cX1_take 39 = .ok (.putfield 15, 3) := by decide +kernel
theorem dX1_take_42 : decode cX1_take 42 = .ok (.iload_n 1, 1) := by decide +kernel
theorem dX1_take_43 : decode cX1_take 43 = .ok (.ireturn, 1) := by decide +kernel
theorem dX2_init_0 : decode cX2_init 0 = .ok (.aload_n 0, 1) := by decide +kernel
theorem dX2_init_1 : decode cX2_init 1 = .ok (.invokespecial 3, 3) := by decide +kernel
theorem dX2_init_4 : decode cX2_init 4 = .ok (.aload_n 0, 1) := by decide +kernel
theorem dX2_init_5 : decode cX2_init 5 = .ok (.bipush 10, 2) := by decide +kernel
theorem dX2_init_7 : decode cX2_init 7 = .ok (.putfield 9, 3) := by decide +kernel
theorem dX2_init_10 : decode cX2_init 10 = .ok (.aload_n 0, 1) := by decide +kernel
theorem dX2_init_11 : decode cX2_init 11 = .ok (.iconst 1, 1) := by decide +kernel
theorem dX2_init_12 : decode cX2_init 12 = .ok (.putfield 15, 3) := by decide +kernel
theorem dX2_init_15 : decode cX2_init 15 = .ok (.aload_n 0, 1) := by decide +kernel
theorem dX2_init_16 : decode cX2_init 16 = .ok (.bipush 20, 2) := by decide +kernel
theorem dX2_init_18 : decode cX2_init 18 = .ok (.putfield 18, 3) := by decide +kernel
theorem dX2_init_21 : decode cX2_init 21 = .ok (.aload_n 0, 1) := by decide +kernel
theorem dX2_init_22 : decode cX2_init 22 = .ok (.iconst 3, 1) := by decide +kernel
theorem dX2_init_23 : decode cX2_init 23 = .ok (.newarray .int, 2) := by decide +kernel
theorem dX2_init_25 : decode cX2_init 25 = .ok (.putfield 21, 3) := by decide +kernel
theorem dX2_init_28 : decode cX2_init 28 = .ok (.aload_n 0, 1) := by decide +kernel
theorem dX2_init_29 : decode cX2_init 29 = .ok (.new 25, 3) := by decide +kernel
theorem dX2_init_32 : decode cX2_init 32 = .ok (.dup, 1) := by decide +kernel
theorem dX2_init_33 : decode cX2_init 33 = .ok (.bipush 6, 2) := by decide +kernel
theorem dX2_init_35 : decode cX2_init 35 = .ok (.invokespecial 27, 3) := by decide +kernel
theorem dX2_init_38 : decode cX2_init 38 = .ok (.putfield 30, 3) := by decide +kernel
theorem dX2_init_41 : decode cX2_init 41 = .ok (.aload_n 0, 1) := by decide +kernel
theorem dX2_init_42 : decode cX2_init 42 = .ok (.new 25, 3) := by decide +kernel
theorem dX2_init_45 : decode cX2_init 45 = .ok (.dup, 1) := by decide +kernel
theorem dX2_init_46 : decode cX2_init 46 = .ok (.iconst 5, 1) := by decide +kernel
theorem dX2_init_47 : decode cX2_init 47 = .ok (.invokespecial 27, 3) := by decide +kernel
theorem dX2_init_50 : decode cX2_init 50 = .ok (.putfield 34, 3) := by decide +kernel
theorem dX2_init_53 : decode cX2_init 53 = .ok (.iconst 0, 1) := by decide +kernel
theorem dX2_init_54 : decode cX2_init 54 = .ok (.istore_n 1, 1) := by decide +kernel
theorem dX2_init_55 : decode cX2_init 55 = .ok (.iload_n 1, 1) := by decide +kernel
theorem dX2_init_56 : decode cX2_init 56 = .ok (.iconst 3, 1) := by decide +kernel
theorem dX2_init_57 : decode cX2_init 57 = .ok (.if_icmp .ge 16, 3) := by decide +kernel
theorem dX2_init_60 : decode cX2_init 60 = .ok (.aload_n 0, 1) := by decide +kernel
theorem dX2_init_61 : decode cX2_init 61 = .ok (.getfield 21, 3) := by decide +kernel
theorem dX2_init_64 : decode cX2_init 64 = .ok (.iload_n 1, 1) := by decide +kernel
theorem dX2_init_65 : decode cX2_init 65 = .ok (.iconst (-1), 1) := by decide +kernel
theorem dX2_init_66 : decode cX2_init 66 = .ok (.iastore, 1) := by decide +kernel
theorem dX2_init_67 : decode cX2_init 67 = .ok (.iinc 1 1, 3) := by decide +kernel
theorem dX2_init_70 : decode cX2_init 70 = .ok (.goto (-15), 3) := by decide +kernel
theorem dX2_init_73 : decode cX2_init 73 = .ok (.return_, 1) := by decide +kernel
theorem dX2_addGold_0 : decode cX2_addGold 0 = .ok (.aload_n 0, 1) := by decide +kernel
theorem dX2_addGold_1 : decode cX2_addGold 1 = .ok (.bipush 100, 2) := by decide +kernel
theorem dX2_addGold_3 : decode cX2_addGold 3 = .ok (.aload_n 0, 1) := by decide +kernel
theorem dX2_addGold_4 : decode cX2_addGold 4 = .ok (.getfield 9, 3) := by decide +kernel
theorem dX2_addGold_7 : decode cX2_addGold 7 = .ok (.iload_n 1, 1) := by decide +kernel
theorem dX2_addGold_8 : decode cX2_addGold 8 = .ok (.iadd, 1) := by decide +kernel
theorem dX2_addGold_9 : decode cX2_addGold 9 = .ok (.invokestatic 37, 3) := by decide +kernel
theorem dX2_addGold_12 : decode cX2_addGold 12 = .ok (.putfield 9, 3) := by decide +kernel
theorem dX2_addGold_15 : decode cX2_addGold 15 = .ok (.return_, 1) := by decide +kernel
theorem dX2_earn_0 : decode cX2_earn 0 = .ok (.iconst 3, 1) := by decide +kernel
theorem dX2_earn_1 : decode cX2_earn 1 = .ok (.aload_n 0, 1) := by decide +kernel
theorem dX2_earn_2 : decode cX2_earn 2 = .ok (.getfield 9, 3) := by decide +kernel
theorem dX2_earn_5 : decode cX2_earn 5 = .ok (.bipush 10, 2) := by decide +kernel
theorem dX2_earn_7 : decode cX2_earn 7 = .ok (.idiv, 1) := by decide +kernel
theorem dX2_earn_8 : decode cX2_earn 8 = .ok (.invokestatic 37, 3) := by decide +kernel
theorem dX2_earn_11 : decode cX2_earn 11 = .ok (.istore_n 1, 1) := by decide +kernel
theorem dX2_earn_12 : decode cX2_earn 12 = .ok (.aload_n 0, 1) := by decide +kernel
theorem dX2_earn_13 : decode cX2_earn 13 = .ok (.getfield 43, 3) := by decide +kernel
theorem dX2_earn_16 : decode cX2_earn 16 = .ok (.iconst 1, 1) := by decide +kernel
theorem dX2_earn_17 : decode cX2_earn 17 = .ok (.if_icmp .gt 11, 3) := by decide +kernel
theorem dX2_earn_20 : decode cX2_earn 20 = .ok (.aload_n 0, 1) := by decide +kernel
theorem dX2_earn_21 : decode cX2_earn 21 = .ok (.getfield 43, 3) := by decide +kernel
theorem dX2_earn_24 : decode cX2_earn 24 = .ok (.iconst (-1), 1) := by decide +kernel
theorem dX2_earn_25 : decode cX2_earn 25 = .ok (.if_icmp .ge 7, 3) := by decide +kernel
theorem dX2_earn_28 : decode cX2_earn 28 = .ok (.iconst 1, 1) := by decide +kernel
theorem dX2_earn_29 : decode cX2_earn 29 = .ok (.goto 4, 3) := by decide +kernel
theorem dX2_earn_32 : decode cX2_earn 32 = .ok (.iconst 0, 1) := by decide +kernel
theorem dX2_earn_33 : decode cX2_earn 33 = .ok (.istore_n 2, 1) := by decide +kernel
theorem dX2_earn_34 : decode cX2_earn 34 = .ok (.aload_n 0, 1) := by decide +kernel
theorem dX2_earn_35 : decode cX2_earn 35 = .ok (.iconst 3, 1) := by decide +kernel
theorem dX2_earn_36 : decode cX2_earn 36 = .ok (.iload_n 1, 1) := by decide +kernel
theorem dX2_earn_37 : decode cX2_earn 37 = .ok (.iadd, 1) := by decide +kernel
theorem dX2_earn_38 : decode cX2_earn 38 = .ok (.iload_n 2, 1) := by decide +kernel
theorem dX2_earn_39 : decode cX2_earn 39 = .ok (.iadd, 1) := by decide +kernel
theorem dX2_earn_40 : decode cX2_earn 40 = .ok (.invokevirtual 46, 3) := by decide +kernel
theorem dX2_earn_43 : decode cX2_earn 43 = .ok (.return_, 1) := by decide +kernel
theorem dX2_win_0 : decode cX2_win 0 = .ok (.aload_n 0, 1) := by decide +kernel
theorem dX2_win_1 : decode cX2_win 1 = .ok (.aload_n 0, 1) := by decide +kernel
theorem dX2_win_2 : decode cX2_win 2 = .ok (.getfield 43, 3) := by decide +kernel
theorem dX2_win_5 : decode cX2_win 5 = .ok (.ifCond .le 12, 3) := by decide +kernel
theorem dX2_win_8 : decode cX2_win 8 = .ok (.aload_n 0, 1) := by decide +kernel
theorem dX2_win_9 : decode cX2_win 9 = .ok (.getfield 43, 3) := by decide +kernel
theorem dX2_win_12 : decode cX2_win 12 = .ok (.iconst 1, 1) := by decide +kernel
theorem dX2_win_13 : decode cX2_win 13 = .ok (.iadd, 1) := by decide +kernel
theorem dX2_win_14 : decode cX2_win 14 = .ok (.goto 4, 3) := by decide +kernel
theorem dX2_win_17 : decode cX2_win 17 = .ok (.iconst 1, 1) := by decide +kernel
theorem dX2_win_18 : decode cX2_win 18 = .ok (.putfield 43, 3) := by decide +kernel
theorem dX2_win_21 : decode cX2_win 21 = .ok (.return_, 1) := by decide +kernel
theorem dX2_lose_0 : decode cX2_lose 0 = .ok (.aload_n 0, 1) := by decide +kernel
theorem dX2_lose_1 : decode cX2_lose 1 = .ok (.aload_n 0, 1) := by decide +kernel
theorem dX2_lose_2 : decode cX2_lose 2 = .ok (.getfield 43, 3) := by decide +kernel
theorem dX2_lose_5 : decode cX2_lose 5 = .ok (.ifCond .ge 12, 3) := by decide +kernel
theorem dX2_lose_8 : decode cX2_lose 8 = .ok (.aload_n 0, 1) := by decide +kernel
theorem dX2_lose_9 : decode cX2_lose 9 = .ok (.getfield 43, 3) := by decide +kernel
theorem dX2_lose_12 : decode cX2_lose 12 = .ok (.iconst 1, 1) := by decide +kernel
theorem dX2_lose_13 : decode cX2_lose 13 = .ok (.isub, 1) := by decide +kernel
theorem dX2_lose_14 : decode cX2_lose 14 = .ok (.goto 4, 3) := by decide +kernel
theorem dX2_lose_17 : decode cX2_lose 17 = .ok (.iconst (-1), 1) := by decide +kernel
theorem dX2_lose_18 : decode cX2_lose 18 = .ok (.putfield 43, 3) := by decide +kernel
theorem dX2_lose_21 : decode cX2_lose 21 = .ok (.aload_n 0, 1) := by decide +kernel
theorem dX2_lose_22 : decode cX2_lose 22 = .ok (.dup, 1) := by decide +kernel
theorem dX2_lose_23 : decode cX2_lose 23 = .ok (.getfield 18, 3) := by decide +kernel
theorem dX2_lose_26 : decode cX2_lose 26 = .ok (.iload_n 1, 1) := by decide +kernel
theorem dX2_lose_27 : decode cX2_lose 27 = .ok (.aload_n 0, 1) := by decide +kernel
theorem dX2_lose_28 : decode cX2_lose 28 = .ok (.getfield 18, 3) := by decide +kernel
theorem dX2_lose_31 : decode cX2_lose 31 = .ok (.invokestatic 37, 3) := by decide +kernel
theorem dX2_lose_34 : decode cX2_lose 34 = .ok (.isub, 1) := by decide +kernel
theorem dX2_lose_35 : decode cX2_lose 35 = .ok (.putfield 18, 3) := by decide +kernel
theorem dX2_lose_38 : decode cX2_lose 38 = .ok (.return_, 1) := by decide +kernel
theorem dX2_unitsHeld_0 : decode cX2_unitsHeld 0 = .ok (.aload_n 0, 1) := by decide +kernel
theorem dX2_unitsHeld_1 : decode cX2_unitsHeld 1 = .ok (.getfield 30, 3) := by decide +kernel
theorem dX2_unitsHeld_4 : decode cX2_unitsHeld 4 = .ok (.iload_n 1, 1) := by decide +kernel
theorem dX2_unitsHeld_5 : decode cX2_unitsHeld 5 = .ok (.invokevirtual 49, 3) := by decide +kernel
theorem dX2_unitsHeld_8 : decode cX2_unitsHeld 8 = .ok (.aload_n 0, 1) := by decide +kernel
theorem dX2_unitsHeld_9 : decode cX2_unitsHeld 9 = .ok (.getfield 34, 3) := by decide +kernel
theorem dX2_unitsHeld_12 : decode cX2_unitsHeld 12 = .ok (.iload_n 1, 1) := by decide +kernel
theorem dX2_unitsHeld_13 : decode cX2_unitsHeld 13 = .ok (.invokevirtual 49, 3) := by decide +kernel
theorem dX2_unitsHeld_16 : decode cX2_unitsHeld 16 = .ok (.iadd, 1) := by decide +kernel
theorem dX2_unitsHeld_17 : decode cX2_unitsHeld 17 = .ok (.istore_n 2, 1) := by decide +kernel
theorem dX2_unitsHeld_18 : decode cX2_unitsHeld 18 = .ok (.iconst 0, 1) := by decide +kernel
theorem dX2_unitsHeld_19 : decode cX2_unitsHeld 19 = .ok (.istore_n 3, 1) := by decide +kernel
theorem dX2_unitsHeld_20 : decode cX2_unitsHeld 20 = .ok (.iload_n 3, 1) := by decide +kernel
theorem dX2_unitsHeld_21 : decode cX2_unitsHeld 21 = .ok (.iconst 3, 1) := by decide +kernel
theorem dX2_unitsHeld_22 : decode cX2_unitsHeld 22 = .ok (.if_icmp .ge 22, 3) := by decide +kernel
theorem dX2_unitsHeld_25 : decode cX2_unitsHeld 25 = .ok (.aload_n 0, 1) := by decide +kernel
theorem dX2_unitsHeld_26 : decode cX2_unitsHeld 26 = .ok (.getfield 21, 3) := by decide +kernel
theorem dX2_unitsHeld_29 : decode cX2_unitsHeld 29 = .ok (.iload_n 3, 1) := by decide +kernel
theorem dX2_unitsHeld_30 : decode cX2_unitsHeld 30 = .ok (.iaload, 1) := by decide +kernel
theorem dX2_unitsHeld_31 : decode cX2_unitsHeld 31 = .ok (.iload_n 1, 1) := by decide +kernel
theorem dX2_unitsHeld_32 : decode cX2_unitsHeld 32 = .ok (.if_icmp .ne 6, 3) := by decide +kernel
theorem dX2_unitsHeld_35 : decode cX2_unitsHeld 35 = .ok (.iinc 2 1, 3) := by decide +kernel
theorem dX2_unitsHeld_38 : decode cX2_unitsHeld 38 = .ok (.iinc 3 1, 3) := by decide +kernel
theorem dX2_unitsHeld_41 : decode cX2_unitsHeld 41 = .ok (.goto (-21), 3) := by decide +kernel
theorem dX2_unitsHeld_44 : decode cX2_unitsHeld 44 = .ok (.iload_n 2, 1) := by decide +kernel
theorem dX2_unitsHeld_45 : decode cX2_unitsHeld 45 = .ok (.ireturn, 1) := by decide +kernel
theorem dX2_mergeThrees_0 : decode cX2_mergeThrees 0 = .ok (.iconst 0, 1) := by decide +kernel
theorem dX2_mergeThrees_1 : decode cX2_mergeThrees 1 = .ok (.istore_n 1, 1) := by decide +kernel
theorem dX2_mergeThrees_2 : decode cX2_mergeThrees 2 = .ok (.iload_n 1, 1) := by decide +kernel
theorem dX2_mergeThrees_3 : decode cX2_mergeThrees 3 = .ok (.bipush 11, 2) := by decide +kernel
theorem dX2_mergeThrees_5 : decode cX2_mergeThrees 5 = .ok (.if_icmp .ge 17, 3) := by decide +kernel
theorem dX2_mergeThrees_8 : decode cX2_mergeThrees 8 = .ok (.aload_n 0, 1) := by decide +kernel
theorem dX2_mergeThrees_9 : decode cX2_mergeThrees 9 = .ok (.invokevirtual 53, 3) := by decide +kernel
theorem dX2_mergeThrees_12 : decode cX2_mergeThrees 12 = .ok (.ifCond .ne 4, 3) := by decide +kernel
theorem dX2_mergeThrees_15 : decode cX2_mergeThrees 15 = .ok (.return_, 1) := by decide +kernel
theorem dX2_mergeThrees_16 : decode cX2_mergeThrees 16 = .ok (.iinc 1 1, 3) := by decide +kernel
theorem dX2_mergeThrees_19 : decode cX2_mergeThrees 19 = .ok (.goto (-17), 3) := by decide +kernel
theorem dX2_mergeThrees_22 : decode cX2_mergeThrees 22 = .ok (.return_, 1) := by decide +kernel
theorem dX2_mergeFirstThree_0 : decode cX2_mergeFirstThree 0 = .ok (.iconst 0, 1) := by decide +kernel
theorem dX2_mergeFirstThree_1 : decode cX2_mergeFirstThree 1 = .ok (.istore_n 1, 1) := by decide +kernel
theorem dX2_mergeFirstThree_2 : decode cX2_mergeFirstThree 2 = .ok (.iload_n 1, 1) := by decide +kernel
theorem dX2_mergeFirstThree_3 : decode cX2_mergeFirstThree 3 = .ok (.bipush 9, 2) := by decide +kernel
theorem dX2_mergeFirstThree_5 : decode cX2_mergeFirstThree 5 = .ok (.if_icmp .ge 53, 3) := by decide +kernel
theorem dX2_mergeFirstThree_8 : decode cX2_mergeFirstThree 8 = .ok (.iconst 1, 1) := by decide +kernel
theorem dX2_mergeFirstThree_9 : decode cX2_mergeFirstThree 9 = .ok (.istore_n 2, 1) := by decide +kernel
theorem dX2_mergeFirstThree_10 : decode cX2_mergeFirstThree 10 = .ok (.iload_n 2, 1) := by decide +kernel
theorem dX2_mergeFirstThree_11 : decode cX2_mergeFirstThree 11 = .ok (.iconst 3, 1) := by decide +kernel
theorem dX2_mergeFirstThree_12 : decode cX2_mergeFirstThree 12 = .ok (.if_icmp .ge 40, 3) := by decide +kernel
theorem dX2_mergeFirstThree_15 : decode cX2_mergeFirstThree 15 = .ok (.aload_n 0, 1) := by decide +kernel
theorem dX2_mergeFirstThree_16 : decode cX2_mergeFirstThree 16 = .ok (.getfield 34, 3) := by decide +kernel
theorem dX2_mergeFirstThree_19 : decode cX2_mergeFirstThree 19 = .ok (.iload_n 1, 1) := by decide +kernel
theorem dX2_mergeFirstThree_20 : decode cX2_mergeFirstThree 20 = .ok (.iload_n 2, 1) := by decide +kernel
theorem dX2_mergeFirstThree_21 : decode cX2_mergeFirstThree 21 = .ok (.invokevirtual 57, 3) := by decide +kernel
theorem dX2_mergeFirstThree_24 : decode cX2_mergeFirstThree 24 = .ok (.aload_n 0, 1) := by decide +kernel
theorem dX2_mergeFirstThree_25 : decode cX2_mergeFirstThree 25 = .ok (.getfield 30, 3) := by decide +kernel
theorem dX2_mergeFirstThree_28 : decode cX2_mergeFirstThree 28 = .ok (.iload_n 1, 1) := by decide +kernel
theorem dX2_mergeFirstThree_29 : decode cX2_mergeFirstThree 29 = .ok (.iload_n 2, 1) := by decide +kernel
theorem dX2_mergeFirstThree_30 : decode cX2_mergeFirstThree 30 = .ok (.invokevirtual 57, 3) := by decide +kernel
theorem dX2_mergeFirstThree_33 : decode cX2_mergeFirstThree 33 = .ok (.iadd, 1) := by decide +kernel
theorem dX2_mergeFirstThree_34 : decode cX2_mergeFirstThree 34 = .ok (.iconst 3, 1) := by decide +kernel
theorem dX2_mergeFirstThree_35 : decode cX2_mergeFirstThree 35 = .ok (.if_icmp .lt 11, 3) := by decide +kernel
theorem dX2_mergeFirstThree_38 : decode cX2_mergeFirstThree 38 = .ok (.aload_n 0, 1) := by decide +kernel
theorem dX2_mergeFirstThree_39 : decode cX2_mergeFirstThree 39 = .ok (.iload_n 1, 1) := by decide +kernel
theorem dX2_mergeFirstThree_40 : decode cX2_mergeFirstThree 40 = .ok (.iload_n 2, 1) := by decide +kernel
theorem dX2_mergeFirstThree_41 : decode cX2_mergeFirstThree 41 = .ok (.invokevirtual 60, 3) := by decide +kernel
theorem dX2_mergeFirstThree_44 : decode cX2_mergeFirstThree 44 = .ok (.iconst 1, 1) := by decide +kernel
theorem dX2_mergeFirstThree_45 : decode cX2_mergeFirstThree 45 = .ok (.ireturn, 1) := by decide +kernel
theorem dX2_mergeFirstThree_46 : decode cX2_mergeFirstThree 46 = .ok (.iinc 2 1, 3) := by decide +kernel
theorem dX2_mergeFirstThree_49 : decode cX2_mergeFirstThree 49 = .ok (.goto (-39), 3) := by decide +kernel
theorem dX2_mergeFirstThree_52 : decode cX2_mergeFirstThree 52 = .ok (.iinc 1 1, 3) := by decide +kernel
theorem dX2_mergeFirstThree_55 : decode cX2_mergeFirstThree 55 = .ok (.goto (-53), 3) := by decide +kernel
theorem dX2_mergeFirstThree_58 : decode cX2_mergeFirstThree 58 = .ok (.iconst 0, 1) := by decide +kernel
theorem dX2_mergeFirstThree_59 : decode cX2_mergeFirstThree 59 = .ok (.ireturn, 1) := by decide +kernel
theorem dX2_mergeThree_0 : decode cX2_mergeThree 0 = .ok (.aload_n 0, 1) := by decide +kernel
theorem dX2_mergeThree_1 : decode cX2_mergeThree 1 = .ok (.iload_n 1, 1) := by decide +kernel
theorem dX2_mergeThree_2 : decode cX2_mergeThree 2 = .ok (.iload_n 2, 1) := by decide +kernel
theorem dX2_mergeThree_3 : decode cX2_mergeThree 3 = .ok (.invokevirtual 64, 3) := by decide +kernel
theorem dX2_mergeThree_6 : decode cX2_mergeThree 6 = .ok (.astore_n 3, 1) := by decide +kernel
theorem dX2_mergeThree_7 : decode cX2_mergeThree 7 = .ok (.aload_n 3, 1) := by decide +kernel
theorem dX2_mergeThree_8 : decode cX2_mergeThree 8 = .ok (.iload_n 1, 1) := by decide +kernel
theorem dX2_mergeThree_9 : decode cX2_mergeThree 9 = .ok (.iload_n 2, 1) := by decide +kernel
theorem dX2_mergeThree_10 : decode cX2_mergeThree 10 = .ok (.invokevirtual 68, 3) := by decide +kernel
theorem dX2_mergeThree_13 : decode cX2_mergeThree 13 = .ok (.istore 4, 2) := by decide +kernel
theorem dX2_mergeThree_15 : decode cX2_mergeThree 15 = .ok (.iload 4, 2) := by decide +kernel
theorem dX2_mergeThree_17 : decode cX2_mergeThree 17 = .ok (.iconst (-1), 1) := by decide +kernel
theorem dX2_mergeThree_18 : decode cX2_mergeThree 18 = .ok (.if_icmp .eq 14, 3) := by decide +kernel
theorem dX2_mergeThree_21 : decode cX2_mergeThree 21 = .ok (.aload_n 3, 1) := by decide +kernel
theorem dX2_mergeThree_22 : decode cX2_mergeThree 22 = .ok (.getfield 71, 3) := by decide +kernel
theorem dX2_mergeThree_25 : decode cX2_mergeThree 25 = .ok (.iload 4, 2) := by decide +kernel
theorem dX2_mergeThree_27 : decode cX2_mergeThree 27 = .ok (.dup2, 1) := by decide +kernel
theorem dX2_mergeThree_28 : decode cX2_mergeThree 28 = .ok (.iaload, 1) := by decide +kernel
theorem dX2_mergeThree_29 : decode cX2_mergeThree 29 = .ok (.iconst 1, 1) := by decide +kernel
theorem dX2_mergeThree_30 : decode cX2_mergeThree 30 = .ok (.iadd, 1) := by decide +kernel
theorem dX2_mergeThree_31 : decode cX2_mergeThree 31 = .ok (.iastore, 1) := by decide +kernel
theorem dX2_mergeThree_32 : decode cX2_mergeThree 32 = .ok (.iconst 0, 1) := by decide +kernel
theorem dX2_mergeThree_33 : decode cX2_mergeThree 33 = .ok (.istore 5, 2) := by decide +kernel
theorem dX2_mergeThree_35 : decode cX2_mergeThree 35 = .ok (.iload 5, 2) := by decide +kernel
theorem dX2_mergeThree_37 : decode cX2_mergeThree 37 = .ok (.iconst 2, 1) := by decide +kernel
theorem dX2_mergeThree_38 : decode cX2_mergeThree 38 = .ok (.if_icmp .ge 29, 3) := by decide +kernel
theorem dX2_mergeThree_41 : decode cX2_mergeThree 41 = .ok (.aload_n 0, 1) := by decide +kernel
theorem dX2_mergeThree_42 : decode cX2_mergeThree 42 = .ok (.iload_n 1, 1) := by decide +kernel
theorem dX2_mergeThree_43 : decode cX2_mergeThree 43 = .ok (.iload_n 2, 1) := by decide +kernel
theorem dX2_mergeThree_44 : decode cX2_mergeThree 44 = .ok (.invokevirtual 64, 3) := by decide +kernel
theorem dX2_mergeThree_47 : decode cX2_mergeThree 47 = .ok (.astore 6, 2) := by decide +kernel
theorem dX2_mergeThree_49 : decode cX2_mergeThree 49 = .ok (.aload 6, 2) := by decide +kernel
theorem dX2_mergeThree_51 : decode cX2_mergeThree 51 = .ok (.aload 6, 2) := by decide +kernel
theorem dX2_mergeThree_53 : decode cX2_mergeThree 53 = .ok (.iload_n 1, 1) := by decide +kernel
theorem dX2_mergeThree_54 : decode cX2_mergeThree 54 = .ok (.iload_n 2, 1) := by decide +kernel
theorem dX2_mergeThree_55 : decode cX2_mergeThree 55 = .ok (.invokevirtual 68, 3) := by decide +kernel
theorem dX2_mergeThree_58 : decode cX2_mergeThree 58 = .ok (.invokevirtual 74, 3) := by decide +kernel
theorem dX2_mergeThree_61 : decode cX2_mergeThree 61 = .ok (.iinc 5 1, 3) := by decide +kernel
theorem dX2_mergeThree_64 : decode cX2_mergeThree 64 = .ok (.goto (-29), 3) := by decide +kernel
theorem dX2_mergeThree_67 : decode cX2_mergeThree 67 = .ok (.return_, 1) := by decide +kernel
theorem dX2_rowOfFirst_0 : decode cX2_rowOfFirst 0 = .ok (.aload_n 0, 1) := by decide +kernel
theorem dX2_rowOfFirst_1 : decode cX2_rowOfFirst 1 = .ok (.getfield 34, 3) := by decide +kernel
theorem dX2_rowOfFirst_4 : decode cX2_rowOfFirst 4 = .ok (.iload_n 1, 1) := by decide +kernel
theorem dX2_rowOfFirst_5 : decode cX2_rowOfFirst 5 = .ok (.iload_n 2, 1) := by decide +kernel
theorem dX2_rowOfFirst_6 : decode cX2_rowOfFirst 6 = .ok (.invokevirtual 68, 3) := by decide +kernel
theorem dX2_rowOfFirst_9 : decode cX2_rowOfFirst 9 = .ok (.iconst (-1), 1) := by decide +kernel
theorem dX2_rowOfFirst_10 : decode cX2_rowOfFirst 10 = .ok (.if_icmp .eq 10, 3) := by decide +kernel
theorem dX2_rowOfFirst_13 : decode cX2_rowOfFirst 13 = .ok (.aload_n 0, 1) := by decide +kernel
theorem dX2_rowOfFirst_14 : decode cX2_rowOfFirst 14 = .ok (.getfield 34, 3) := by decide +kernel
theorem dX2_rowOfFirst_17 : decode cX2_rowOfFirst 17 = .ok (.goto 7, 3) := by decide +kernel
theorem dX2_rowOfFirst_20 : decode cX2_rowOfFirst 20 = .ok (.aload_n 0, 1) := by decide +kernel
theorem dX2_rowOfFirst_21 : decode cX2_rowOfFirst 21 = .ok (.getfield 30, 3) := by decide +kernel
theorem dX2_rowOfFirst_24 : decode cX2_rowOfFirst 24 = .ok (.areturn, 1) := by decide +kernel
theorem dX3_init_0 : decode cX3_init 0 = .ok (.aload_n 0, 1) := by decide +kernel
theorem dX3_init_1 : decode cX3_init 1 = .ok (.invokespecial 3, 3) := by decide +kernel
theorem dX3_init_4 : decode cX3_init 4 = .ok (.aload_n 0, 1) := by decide +kernel
theorem dX3_init_5 : decode cX3_init 5 = .ok (.bipush 9, 2) := by decide +kernel
theorem dX3_init_7 : decode cX3_init 7 = .ok (.newarray .int, 2) := by decide +kernel
theorem dX3_init_9 : decode cX3_init 9 = .ok (.putfield 9, 3) := by decide +kernel
theorem dX3_init_12 : decode cX3_init 12 = .ok (.iconst 0, 1) := by decide +kernel
theorem dX3_init_13 : decode cX3_init 13 = .ok (.istore_n 1, 1) := by decide +kernel
theorem dX3_init_14 : decode cX3_init 14 = .ok (.iload_n 1, 1) := by decide +kernel
theorem dX3_init_15 : decode cX3_init 15 = .ok (.bipush 9, 2) := by decide +kernel
theorem dX3_init_17 : decode cX3_init 17 = .ok (.if_icmp .ge 17, 3) := by decide +kernel
theorem dX3_init_20 : decode cX3_init 20 = .ok (.aload_n 0, 1) := by decide +kernel
theorem dX3_init_21 : decode cX3_init 21 = .ok (.getfield 9, 3) := by decide +kernel
theorem dX3_init_24 : decode cX3_init 24 = .ok (.iload_n 1, 1) := by decide +kernel
theorem dX3_init_25 : decode cX3_init 25 = .ok (.bipush 9, 2) := by decide +kernel
theorem dX3_init_27 : decode cX3_init 27 = .ok (.iastore, 1) := by decide +kernel
theorem dX3_init_28 : decode cX3_init 28 = .ok (.iinc 1 1, 3) := by decide +kernel
theorem dX3_init_31 : decode cX3_init 31 = .ok (.goto (-17), 3) := by decide +kernel
theorem dX3_init_34 : decode cX3_init 34 = .ok (.return_, 1) := by decide +kernel
theorem dX3_putBack_0 : decode cX3_putBack 0 = .ok (.aload_n 0, 1) := by decide +kernel
theorem dX3_putBack_1 : decode cX3_putBack 1 = .ok (.getfield 9, 3) := by decide +kernel
theorem dX3_putBack_4 : decode cX3_putBack 4 = .ok (.iload_n 1, 1) := by decide +kernel
theorem dX3_putBack_5 : decode cX3_putBack 5 = .ok (.dup2, 1) := by decide +kernel
theorem dX3_putBack_6 : decode cX3_putBack 6 = .ok (.iaload, 1) := by decide +kernel
theorem dX3_putBack_7 : decode cX3_putBack 7 = .ok (.iload_n 2, 1) := by decide +kernel
theorem dX3_putBack_8 : decode cX3_putBack 8 = .ok (.iadd, 1) := by decide +kernel
theorem dX3_putBack_9 : decode cX3_putBack 9 = .ok (.iastore, 1) := by decide +kernel
theorem dX3_putBack_10 : decode cX3_putBack 10 = .ok (.return_, 1) := by decide +kernel
theorem dX3_unitsUpTo_0 : decode cX3_unitsUpTo 0 = .ok (.iconst 0, 1) := by decide +kernel
theorem dX3_unitsUpTo_1 : decode cX3_unitsUpTo 1 = .ok (.istore_n 2, 1) := by decide +kernel
theorem dX3_unitsUpTo_2 : decode cX3_unitsUpTo 2 = .ok (.iconst 0, 1) := by decide +kernel
theorem dX3_unitsUpTo_3 : decode cX3_unitsUpTo 3 = .ok (.istore_n 3, 1) := by decide +kernel
theorem dX3_unitsUpTo_4 : decode cX3_unitsUpTo 4 = .ok (.iload_n 3, 1) := by decide +kernel
theorem dX3_unitsUpTo_5 : decode cX3_unitsUpTo 5 = .ok (.bipush 9, 2) := by decide +kernel
theorem dX3_unitsUpTo_7 : decode cX3_unitsUpTo 7 = .ok (.if_icmp .ge 26, 3) := by decide +kernel
theorem dX3_unitsUpTo_10 : decode cX3_unitsUpTo 10 = .ok (.iload_n 3, 1) := by decide +kernel
theorem dX3_unitsUpTo_11 : decode cX3_unitsUpTo 11 = .ok (.invokestatic 15, 3) := by decide +kernel
theorem dX3_unitsUpTo_14 : decode cX3_unitsUpTo 14 = .ok (.iload_n 1, 1) := by decide +kernel
theorem dX3_unitsUpTo_15 : decode cX3_unitsUpTo 15 = .ok (.if_icmp .gt 12, 3) := by decide +kernel
theorem dX3_unitsUpTo_18 : decode cX3_unitsUpTo 18 = .ok (.iload_n 2, 1) := by decide +kernel
theorem dX3_unitsUpTo_19 : decode cX3_unitsUpTo 19 = .ok (.aload_n 0, 1) := by decide +kernel
theorem dX3_unitsUpTo_20 : decode cX3_unitsUpTo 20 = .ok (.getfield 9, 3) := by decide +kernel
theorem dX3_unitsUpTo_23 : decode cX3_unitsUpTo 23 = .ok (.iload_n 3, 1) := by decide +kernel
theorem dX3_unitsUpTo_24 : decode cX3_unitsUpTo 24 = .ok (.iaload, 1) := by decide +kernel
theorem dX3_unitsUpTo_25 : decode cX3_unitsUpTo 25 = .ok (.iadd, 1) := by decide +kernel
theorem dX3_unitsUpTo_26 : decode cX3_unitsUpTo 26 = .ok (.istore_n 2, 1) := by decide +kernel
theorem dX3_unitsUpTo_27 : decode cX3_unitsUpTo 27 = .ok (.iinc 3 1, 3) := by decide +kernel
theorem dX3_unitsUpTo_30 : decode cX3_unitsUpTo 30 = .ok (.goto (-26), 3) := by decide +kernel
theorem dX3_unitsUpTo_33 : decode cX3_unitsUpTo 33 = .ok (.iload_n 2, 1) := by decide +kernel
theorem dX3_unitsUpTo_34 : decode cX3_unitsUpTo 34 = .ok (.ireturn, 1) := by decide +kernel
theorem dX3_draw_0 : decode cX3_draw 0 = .ok (.aload_n 0, 1) := by decide +kernel
theorem dX3_draw_1 : decode cX3_draw 1 = .ok (.iload_n 2, 1) := by decide +kernel
theorem dX3_draw_2 : decode cX3_draw 2 = .ok (.invokevirtual 19, 3) := by decide +kernel
theorem dX3_draw_5 : decode cX3_draw 5 = .ok (.istore_n 3, 1) := by decide +kernel
theorem dX3_draw_6 : decode cX3_draw 6 = .ok (.iload_n 3, 1) := by decide +kernel
theorem dX3_draw_7 : decode cX3_draw 7 = .ok (.ifCond .gt 5, 3) := by decide +kernel
theorem dX3_draw_10 : decode cX3_draw 10 = .ok (.iconst (-1), 1) := by decide +kernel
theorem dX3_draw_11 : decode cX3_draw 11 = .ok (.ireturn, 1) := by decide +kernel
theorem dX3_draw_12 : decode cX3_draw 12 = .ok (.iload_n 1, 1) := by decide +kernel
theorem dX3_draw_13 : decode cX3_draw 13 = .ok (.iload_n 3, 1) := by decide +kernel
theorem dX3_draw_14 : decode cX3_draw 14 = .ok (.irem, 1) := by decide +kernel
theorem dX3_draw_15 : decode cX3_draw 15 = .ok (.istore 4, 2) := by decide +kernel
theorem dX3_draw_17 : decode cX3_draw 17 = .ok (.iconst 0, 1) := by decide +kernel
theorem dX3_draw_18 : decode cX3_draw 18 = .ok (.istore 5, 2) := by decide +kernel
theorem dX3_draw_20 : decode cX3_draw 20 = .ok (.iload 5, 2) := by decide +kernel
theorem dX3_draw_22 : decode cX3_draw 22 = .ok (.bipush 9, 2) := by decide +kernel
theorem dX3_draw_24 : decode cX3_draw 24 = .ok (.if_icmp .ge 47, 3) := by decide +kernel
theorem dX3_draw_27 : decode cX3_draw 27 = .ok (.iload 4, 2) := by decide +kernel
theorem dX3_draw_29 : decode cX3_draw 29 = .ok (.aload_n 0, 1) := by decide +kernel
theorem dX3_draw_30 : decode cX3_draw 30 = .ok (.getfield 9, 3) := by decide +kernel
theorem dX3_draw_33 : decode cX3_draw 33 = .ok (.iload 5, 2) := by decide +kernel
theorem dX3_draw_35 : decode cX3_draw 35 = .ok (.iaload, 1) := by decide +kernel
theorem dX3_draw_36 : decode cX3_draw 36 = .ok (.if_icmp .ge 17, 3) := by decide +kernel
theorem dX3_draw_39 : decode cX3_draw 39 = .ok (.aload_n 0, 1) := by decide +kernel
theorem dX3_draw_40 : decode cX3_draw 40 = .ok (.getfield 9, 3) := by decide +kernel
theorem dX3_draw_43 : decode cX3_draw 43 = .ok (.iload 5, 2) := by decide +kernel
theorem dX3_draw_45 : decode cX3_draw 45 = .ok (.dup2, 1) := by decide +kernel
theorem dX3_draw_46 : decode cX3_draw 46 = .ok (.iaload, 1) := by decide +kernel
theorem dX3_draw_47 : decode cX3_draw 47 = .ok (.iconst 1, 1) := by decide +kernel
theorem dX3_draw_48 : decode cX3_draw 48 = .ok (.isub, 1) := by decide +kernel
theorem dX3_draw_49 : decode cX3_draw 49 = .ok (.iastore, 1) := by decide +kernel
theorem dX3_draw_50 : decode cX3_draw 50 = .ok (.iload 5, 2) := by decide +kernel
theorem dX3_draw_52 : decode cX3_draw 52 = .ok (.ireturn, 1) := by decide +kernel
theorem dX3_draw_53 : decode cX3_draw 53 = .ok (.iload 4, 2) := by decide +kernel
theorem dX3_draw_55 : decode cX3_draw 55 = .ok (.aload_n 0, 1) := by decide +kernel
theorem dX3_draw_56 : decode cX3_draw 56 = .ok (.getfield 9, 3) := by decide +kernel
theorem dX3_draw_59 : decode cX3_draw 59 = .ok (.iload 5, 2) := by decide +kernel
theorem dX3_draw_61 : decode cX3_draw 61 = .ok (.iaload, 1) := by decide +kernel
theorem dX3_draw_62 : decode cX3_draw 62 = .ok (.isub, 1) := by decide +kernel
theorem dX3_draw_63 : decode cX3_draw 63 = .ok (.istore 4, 2) := by decide +kernel
theorem dX3_draw_65 : decode cX3_draw 65 = .ok (.iinc 5 1, 3) := by decide +kernel
theorem dX3_draw_68 : decode cX3_draw 68 = .ok (.goto (-48), 3) := by decide +kernel
theorem dX3_draw_71 : decode cX3_draw 71 = .ok (.iconst (-1), 1) := by decide +kernel
theorem dX3_draw_72 : decode cX3_draw 72 = .ok (.ireturn, 1) := by decide +kernel
theorem dX4_init_0 : decode cX4_init 0 = .ok (.aload_n 0, 1) := by decide +kernel
theorem dX4_init_1 : decode cX4_init 1 = .ok (.invokespecial 3, 3) := by decide +kernel
theorem dX4_init_4 : decode cX4_init 4 = .ok (.aload_n 0, 1) := by decide +kernel
theorem dX4_init_5 : decode cX4_init 5 = .ok (.iconst 5, 1) := by decide +kernel
theorem dX4_init_6 : decode cX4_init 6 = .ok (.newarray .int, 2) := by decide +kernel
theorem dX4_init_8 : decode cX4_init 8 = .ok (.putfield 9, 3) := by decide +kernel
theorem dX4_init_11 : decode cX4_init 11 = .ok (.aload_n 0, 1) := by decide +kernel
theorem dX4_init_12 : decode cX4_init 12 = .ok (.iconst 5, 1) := by decide +kernel
theorem dX4_init_13 : decode cX4_init 13 = .ok (.newarray .int, 2) := by decide +kernel
theorem dX4_init_15 : decode cX4_init 15 = .ok (.putfield 15, 3) := by decide +kernel
theorem dX4_init_18 : decode cX4_init 18 = .ok (.return_, 1) := by decide +kernel
theorem dX4_muster_0 : decode cX4_muster 0 = .ok (.aload_n 0, 1) := by decide +kernel
theorem dX4_muster_1 : decode cX4_muster 1 = .ok (.aload_n 1, 1) := by decide +kernel
theorem dX4_muster_2 : decode cX4_muster 2 = .ok (.getfield 18, 3) := by decide +kernel
theorem dX4_muster_5 : decode cX4_muster 5 = .ok (.iconst 5, 1) := by decide +kernel
theorem dX4_muster_6 : decode cX4_muster 6 = .ok (.invokestatic 24, 3) := by decide +kernel
theorem dX4_muster_9 : decode cX4_muster 9 = .ok (.putfield 30, 3) := by decide +kernel
theorem dX4_muster_12 : decode cX4_muster 12 = .ok (.aload_n 0, 1) := by decide +kernel
theorem dX4_muster_13 : decode cX4_muster 13 = .ok (.iconst 0, 1) := by decide +kernel
theorem dX4_muster_14 : decode cX4_muster 14 = .ok (.putfield 31, 3) := by decide +kernel
theorem dX4_muster_17 : decode cX4_muster 17 = .ok (.iconst 0, 1) := by decide +kernel
theorem dX4_muster_18 : decode cX4_muster 18 = .ok (.istore_n 2, 1) := by decide +kernel
theorem dX4_muster_19 : decode cX4_muster 19 = .ok (.iload_n 2, 1) := by decide +kernel
theorem dX4_muster_20 : decode cX4_muster 20 = .ok (.aload_n 0, 1) := by decide +kernel
theorem dX4_muster_21 : decode cX4_muster 21 = .ok (.getfield 30, 3) := by decide +kernel
theorem dX4_muster_24 : decode cX4_muster 24 = .ok (.if_icmp .ge 31, 3) := by decide +kernel
theorem dX4_muster_27 : decode cX4_muster 27 = .ok (.aload_n 0, 1) := by decide +kernel
theorem dX4_muster_28 : decode cX4_muster 28 = .ok (.getfield 9, 3) := by decide +kernel
theorem dX4_muster_31 : decode cX4_muster 31 = .ok (.iload_n 2, 1) := by decide +kernel
theorem dX4_muster_32 : decode cX4_muster 32 = .ok (.aload_n 1, 1) := by decide +kernel
theorem dX4_muster_33 : decode cX4_muster 33 = .ok (.iload_n 2, 1) := by decide +kernel
theorem dX4_muster_34 : decode cX4_muster 34 = .ok (.invokevirtual 34, 3) := by decide +kernel
theorem dX4_muster_37 : decode cX4_muster 37 = .ok (.iastore, 1) := by decide +kernel
theorem dX4_muster_38 : decode cX4_muster 38 = .ok (.aload_n 0, 1) := by decide +kernel
theorem dX4_muster_39 : decode cX4_muster 39 = .ok (.getfield 15, 3) := by decide +kernel
theorem dX4_muster_42 : decode cX4_muster 42 = .ok (.iload_n 2, 1) := by decide +kernel
theorem dX4_muster_43 : decode cX4_muster 43 = .ok (.aload_n 1, 1) := by decide +kernel
theorem dX4_muster_44 : decode cX4_muster 44 = .ok (.iload_n 2, 1) := by decide +kernel
theorem dX4_muster_45 : decode cX4_muster 45 = .ok (.invokevirtual 38, 3) := by decide +kernel
theorem dX4_muster_48 : decode cX4_muster 48 = .ok (.iastore, 1) := by decide +kernel
theorem dX4_muster_49 : decode cX4_muster 49 = .ok (.iinc 2 1, 3) := by decide +kernel
theorem dX4_muster_52 : decode cX4_muster 52 = .ok (.goto (-33), 3) := by decide +kernel
theorem dX4_muster_55 : decode cX4_muster 55 = .ok (.return_, 1) := by decide +kernel
theorem dX4_living_0 : decode cX4_living 0 = .ok (.iconst 0, 1) := by decide +kernel
theorem dX4_living_1 : decode cX4_living 1 = .ok (.istore_n 1, 1) := by decide +kernel
theorem dX4_living_2 : decode cX4_living 2 = .ok (.iconst 0, 1) := by decide +kernel
theorem dX4_living_3 : decode cX4_living 3 = .ok (.istore_n 2, 1) := by decide +kernel
theorem dX4_living_4 : decode cX4_living 4 = .ok (.iload_n 2, 1) := by decide +kernel
theorem dX4_living_5 : decode cX4_living 5 = .ok (.aload_n 0, 1) := by decide +kernel
theorem dX4_living_6 : decode cX4_living 6 = .ok (.getfield 30, 3) := by decide +kernel
theorem dX4_living_9 : decode cX4_living 9 = .ok (.if_icmp .ge 21, 3) := by decide +kernel
theorem dX4_living_12 : decode cX4_living 12 = .ok (.aload_n 0, 1) := by decide +kernel
theorem dX4_living_13 : decode cX4_living 13 = .ok (.getfield 9, 3) := by decide +kernel
theorem dX4_living_16 : decode cX4_living 16 = .ok (.iload_n 2, 1) := by decide +kernel
theorem dX4_living_17 : decode cX4_living 17 = .ok (.iaload, 1) := by decide +kernel
theorem dX4_living_18 : decode cX4_living 18 = .ok (.ifCond .le 6, 3) := by decide +kernel
theorem dX4_living_21 : decode cX4_living 21 = .ok (.iinc 1 1, 3) := by decide +kernel
theorem dX4_living_24 : decode cX4_living 24 = .ok (.iinc 2 1, 3) := by decide +kernel
theorem dX4_living_27 : decode cX4_living 27 = .ok (.goto (-23), 3) := by decide +kernel
theorem dX4_living_30 : decode cX4_living 30 = .ok (.iload_n 1, 1) := by decide +kernel
theorem dX4_living_31 : decode cX4_living 31 = .ok (.ireturn, 1) := by decide +kernel
theorem dX4_firstLiving_0 : decode cX4_firstLiving 0 = .ok (.iconst 0, 1) := by decide +kernel
theorem dX4_firstLiving_1 : decode cX4_firstLiving 1 = .ok (.istore_n 1, 1) := by decide +kernel
theorem dX4_firstLiving_2 : decode cX4_firstLiving 2 = .ok (.iload_n 1, 1) := by decide +kernel
theorem dX4_firstLiving_3 : decode cX4_firstLiving 3 = .ok (.aload_n 0, 1) := by decide +kernel
theorem dX4_firstLiving_4 : decode cX4_firstLiving 4 = .ok (.getfield 30, 3) := by decide +kernel
theorem dX4_firstLiving_7 : decode cX4_firstLiving 7 = .ok (.if_icmp .ge 20, 3) := by decide +kernel
theorem dX4_firstLiving_10 : decode cX4_firstLiving 10 = .ok (.aload_n 0, 1) := by decide +kernel
theorem dX4_firstLiving_11 : decode cX4_firstLiving 11 = .ok (.getfield 9, 3) := by decide +kernel
theorem dX4_firstLiving_14 : decode cX4_firstLiving 14 = .ok (.iload_n 1, 1) := by decide +kernel
theorem dX4_firstLiving_15 : decode cX4_firstLiving 15 = .ok (.iaload, 1) := by decide +kernel
theorem dX4_firstLiving_16 : decode cX4_firstLiving 16 = .ok (.ifCond .le 5, 3) := by decide +kernel
theorem dX4_firstLiving_19 : decode cX4_firstLiving 19 = .ok (.iload_n 1, 1) := by decide +kernel
theorem dX4_firstLiving_20 : decode cX4_firstLiving 20 = .ok (.ireturn, 1) := by decide +kernel
theorem dX4_firstLiving_21 : decode cX4_firstLiving 21 = .ok (.iinc 1 1, 3) := by decide +kernel
theorem dX4_firstLiving_24 : decode cX4_firstLiving 24 = .ok (.goto (-22), 3) := by decide +kernel
theorem dX4_firstLiving_27 : decode cX4_firstLiving 27 = .ok (.iconst (-1), 1) := by decide +kernel
theorem dX4_firstLiving_28 : decode cX4_firstLiving 28 = .ok (.ireturn, 1) := by decide +kernel
theorem dX4_takeTurn_0 : decode cX4_takeTurn 0 = .ok (.iconst 0, 1) := by decide +kernel
theorem dX4_takeTurn_1 : decode cX4_takeTurn 1 = .ok (.istore_n 1, 1) := by decide +kernel
theorem dX4_takeTurn_2 : decode cX4_takeTurn 2 = .ok (.iload_n 1, 1) := by decide +kernel
theorem dX4_takeTurn_3 : decode cX4_takeTurn 3 = .ok (.aload_n 0, 1) := by decide +kernel
theorem dX4_takeTurn_4 : decode cX4_takeTurn 4 = .ok (.getfield 30, 3) := by decide +kernel
theorem dX4_takeTurn_7 : decode cX4_takeTurn 7 = .ok (.if_icmp .ge 39, 3) := by decide +kernel
theorem dX4_takeTurn_10 : decode cX4_takeTurn 10 = .ok (.aload_n 0, 1) := by decide +kernel
theorem dX4_takeTurn_11 : decode cX4_takeTurn 11 = .ok (.getfield 31, 3) := by decide +kernel
theorem dX4_takeTurn_14 : decode cX4_takeTurn 14 = .ok (.iload_n 1, 1) := by decide +kernel
theorem dX4_takeTurn_15 : decode cX4_takeTurn 15 = .ok (.iadd, 1) := by decide +kernel
theorem dX4_takeTurn_16 : decode cX4_takeTurn 16 = .ok (.aload_n 0, 1) := by decide +kernel
theorem dX4_takeTurn_17 : decode cX4_takeTurn 17 = .ok (.getfield 30, 3) := by decide +kernel
theorem dX4_takeTurn_20 : decode cX4_takeTurn 20 = .ok (.irem, 1) := by decide +kernel
theorem dX4_takeTurn_21 : decode cX4_takeTurn 21 = .ok (.istore_n 2, 1) := by decide +kernel
theorem dX4_takeTurn_22 : decode cX4_takeTurn 22 = .ok (.aload_n 0, 1) := by decide +kernel
theorem dX4_takeTurn_23 : decode cX4_takeTurn 23 = .ok (.getfield 9, 3) := by decide +kernel
theorem dX4_takeTurn_26 : decode cX4_takeTurn 26 = .ok (.iload_n 2, 1) := by decide +kernel
theorem dX4_takeTurn_27 : decode cX4_takeTurn 27 = .ok (.iaload, 1) := by decide +kernel
theorem dX4_takeTurn_28 : decode cX4_takeTurn 28 = .ok (.ifCond .le 12, 3) := by decide +kernel
theorem dX4_takeTurn_31 : decode cX4_takeTurn 31 = .ok (.aload_n 0, 1) := by decide +kernel
theorem dX4_takeTurn_32 : decode cX4_takeTurn 32 = .ok (.iload_n 2, 1) := by decide +kernel
theorem dX4_takeTurn_33 : decode cX4_takeTurn 33 = .ok (.iconst 1, 1) := by decide +kernel
theorem dX4_takeTurn_34 : decode cX4_takeTurn 34 = .ok (.iadd, 1) := by decide +kernel
theorem dX4_takeTurn_35 : decode cX4_takeTurn 35 = .ok (.putfield 31, 3) := by decide +kernel
theorem dX4_takeTurn_38 : decode cX4_takeTurn 38 = .ok (.iload_n 2, 1) := by decide +kernel
theorem dX4_takeTurn_39 : decode cX4_takeTurn 39 = .ok (.ireturn, 1) := by decide +kernel
theorem dX4_takeTurn_40 : decode cX4_takeTurn 40 = .ok (.iinc 1 1, 3) := by decide +kernel
theorem dX4_takeTurn_43 : decode cX4_takeTurn 43 = .ok (.goto (-41), 3) := by decide +kernel
theorem dX4_takeTurn_46 : decode cX4_takeTurn 46 = .ok (.iconst (-1), 1) := by decide +kernel
theorem dX4_takeTurn_47 : decode cX4_takeTurn 47 = .ok (.ireturn, 1) := by decide +kernel
theorem dX5_init_0 : decode cX5_init 0 = .ok (.aload_n 0, 1) := by decide +kernel
theorem dX5_init_1 : decode cX5_init 1 = .ok (.invokespecial 3, 3) := by decide +kernel
theorem dX5_init_4 : decode cX5_init 4 = .ok (.aload_n 0, 1) := by decide +kernel
theorem dX5_init_5 : decode cX5_init 5 = .ok (.iload_n 1, 1) := by decide +kernel
theorem dX5_init_6 : decode cX5_init 6 = .ok (.newarray .int, 2) := by decide +kernel
theorem dX5_init_8 : decode cX5_init 8 = .ok (.putfield 9, 3) := by decide +kernel
theorem dX5_init_11 : decode cX5_init 11 = .ok (.aload_n 0, 1) := by decide +kernel
theorem dX5_init_12 : decode cX5_init 12 = .ok (.iload_n 1, 1) := by decide +kernel
theorem dX5_init_13 : decode cX5_init 13 = .ok (.newarray .int, 2) := by decide +kernel
theorem dX5_init_15 : decode cX5_init 15 = .ok (.putfield 15, 3) := by decide +kernel
theorem dX5_init_18 : decode cX5_init 18 = .ok (.return_, 1) := by decide +kernel
theorem dX5_has_0 : decode cX5_has 0 = .ok (.iload_n 1, 1) := by decide +kernel
theorem dX5_has_1 : decode cX5_has 1 = .ok (.ifCond .lt 15, 3) := by decide +kernel
theorem dX5_has_4 : decode cX5_has 4 = .ok (.iload_n 1, 1) := by decide +kernel
theorem dX5_has_5 : decode cX5_has 5 = .ok (.aload_n 0, 1) := by decide +kernel
theorem dX5_has_6 : decode cX5_has 6 = .ok (.getfield 18, 3) := by decide +kernel
theorem dX5_has_9 : decode cX5_has 9 = .ok (.if_icmp .ge 7, 3) := by decide +kernel
theorem dX5_has_12 : decode cX5_has 12 = .ok (.iconst 1, 1) := by decide +kernel
theorem dX5_has_13 : decode cX5_has 13 = .ok (.goto 4, 3) := by decide +kernel
theorem dX5_has_16 : decode cX5_has 16 = .ok (.iconst 0, 1) := by decide +kernel
theorem dX5_has_17 : decode cX5_has 17 = .ok (.ireturn, 1) := by decide +kernel
theorem dX5_append_0 : decode cX5_append 0 = .ok (.aload_n 0, 1) := by decide +kernel
theorem dX5_append_1 : decode cX5_append 1 = .ok (.getfield 18, 3) := by decide +kernel
theorem dX5_append_4 : decode cX5_append 4 = .ok (.aload_n 0, 1) := by decide +kernel
theorem dX5_append_5 : decode cX5_append 5 = .ok (.getfield 9, 3) := by decide +kernel
theorem dX5_append_8 : decode cX5_append 8 = .ok (.arraylength, 1) := by decide +kernel
theorem dX5_append_9 : decode cX5_append 9 = .ok (.if_icmp .lt 5, 3) := by decide +kernel
theorem dX5_append_12 : decode cX5_append 12 = .ok (.iconst 0, 1) := by decide +kernel
theorem dX5_append_13 : decode cX5_append 13 = .ok (.ireturn, 1) := by decide +kernel
theorem dX5_append_14 : decode cX5_append 14 = .ok (.aload_n 0, 1) := by decide +kernel
theorem dX5_append_15 : decode cX5_append 15 = .ok (.getfield 9, 3) := by decide +kernel
theorem dX5_append_18 : decode cX5_append 18 = .ok (.aload_n 0, 1) := by decide +kernel
theorem dX5_append_19 : decode cX5_append 19 = .ok (.getfield 18, 3) := by decide +kernel
theorem dX5_append_22 : decode cX5_append 22 = .ok (.iload_n 1, 1) := by decide +kernel
theorem dX5_append_23 : decode cX5_append 23 = .ok (.iastore, 1) := by decide +kernel
theorem dX5_append_24 : decode cX5_append 24 = .ok (.aload_n 0, 1) := by decide +kernel
theorem dX5_append_25 : decode cX5_append 25 = .ok (.getfield 15, 3) := by decide +kernel
theorem dX5_append_28 : decode cX5_append 28 = .ok (.aload_n 0, 1) := by decide +kernel
theorem dX5_append_29 : decode cX5_append 29 = .ok (.getfield 18, 3) := by decide +kernel
theorem dX5_append_32 : decode cX5_append 32 = .ok (.iload_n 2, 1) := by decide +kernel
theorem dX5_append_33 : decode cX5_append 33 = .ok (.iastore, 1) := by decide +kernel
theorem dX5_append_34 : decode cX5_append 34 = .ok (.aload_n 0, 1) := by decide +kernel
theorem dX5_append_35 : decode cX5_append 35 = .ok (.dup, 1) := by decide +kernel
theorem dX5_append_36 : decode cX5_append 36 = .ok (.getfield 18, 3) := by decide +kernel
theorem dX5_append_39 : decode cX5_append 39 = .ok (.iconst 1, 1) := by decide +kernel
theorem dX5_append_40 : decode cX5_append 40 = .ok (.iadd, 1) := by decide +kernel
theorem dX5_append_41 : decode cX5_append 41 = .ok (.putfield 18, 3) := by decide +kernel
theorem dX5_append_44 : decode cX5_append 44 = .ok (.iconst 1, 1) := by decide +kernel
theorem dX5_append_45 : decode cX5_append 45 = .ok (.ireturn, 1) := by decide +kernel
theorem dX5_removeAt_0 : decode cX5_removeAt 0 = .ok (.aload_n 0, 1) := by decide +kernel
theorem dX5_removeAt_1 : decode cX5_removeAt 1 = .ok (.iload_n 1, 1) := by decide +kernel
theorem dX5_removeAt_2 : decode cX5_removeAt 2 = .ok (.invokevirtual 22, 3) := by decide +kernel
theorem dX5_removeAt_5 : decode cX5_removeAt 5 = .ok (.ifCond .ne 4, 3) := by decide +kernel
theorem dX5_removeAt_8 : decode cX5_removeAt 8 = .ok (.return_, 1) := by decide +kernel
theorem dX5_removeAt_9 : decode cX5_removeAt 9 = .ok (.aload_n 0, 1) := by decide +kernel
theorem dX5_removeAt_10 : decode cX5_removeAt 10 = .ok (.dup, 1) := by decide +kernel
theorem dX5_removeAt_11 : decode cX5_removeAt 11 = .ok (.getfield 18, 3) := by decide +kernel
theorem dX5_removeAt_14 : decode cX5_removeAt 14 = .ok (.iconst 1, 1) := by decide +kernel
theorem dX5_removeAt_15 : decode cX5_removeAt 15 = .ok (.isub, 1) := by decide +kernel
theorem dX5_removeAt_16 : decode cX5_removeAt 16 = .ok (.putfield 18, 3) := by decide +kernel
theorem dX5_removeAt_19 : decode cX5_removeAt 19 = .ok (.iload_n 1, 1) := by decide +kernel
theorem dX5_removeAt_20 : decode cX5_removeAt 20 = .ok (.istore_n 2, 1) := by decide +kernel
theorem dX5_removeAt_21 : decode cX5_removeAt 21 = .ok (.iload_n 2, 1) := by decide +kernel
theorem dX5_removeAt_22 : decode cX5_removeAt 22 = .ok (.aload_n 0, 1) := by decide +kernel
theorem dX5_removeAt_23 : decode cX5_removeAt 23 = .ok (.getfield 18, 3) := by decide +kernel
theorem dX5_removeAt_26 : decode cX5_removeAt 26 = .ok (.if_icmp .ge 37, 3) := by decide +kernel
theorem dX5_removeAt_29 : decode cX5_removeAt 29 = .ok (.aload_n 0, 1) := by decide +kernel
theorem dX5_removeAt_30 : decode cX5_removeAt 30 = .ok (.getfield 9, 3) := by decide +kernel
theorem dX5_removeAt_33 : decode cX5_removeAt 33 = .ok (.iload_n 2, 1) := by decide +kernel
theorem dX5_removeAt_34 : decode cX5_removeAt 34 = .ok (.aload_n 0, 1) := by decide +kernel
theorem dX5_removeAt_35 : decode cX5_removeAt 35 = .ok (.getfield 9, 3) := by decide +kernel
theorem dX5_removeAt_38 : decode cX5_removeAt 38 = .ok (.iload_n 2, 1) := by decide +kernel
theorem dX5_removeAt_39 : decode cX5_removeAt 39 = .ok (.iconst 1, 1) := by decide +kernel
theorem dX5_removeAt_40 : decode cX5_removeAt 40 = .ok (.iadd, 1) := by decide +kernel
theorem dX5_removeAt_41 : decode cX5_removeAt 41 = .ok (.iaload, 1) := by decide +kernel
theorem dX5_removeAt_42 : decode cX5_removeAt 42 = .ok (.iastore, 1) := by decide +kernel
theorem dX5_removeAt_43 : decode cX5_removeAt 43 = .ok (.aload_n 0, 1) := by decide +kernel
theorem dX5_removeAt_44 : decode cX5_removeAt 44 = .ok (.getfield 15, 3) := by decide +kernel
theorem dX5_removeAt_47 : decode cX5_removeAt 47 = .ok (.iload_n 2, 1) := by decide +kernel
theorem dX5_removeAt_48 : decode cX5_removeAt 48 = .ok (.aload_n 0, 1) := by decide +kernel
theorem dX5_removeAt_49 : decode cX5_removeAt 49 = .ok (.getfield 15, 3) := by decide +kernel
theorem dX5_removeAt_52 : decode cX5_removeAt 52 = .ok (.iload_n 2, 1) := by decide +kernel
theorem dX5_removeAt_53 : decode cX5_removeAt 53 = .ok (.iconst 1, 1) := by decide +kernel
theorem dX5_removeAt_54 : decode cX5_removeAt 54 = .ok (.iadd, 1) := by decide +kernel
theorem dX5_removeAt_55 : decode cX5_removeAt 55 = .ok (.iaload, 1) := by decide +kernel
theorem dX5_removeAt_56 : decode cX5_removeAt 56 = .ok (.iastore, 1) := by decide +kernel
theorem dX5_removeAt_57 : decode cX5_removeAt 57 = .ok (.iinc 2 1, 3) := by decide +kernel
theorem dX5_removeAt_60 : decode cX5_removeAt 60 = .ok (.goto (-39), 3) := by decide +kernel
theorem dX5_removeAt_63 : decode cX5_removeAt 63 = .ok (.return_, 1) := by decide +kernel
theorem dX5_find_0 : decode cX5_find 0 = .ok (.iconst 0, 1) := by decide +kernel
theorem dX5_find_1 : decode cX5_find 1 = .ok (.istore_n 3, 1) := by decide +kernel
theorem dX5_find_2 : decode cX5_find 2 = .ok (.iload_n 3, 1) := by decide +kernel
theorem dX5_find_3 : decode cX5_find 3 = .ok (.aload_n 0, 1) := by decide +kernel
theorem dX5_find_4 : decode cX5_find 4 = .ok (.getfield 18, 3) := by decide +kernel
theorem dX5_find_7 : decode cX5_find 7 = .ok (.if_icmp .ge 31, 3) := by decide +kernel
theorem dX5_find_10 : decode cX5_find 10 = .ok (.aload_n 0, 1) := by decide +kernel
theorem dX5_find_11 : decode cX5_find 11 = .ok (.getfield 9, 3) := by decide +kernel
theorem dX5_find_14 : decode cX5_find 14 = .ok (.iload_n 3, 1) := by decide +kernel
theorem dX5_find_15 : decode cX5_find 15 = .ok (.iaload, 1) := by decide +kernel
theorem dX5_find_16 : decode cX5_find 16 = .ok (.iload_n 1, 1) := by decide +kernel
theorem dX5_find_17 : decode cX5_find 17 = .ok (.if_icmp .ne 15, 3) := by decide +kernel
theorem dX5_find_20 : decode cX5_find 20 = .ok (.aload_n 0, 1) := by decide +kernel
theorem dX5_find_21 : decode cX5_find 21 = .ok (.getfield 15, 3) := by decide +kernel
theorem dX5_find_24 : decode cX5_find 24 = .ok (.iload_n 3, 1) := by decide +kernel
theorem dX5_find_25 : decode cX5_find 25 = .ok (.iaload, 1) := by decide +kernel
theorem dX5_find_26 : decode cX5_find 26 = .ok (.iload_n 2, 1) := by decide +kernel
theorem dX5_find_27 : decode cX5_find 27 = .ok (.if_icmp .ne 5, 3) := by decide +kernel
theorem dX5_find_30 : decode cX5_find 30 = .ok (.iload_n 3, 1) := by decide +kernel
theorem dX5_find_31 : decode cX5_find 31 = .ok (.ireturn, 1) := by decide +kernel
theorem dX5_find_32 : decode cX5_find 32 = .ok (.iinc 3 1, 3) := by decide +kernel
theorem dX5_find_35 : decode cX5_find 35 = .ok (.goto (-33), 3) := by decide +kernel
theorem dX5_find_38 : decode cX5_find 38 = .ok (.iconst (-1), 1) := by decide +kernel
theorem dX5_find_39 : decode cX5_find 39 = .ok (.ireturn, 1) := by decide +kernel
theorem dX5_countOf_0 : decode cX5_countOf 0 = .ok (.iconst 0, 1) := by decide +kernel
theorem dX5_countOf_1 : decode cX5_countOf 1 = .ok (.istore_n 3, 1) := by decide +kernel
theorem dX5_countOf_2 : decode cX5_countOf 2 = .ok (.iconst 0, 1) := by decide +kernel
theorem dX5_countOf_3 : decode cX5_countOf 3 = .ok (.istore 4, 2) := by decide +kernel
theorem dX5_countOf_5 : decode cX5_countOf 5 = .ok (.iload 4, 2) := by decide +kernel
theorem dX5_countOf_7 : decode cX5_countOf 7 = .ok (.aload_n 0, 1) := by decide +kernel
theorem dX5_countOf_8 : decode cX5_countOf 8 = .ok (.getfield 18, 3) := by decide +kernel
theorem dX5_countOf_11 : decode cX5_countOf 11 = .ok (.if_icmp .ge 34, 3) := by decide +kernel
theorem dX5_countOf_14 : decode cX5_countOf 14 = .ok (.aload_n 0, 1) := by decide +kernel
theorem dX5_countOf_15 : decode cX5_countOf 15 = .ok (.getfield 9, 3) := by decide +kernel
theorem dX5_countOf_18 : decode cX5_countOf 18 = .ok (.iload 4, 2) := by decide +kernel
theorem dX5_countOf_20 : decode cX5_countOf 20 = .ok (.iaload, 1) := by decide +kernel
theorem dX5_countOf_21 : decode cX5_countOf 21 = .ok (.iload_n 1, 1) := by decide +kernel
theorem dX5_countOf_22 : decode cX5_countOf 22 = .ok (.if_icmp .ne 17, 3) := by decide +kernel
theorem dX5_countOf_25 : decode cX5_countOf 25 = .ok (.aload_n 0, 1) := by decide +kernel
theorem dX5_countOf_26 : decode cX5_countOf 26 = .ok (.getfield 15, 3) := by decide +kernel
theorem dX5_countOf_29 : decode cX5_countOf 29 = .ok (.iload 4, 2) := by decide +kernel
theorem dX5_countOf_31 : decode cX5_countOf 31 = .ok (.iaload, 1) := by decide +kernel
theorem dX5_countOf_32 : decode cX5_countOf 32 = .ok (.iload_n 2, 1) := by decide +kernel
theorem dX5_countOf_33 : decode cX5_countOf 33 = .ok (.if_icmp .ne 6, 3) := by decide +kernel
theorem dX5_countOf_36 : decode cX5_countOf 36 = .ok (.iinc 3 1, 3) := by decide +kernel
theorem dX5_countOf_39 : decode cX5_countOf 39 = .ok (.iinc 4 1, 3) := by decide +kernel
theorem dX5_countOf_42 : decode cX5_countOf 42 = .ok (.goto (-37), 3) := by decide +kernel
theorem dX5_countOf_45 : decode cX5_countOf 45 = .ok (.iload_n 3, 1) := by decide +kernel
theorem dX5_countOf_46 : decode cX5_countOf 46 = .ok (.ireturn, 1) := by decide +kernel
theorem dX5_hasKind_0 : decode cX5_hasKind 0 = .ok (.iconst 0, 1) := by decide +kernel
theorem dX5_hasKind_1 : decode cX5_hasKind 1 = .ok (.istore_n 2, 1) := by decide +kernel
theorem dX5_hasKind_2 : decode cX5_hasKind 2 = .ok (.iload_n 2, 1) := by decide +kernel
theorem dX5_hasKind_3 : decode cX5_hasKind 3 = .ok (.aload_n 0, 1) := by decide +kernel
theorem dX5_hasKind_4 : decode cX5_hasKind 4 = .ok (.getfield 18, 3) := by decide +kernel
theorem dX5_hasKind_7 : decode cX5_hasKind 7 = .ok (.if_icmp .ge 21, 3) := by decide +kernel
theorem dX5_hasKind_10 : decode cX5_hasKind 10 = .ok (.aload_n 0, 1) := by decide +kernel
theorem dX5_hasKind_11 : decode cX5_hasKind 11 = .ok (.getfield 9, 3) := by decide +kernel
theorem dX5_hasKind_14 : decode cX5_hasKind 14 = .ok (.iload_n 2, 1) := by decide +kernel
theorem dX5_hasKind_15 : decode cX5_hasKind 15 = .ok (.iaload, 1) := by decide +kernel
theorem dX5_hasKind_16 : decode cX5_hasKind 16 = .ok (.iload_n 1, 1) := by decide +kernel
theorem dX5_hasKind_17 : decode cX5_hasKind 17 = .ok (.if_icmp .ne 5, 3) := by decide +kernel
theorem dX5_hasKind_20 : decode cX5_hasKind 20 = .ok (.iconst 1, 1) := by decide +kernel
theorem dX5_hasKind_21 : decode cX5_hasKind 21 = .ok (.ireturn, 1) := by decide +kernel
theorem dX5_hasKind_22 : decode cX5_hasKind 22 = .ok (.iinc 2 1, 3) := by decide +kernel
theorem dX5_hasKind_25 : decode cX5_hasKind 25 = .ok (.goto (-23), 3) := by decide +kernel
theorem dX5_hasKind_28 : decode cX5_hasKind 28 = .ok (.iconst 0, 1) := by decide +kernel
theorem dX5_hasKind_29 : decode cX5_hasKind 29 = .ok (.ireturn, 1) := by decide +kernel
theorem dX5_unitsHeld_0 : decode cX5_unitsHeld 0 = .ok (.iconst 0, 1) := by decide +kernel
theorem dX5_unitsHeld_1 : decode cX5_unitsHeld 1 = .ok (.istore_n 2, 1) := by decide +kernel
theorem dX5_unitsHeld_2 : decode cX5_unitsHeld 2 = .ok (.iconst 0, 1) := by decide +kernel
theorem dX5_unitsHeld_3 : decode cX5_unitsHeld 3 = .ok (.istore_n 3, 1) := by decide +kernel
theorem dX5_unitsHeld_4 : decode cX5_unitsHeld 4 = .ok (.iload_n 3, 1) := by decide +kernel
theorem dX5_unitsHeld_5 : decode cX5_unitsHeld 5 = .ok (.aload_n 0, 1) := by decide +kernel
theorem dX5_unitsHeld_6 : decode cX5_unitsHeld 6 = .ok (.getfield 18, 3) := by decide +kernel
theorem dX5_unitsHeld_9 : decode cX5_unitsHeld 9 = .ok (.if_icmp .ge 31, 3) := by decide +kernel
theorem dX5_unitsHeld_12 : decode cX5_unitsHeld 12 = .ok (.aload_n 0, 1) := by decide +kernel
theorem dX5_unitsHeld_13 : decode cX5_unitsHeld 13 = .ok (.getfield 9, 3) := by decide +kernel
theorem dX5_unitsHeld_16 : decode cX5_unitsHeld 16 = .ok (.iload_n 3, 1) := by decide +kernel
theorem dX5_unitsHeld_17 : decode cX5_unitsHeld 17 = .ok (.iaload, 1) := by decide +kernel
theorem dX5_unitsHeld_18 : decode cX5_unitsHeld 18 = .ok (.iload_n 1, 1) := by decide +kernel
theorem dX5_unitsHeld_19 : decode cX5_unitsHeld 19 = .ok (.if_icmp .ne 15, 3) := by decide +kernel
theorem dX5_unitsHeld_22 : decode cX5_unitsHeld 22 = .ok (.iload_n 2, 1) := by decide +kernel
theorem dX5_unitsHeld_23 : decode cX5_unitsHeld 23 = .ok (.aload_n 0, 1) := by decide +kernel
theorem dX5_unitsHeld_24 : decode cX5_unitsHeld 24 = .ok (.getfield 15, 3) := by decide +kernel
theorem dX5_unitsHeld_27 : decode cX5_unitsHeld 27 = .ok (.iload_n 3, 1) := by decide +kernel
theorem dX5_unitsHeld_28 : decode cX5_unitsHeld 28 = .ok (.iaload, 1) := by decide +kernel
theorem dX5_unitsHeld_29 : decode cX5_unitsHeld 29 = .ok (.invokestatic 26, 3) := by decide +kernel
theorem dX5_unitsHeld_32 : decode cX5_unitsHeld 32 = .ok (.iadd, 1) := by decide +kernel
theorem dX5_unitsHeld_33 : decode cX5_unitsHeld 33 = .ok (.istore_n 2, 1) := by decide +kernel
theorem dX5_unitsHeld_34 : decode cX5_unitsHeld 34 = .ok (.iinc 3 1, 3) := by decide +kernel
theorem dX5_unitsHeld_37 : decode cX5_unitsHeld 37 = .ok (.goto (-33), 3) := by decide +kernel
theorem dX5_unitsHeld_40 : decode cX5_unitsHeld 40 = .ok (.iload_n 2, 1) := by decide +kernel
theorem dX5_unitsHeld_41 : decode cX5_unitsHeld 41 = .ok (.ireturn, 1) := by decide +kernel
theorem dX5_unitAt_0 : decode cX5_unitAt 0 = .ok (.aload_n 0, 1) := by decide +kernel
theorem dX5_unitAt_1 : decode cX5_unitAt 1 = .ok (.iload_n 1, 1) := by decide +kernel
theorem dX5_unitAt_2 : decode cX5_unitAt 2 = .ok (.invokevirtual 22, 3) := by decide +kernel
theorem dX5_unitAt_5 : decode cX5_unitAt 5 = .ok (.ifCond .eq 22, 3) := by decide +kernel
theorem dX5_unitAt_8 : decode cX5_unitAt 8 = .ok (.bipush 10, 2) := by decide +kernel
theorem dX5_unitAt_10 : decode cX5_unitAt 10 = .ok (.aload_n 0, 1) := by decide +kernel
theorem dX5_unitAt_11 : decode cX5_unitAt 11 = .ok (.getfield 9, 3) := by decide +kernel
theorem dX5_unitAt_14 : decode cX5_unitAt 14 = .ok (.iload_n 1, 1) := by decide +kernel
theorem dX5_unitAt_15 : decode cX5_unitAt 15 = .ok (.iaload, 1) := by decide +kernel
theorem dX5_unitAt_16 : decode cX5_unitAt 16 = .ok (.imul, 1) := by decide +kernel
theorem dX5_unitAt_17 : decode cX5_unitAt 17 = .ok (.aload_n 0, 1) := by decide +kernel
theorem dX5_unitAt_18 : decode cX5_unitAt 18 = .ok (.getfield 15, 3) := by decide +kernel
theorem dX5_unitAt_21 : decode cX5_unitAt 21 = .ok (.iload_n 1, 1) := by decide +kernel
theorem dX5_unitAt_22 : decode cX5_unitAt 22 = .ok (.iaload, 1) := by decide +kernel
theorem dX5_unitAt_23 : decode cX5_unitAt 23 = .ok (.iadd, 1) := by decide +kernel
theorem dX5_unitAt_24 : decode cX5_unitAt 24 = .ok (.goto 4, 3) := by decide +kernel
theorem dX5_unitAt_27 : decode cX5_unitAt 27 = .ok (.iconst (-1), 1) := by decide +kernel
theorem dX5_unitAt_28 : decode cX5_unitAt 28 = .ok (.ireturn, 1) := by decide +kernel
theorem dX5_healthAt_0 : decode cX5_healthAt 0 = .ok (.aload_n 0, 1) := by decide +kernel
theorem dX5_healthAt_1 : decode cX5_healthAt 1 = .ok (.iload_n 1, 1) := by decide +kernel
theorem dX5_healthAt_2 : decode cX5_healthAt 2 = .ok (.invokevirtual 22, 3) := by decide +kernel
theorem dX5_healthAt_5 : decode cX5_healthAt 5 = .ok (.ifCond .eq 25, 3) := by decide +kernel
theorem dX5_healthAt_8 : decode cX5_healthAt 8 = .ok (.bipush 6, 2) := by decide +kernel
theorem dX5_healthAt_10 : decode cX5_healthAt 10 = .ok (.aload_n 0, 1) := by decide +kernel
theorem dX5_healthAt_11 : decode cX5_healthAt 11 = .ok (.getfield 9, 3) := by decide +kernel
theorem dX5_healthAt_14 : decode cX5_healthAt 14 = .ok (.iload_n 1, 1) := by decide +kernel
theorem dX5_healthAt_15 : decode cX5_healthAt 15 = .ok (.iaload, 1) := by decide +kernel
theorem dX5_healthAt_16 : decode cX5_healthAt 16 = .ok (.invokestatic 30, 3) := by decide +kernel
theorem dX5_healthAt_19 : decode cX5_healthAt 19 = .ok (.imul, 1) := by decide +kernel
theorem dX5_healthAt_20 : decode cX5_healthAt 20 = .ok (.aload_n 0, 1) := by decide +kernel
theorem dX5_healthAt_21 : decode cX5_healthAt 21 = .ok (.getfield 15, 3) := by decide +kernel
theorem dX5_healthAt_24 : decode cX5_healthAt 24 = .ok (.iload_n 1, 1) := by decide +kernel
theorem dX5_healthAt_25 : decode cX5_healthAt 25 = .ok (.iaload, 1) := by decide +kernel
theorem dX5_healthAt_26 : decode cX5_healthAt 26 = .ok (.imul, 1) := by decide +kernel
theorem dX5_healthAt_27 : decode cX5_healthAt 27 = .ok (.goto 4, 3) := by decide +kernel
theorem dX5_healthAt_30 : decode cX5_healthAt 30 = .ok (.iconst 0, 1) := by decide +kernel
theorem dX5_healthAt_31 : decode cX5_healthAt 31 = .ok (.ireturn, 1) := by decide +kernel
theorem dX5_strengthAt_0 : decode cX5_strengthAt 0 = .ok (.aload_n 0, 1) := by decide +kernel
theorem dX5_strengthAt_1 : decode cX5_strengthAt 1 = .ok (.iload_n 1, 1) := by decide +kernel
theorem dX5_strengthAt_2 : decode cX5_strengthAt 2 = .ok (.invokevirtual 22, 3) := by decide +kernel
theorem dX5_strengthAt_5 : decode cX5_strengthAt 5 = .ok (.ifCond .ne 5, 3) := by decide +kernel
theorem dX5_strengthAt_8 : decode cX5_strengthAt 8 = .ok (.iconst 0, 1) := by decide +kernel
theorem dX5_strengthAt_9 : decode cX5_strengthAt 9 = .ok (.ireturn, 1) := by decide +kernel
theorem dX5_strengthAt_10 : decode cX5_strengthAt 10 = .ok (.aload_n 0, 1) := by decide +kernel
theorem dX5_strengthAt_11 : decode cX5_strengthAt 11 = .ok (.getfield 9, 3) := by decide +kernel
theorem dX5_strengthAt_14 : decode cX5_strengthAt 14 = .ok (.iload_n 1, 1) := by decide +kernel
theorem dX5_strengthAt_15 : decode cX5_strengthAt 15 = .ok (.iaload, 1) := by decide +kernel
theorem dX5_strengthAt_16 : decode cX5_strengthAt 16 = .ok (.istore_n 2, 1) := by decide +kernel
theorem dX5_strengthAt_17 : decode cX5_strengthAt 17 = .ok (.iconst 2, 1) := by decide +kernel
theorem dX5_strengthAt_18 : decode cX5_strengthAt 18 = .ok (.iload_n 2, 1) := by decide +kernel
theorem dX5_strengthAt_19 : decode cX5_strengthAt 19 = .ok (.invokestatic 30, 3) := by decide +kernel
theorem dX5_strengthAt_22 : decode cX5_strengthAt 22 = .ok (.imul, 1) := by decide +kernel
theorem dX5_strengthAt_23 : decode cX5_strengthAt 23 = .ok (.aload_n 0, 1) := by decide +kernel
theorem dX5_strengthAt_24 : decode cX5_strengthAt 24 = .ok (.getfield 15, 3) := by decide +kernel
theorem dX5_strengthAt_27 : decode cX5_strengthAt 27 = .ok (.iload_n 1, 1) := by decide +kernel
theorem dX5_strengthAt_28 : decode cX5_strengthAt 28 = .ok (.iaload, 1) := by decide +kernel
theorem dX5_strengthAt_29 : decode cX5_strengthAt 29 = .ok (.imul, 1) := by decide +kernel
theorem dX5_strengthAt_30 : decode cX5_strengthAt 30 = .ok (.istore_n 3, 1) := by decide +kernel
theorem dX5_strengthAt_31 : decode cX5_strengthAt 31 = .ok (.iload_n 2, 1) := by decide +kernel
theorem dX5_strengthAt_32 : decode cX5_strengthAt 32 = .ok (.iconst 3, 1) := by decide +kernel
theorem dX5_strengthAt_33 : decode cX5_strengthAt 33 = .ok (.irem, 1) := by decide +kernel
theorem dX5_strengthAt_34 : decode cX5_strengthAt 34 = .ok (.istore 4, 2) := by decide +kernel
theorem dX5_strengthAt_36 : decode cX5_strengthAt 36 = .ok (.iload 4, 2) := by decide +kernel
theorem dX5_strengthAt_38 : decode cX5_strengthAt 38 = .ok (.bipush 9, 2) := by decide +kernel
theorem dX5_strengthAt_40 : decode cX5_strengthAt 40 = .ok (.if_icmp .ge 27, 3) := by decide +kernel
theorem dX5_strengthAt_43 : decode cX5_strengthAt 43 = .ok (.iload 4, 2) := by decide +kernel
theorem dX5_strengthAt_45 : decode cX5_strengthAt 45 = .ok (.iload_n 2, 1) := by decide +kernel
theorem dX5_strengthAt_46 : decode cX5_strengthAt 46 = .ok (.if_icmp .eq 15, 3) := by decide +kernel
theorem dX5_strengthAt_49 : decode cX5_strengthAt 49 = .ok (.aload_n 0, 1) := by decide +kernel
theorem dX5_strengthAt_50 : decode cX5_strengthAt 50 = .ok (.iload 4, 2) := by decide +kernel
theorem dX5_strengthAt_52 : decode cX5_strengthAt 52 = .ok (.invokevirtual 33, 3) := by decide +kernel
theorem dX5_strengthAt_55 : decode cX5_strengthAt 55 = .ok (.ifCond .eq 6, 3) := by decide +kernel
theorem dX5_strengthAt_58 : decode cX5_strengthAt 58 = .ok (.iinc 3 1, 3) := by decide +kernel
theorem dX5_strengthAt_61 : decode cX5_strengthAt 61 = .ok (.iinc 4 3, 3) := by decide +kernel
theorem dX5_strengthAt_64 : decode cX5_strengthAt 64 = .ok (.goto (-28), 3) := by decide +kernel
theorem dX5_strengthAt_67 : decode cX5_strengthAt 67 = .ok (.iload_n 3, 1) := by decide +kernel
theorem dX5_strengthAt_68 : decode cX5_strengthAt 68 = .ok (.ireturn, 1) := by decide +kernel
theorem dX6_init_0 : decode cX6_init 0 = .ok (.aload_n 0, 1) := by decide +kernel
theorem dX6_init_1 : decode cX6_init 1 = .ok (.invokespecial 1, 3) := by decide +kernel
theorem dX6_init_4 : decode cX6_init 4 = .ok (.aload_n 0, 1) := by decide +kernel
theorem dX6_init_5 : decode cX6_init 5 = .ok (.iconst 4, 1) := by decide +kernel
theorem dX6_init_6 : decode cX6_init 6 = .ok (.anewarray 9, 3) := by decide +kernel
theorem dX6_init_9 : decode cX6_init 9 = .ok (.putfield 11, 3) := by decide +kernel
theorem dX6_init_12 : decode cX6_init 12 = .ok (.aload_n 0, 1) := by decide +kernel
theorem dX6_init_13 : decode cX6_init 13 = .ok (.new 15, 3) := by decide +kernel
theorem dX6_init_16 : decode cX6_init 16 = .ok (.dup, 1) := by decide +kernel
theorem dX6_init_17 : decode cX6_init 17 = .ok (.invokespecial 17, 3) := by decide +kernel
theorem dX6_init_20 : decode cX6_init 20 = .ok (.putfield 18, 3) := by decide +kernel
theorem dX6_init_23 : decode cX6_init 23 = .ok (.aload_n 0, 1) := by decide +kernel
theorem dX6_init_24 : decode cX6_init 24 = .ok (.new 22, 3) := by decide +kernel
theorem dX6_init_27 : decode cX6_init 27 = .ok (.dup, 1) := by decide +kernel
theorem dX6_init_28 : decode cX6_init 28 = .ok (.invokespecial 24, 3) := by decide +kernel
theorem dX6_init_31 : decode cX6_init 31 = .ok (.putfield 25, 3) := by decide +kernel
theorem dX6_init_34 : decode cX6_init 34 = .ok (.aload_n 0, 1) := by decide +kernel
theorem dX6_init_35 : decode cX6_init 35 = .ok (.new 29, 3) := by decide +kernel
theorem dX6_init_38 : decode cX6_init 38 = .ok (.dup, 1) := by decide +kernel
theorem dX6_init_39 : decode cX6_init 39 = .ok (.invokespecial 31, 3) := by decide +kernel
theorem dX6_init_42 : decode cX6_init 42 = .ok (.putfield 32, 3) := by decide +kernel
theorem dX6_init_45 : decode cX6_init 45 = .ok (.iconst 0, 1) := by decide +kernel
theorem dX6_init_46 : decode cX6_init 46 = .ok (.istore_n 1, 1) := by decide +kernel
theorem dX6_init_47 : decode cX6_init 47 = .ok (.iload_n 1, 1) := by decide +kernel
theorem dX6_init_48 : decode cX6_init 48 = .ok (.iconst 4, 1) := by decide +kernel
theorem dX6_init_49 : decode cX6_init 49 = .ok (.if_icmp .ge 22, 3) := by decide +kernel
theorem dX6_init_52 : decode cX6_init 52 = .ok (.aload_n 0, 1) := by decide +kernel
theorem dX6_init_53 : decode cX6_init 53 = .ok (.getfield 11, 3) := by decide +kernel
theorem dX6_init_56 : decode cX6_init 56 = .ok (.iload_n 1, 1) := by decide +kernel
theorem dX6_init_57 : decode cX6_init 57 = .ok (.new 9, 3) := by decide +kernel
theorem dX6_init_60 : decode cX6_init 60 = .ok (.dup, 1) := by decide +kernel
theorem dX6_init_61 : decode cX6_init 61 = .ok (.invokespecial 36, 3) := by decide +kernel
theorem dX6_init_64 : decode cX6_init 64 = .ok (.aastore, 1) := by decide +kernel
theorem dX6_init_65 : decode cX6_init 65 = .ok (.iinc 1 1, 3) := by decide +kernel
theorem dX6_init_68 : decode cX6_init 68 = .ok (.goto (-21), 3) := by decide +kernel
theorem dX6_init_71 : decode cX6_init 71 = .ok (.return_, 1) := by decide +kernel
theorem dX6_tell_0 : decode cX6_tell 0 = .ok (.iload_n 1, 1) := by decide +kernel
theorem dX6_tell_1 : decode cX6_tell 1 = .ok (.ifCond .lt 10, 3) := by decide +kernel
theorem dX6_tell_4 : decode cX6_tell 4 = .ok (.iload_n 1, 1) := by decide +kernel
theorem dX6_tell_5 : decode cX6_tell 5 = .ok (.sipush 1000, 3) := by decide +kernel
theorem dX6_tell_8 : decode cX6_tell 8 = .ok (.if_icmp .le 13, 3) := by decide +kernel
theorem dX6_tell_11 : decode cX6_tell 11 = .ok (.new 37, 3) := by decide +kernel
theorem dX6_tell_14 : decode cX6_tell 14 = .ok (.dup, 1) := by decide +kernel
theorem dX6_tell_15 : decode cX6_tell 15 = .ok (.ldc 39, 2) := by decide +kernel
theorem dX6_tell_17 : decode cX6_tell 17 = .ok (.invokespecial 41, 3) := by decide +kernel
theorem dX6_tell_20 : decode cX6_tell 20 = .ok (.athrow, 1) := by decide +kernel
theorem dX6_tell_21 : decode cX6_tell 21 = .ok (.aload_n 0, 1) := by decide +kernel
theorem dX6_tell_22 : decode cX6_tell 22 = .ok (.getfield 25, 3) := by decide +kernel
theorem dX6_tell_25 : decode cX6_tell 25 = .ok (.iload_n 1, 1) := by decide +kernel
theorem dX6_tell_26 : decode cX6_tell 26 = .ok (.invokevirtual 44, 3) := by decide +kernel
theorem dX6_tell_29 : decode cX6_tell 29 = .ok (.ifCond .ne 13, 3) := by decide +kernel
theorem dX6_tell_32 : decode cX6_tell 32 = .ok (.new 48, 3) := by decide +kernel
theorem dX6_tell_35 : decode cX6_tell 35 = .ok (.dup, 1) := by decide +kernel
theorem dX6_tell_36 : decode cX6_tell 36 = .ok (.ldc 50, 2) := by decide +kernel
theorem dX6_tell_38 : decode cX6_tell 38 = .ok (.invokespecial 52, 3) := by decide +kernel
theorem dX6_tell_41 : decode cX6_tell 41 = .ok (.athrow, 1) := by decide +kernel
theorem dX6_tell_42 : decode cX6_tell 42 = .ok (.aload_n 0, 1) := by decide +kernel
theorem dX6_tell_43 : decode cX6_tell 43 = .ok (.getfield 25, 3) := by decide +kernel
theorem dX6_tell_46 : decode cX6_tell 46 = .ok (.getfield 53, 3) := by decide +kernel
theorem dX6_tell_49 : decode cX6_tell 49 = .ok (.ireturn, 1) := by decide +kernel
theorem dX6_roll_0 : decode cX6_roll 0 = .ok (.aload_n 0, 1) := by decide +kernel
theorem dX6_roll_1 : decode cX6_roll 1 = .ok (.iload_n 1, 1) := by decide +kernel
theorem dX6_roll_2 : decode cX6_roll 2 = .ok (.invokevirtual 57, 3) := by decide +kernel
theorem dX6_roll_5 : decode cX6_roll 5 = .ok (.astore_n 2, 1) := by decide +kernel
theorem dX6_roll_6 : decode cX6_roll 6 = .ok (.aload_n 2, 1) := by decide +kernel
theorem dX6_roll_7 : decode cX6_roll 7 = .ok (.getfield 61, 3) := by decide +kernel
theorem dX6_roll_10 : decode cX6_roll 10 = .ok (.iconst 1, 1) := by decide +kernel
theorem dX6_roll_11 : decode cX6_roll 11 = .ok (.if_icmp .ge 13, 3) := by decide +kernel
theorem dX6_roll_14 : decode cX6_roll 14 = .ok (.new 48, 3) := by decide +kernel
theorem dX6_roll_17 : decode cX6_roll 17 = .ok (.dup, 1) := by decide +kernel
theorem dX6_roll_18 : decode cX6_roll 18 = .ok (.ldc 64, 2) := by decide +kernel
theorem dX6_roll_20 : decode cX6_roll 20 = .ok (.invokespecial 52, 3) := by decide +kernel
theorem dX6_roll_23 : decode cX6_roll 23 = .ok (.athrow, 1) := by decide +kernel
theorem dX6_roll_24 : decode cX6_roll 24 = .ok (.aload_n 2, 1) := by decide +kernel
theorem dX6_roll_25 : decode cX6_roll 25 = .ok (.dup, 1) := by decide +kernel
theorem dX6_roll_26 : decode cX6_roll 26 = .ok (.getfield 61, 3) := by decide +kernel
theorem dX6_roll_29 : decode cX6_roll 29 = .ok (.iconst 1, 1) := by decide +kernel
theorem dX6_roll_30 : decode cX6_roll 30 = .ok (.isub, 1) := by decide +kernel
theorem dX6_roll_31 : decode cX6_roll 31 = .ok (.putfield 61, 3) := by decide +kernel
theorem dX6_roll_34 : decode cX6_roll 34 = .ok (.aload_n 0, 1) := by decide +kernel
theorem dX6_roll_35 : decode cX6_roll 35 = .ok (.aload_n 2, 1) := by decide +kernel
theorem dX6_roll_36 : decode cX6_roll 36 = .ok (.invokevirtual 66, 3) := by decide +kernel
theorem dX6_roll_39 : decode cX6_roll 39 = .ok (.aload_n 2, 1) := by decide +kernel
theorem dX6_roll_40 : decode cX6_roll 40 = .ok (.iconst 0, 1) := by decide +kernel
theorem dX6_roll_41 : decode cX6_roll 41 = .ok (.putfield 70, 3) := by decide +kernel
theorem dX6_roll_44 : decode cX6_roll 44 = .ok (.aload_n 2, 1) := by decide +kernel
theorem dX6_roll_45 : decode cX6_roll 45 = .ok (.getfield 61, 3) := by decide +kernel
theorem dX6_roll_48 : decode cX6_roll 48 = .ok (.ireturn, 1) := by decide +kernel
theorem dX6_toggleLock_0 : decode cX6_toggleLock 0 = .ok (.aload_n 0, 1) := by decide +kernel
theorem dX6_toggleLock_1 : decode cX6_toggleLock 1 = .ok (.iload_n 1, 1) := by decide +kernel
theorem dX6_toggleLock_2 : decode cX6_toggleLock 2 = .ok (.invokevirtual 57, 3) := by decide +kernel
theorem dX6_toggleLock_5 : decode cX6_toggleLock 5 = .ok (.astore_n 2, 1) := by decide +kernel
theorem dX6_toggleLock_6 : decode cX6_toggleLock 6 = .ok (.aload_n 2, 1) := by decide +kernel
theorem dX6_toggleLock_7 : decode cX6_toggleLock 7 = .ok (.aload_n 2, 1) := by decide +kernel
theorem dX6_toggleLock_8 : decode cX6_toggleLock 8 = .ok (.getfield 70, 3) := by decide +kernel
theorem dX6_toggleLock_11 : decode cX6_toggleLock 11 = .ok (.ifCond .ne 7, 3) := by decide +kernel
theorem dX6_toggleLock_14 : decode cX6_toggleLock 14 = .ok (.iconst 1, 1) := by decide +kernel
theorem dX6_toggleLock_15 : decode cX6_toggleLock 15 = .ok (.goto 4, 3) := by decide +kernel
theorem dX6_toggleLock_18 : decode cX6_toggleLock 18 = .ok (.iconst 0, 1) := by decide +kernel
theorem dX6_toggleLock_19 : decode cX6_toggleLock 19 = .ok (.putfield 70, 3) := by decide +kernel
theorem dX6_toggleLock_22 : decode cX6_toggleLock 22 = .ok (.aload_n 2, 1) := by decide +kernel
theorem dX6_toggleLock_23 : decode cX6_toggleLock 23 = .ok (.getfield 70, 3) := by decide +kernel
theorem dX6_toggleLock_26 : decode cX6_toggleLock 26 = .ok (.ireturn, 1) := by decide +kernel
theorem dX6_buyLevel_0 : decode cX6_buyLevel 0 = .ok (.aload_n 0, 1) := by decide +kernel
theorem dX6_buyLevel_1 : decode cX6_buyLevel 1 = .ok (.iload_n 1, 1) := by decide +kernel
theorem dX6_buyLevel_2 : decode cX6_buyLevel 2 = .ok (.invokevirtual 57, 3) := by decide +kernel
theorem dX6_buyLevel_5 : decode cX6_buyLevel 5 = .ok (.astore_n 2, 1) := by decide +kernel
theorem dX6_buyLevel_6 : decode cX6_buyLevel 6 = .ok (.aload_n 2, 1) := by decide +kernel
theorem dX6_buyLevel_7 : decode cX6_buyLevel 7 = .ok (.getfield 61, 3) := by decide +kernel
theorem dX6_buyLevel_10 : decode cX6_buyLevel 10 = .ok (.iconst 4, 1) := by decide +kernel
theorem dX6_buyLevel_11 : decode cX6_buyLevel 11 = .ok (.if_icmp .ge 13, 3) := by decide +kernel
theorem dX6_buyLevel_14 : decode cX6_buyLevel 14 = .ok (.new 48, 3) := by decide +kernel
theorem dX6_buyLevel_17 : decode cX6_buyLevel 17 = .ok (.dup, 1) := by decide +kernel
theorem dX6_buyLevel_18 : decode cX6_buyLevel 18 = .ok (.ldc 74, 2) := by decide +kernel
theorem dX6_buyLevel_20 : decode cX6_buyLevel 20 = .ok (.invokespecial 52, 3) := by decide +kernel
theorem dX6_buyLevel_23 : decode cX6_buyLevel 23 = .ok (.athrow, 1) := by decide +kernel
theorem dX6_buyLevel_24 : decode cX6_buyLevel 24 = .ok (.aload_n 2, 1) := by decide +kernel
theorem dX6_buyLevel_25 : decode cX6_buyLevel 25 = .ok (.getfield 76, 3) := by decide +kernel
theorem dX6_buyLevel_28 : decode cX6_buyLevel 28 = .ok (.iconst 5, 1) := by decide +kernel
theorem dX6_buyLevel_29 : decode cX6_buyLevel 29 = .ok (.if_icmp .lt 13, 3) := by decide +kernel
theorem dX6_buyLevel_32 : decode cX6_buyLevel 32 = .ok (.new 48, 3) := by decide +kernel
theorem dX6_buyLevel_35 : decode cX6_buyLevel 35 = .ok (.dup, 1) := by decide +kernel
theorem dX6_buyLevel_36 : decode cX6_buyLevel 36 = .ok (.ldc 79, 2) := by decide +kernel
theorem dX6_buyLevel_38 : decode cX6_buyLevel 38 = .ok (.invokespecial 52, 3) := by decide +kernel
theorem dX6_buyLevel_41 : decode cX6_buyLevel 41 = .ok (.athrow, 1) := by decide +kernel
theorem dX6_buyLevel_42 : decode cX6_buyLevel 42 = .ok (.aload_n 2, 1) := by decide +kernel
theorem dX6_buyLevel_43 : decode cX6_buyLevel 43 = .ok (.dup, 1) := by decide +kernel
theorem dX6_buyLevel_44 : decode cX6_buyLevel 44 = .ok (.getfield 61, 3) := by decide +kernel
theorem dX6_buyLevel_47 : decode cX6_buyLevel 47 = .ok (.iconst 4, 1) := by decide +kernel
theorem dX6_buyLevel_48 : decode cX6_buyLevel 48 = .ok (.isub, 1) := by decide +kernel
theorem dX6_buyLevel_49 : decode cX6_buyLevel 49 = .ok (.putfield 61, 3) := by decide +kernel
theorem dX6_buyLevel_52 : decode cX6_buyLevel 52 = .ok (.aload_n 2, 1) := by decide +kernel
theorem dX6_buyLevel_53 : decode cX6_buyLevel 53 = .ok (.dup, 1) := by decide +kernel
theorem dX6_buyLevel_54 : decode cX6_buyLevel 54 = .ok (.getfield 76, 3) := by decide +kernel
theorem dX6_buyLevel_57 : decode cX6_buyLevel 57 = .ok (.iconst 1, 1) := by decide +kernel
theorem dX6_buyLevel_58 : decode cX6_buyLevel 58 = .ok (.iadd, 1) := by decide +kernel
theorem dX6_buyLevel_59 : decode cX6_buyLevel 59 = .ok (.putfield 76, 3) := by decide +kernel
theorem dX6_buyLevel_62 : decode cX6_buyLevel 62 = .ok (.aload_n 2, 1) := by decide +kernel
theorem dX6_buyLevel_63 : decode cX6_buyLevel 63 = .ok (.getfield 76, 3) := by decide +kernel
theorem dX6_buyLevel_66 : decode cX6_buyLevel 66 = .ok (.ireturn, 1) := by decide +kernel
theorem dX6_buy_0 : decode cX6_buy 0 = .ok (.aload_n 0, 1) := by decide +kernel
theorem dX6_buy_1 : decode cX6_buy 1 = .ok (.iload_n 1, 1) := by decide +kernel
theorem dX6_buy_2 : decode cX6_buy 2 = .ok (.invokevirtual 57, 3) := by decide +kernel
theorem dX6_buy_5 : decode cX6_buy 5 = .ok (.astore_n 3, 1) := by decide +kernel
theorem dX6_buy_6 : decode cX6_buy 6 = .ok (.iload_n 2, 1) := by decide +kernel
theorem dX6_buy_7 : decode cX6_buy 7 = .ok (.invokestatic 81, 3) := by decide +kernel
theorem dX6_buy_10 : decode cX6_buy 10 = .ok (.aload_n 3, 1) := by decide +kernel
theorem dX6_buy_11 : decode cX6_buy 11 = .ok (.getfield 85, 3) := by decide +kernel
theorem dX6_buy_14 : decode cX6_buy 14 = .ok (.iload_n 2, 1) := by decide +kernel
theorem dX6_buy_15 : decode cX6_buy 15 = .ok (.iaload, 1) := by decide +kernel
theorem dX6_buy_16 : decode cX6_buy 16 = .ok (.istore 4, 2) := by decide +kernel
theorem dX6_buy_18 : decode cX6_buy 18 = .ok (.iload 4, 2) := by decide +kernel
theorem dX6_buy_20 : decode cX6_buy 20 = .ok (.iconst (-1), 1) := by decide +kernel
theorem dX6_buy_21 : decode cX6_buy 21 = .ok (.if_icmp .ne 13, 3) := by decide +kernel
theorem dX6_buy_24 : decode cX6_buy 24 = .ok (.new 89, 3) := by decide +kernel
theorem dX6_buy_27 : decode cX6_buy 27 = .ok (.dup, 1) := by decide +kernel
theorem dX6_buy_28 : decode cX6_buy 28 = .ok (.ldc 91, 2) := by decide +kernel
theorem dX6_buy_30 : decode cX6_buy 30 = .ok (.invokespecial 93, 3) := by decide +kernel
theorem dX6_buy_33 : decode cX6_buy 33 = .ok (.athrow, 1) := by decide +kernel
theorem dX6_buy_34 : decode cX6_buy 34 = .ok (.aload_n 3, 1) := by decide +kernel
theorem dX6_buy_35 : decode cX6_buy 35 = .ok (.getfield 61, 3) := by decide +kernel
theorem dX6_buy_38 : decode cX6_buy 38 = .ok (.iload 4, 2) := by decide +kernel
theorem dX6_buy_40 : decode cX6_buy 40 = .ok (.invokestatic 94, 3) := by decide +kernel
theorem dX6_buy_43 : decode cX6_buy 43 = .ok (.if_icmp .ge 13, 3) := by decide +kernel
theorem dX6_buy_46 : decode cX6_buy 46 = .ok (.new 48, 3) := by decide +kernel
theorem dX6_buy_49 : decode cX6_buy 49 = .ok (.dup, 1) := by decide +kernel
theorem dX6_buy_50 : decode cX6_buy 50 = .ok (.ldc 74, 2) := by decide +kernel
theorem dX6_buy_52 : decode cX6_buy 52 = .ok (.invokespecial 52, 3) := by decide +kernel
theorem dX6_buy_55 : decode cX6_buy 55 = .ok (.athrow, 1) := by decide +kernel
theorem dX6_buy_56 : decode cX6_buy 56 = .ok (.aload_n 3, 1) := by decide +kernel
theorem dX6_buy_57 : decode cX6_buy 57 = .ok (.getfield 98, 3) := by decide +kernel
theorem dX6_buy_60 : decode cX6_buy 60 = .ok (.iload 4, 2) := by decide +kernel
theorem dX6_buy_62 : decode cX6_buy 62 = .ok (.iconst 1, 1) := by decide +kernel
theorem dX6_buy_63 : decode cX6_buy 63 = .ok (.invokevirtual 102, 3) := by decide +kernel
theorem dX6_buy_66 : decode cX6_buy 66 = .ok (.ifCond .ne 13, 3) := by decide +kernel
theorem dX6_buy_69 : decode cX6_buy 69 = .ok (.new 48, 3) := by decide +kernel
theorem dX6_buy_72 : decode cX6_buy 72 = .ok (.dup, 1) := by decide +kernel
theorem dX6_buy_73 : decode cX6_buy 73 = .ok (.ldc 107, 2) := by decide +kernel
theorem dX6_buy_75 : decode cX6_buy 75 = .ok (.invokespecial 52, 3) := by decide +kernel
theorem dX6_buy_78 : decode cX6_buy 78 = .ok (.athrow, 1) := by decide +kernel
theorem dX6_buy_79 : decode cX6_buy 79 = .ok (.aload_n 3, 1) := by decide +kernel
theorem dX6_buy_80 : decode cX6_buy 80 = .ok (.getfield 85, 3) := by decide +kernel
theorem dX6_buy_83 : decode cX6_buy 83 = .ok (.iload_n 2, 1) := by decide +kernel
theorem dX6_buy_84 : decode cX6_buy 84 = .ok (.iconst (-1), 1) := by decide +kernel
theorem dX6_buy_85 : decode cX6_buy 85 = .ok (.iastore, 1) := by decide +kernel
theorem dX6_buy_86 : decode cX6_buy 86 = .ok (.aload_n 3, 1) := by decide +kernel
theorem dX6_buy_87 : decode cX6_buy 87 = .ok (.dup, 1) := by decide +kernel
theorem dX6_buy_88 : decode cX6_buy 88 = .ok (.getfield 61, 3) := by decide +kernel
theorem dX6_buy_91 : decode cX6_buy 91 = .ok (.iload 4, 2) := by decide +kernel
theorem dX6_buy_93 : decode cX6_buy 93 = .ok (.invokestatic 94, 3) := by decide +kernel
theorem dX6_buy_96 : decode cX6_buy 96 = .ok (.isub, 1) := by decide +kernel
theorem dX6_buy_97 : decode cX6_buy 97 = .ok (.putfield 61, 3) := by decide +kernel
theorem dX6_buy_100 : decode cX6_buy 100 = .ok (.aload_n 3, 1) := by decide +kernel
theorem dX6_buy_101 : decode cX6_buy 101 = .ok (.invokevirtual 109, 3) := by decide +kernel
theorem dX6_buy_104 : decode cX6_buy 104 = .ok (.aload_n 3, 1) := by decide +kernel
theorem dX6_buy_105 : decode cX6_buy 105 = .ok (.getfield 61, 3) := by decide +kernel
theorem dX6_buy_108 : decode cX6_buy 108 = .ok (.ireturn, 1) := by decide +kernel
theorem dX6_sell_0 : decode cX6_sell 0 = .ok (.aload_n 0, 1) := by decide +kernel
theorem dX6_sell_1 : decode cX6_sell 1 = .ok (.iload_n 1, 1) := by decide +kernel
theorem dX6_sell_2 : decode cX6_sell 2 = .ok (.invokevirtual 57, 3) := by decide +kernel
theorem dX6_sell_5 : decode cX6_sell 5 = .ok (.astore_n 3, 1) := by decide +kernel
theorem dX6_sell_6 : decode cX6_sell 6 = .ok (.aload_n 3, 1) := by decide +kernel
theorem dX6_sell_7 : decode cX6_sell 7 = .ok (.getfield 98, 3) := by decide +kernel
theorem dX6_sell_10 : decode cX6_sell 10 = .ok (.iload_n 2, 1) := by decide +kernel
theorem dX6_sell_11 : decode cX6_sell 11 = .ok (.invokestatic 112, 3) := by decide +kernel
theorem dX6_sell_14 : decode cX6_sell 14 = .ok (.aload_n 3, 1) := by decide +kernel
theorem dX6_sell_15 : decode cX6_sell 15 = .ok (.getfield 98, 3) := by decide +kernel
theorem dX6_sell_18 : decode cX6_sell 18 = .ok (.getfield 116, 3) := by decide +kernel
theorem dX6_sell_21 : decode cX6_sell 21 = .ok (.iload_n 2, 1) := by decide +kernel
theorem dX6_sell_22 : decode cX6_sell 22 = .ok (.iaload, 1) := by decide +kernel
theorem dX6_sell_23 : decode cX6_sell 23 = .ok (.istore 4, 2) := by decide +kernel
theorem dX6_sell_25 : decode cX6_sell 25 = .ok (.aload_n 3, 1) := by decide +kernel
theorem dX6_sell_26 : decode cX6_sell 26 = .ok (.getfield 98, 3) := by decide +kernel
theorem dX6_sell_29 : decode cX6_sell 29 = .ok (.getfield 119, 3) := by decide +kernel
theorem dX6_sell_32 : decode cX6_sell 32 = .ok (.iload_n 2, 1) := by decide +kernel
theorem dX6_sell_33 : decode cX6_sell 33 = .ok (.iaload, 1) := by decide +kernel
theorem dX6_sell_34 : decode cX6_sell 34 = .ok (.invokestatic 122, 3) := by decide +kernel
theorem dX6_sell_37 : decode cX6_sell 37 = .ok (.istore 5, 2) := by decide +kernel
theorem dX6_sell_39 : decode cX6_sell 39 = .ok (.aload_n 3, 1) := by decide +kernel
theorem dX6_sell_40 : decode cX6_sell 40 = .ok (.getfield 98, 3) := by decide +kernel
theorem dX6_sell_43 : decode cX6_sell 43 = .ok (.iload_n 2, 1) := by decide +kernel
theorem dX6_sell_44 : decode cX6_sell 44 = .ok (.invokevirtual 125, 3) := by decide +kernel
theorem dX6_sell_47 : decode cX6_sell 47 = .ok (.aload_n 0, 1) := by decide +kernel
theorem dX6_sell_48 : decode cX6_sell 48 = .ok (.getfield 18, 3) := by decide +kernel
theorem dX6_sell_51 : decode cX6_sell 51 = .ok (.iload 4, 2) := by decide +kernel
theorem dX6_sell_53 : decode cX6_sell 53 = .ok (.iload 5, 2) := by decide +kernel
theorem dX6_sell_55 : decode cX6_sell 55 = .ok (.invokevirtual 128, 3) := by decide +kernel
theorem dX6_sell_58 : decode cX6_sell 58 = .ok (.aload_n 3, 1) := by decide +kernel
theorem dX6_sell_59 : decode cX6_sell 59 = .ok (.iload 4, 2) := by decide +kernel
theorem dX6_sell_61 : decode cX6_sell 61 = .ok (.invokestatic 94, 3) := by decide +kernel
theorem dX6_sell_64 : decode cX6_sell 64 = .ok (.iload 5, 2) := by decide +kernel
theorem dX6_sell_66 : decode cX6_sell 66 = .ok (.imul, 1) := by decide +kernel
theorem dX6_sell_67 : decode cX6_sell 67 = .ok (.invokevirtual 132, 3) := by decide +kernel
theorem dX6_sell_70 : decode cX6_sell 70 = .ok (.aload_n 3, 1) := by decide +kernel
theorem dX6_sell_71 : decode cX6_sell 71 = .ok (.getfield 61, 3) := by decide +kernel
theorem dX6_sell_74 : decode cX6_sell 74 = .ok (.ireturn, 1) := by decide +kernel
theorem dX6_toBoard_0 : decode cX6_toBoard 0 = .ok (.aload_n 0, 1) := by decide +kernel
theorem dX6_toBoard_1 : decode cX6_toBoard 1 = .ok (.iload_n 1, 1) := by decide +kernel
theorem dX6_toBoard_2 : decode cX6_toBoard 2 = .ok (.invokevirtual 57, 3) := by decide +kernel
theorem dX6_toBoard_5 : decode cX6_toBoard 5 = .ok (.astore_n 3, 1) := by decide +kernel
theorem dX6_toBoard_6 : decode cX6_toBoard 6 = .ok (.aload_n 3, 1) := by decide +kernel
theorem dX6_toBoard_7 : decode cX6_toBoard 7 = .ok (.getfield 98, 3) := by decide +kernel
theorem dX6_toBoard_10 : decode cX6_toBoard 10 = .ok (.iload_n 2, 1) := by decide +kernel
theorem dX6_toBoard_11 : decode cX6_toBoard 11 = .ok (.invokestatic 112, 3) := by decide +kernel
theorem dX6_toBoard_14 : decode cX6_toBoard 14 = .ok (.aload_n 3, 1) := by decide +kernel
theorem dX6_toBoard_15 : decode cX6_toBoard 15 = .ok (.getfield 135, 3) := by decide +kernel
theorem dX6_toBoard_18 : decode cX6_toBoard 18 = .ok (.getfield 138, 3) := by decide +kernel
theorem dX6_toBoard_21 : decode cX6_toBoard 21 = .ok (.aload_n 3, 1) := by decide +kernel
theorem dX6_toBoard_22 : decode cX6_toBoard 22 = .ok (.getfield 76, 3) := by decide +kernel
theorem dX6_toBoard_25 : decode cX6_toBoard 25 = .ok (.if_icmp .lt 13, 3) := by decide +kernel
theorem dX6_toBoard_28 : decode cX6_toBoard 28 = .ok (.new 48, 3) := by decide +kernel
theorem dX6_toBoard_31 : decode cX6_toBoard 31 = .ok (.dup, 1) := by decide +kernel
theorem dX6_toBoard_32 : decode cX6_toBoard 32 = .ok (.ldc 141, 2) := by decide +kernel
theorem dX6_toBoard_34 : decode cX6_toBoard 34 = .ok (.invokespecial 52, 3) := by decide +kernel
theorem dX6_toBoard_37 : decode cX6_toBoard 37 = .ok (.athrow, 1) := by decide +kernel
theorem dX6_toBoard_38 : decode cX6_toBoard 38 = .ok (.aload_n 3, 1) := by decide +kernel
theorem dX6_toBoard_39 : decode cX6_toBoard 39 = .ok (.getfield 135, 3) := by decide +kernel
theorem dX6_toBoard_42 : decode cX6_toBoard 42 = .ok (.aload_n 3, 1) := by decide +kernel
theorem dX6_toBoard_43 : decode cX6_toBoard 43 = .ok (.getfield 98, 3) := by decide +kernel
theorem dX6_toBoard_46 : decode cX6_toBoard 46 = .ok (.getfield 116, 3) := by decide +kernel
theorem dX6_toBoard_49 : decode cX6_toBoard 49 = .ok (.iload_n 2, 1) := by decide +kernel
theorem dX6_toBoard_50 : decode cX6_toBoard 50 = .ok (.iaload, 1) := by decide +kernel
theorem dX6_toBoard_51 : decode cX6_toBoard 51 = .ok (.aload_n 3, 1) := by decide +kernel
theorem dX6_toBoard_52 : decode cX6_toBoard 52 = .ok (.getfield 98, 3) := by decide +kernel
theorem dX6_toBoard_55 : decode cX6_toBoard 55 = .ok (.getfield 119, 3) := by decide +kernel
theorem dX6_toBoard_58 : decode cX6_toBoard 58 = .ok (.iload_n 2, 1) := by decide +kernel
theorem dX6_toBoard_59 : decode cX6_toBoard 59 = .ok (.iaload, 1) := by decide +kernel
theorem dX6_toBoard_60 : decode cX6_toBoard 60 = .ok (.invokevirtual 102, 3) := by decide +kernel
theorem dX6_toBoard_63 : decode cX6_toBoard 63 = .ok (.ifCond .eq 11, 3) := by decide +kernel
theorem dX6_toBoard_66 : decode cX6_toBoard 66 = .ok (.aload_n 3, 1) := by decide +kernel
theorem dX6_toBoard_67 : decode cX6_toBoard 67 = .ok (.getfield 98, 3) := by decide +kernel
theorem dX6_toBoard_70 : decode cX6_toBoard 70 = .ok (.iload_n 2, 1) := by decide +kernel
theorem dX6_toBoard_71 : decode cX6_toBoard 71 = .ok (.invokevirtual 125, 3) := by decide +kernel
theorem dX6_toBoard_74 : decode cX6_toBoard 74 = .ok (.aload_n 3, 1) := by decide +kernel
theorem dX6_toBoard_75 : decode cX6_toBoard 75 = .ok (.getfield 135, 3) := by decide +kernel
theorem dX6_toBoard_78 : decode cX6_toBoard 78 = .ok (.getfield 138, 3) := by decide +kernel
theorem dX6_toBoard_81 : decode cX6_toBoard 81 = .ok (.ireturn, 1) := by decide +kernel
theorem dX6_toBench_0 : decode cX6_toBench 0 = .ok (.aload_n 0, 1) := by decide +kernel
theorem dX6_toBench_1 : decode cX6_toBench 1 = .ok (.iload_n 1, 1) := by decide +kernel
theorem dX6_toBench_2 : decode cX6_toBench 2 = .ok (.invokevirtual 57, 3) := by decide +kernel
theorem dX6_toBench_5 : decode cX6_toBench 5 = .ok (.astore_n 3, 1) := by decide +kernel
theorem dX6_toBench_6 : decode cX6_toBench 6 = .ok (.aload_n 3, 1) := by decide +kernel
theorem dX6_toBench_7 : decode cX6_toBench 7 = .ok (.getfield 135, 3) := by decide +kernel
theorem dX6_toBench_10 : decode cX6_toBench 10 = .ok (.iload_n 2, 1) := by decide +kernel
theorem dX6_toBench_11 : decode cX6_toBench 11 = .ok (.invokestatic 112, 3) := by decide +kernel
theorem dX6_toBench_14 : decode cX6_toBench 14 = .ok (.aload_n 3, 1) := by decide +kernel
theorem dX6_toBench_15 : decode cX6_toBench 15 = .ok (.getfield 98, 3) := by decide +kernel
theorem dX6_toBench_18 : decode cX6_toBench 18 = .ok (.aload_n 3, 1) := by decide +kernel
theorem dX6_toBench_19 : decode cX6_toBench 19 = .ok (.getfield 135, 3) := by decide +kernel
theorem dX6_toBench_22 : decode cX6_toBench 22 = .ok (.getfield 116, 3) := by decide +kernel
theorem dX6_toBench_25 : decode cX6_toBench 25 = .ok (.iload_n 2, 1) := by decide +kernel
theorem dX6_toBench_26 : decode cX6_toBench 26 = .ok (.iaload, 1) := by decide +kernel
theorem dX6_toBench_27 : decode cX6_toBench 27 = .ok (.aload_n 3, 1) := by decide +kernel
theorem dX6_toBench_28 : decode cX6_toBench 28 = .ok (.getfield 135, 3) := by decide +kernel
theorem dX6_toBench_31 : decode cX6_toBench 31 = .ok (.getfield 119, 3) := by decide +kernel
theorem dX6_toBench_34 : decode cX6_toBench 34 = .ok (.iload_n 2, 1) := by decide +kernel
theorem dX6_toBench_35 : decode cX6_toBench 35 = .ok (.iaload, 1) := by decide +kernel
theorem dX6_toBench_36 : decode cX6_toBench 36 = .ok (.invokevirtual 102, 3) := by decide +kernel
theorem dX6_toBench_39 : decode cX6_toBench 39 = .ok (.ifCond .ne 13, 3) := by decide +kernel
theorem dX6_toBench_42 : decode cX6_toBench 42 = .ok (.new 48, 3) := by decide +kernel
theorem dX6_toBench_45 : decode cX6_toBench 45 = .ok (.dup, 1) := by decide +kernel
theorem dX6_toBench_46 : decode cX6_toBench 46 = .ok (.ldc 107, 2) := by decide +kernel
theorem dX6_toBench_48 : decode cX6_toBench 48 = .ok (.invokespecial 52, 3) := by decide +kernel
theorem dX6_toBench_51 : decode cX6_toBench 51 = .ok (.athrow, 1) := by decide +kernel
theorem dX6_toBench_52 : decode cX6_toBench 52 = .ok (.aload_n 3, 1) := by decide +kernel
theorem dX6_toBench_53 : decode cX6_toBench 53 = .ok (.getfield 135, 3) := by decide +kernel
theorem dX6_toBench_56 : decode cX6_toBench 56 = .ok (.iload_n 2, 1) := by decide +kernel
theorem dX6_toBench_57 : decode cX6_toBench 57 = .ok (.invokevirtual 125, 3) := by decide +kernel
theorem dX6_toBench_60 : decode cX6_toBench 60 = .ok (.aload_n 3, 1) := by decide +kernel
theorem dX6_toBench_61 : decode cX6_toBench 61 = .ok (.invokevirtual 109, 3) := by decide +kernel
theorem dX6_toBench_64 : decode cX6_toBench 64 = .ok (.aload_n 3, 1) := by decide +kernel
theorem dX6_toBench_65 : decode cX6_toBench 65 = .ok (.getfield 98, 3) := by decide +kernel
theorem dX6_toBench_68 : decode cX6_toBench 68 = .ok (.getfield 138, 3) := by decide +kernel
theorem dX6_toBench_71 : decode cX6_toBench 71 = .ok (.ireturn, 1) := by decide +kernel
theorem dX6_round_0 : decode cX6_round 0 = .ok (.aload_n 0, 1) := by decide +kernel
theorem dX6_round_1 : decode cX6_round 1 = .ok (.getfield 143, 3) := by decide +kernel
theorem dX6_round_4 : decode cX6_round 4 = .ok (.sipush 200, 3) := by decide +kernel
theorem dX6_round_7 : decode cX6_round 7 = .ok (.if_icmp .lt 13, 3) := by decide +kernel
theorem dX6_round_10 : decode cX6_round 10 = .ok (.new 48, 3) := by decide +kernel
theorem dX6_round_13 : decode cX6_round 13 = .ok (.dup, 1) := by decide +kernel
theorem dX6_round_14 : decode cX6_round 14 = .ok (.ldc 146, 2) := by decide +kernel
theorem dX6_round_16 : decode cX6_round 16 = .ok (.invokespecial 52, 3) := by decide +kernel
theorem dX6_round_19 : decode cX6_round 19 = .ok (.athrow, 1) := by decide +kernel
theorem dX6_round_20 : decode cX6_round 20 = .ok (.aload_n 0, 1) := by decide +kernel
theorem dX6_round_21 : decode cX6_round 21 = .ok (.getfield 143, 3) := by decide +kernel
theorem dX6_round_24 : decode cX6_round 24 = .ok (.iconst 3, 1) := by decide +kernel
theorem dX6_round_25 : decode cX6_round 25 = .ok (.irem, 1) := by decide +kernel
theorem dX6_round_26 : decode cX6_round 26 = .ok (.iconst 4, 1) := by decide +kernel
theorem dX6_round_27 : decode cX6_round 27 = .ok (.imul, 1) := by decide +kernel
theorem dX6_round_28 : decode cX6_round 28 = .ok (.istore_n 1, 1) := by decide +kernel
theorem dX6_round_29 : decode cX6_round 29 = .ok (.iconst 0, 1) := by decide +kernel
theorem dX6_round_30 : decode cX6_round 30 = .ok (.istore_n 2, 1) := by decide +kernel
theorem dX6_round_31 : decode cX6_round 31 = .ok (.iload_n 2, 1) := by decide +kernel
theorem dX6_round_32 : decode cX6_round 32 = .ok (.iconst 4, 1) := by decide +kernel
theorem dX6_round_33 : decode cX6_round 33 = .ok (.if_icmp .ge 29, 3) := by decide +kernel
theorem dX6_round_36 : decode cX6_round 36 = .ok (.aload_n 0, 1) := by decide +kernel
theorem dX6_round_37 : decode cX6_round 37 = .ok (.getstatic 148, 3) := by decide +kernel
theorem dX6_round_40 : decode cX6_round 40 = .ok (.iload_n 1, 1) := by decide +kernel
theorem dX6_round_41 : decode cX6_round 41 = .ok (.iload_n 2, 1) := by decide +kernel
theorem dX6_round_42 : decode cX6_round 42 = .ok (.iadd, 1) := by decide +kernel
theorem dX6_round_43 : decode cX6_round 43 = .ok (.iaload, 1) := by decide +kernel
theorem dX6_round_44 : decode cX6_round 44 = .ok (.getstatic 148, 3) := by decide +kernel
theorem dX6_round_47 : decode cX6_round 47 = .ok (.iload_n 1, 1) := by decide +kernel
theorem dX6_round_48 : decode cX6_round 48 = .ok (.iload_n 2, 1) := by decide +kernel
theorem dX6_round_49 : decode cX6_round 49 = .ok (.iadd, 1) := by decide +kernel
theorem dX6_round_50 : decode cX6_round 50 = .ok (.iconst 1, 1) := by decide +kernel
theorem dX6_round_51 : decode cX6_round 51 = .ok (.iadd, 1) := by decide +kernel
theorem dX6_round_52 : decode cX6_round 52 = .ok (.iaload, 1) := by decide +kernel
theorem dX6_round_53 : decode cX6_round 53 = .ok (.invokevirtual 151, 3) := by decide +kernel
theorem dX6_round_56 : decode cX6_round 56 = .ok (.iinc 2 2, 3) := by decide +kernel
theorem dX6_round_59 : decode cX6_round 59 = .ok (.goto (-28), 3) := by decide +kernel
theorem dX6_round_62 : decode cX6_round 62 = .ok (.iconst 0, 1) := by decide +kernel
theorem dX6_round_63 : decode cX6_round 63 = .ok (.istore_n 2, 1) := by decide +kernel
theorem dX6_round_64 : decode cX6_round 64 = .ok (.iload_n 2, 1) := by decide +kernel
theorem dX6_round_65 : decode cX6_round 65 = .ok (.iconst 4, 1) := by decide +kernel
theorem dX6_round_66 : decode cX6_round 66 = .ok (.if_icmp .ge 18, 3) := by decide +kernel
theorem dX6_round_69 : decode cX6_round 69 = .ok (.aload_n 0, 1) := by decide +kernel
theorem dX6_round_70 : decode cX6_round 70 = .ok (.getfield 11, 3) := by decide +kernel
theorem dX6_round_73 : decode cX6_round 73 = .ok (.iload_n 2, 1) := by decide +kernel
theorem dX6_round_74 : decode cX6_round 74 = .ok (.aaload, 1) := by decide +kernel
theorem dX6_round_75 : decode cX6_round 75 = .ok (.invokevirtual 154, 3) := by decide +kernel
theorem dX6_round_78 : decode cX6_round 78 = .ok (.iinc 2 1, 3) := by decide +kernel
theorem dX6_round_81 : decode cX6_round 81 = .ok (.goto (-17), 3) := by decide +kernel
theorem dX6_round_84 : decode cX6_round 84 = .ok (.aload_n 0, 1) := by decide +kernel
theorem dX6_round_85 : decode cX6_round 85 = .ok (.invokevirtual 157, 3) := by decide +kernel
theorem dX6_round_88 : decode cX6_round 88 = .ok (.aload_n 0, 1) := by decide +kernel
theorem dX6_round_89 : decode cX6_round 89 = .ok (.dup, 1) := by decide +kernel
theorem dX6_round_90 : decode cX6_round 90 = .ok (.getfield 143, 3) := by decide +kernel
theorem dX6_round_93 : decode cX6_round 93 = .ok (.iconst 1, 1) := by decide +kernel
theorem dX6_round_94 : decode cX6_round 94 = .ok (.iadd, 1) := by decide +kernel
theorem dX6_round_95 : decode cX6_round 95 = .ok (.putfield 143, 3) := by decide +kernel
theorem dX6_round_98 : decode cX6_round 98 = .ok (.aload_n 0, 1) := by decide +kernel
theorem dX6_round_99 : decode cX6_round 99 = .ok (.invokevirtual 160, 3) := by decide +kernel
theorem dX6_round_102 : decode cX6_round 102 = .ok (.ireturn, 1) := by decide +kernel
theorem dX6_rounds_0 : decode cX6_rounds 0 = .ok (.aload_n 0, 1) := by decide +kernel
theorem dX6_rounds_1 : decode cX6_rounds 1 = .ok (.getfield 143, 3) := by decide +kernel
theorem dX6_rounds_4 : decode cX6_rounds 4 = .ok (.ireturn, 1) := by decide +kernel
theorem dX6_fight_0 : decode cX6_fight 0 = .ok (.aload_n 0, 1) := by decide +kernel
theorem dX6_fight_1 : decode cX6_fight 1 = .ok (.iload_n 1, 1) := by decide +kernel
theorem dX6_fight_2 : decode cX6_fight 2 = .ok (.iload_n 2, 1) := by decide +kernel
theorem dX6_fight_3 : decode cX6_fight 3 = .ok (.invokevirtual 164, 3) := by decide +kernel
theorem dX6_fight_6 : decode cX6_fight 6 = .ok (.aload_n 0, 1) := by decide +kernel
theorem dX6_fight_7 : decode cX6_fight 7 = .ok (.getfield 32, 3) := by decide +kernel
theorem dX6_fight_10 : decode cX6_fight 10 = .ok (.invokevirtual 167, 3) := by decide +kernel
theorem dX6_fight_13 : decode cX6_fight 13 = .ok (.aload_n 0, 1) := by decide +kernel
theorem dX6_fight_14 : decode cX6_fight 14 = .ok (.getfield 32, 3) := by decide +kernel
theorem dX6_fight_17 : decode cX6_fight 17 = .ok (.invokevirtual 170, 3) := by decide +kernel
theorem dX6_fight_20 : decode cX6_fight 20 = .ok (.ireturn, 1) := by decide +kernel
theorem dX6_fightByRecord_0 : decode cX6_fightByRecord 0 = .ok (.aload_n 0, 1) := by decide +kernel
theorem dX6_fightByRecord_1 : decode cX6_fightByRecord 1 = .ok (.iload_n 1, 1) := by decide +kernel
theorem dX6_fightByRecord_2 : decode cX6_fightByRecord 2 = .ok (.iload_n 2, 1) := by decide +kernel
theorem dX6_fightByRecord_3 : decode cX6_fightByRecord 3 = .ok (.invokevirtual 164, 3) := by decide +kernel
theorem dX6_fightByRecord_6 : decode cX6_fightByRecord 6 = .ok (.aload_n 0, 1) := by decide +kernel
theorem dX6_fightByRecord_7 : decode cX6_fightByRecord 7 = .ok (.getfield 32, 3) := by decide +kernel
theorem dX6_fightByRecord_10 : decode cX6_fightByRecord 10 = .ok (.invokevirtual 167, 3) := by decide +kernel
theorem dX6_fightByRecord_13 : decode cX6_fightByRecord 13 = .ok (.aload_n 0, 1) := by decide +kernel
theorem dX6_fightByRecord_14 : decode cX6_fightByRecord 14 = .ok (.iload_n 1, 1) := by decide +kernel
theorem dX6_fightByRecord_15 : decode cX6_fightByRecord 15 = .ok (.iload_n 2, 1) := by decide +kernel
theorem dX6_fightByRecord_16 : decode cX6_fightByRecord 16 = .ok (.invokevirtual 164, 3) := by decide +kernel
theorem dX6_fightByRecord_19 : decode cX6_fightByRecord 19 = .ok (.aload_n 0, 1) := by decide +kernel
theorem dX6_fightByRecord_20 : decode cX6_fightByRecord 20 = .ok (.getfield 32, 3) := by decide +kernel
theorem dX6_fightByRecord_23 : decode cX6_fightByRecord 23 = .ok (.invokevirtual 173, 3) := by decide +kernel
theorem dX6_fightByRecord_26 : decode cX6_fightByRecord 26 = .ok (.aload_n 0, 1) := by decide +kernel
theorem dX6_fightByRecord_27 : decode cX6_fightByRecord 27 = .ok (.getfield 32, 3) := by decide +kernel
theorem dX6_fightByRecord_30 : decode cX6_fightByRecord 30 = .ok (.invokevirtual 170, 3) := by decide +kernel
theorem dX6_fightByRecord_33 : decode cX6_fightByRecord 33 = .ok (.ireturn, 1) := by decide +kernel
theorem dX6_gold_0 : decode cX6_gold 0 = .ok (.aload_n 0, 1) := by decide +kernel
theorem dX6_gold_1 : decode cX6_gold 1 = .ok (.iload_n 1, 1) := by decide +kernel
theorem dX6_gold_2 : decode cX6_gold 2 = .ok (.invokevirtual 57, 3) := by decide +kernel
theorem dX6_gold_5 : decode cX6_gold 5 = .ok (.getfield 61, 3) := by decide +kernel
theorem dX6_gold_8 : decode cX6_gold 8 = .ok (.ireturn, 1) := by decide +kernel
theorem dX6_health_0 : decode cX6_health 0 = .ok (.aload_n 0, 1) := by decide +kernel
theorem dX6_health_1 : decode cX6_health 1 = .ok (.iload_n 1, 1) := by decide +kernel
theorem dX6_health_2 : decode cX6_health 2 = .ok (.invokevirtual 57, 3) := by decide +kernel
theorem dX6_health_5 : decode cX6_health 5 = .ok (.getfield 176, 3) := by decide +kernel
theorem dX6_health_8 : decode cX6_health 8 = .ok (.ireturn, 1) := by decide +kernel
theorem dX6_streak_0 : decode cX6_streak 0 = .ok (.aload_n 0, 1) := by decide +kernel
theorem dX6_streak_1 : decode cX6_streak 1 = .ok (.iload_n 1, 1) := by decide +kernel
theorem dX6_streak_2 : decode cX6_streak 2 = .ok (.invokevirtual 57, 3) := by decide +kernel
theorem dX6_streak_5 : decode cX6_streak 5 = .ok (.getfield 179, 3) := by decide +kernel
theorem dX6_streak_8 : decode cX6_streak 8 = .ok (.ireturn, 1) := by decide +kernel
theorem dX6_shopAt_0 : decode cX6_shopAt 0 = .ok (.aload_n 0, 1) := by decide +kernel
theorem dX6_shopAt_1 : decode cX6_shopAt 1 = .ok (.iload_n 1, 1) := by decide +kernel
theorem dX6_shopAt_2 : decode cX6_shopAt 2 = .ok (.invokevirtual 57, 3) := by decide +kernel
theorem dX6_shopAt_5 : decode cX6_shopAt 5 = .ok (.astore_n 3, 1) := by decide +kernel
theorem dX6_shopAt_6 : decode cX6_shopAt 6 = .ok (.iload_n 2, 1) := by decide +kernel
theorem dX6_shopAt_7 : decode cX6_shopAt 7 = .ok (.invokestatic 81, 3) := by decide +kernel
theorem dX6_shopAt_10 : decode cX6_shopAt 10 = .ok (.aload_n 3, 1) := by decide +kernel
theorem dX6_shopAt_11 : decode cX6_shopAt 11 = .ok (.getfield 85, 3) := by decide +kernel
theorem dX6_shopAt_14 : decode cX6_shopAt 14 = .ok (.iload_n 2, 1) := by decide +kernel
theorem dX6_shopAt_15 : decode cX6_shopAt 15 = .ok (.iaload, 1) := by decide +kernel
theorem dX6_shopAt_16 : decode cX6_shopAt 16 = .ok (.ireturn, 1) := by decide +kernel
theorem dX6_benchAt_0 : decode cX6_benchAt 0 = .ok (.aload_n 0, 1) := by decide +kernel
theorem dX6_benchAt_1 : decode cX6_benchAt 1 = .ok (.iload_n 1, 1) := by decide +kernel
theorem dX6_benchAt_2 : decode cX6_benchAt 2 = .ok (.invokevirtual 57, 3) := by decide +kernel
theorem dX6_benchAt_5 : decode cX6_benchAt 5 = .ok (.astore_n 3, 1) := by decide +kernel
theorem dX6_benchAt_6 : decode cX6_benchAt 6 = .ok (.iload_n 2, 1) := by decide +kernel
theorem dX6_benchAt_7 : decode cX6_benchAt 7 = .ok (.ifCond .lt 9, 3) := by decide +kernel
theorem dX6_benchAt_10 : decode cX6_benchAt 10 = .ok (.iload_n 2, 1) := by decide +kernel
theorem dX6_benchAt_11 : decode cX6_benchAt 11 = .ok (.bipush 6, 2) := by decide +kernel
theorem dX6_benchAt_13 : decode cX6_benchAt 13 = .ok (.if_icmp .lt 13, 3) := by decide +kernel
theorem dX6_benchAt_16 : decode cX6_benchAt 16 = .ok (.new 182, 3) := by decide +kernel
theorem dX6_benchAt_19 : decode cX6_benchAt 19 = .ok (.dup, 1) := by decide +kernel
theorem dX6_benchAt_20 : decode cX6_benchAt 20 = .ok (.ldc 184, 2) := by decide +kernel
theorem dX6_benchAt_22 : decode cX6_benchAt 22 = .ok (.invokespecial 186, 3) := by decide +kernel
theorem dX6_benchAt_25 : decode cX6_benchAt 25 = .ok (.athrow, 1) := by decide +kernel
theorem dX6_benchAt_26 : decode cX6_benchAt 26 = .ok (.aload_n 3, 1) := by decide +kernel
theorem dX6_benchAt_27 : decode cX6_benchAt 27 = .ok (.getfield 98, 3) := by decide +kernel
theorem dX6_benchAt_30 : decode cX6_benchAt 30 = .ok (.iload_n 2, 1) := by decide +kernel
theorem dX6_benchAt_31 : decode cX6_benchAt 31 = .ok (.invokevirtual 187, 3) := by decide +kernel
theorem dX6_benchAt_34 : decode cX6_benchAt 34 = .ok (.ireturn, 1) := by decide +kernel
theorem dX6_boardAt_0 : decode cX6_boardAt 0 = .ok (.aload_n 0, 1) := by decide +kernel
theorem dX6_boardAt_1 : decode cX6_boardAt 1 = .ok (.iload_n 1, 1) := by decide +kernel
theorem dX6_boardAt_2 : decode cX6_boardAt 2 = .ok (.invokevirtual 57, 3) := by decide +kernel
theorem dX6_boardAt_5 : decode cX6_boardAt 5 = .ok (.astore_n 3, 1) := by decide +kernel
theorem dX6_boardAt_6 : decode cX6_boardAt 6 = .ok (.iload_n 2, 1) := by decide +kernel
theorem dX6_boardAt_7 : decode cX6_boardAt 7 = .ok (.ifCond .lt 8, 3) := by decide +kernel
theorem dX6_boardAt_10 : decode cX6_boardAt 10 = .ok (.iload_n 2, 1) := by decide +kernel
theorem dX6_boardAt_11 : decode cX6_boardAt 11 = .ok (.iconst 5, 1) := by decide +kernel
theorem dX6_boardAt_12 : decode cX6_boardAt 12 = .ok (.if_icmp .lt 13, 3) := by decide +kernel
theorem dX6_boardAt_15 : decode cX6_boardAt 15 = .ok (.new 182, 3) := by decide +kernel
theorem dX6_boardAt_18 : decode cX6_boardAt 18 = .ok (.dup, 1) := by decide +kernel
theorem dX6_boardAt_19 : decode cX6_boardAt 19 = .ok (.ldc 190, 2) := by decide +kernel
theorem dX6_boardAt_21 : decode cX6_boardAt 21 = .ok (.invokespecial 186, 3) := by decide +kernel
theorem dX6_boardAt_24 : decode cX6_boardAt 24 = .ok (.athrow, 1) := by decide +kernel
theorem dX6_boardAt_25 : decode cX6_boardAt 25 = .ok (.aload_n 3, 1) := by decide +kernel
theorem dX6_boardAt_26 : decode cX6_boardAt 26 = .ok (.getfield 135, 3) := by decide +kernel
theorem dX6_boardAt_29 : decode cX6_boardAt 29 = .ok (.iload_n 2, 1) := by decide +kernel
theorem dX6_boardAt_30 : decode cX6_boardAt 30 = .ok (.invokevirtual 187, 3) := by decide +kernel
theorem dX6_boardAt_33 : decode cX6_boardAt 33 = .ok (.ireturn, 1) := by decide +kernel
theorem dX6_blow_0 : decode cX6_blow 0 = .ok (.aload_n 0, 1) := by decide +kernel
theorem dX6_blow_1 : decode cX6_blow 1 = .ok (.iload_n 1, 1) := by decide +kernel
theorem dX6_blow_2 : decode cX6_blow 2 = .ok (.invokevirtual 57, 3) := by decide +kernel
theorem dX6_blow_5 : decode cX6_blow 5 = .ok (.astore_n 3, 1) := by decide +kernel
theorem dX6_blow_6 : decode cX6_blow 6 = .ok (.aload_n 3, 1) := by decide +kernel
theorem dX6_blow_7 : decode cX6_blow 7 = .ok (.getfield 135, 3) := by decide +kernel
theorem dX6_blow_10 : decode cX6_blow 10 = .ok (.iload_n 2, 1) := by decide +kernel
theorem dX6_blow_11 : decode cX6_blow 11 = .ok (.invokestatic 112, 3) := by decide +kernel
theorem dX6_blow_14 : decode cX6_blow 14 = .ok (.aload_n 3, 1) := by decide +kernel
theorem dX6_blow_15 : decode cX6_blow 15 = .ok (.getfield 135, 3) := by decide +kernel
theorem dX6_blow_18 : decode cX6_blow 18 = .ok (.iload_n 2, 1) := by decide +kernel
theorem dX6_blow_19 : decode cX6_blow 19 = .ok (.invokevirtual 192, 3) := by decide +kernel
theorem dX6_blow_22 : decode cX6_blow 22 = .ok (.ireturn, 1) := by decide +kernel
theorem dX6_pool_0 : decode cX6_pool 0 = .ok (.iload_n 1, 1) := by decide +kernel
theorem dX6_pool_1 : decode cX6_pool 1 = .ok (.invokestatic 195, 3) := by decide +kernel
theorem dX6_pool_4 : decode cX6_pool 4 = .ok (.aload_n 0, 1) := by decide +kernel
theorem dX6_pool_5 : decode cX6_pool 5 = .ok (.getfield 18, 3) := by decide +kernel
theorem dX6_pool_8 : decode cX6_pool 8 = .ok (.getfield 198, 3) := by decide +kernel
theorem dX6_pool_11 : decode cX6_pool 11 = .ok (.iload_n 1, 1) := by decide +kernel
theorem dX6_pool_12 : decode cX6_pool 12 = .ok (.iaload, 1) := by decide +kernel
theorem dX6_pool_13 : decode cX6_pool 13 = .ok (.ireturn, 1) := by decide +kernel
theorem dX6_out_0 : decode cX6_out 0 = .ok (.iload_n 1, 1) := by decide +kernel
theorem dX6_out_1 : decode cX6_out 1 = .ok (.invokestatic 195, 3) := by decide +kernel
theorem dX6_out_4 : decode cX6_out 4 = .ok (.iconst 0, 1) := by decide +kernel
theorem dX6_out_5 : decode cX6_out 5 = .ok (.istore_n 2, 1) := by decide +kernel
theorem dX6_out_6 : decode cX6_out 6 = .ok (.iconst 0, 1) := by decide +kernel
theorem dX6_out_7 : decode cX6_out 7 = .ok (.istore_n 3, 1) := by decide +kernel
theorem dX6_out_8 : decode cX6_out 8 = .ok (.iload_n 3, 1) := by decide +kernel
theorem dX6_out_9 : decode cX6_out 9 = .ok (.iconst 4, 1) := by decide +kernel
theorem dX6_out_10 : decode cX6_out 10 = .ok (.if_icmp .ge 22, 3) := by decide +kernel
theorem dX6_out_13 : decode cX6_out 13 = .ok (.iload_n 2, 1) := by decide +kernel
theorem dX6_out_14 : decode cX6_out 14 = .ok (.aload_n 0, 1) := by decide +kernel
theorem dX6_out_15 : decode cX6_out 15 = .ok (.getfield 11, 3) := by decide +kernel
theorem dX6_out_18 : decode cX6_out 18 = .ok (.iload_n 3, 1) := by decide +kernel
theorem dX6_out_19 : decode cX6_out 19 = .ok (.aaload, 1) := by decide +kernel
theorem dX6_out_20 : decode cX6_out 20 = .ok (.iload_n 1, 1) := by decide +kernel
theorem dX6_out_21 : decode cX6_out 21 = .ok (.invokevirtual 201, 3) := by decide +kernel
theorem dX6_out_24 : decode cX6_out 24 = .ok (.iadd, 1) := by decide +kernel
theorem dX6_out_25 : decode cX6_out 25 = .ok (.istore_n 2, 1) := by decide +kernel
theorem dX6_out_26 : decode cX6_out 26 = .ok (.iinc 3 1, 3) := by decide +kernel
theorem dX6_out_29 : decode cX6_out 29 = .ok (.goto (-21), 3) := by decide +kernel
theorem dX6_out_32 : decode cX6_out 32 = .ok (.iload_n 2, 1) := by decide +kernel
theorem dX6_out_33 : decode cX6_out 33 = .ok (.ireturn, 1) := by decide +kernel
theorem dX6_playerOf_0 : decode cX6_playerOf 0 = .ok (.iload_n 1, 1) := by decide +kernel
theorem dX6_playerOf_1 : decode cX6_playerOf 1 = .ok (.ifCond .lt 8, 3) := by decide +kernel
theorem dX6_playerOf_4 : decode cX6_playerOf 4 = .ok (.iload_n 1, 1) := by decide +kernel
theorem dX6_playerOf_5 : decode cX6_playerOf 5 = .ok (.iconst 4, 1) := by decide +kernel
theorem dX6_playerOf_6 : decode cX6_playerOf 6 = .ok (.if_icmp .lt 13, 3) := by decide +kernel
theorem dX6_playerOf_9 : decode cX6_playerOf 9 = .ok (.new 182, 3) := by decide +kernel
theorem dX6_playerOf_12 : decode cX6_playerOf 12 = .ok (.dup, 1) := by decide +kernel
theorem dX6_playerOf_13 : decode cX6_playerOf 13 = .ok (.ldc 204, 2) := by decide +kernel
theorem dX6_playerOf_15 : decode cX6_playerOf 15 = .ok (.invokespecial 186, 3) := by decide +kernel
theorem dX6_playerOf_18 : decode cX6_playerOf 18 = .ok (.athrow, 1) := by decide +kernel
theorem dX6_playerOf_19 : decode cX6_playerOf 19 = .ok (.aload_n 0, 1) := by decide +kernel
theorem dX6_playerOf_20 : decode cX6_playerOf 20 = .ok (.getfield 11, 3) := by decide +kernel
theorem dX6_playerOf_23 : decode cX6_playerOf 23 = .ok (.iload_n 1, 1) := by decide +kernel
theorem dX6_playerOf_24 : decode cX6_playerOf 24 = .ok (.aaload, 1) := by decide +kernel
theorem dX6_playerOf_25 : decode cX6_playerOf 25 = .ok (.areturn, 1) := by decide +kernel
theorem dX6_requireKind_0 : decode cX6_requireKind 0 = .ok (.iload_n 0, 1) := by decide +kernel
theorem dX6_requireKind_1 : decode cX6_requireKind 1 = .ok (.ifCond .lt 9, 3) := by decide +kernel
theorem dX6_requireKind_4 : decode cX6_requireKind 4 = .ok (.iload_n 0, 1) := by decide +kernel
theorem dX6_requireKind_5 : decode cX6_requireKind 5 = .ok (.bipush 9, 2) := by decide +kernel
theorem dX6_requireKind_7 : decode cX6_requireKind 7 = .ok (.if_icmp .lt 13, 3) := by decide +kernel
theorem dX6_requireKind_10 : decode cX6_requireKind 10 = .ok (.new 182, 3) := by decide +kernel
theorem dX6_requireKind_13 : decode cX6_requireKind 13 = .ok (.dup, 1) := by decide +kernel
theorem dX6_requireKind_14 : decode cX6_requireKind 14 = .ok (.ldc 206, 2) := by decide +kernel
theorem dX6_requireKind_16 : decode cX6_requireKind 16 = .ok (.invokespecial 186, 3) := by decide +kernel
theorem dX6_requireKind_19 : decode cX6_requireKind 19 = .ok (.athrow, 1) := by decide +kernel
theorem dX6_requireKind_20 : decode cX6_requireKind 20 = .ok (.return_, 1) := by decide +kernel
theorem dX6_requireSlot_0 : decode cX6_requireSlot 0 = .ok (.iload_n 0, 1) := by decide +kernel
theorem dX6_requireSlot_1 : decode cX6_requireSlot 1 = .ok (.ifCond .lt 8, 3) := by decide +kernel
theorem dX6_requireSlot_4 : decode cX6_requireSlot 4 = .ok (.iload_n 0, 1) := by decide +kernel
theorem dX6_requireSlot_5 : decode cX6_requireSlot 5 = .ok (.iconst 3, 1) := by decide +kernel
theorem dX6_requireSlot_6 : decode cX6_requireSlot 6 = .ok (.if_icmp .lt 13, 3) := by decide +kernel
theorem dX6_requireSlot_9 : decode cX6_requireSlot 9 = .ok (.new 182, 3) := by decide +kernel
theorem dX6_requireSlot_12 : decode cX6_requireSlot 12 = .ok (.dup, 1) := by decide +kernel
theorem dX6_requireSlot_13 : decode cX6_requireSlot 13 = .ok (.ldc 208, 2) := by decide +kernel
theorem dX6_requireSlot_15 : decode cX6_requireSlot 15 = .ok (.invokespecial 186, 3) := by decide +kernel
theorem dX6_requireSlot_18 : decode cX6_requireSlot 18 = .ok (.athrow, 1) := by decide +kernel
theorem dX6_requireSlot_19 : decode cX6_requireSlot 19 = .ok (.return_, 1) := by decide +kernel
theorem dX6_requireUnit_0 : decode cX6_requireUnit 0 = .ok (.aload_n 0, 1) := by decide +kernel
theorem dX6_requireUnit_1 : decode cX6_requireUnit 1 = .ok (.iload_n 1, 1) := by decide +kernel
theorem dX6_requireUnit_2 : decode cX6_requireUnit 2 = .ok (.invokevirtual 210, 3) := by decide +kernel
theorem dX6_requireUnit_5 : decode cX6_requireUnit 5 = .ok (.ifCond .ne 13, 3) := by decide +kernel
theorem dX6_requireUnit_8 : decode cX6_requireUnit 8 = .ok (.new 182, 3) := by decide +kernel
theorem dX6_requireUnit_11 : decode cX6_requireUnit 11 = .ok (.dup, 1) := by decide +kernel
theorem dX6_requireUnit_12 : decode cX6_requireUnit 12 = .ok (.ldc 213, 2) := by decide +kernel
theorem dX6_requireUnit_14 : decode cX6_requireUnit 14 = .ok (.invokespecial 186, 3) := by decide +kernel
theorem dX6_requireUnit_17 : decode cX6_requireUnit 17 = .ok (.athrow, 1) := by decide +kernel
theorem dX6_requireUnit_18 : decode cX6_requireUnit 18 = .ok (.return_, 1) := by decide +kernel
theorem dX6_musterSides_0 : decode cX6_musterSides 0 = .ok (.aload_n 0, 1) := by decide +kernel
theorem dX6_musterSides_1 : decode cX6_musterSides 1 = .ok (.iload_n 1, 1) := by decide +kernel
theorem dX6_musterSides_2 : decode cX6_musterSides 2 = .ok (.invokevirtual 57, 3) := by decide +kernel
theorem dX6_musterSides_5 : decode cX6_musterSides 5 = .ok (.astore_n 3, 1) := by decide +kernel
theorem dX6_musterSides_6 : decode cX6_musterSides 6 = .ok (.aload_n 0, 1) := by decide +kernel
theorem dX6_musterSides_7 : decode cX6_musterSides 7 = .ok (.iload_n 2, 1) := by decide +kernel
theorem dX6_musterSides_8 : decode cX6_musterSides 8 = .ok (.invokevirtual 57, 3) := by decide +kernel
theorem dX6_musterSides_11 : decode cX6_musterSides 11 = .ok (.astore 4, 2) := by decide +kernel
theorem dX6_musterSides_13 : decode cX6_musterSides 13 = .ok (.iload_n 1, 1) := by decide +kernel
theorem dX6_musterSides_14 : decode cX6_musterSides 14 = .ok (.iload_n 2, 1) := by decide +kernel
theorem dX6_musterSides_15 : decode cX6_musterSides 15 = .ok (.if_icmp .ne 13, 3) := by decide +kernel
theorem dX6_musterSides_18 : decode cX6_musterSides 18 = .ok (.new 37, 3) := by decide +kernel
theorem dX6_musterSides_21 : decode cX6_musterSides 21 = .ok (.dup, 1) := by decide +kernel
theorem dX6_musterSides_22 : decode cX6_musterSides 22 = .ok (.ldc 215, 2) := by decide +kernel
theorem dX6_musterSides_24 : decode cX6_musterSides 24 = .ok (.invokespecial 41, 3) := by decide +kernel
theorem dX6_musterSides_27 : decode cX6_musterSides 27 = .ok (.athrow, 1) := by decide +kernel
theorem dX6_musterSides_28 : decode cX6_musterSides 28 = .ok (.aload_n 0, 1) := by decide +kernel
theorem dX6_musterSides_29 : decode cX6_musterSides 29 = .ok (.getfield 32, 3) := by decide +kernel
theorem dX6_musterSides_32 : decode cX6_musterSides 32 = .ok (.aload_n 3, 1) := by decide +kernel
theorem dX6_musterSides_33 : decode cX6_musterSides 33 = .ok (.getfield 135, 3) := by decide +kernel
theorem dX6_musterSides_36 : decode cX6_musterSides 36 = .ok (.aload 4, 2) := by decide +kernel
theorem dX6_musterSides_38 : decode cX6_musterSides 38 = .ok (.getfield 135, 3) := by decide +kernel
theorem dX6_musterSides_41 : decode cX6_musterSides 41 = .ok (.invokevirtual 217, 3) := by decide +kernel
theorem dX6_musterSides_44 : decode cX6_musterSides 44 = .ok (.return_, 1) := by decide +kernel
theorem dX6_fightPair_0 : decode cX6_fightPair 0 = .ok (.aload_n 0, 1) := by decide +kernel
theorem dX6_fightPair_1 : decode cX6_fightPair 1 = .ok (.iload_n 1, 1) := by decide +kernel
theorem dX6_fightPair_2 : decode cX6_fightPair 2 = .ok (.iload_n 2, 1) := by decide +kernel
theorem dX6_fightPair_3 : decode cX6_fightPair 3 = .ok (.invokevirtual 164, 3) := by decide +kernel
theorem dX6_fightPair_6 : decode cX6_fightPair 6 = .ok (.aload_n 0, 1) := by decide +kernel
theorem dX6_fightPair_7 : decode cX6_fightPair 7 = .ok (.getfield 32, 3) := by decide +kernel
theorem dX6_fightPair_10 : decode cX6_fightPair 10 = .ok (.invokevirtual 167, 3) := by decide +kernel
theorem dX6_fightPair_13 : decode cX6_fightPair 13 = .ok (.aload_n 0, 1) := by decide +kernel
theorem dX6_fightPair_14 : decode cX6_fightPair 14 = .ok (.getfield 32, 3) := by decide +kernel
theorem dX6_fightPair_17 : decode cX6_fightPair 17 = .ok (.invokevirtual 170, 3) := by decide +kernel
theorem dX6_fightPair_20 : decode cX6_fightPair 20 = .ok (.istore_n 3, 1) := by decide +kernel
theorem dX6_fightPair_21 : decode cX6_fightPair 21 = .ok (.iload_n 3, 1) := by decide +kernel
theorem dX6_fightPair_22 : decode cX6_fightPair 22 = .ok (.ifCond .le 27, 3) := by decide +kernel
theorem dX6_fightPair_25 : decode cX6_fightPair 25 = .ok (.aload_n 0, 1) := by decide +kernel
theorem dX6_fightPair_26 : decode cX6_fightPair 26 = .ok (.getfield 11, 3) := by decide +kernel
theorem dX6_fightPair_29 : decode cX6_fightPair 29 = .ok (.iload_n 1, 1) := by decide +kernel
theorem dX6_fightPair_30 : decode cX6_fightPair 30 = .ok (.aaload, 1) := by decide +kernel
theorem dX6_fightPair_31 : decode cX6_fightPair 31 = .ok (.invokevirtual 221, 3) := by decide +kernel
theorem dX6_fightPair_34 : decode cX6_fightPair 34 = .ok (.aload_n 0, 1) := by decide +kernel
theorem dX6_fightPair_35 : decode cX6_fightPair 35 = .ok (.getfield 11, 3) := by decide +kernel
theorem dX6_fightPair_38 : decode cX6_fightPair 38 = .ok (.iload_n 2, 1) := by decide +kernel
theorem dX6_fightPair_39 : decode cX6_fightPair 39 = .ok (.aaload, 1) := by decide +kernel
theorem dX6_fightPair_40 : decode cX6_fightPair 40 = .ok (.iload_n 3, 1) := by decide +kernel
theorem dX6_fightPair_41 : decode cX6_fightPair 41 = .ok (.iconst 1, 1) := by decide +kernel
theorem dX6_fightPair_42 : decode cX6_fightPair 42 = .ok (.iadd, 1) := by decide +kernel
theorem dX6_fightPair_43 : decode cX6_fightPair 43 = .ok (.invokevirtual 224, 3) := by decide +kernel
theorem dX6_fightPair_46 : decode cX6_fightPair 46 = .ok (.goto 51, 3) := by decide +kernel
theorem dX6_fightPair_49 : decode cX6_fightPair 49 = .ok (.iload_n 3, 1) := by decide +kernel
theorem dX6_fightPair_50 : decode cX6_fightPair 50 = .ok (.ifCond .ge 27, 3) := by decide +kernel
theorem dX6_fightPair_53 : decode cX6_fightPair 53 = .ok (.aload_n 0, 1) := by decide +kernel
theorem dX6_fightPair_54 : decode cX6_fightPair 54 = .ok (.getfield 11, 3) := by decide +kernel
theorem dX6_fightPair_57 : decode cX6_fightPair 57 = .ok (.iload_n 2, 1) := by decide +kernel
theorem dX6_fightPair_58 : decode cX6_fightPair 58 = .ok (.aaload, 1) := by decide +kernel
theorem dX6_fightPair_59 : decode cX6_fightPair 59 = .ok (.invokevirtual 221, 3) := by decide +kernel
theorem dX6_fightPair_62 : decode cX6_fightPair 62 = .ok (.aload_n 0, 1) := by decide +kernel
theorem dX6_fightPair_63 : decode cX6_fightPair 63 = .ok (.getfield 11, 3) := by decide +kernel
theorem dX6_fightPair_66 : decode cX6_fightPair 66 = .ok (.iload_n 1, 1) := by decide +kernel
theorem dX6_fightPair_67 : decode cX6_fightPair 67 = .ok (.aaload, 1) := by decide +kernel
theorem dX6_fightPair_68 : decode cX6_fightPair 68 = .ok (.iconst 1, 1) := by decide +kernel
theorem dX6_fightPair_69 : decode cX6_fightPair 69 = .ok (.iload_n 3, 1) := by decide +kernel
theorem dX6_fightPair_70 : decode cX6_fightPair 70 = .ok (.isub, 1) := by decide +kernel
theorem dX6_fightPair_71 : decode cX6_fightPair 71 = .ok (.invokevirtual 224, 3) := by decide +kernel
theorem dX6_fightPair_74 : decode cX6_fightPair 74 = .ok (.goto 23, 3) := by decide +kernel
theorem dX6_fightPair_77 : decode cX6_fightPair 77 = .ok (.aload_n 0, 1) := by decide +kernel
theorem dX6_fightPair_78 : decode cX6_fightPair 78 = .ok (.getfield 11, 3) := by decide +kernel
theorem dX6_fightPair_81 : decode cX6_fightPair 81 = .ok (.iload_n 1, 1) := by decide +kernel
theorem dX6_fightPair_82 : decode cX6_fightPair 82 = .ok (.aaload, 1) := by decide +kernel
theorem dX6_fightPair_83 : decode cX6_fightPair 83 = .ok (.iconst 0, 1) := by decide +kernel
theorem dX6_fightPair_84 : decode cX6_fightPair 84 = .ok (.putfield 179, 3) := by decide +kernel
theorem dX6_fightPair_87 : decode cX6_fightPair 87 = .ok (.aload_n 0, 1) := by decide +kernel
theorem dX6_fightPair_88 : decode cX6_fightPair 88 = .ok (.getfield 11, 3) := by decide +kernel
theorem dX6_fightPair_91 : decode cX6_fightPair 91 = .ok (.iload_n 2, 1) := by decide +kernel
theorem dX6_fightPair_92 : decode cX6_fightPair 92 = .ok (.aaload, 1) := by decide +kernel
theorem dX6_fightPair_93 : decode cX6_fightPair 93 = .ok (.iconst 0, 1) := by decide +kernel
theorem dX6_fightPair_94 : decode cX6_fightPair 94 = .ok (.putfield 179, 3) := by decide +kernel
theorem dX6_fightPair_97 : decode cX6_fightPair 97 = .ok (.return_, 1) := by decide +kernel
theorem dX6_fillUnlockedShops_0 : decode cX6_fillUnlockedShops 0 = .ok (.iconst 0, 1) := by decide +kernel
theorem dX6_fillUnlockedShops_1 : decode cX6_fillUnlockedShops 1 = .ok (.istore_n 1, 1) := by decide +kernel
theorem dX6_fillUnlockedShops_2 : decode cX6_fillUnlockedShops 2 = .ok (.iload_n 1, 1) := by decide +kernel
theorem dX6_fillUnlockedShops_3 : decode cX6_fillUnlockedShops 3 = .ok (.iconst 4, 1) := by decide +kernel
theorem dX6_fillUnlockedShops_4 : decode cX6_fillUnlockedShops 4 = .ok (.if_icmp .ge 33, 3) := by decide +kernel
theorem dX6_fillUnlockedShops_7 : decode cX6_fillUnlockedShops 7 = .ok (.aload_n 0, 1) := by decide +kernel
theorem dX6_fillUnlockedShops_8 : decode cX6_fillUnlockedShops 8 = .ok (.getfield 11, 3) := by decide +kernel
theorem dX6_fillUnlockedShops_11 : decode cX6_fillUnlockedShops 11 = .ok (.iload_n 1, 1) := by decide +kernel
theorem dX6_fillUnlockedShops_12 : decode cX6_fillUnlockedShops 12 = .ok (.aaload, 1) := by decide +kernel
theorem dX6_fillUnlockedShops_13 : decode cX6_fillUnlockedShops 13 = .ok (.astore_n 2, 1) := by decide +kernel
theorem dX6_fillUnlockedShops_14 : decode cX6_fillUnlockedShops 14 = .ok (.aload_n 2, 1) := by decide +kernel
theorem dX6_fillUnlockedShops_15 : decode cX6_fillUnlockedShops 15 = .ok (.getfield 70, 3) := by decide +kernel
theorem dX6_fillUnlockedShops_18 : decode cX6_fillUnlockedShops 18 = .ok (.ifCond .ne 8, 3) := by decide +kernel
theorem dX6_fillUnlockedShops_21 : decode cX6_fillUnlockedShops 21 = .ok (.aload_n 0, 1) := by decide +kernel
theorem dX6_fillUnlockedShops_22 : decode cX6_fillUnlockedShops 22 = .ok (.aload_n 2, 1) := by decide +kernel
theorem dX6_fillUnlockedShops_23 : decode cX6_fillUnlockedShops 23 = .ok (.invokevirtual 66, 3) := by decide +kernel
theorem dX6_fillUnlockedShops_26 : decode cX6_fillUnlockedShops 26 = .ok (.aload_n 2, 1) := by decide +kernel
theorem dX6_fillUnlockedShops_27 : decode cX6_fillUnlockedShops 27 = .ok (.iconst 0, 1) := by decide +kernel
theorem dX6_fillUnlockedShops_28 : decode cX6_fillUnlockedShops 28 = .ok (.putfield 70, 3) := by decide +kernel
theorem dX6_fillUnlockedShops_31 : decode cX6_fillUnlockedShops 31 = .ok (.iinc 1 1, 3) := by decide +kernel
theorem dX6_fillUnlockedShops_34 : decode cX6_fillUnlockedShops 34 = .ok (.goto (-32), 3) := by decide +kernel
theorem dX6_fillUnlockedShops_37 : decode cX6_fillUnlockedShops 37 = .ok (.return_, 1) := by decide +kernel
theorem dX6_fillShop_0 : decode cX6_fillShop 0 = .ok (.iconst 0, 1) := by decide +kernel
theorem dX6_fillShop_1 : decode cX6_fillShop 1 = .ok (.istore_n 2, 1) := by decide +kernel
theorem dX6_fillShop_2 : decode cX6_fillShop 2 = .ok (.iload_n 2, 1) := by decide +kernel
theorem dX6_fillShop_3 : decode cX6_fillShop 3 = .ok (.iconst 3, 1) := by decide +kernel
theorem dX6_fillShop_4 : decode cX6_fillShop 4 = .ok (.if_icmp .ge 33, 3) := by decide +kernel
theorem dX6_fillShop_7 : decode cX6_fillShop 7 = .ok (.aload_n 1, 1) := by decide +kernel
theorem dX6_fillShop_8 : decode cX6_fillShop 8 = .ok (.getfield 85, 3) := by decide +kernel
theorem dX6_fillShop_11 : decode cX6_fillShop 11 = .ok (.iload_n 2, 1) := by decide +kernel
theorem dX6_fillShop_12 : decode cX6_fillShop 12 = .ok (.iaload, 1) := by decide +kernel
theorem dX6_fillShop_13 : decode cX6_fillShop 13 = .ok (.iconst (-1), 1) := by decide +kernel
theorem dX6_fillShop_14 : decode cX6_fillShop 14 = .ok (.if_icmp .eq 17, 3) := by decide +kernel
theorem dX6_fillShop_17 : decode cX6_fillShop 17 = .ok (.aload_n 0, 1) := by decide +kernel
theorem dX6_fillShop_18 : decode cX6_fillShop 18 = .ok (.getfield 18, 3) := by decide +kernel
theorem dX6_fillShop_21 : decode cX6_fillShop 21 = .ok (.aload_n 1, 1) := by decide +kernel
theorem dX6_fillShop_22 : decode cX6_fillShop 22 = .ok (.getfield 85, 3) := by decide +kernel
theorem dX6_fillShop_25 : decode cX6_fillShop 25 = .ok (.iload_n 2, 1) := by decide +kernel
theorem dX6_fillShop_26 : decode cX6_fillShop 26 = .ok (.iaload, 1) := by decide +kernel
theorem dX6_fillShop_27 : decode cX6_fillShop 27 = .ok (.iconst 1, 1) := by decide +kernel
theorem dX6_fillShop_28 : decode cX6_fillShop 28 = .ok (.invokevirtual 128, 3) := by decide +kernel
theorem dX6_fillShop_31 : decode cX6_fillShop 31 = .ok (.iinc 2 1, 3) := by decide +kernel
theorem dX6_fillShop_34 : decode cX6_fillShop 34 = .ok (.goto (-32), 3) := by decide +kernel
theorem dX6_fillShop_37 : decode cX6_fillShop 37 = .ok (.iconst 0, 1) := by decide +kernel
theorem dX6_fillShop_38 : decode cX6_fillShop 38 = .ok (.istore_n 2, 1) := by decide +kernel
theorem dX6_fillShop_39 : decode cX6_fillShop 39 = .ok (.iload_n 2, 1) := by decide +kernel
theorem dX6_fillShop_40 : decode cX6_fillShop 40 = .ok (.iconst 3, 1) := by decide +kernel
theorem dX6_fillShop_41 : decode cX6_fillShop 41 = .ok (.if_icmp .ge 35, 3) := by decide +kernel
theorem dX6_fillShop_44 : decode cX6_fillShop 44 = .ok (.aload_n 1, 1) := by decide +kernel
theorem dX6_fillShop_45 : decode cX6_fillShop 45 = .ok (.getfield 85, 3) := by decide +kernel
theorem dX6_fillShop_48 : decode cX6_fillShop 48 = .ok (.iload_n 2, 1) := by decide +kernel
theorem dX6_fillShop_49 : decode cX6_fillShop 49 = .ok (.aload_n 0, 1) := by decide +kernel
theorem dX6_fillShop_50 : decode cX6_fillShop 50 = .ok (.getfield 18, 3) := by decide +kernel
theorem dX6_fillShop_53 : decode cX6_fillShop 53 = .ok (.aload_n 0, 1) := by decide +kernel
theorem dX6_fillShop_54 : decode cX6_fillShop 54 = .ok (.getfield 25, 3) := by decide +kernel
theorem dX6_fillShop_57 : decode cX6_fillShop 57 = .ok (.invokevirtual 227, 3) := by decide +kernel
theorem dX6_fillShop_60 : decode cX6_fillShop 60 = .ok (.aload_n 1, 1) := by decide +kernel
theorem dX6_fillShop_61 : decode cX6_fillShop 61 = .ok (.getfield 76, 3) := by decide +kernel
theorem dX6_fillShop_64 : decode cX6_fillShop 64 = .ok (.iconst 1, 1) := by decide +kernel
theorem dX6_fillShop_65 : decode cX6_fillShop 65 = .ok (.iadd, 1) := by decide +kernel
theorem dX6_fillShop_66 : decode cX6_fillShop 66 = .ok (.invokevirtual 230, 3) := by decide +kernel
theorem dX6_fillShop_69 : decode cX6_fillShop 69 = .ok (.iastore, 1) := by decide +kernel
theorem dX6_fillShop_70 : decode cX6_fillShop 70 = .ok (.iinc 2 1, 3) := by decide +kernel
theorem dX6_fillShop_73 : decode cX6_fillShop 73 = .ok (.goto (-34), 3) := by decide +kernel
theorem dX6_fillShop_76 : decode cX6_fillShop 76 = .ok (.return_, 1) := by decide +kernel
theorem dX6_playersWithHealth_0 : decode cX6_playersWithHealth 0 = .ok (.iconst 0, 1) := by decide +kernel
theorem dX6_playersWithHealth_1 : decode cX6_playersWithHealth 1 = .ok (.istore_n 1, 1) := by decide +kernel
theorem dX6_playersWithHealth_2 : decode cX6_playersWithHealth 2 = .ok (.iconst 0, 1) := by decide +kernel
theorem dX6_playersWithHealth_3 : decode cX6_playersWithHealth 3 = .ok (.istore_n 2, 1) := by decide +kernel
theorem dX6_playersWithHealth_4 : decode cX6_playersWithHealth 4 = .ok (.iload_n 2, 1) := by decide +kernel
theorem dX6_playersWithHealth_5 : decode cX6_playersWithHealth 5 = .ok (.iconst 4, 1) := by decide +kernel
theorem dX6_playersWithHealth_6 : decode cX6_playersWithHealth 6 = .ok (.if_icmp .ge 24, 3) := by decide +kernel
theorem dX6_playersWithHealth_9 : decode cX6_playersWithHealth 9 = .ok (.aload_n 0, 1) := by decide +kernel
theorem dX6_playersWithHealth_10 : decode cX6_playersWithHealth 10 = .ok (.getfield 11, 3) := by decide +kernel
theorem dX6_playersWithHealth_13 : decode cX6_playersWithHealth 13 = .ok (.iload_n 2, 1) := by decide +kernel
theorem dX6_playersWithHealth_14 : decode cX6_playersWithHealth 14 = .ok (.aaload, 1) := by decide +kernel
theorem dX6_playersWithHealth_15 : decode cX6_playersWithHealth 15 = .ok (.getfield 176, 3) := by decide +kernel
theorem dX6_playersWithHealth_18 : decode cX6_playersWithHealth 18 = .ok (.ifCond .le 6, 3) := by decide +kernel
theorem dX6_playersWithHealth_21 : decode cX6_playersWithHealth 21 = .ok (.iinc 1 1, 3) := by decide +kernel
theorem dX6_playersWithHealth_24 : decode cX6_playersWithHealth 24 = .ok (.iinc 2 1, 3) := by decide +kernel
theorem dX6_playersWithHealth_27 : decode cX6_playersWithHealth 27 = .ok (.goto (-23), 3) := by decide +kernel
theorem dX6_playersWithHealth_30 : decode cX6_playersWithHealth 30 = .ok (.iload_n 1, 1) := by decide +kernel
theorem dX6_playersWithHealth_31 : decode cX6_playersWithHealth 31 = .ok (.ireturn, 1) := by decide +kernel
theorem dX6_costOf_0 : decode cX6_costOf 0 = .ok (.iload_n 0, 1) := by decide +kernel
theorem dX6_costOf_1 : decode cX6_costOf 1 = .ok (.iconst 3, 1) := by decide +kernel
theorem dX6_costOf_2 : decode cX6_costOf 2 = .ok (.idiv, 1) := by decide +kernel
theorem dX6_costOf_3 : decode cX6_costOf 3 = .ok (.iconst 1, 1) := by decide +kernel
theorem dX6_costOf_4 : decode cX6_costOf 4 = .ok (.iadd, 1) := by decide +kernel
theorem dX6_costOf_5 : decode cX6_costOf 5 = .ok (.ireturn, 1) := by decide +kernel
theorem dX6_unitsFor_0 : decode cX6_unitsFor 0 = .ok (.iload_n 0, 1) := by decide +kernel
theorem dX6_unitsFor_1 : decode cX6_unitsFor 1 = .ok (.iconst 1, 1) := by decide +kernel
theorem dX6_unitsFor_2 : decode cX6_unitsFor 2 = .ok (.if_icmp .ne 5, 3) := by decide +kernel
theorem dX6_unitsFor_5 : decode cX6_unitsFor 5 = .ok (.iconst 1, 1) := by decide +kernel
theorem dX6_unitsFor_6 : decode cX6_unitsFor 6 = .ok (.ireturn, 1) := by decide +kernel
theorem dX6_unitsFor_7 : decode cX6_unitsFor 7 = .ok (.iload_n 0, 1) := by decide +kernel
theorem dX6_unitsFor_8 : decode cX6_unitsFor 8 = .ok (.iconst 2, 1) := by decide +kernel
theorem dX6_unitsFor_9 : decode cX6_unitsFor 9 = .ok (.if_icmp .ne 7, 3) := by decide +kernel
theorem dX6_unitsFor_12 : decode cX6_unitsFor 12 = .ok (.iconst 3, 1) := by decide +kernel
theorem dX6_unitsFor_13 : decode cX6_unitsFor 13 = .ok (.goto 5, 3) := by decide +kernel
theorem dX6_unitsFor_16 : decode cX6_unitsFor 16 = .ok (.bipush 9, 2) := by decide +kernel
theorem dX6_unitsFor_18 : decode cX6_unitsFor 18 = .ok (.ireturn, 1) := by decide +kernel
theorem dX7_init_0 : decode cX7_init 0 = .ok (.aload_n 0, 1) := by decide +kernel
theorem dX7_init_1 : decode cX7_init 1 = .ok (.invokespecial 1, 3) := by decide +kernel
theorem dX7_init_4 : decode cX7_init 4 = .ok (.aload_n 0, 1) := by decide +kernel
theorem dX7_init_5 : decode cX7_init 5 = .ok (.bipush 100, 2) := by decide +kernel
theorem dX7_init_7 : decode cX7_init 7 = .ok (.newarray .int, 2) := by decide +kernel
theorem dX7_init_9 : decode cX7_init 9 = .ok (.putfield 7, 3) := by decide +kernel
theorem dX7_init_12 : decode cX7_init 12 = .ok (.aload_n 0, 1) := by decide +kernel
theorem dX7_init_13 : decode cX7_init 13 = .ok (.bipush 9, 2) := by decide +kernel
theorem dX7_init_15 : decode cX7_init 15 = .ok (.newarray .int, 2) := by decide +kernel
theorem dX7_init_17 : decode cX7_init 17 = .ok (.putfield 13, 3) := by decide +kernel
theorem dX7_init_20 : decode cX7_init 20 = .ok (.aload_n 0, 1) := by decide +kernel
theorem dX7_init_21 : decode cX7_init 21 = .ok (.iconst 4, 1) := by decide +kernel
theorem dX7_init_22 : decode cX7_init 22 = .ok (.newarray .int, 2) := by decide +kernel
theorem dX7_init_24 : decode cX7_init 24 = .ok (.putfield 16, 3) := by decide +kernel
theorem dX7_init_27 : decode cX7_init 27 = .ok (.aload_n 0, 1) := by decide +kernel
theorem dX7_init_28 : decode cX7_init 28 = .ok (.iconst 4, 1) := by decide +kernel
theorem dX7_init_29 : decode cX7_init 29 = .ok (.newarray .int, 2) := by decide +kernel
theorem dX7_init_31 : decode cX7_init 31 = .ok (.putfield 19, 3) := by decide +kernel
theorem dX7_init_34 : decode cX7_init 34 = .ok (.aload_n 0, 1) := by decide +kernel
theorem dX7_init_35 : decode cX7_init 35 = .ok (.iconst 4, 1) := by decide +kernel
theorem dX7_init_36 : decode cX7_init 36 = .ok (.newarray .int, 2) := by decide +kernel
theorem dX7_init_38 : decode cX7_init 38 = .ok (.putfield 22, 3) := by decide +kernel
theorem dX7_init_41 : decode cX7_init 41 = .ok (.aload_n 0, 1) := by decide +kernel
theorem dX7_init_42 : decode cX7_init 42 = .ok (.iconst 4, 1) := by decide +kernel
theorem dX7_init_43 : decode cX7_init 43 = .ok (.newarray .int, 2) := by decide +kernel
theorem dX7_init_45 : decode cX7_init 45 = .ok (.putfield 25, 3) := by decide +kernel
theorem dX7_init_48 : decode cX7_init 48 = .ok (.aload_n 0, 1) := by decide +kernel
theorem dX7_init_49 : decode cX7_init 49 = .ok (.bipush 12, 2) := by decide +kernel
theorem dX7_init_51 : decode cX7_init 51 = .ok (.newarray .int, 2) := by decide +kernel
theorem dX7_init_53 : decode cX7_init 53 = .ok (.putfield 28, 3) := by decide +kernel
theorem dX7_init_56 : decode cX7_init 56 = .ok (.aload_n 0, 1) := by decide +kernel
theorem dX7_init_57 : decode cX7_init 57 = .ok (.iconst 4, 1) := by decide +kernel
theorem dX7_init_58 : decode cX7_init 58 = .ok (.newarray .boolean, 2) := by decide +kernel
theorem dX7_init_60 : decode cX7_init 60 = .ok (.putfield 31, 3) := by decide +kernel
theorem dX7_init_63 : decode cX7_init 63 = .ok (.aload_n 0, 1) := by decide +kernel
theorem dX7_init_64 : decode cX7_init 64 = .ok (.iconst 4, 1) := by decide +kernel
theorem dX7_init_65 : decode cX7_init 65 = .ok (.newarray .int, 2) := by decide +kernel
theorem dX7_init_67 : decode cX7_init 67 = .ok (.putfield 35, 3) := by decide +kernel
theorem dX7_init_70 : decode cX7_init 70 = .ok (.aload_n 0, 1) := by decide +kernel
theorem dX7_init_71 : decode cX7_init 71 = .ok (.bipush 24, 2) := by decide +kernel
theorem dX7_init_73 : decode cX7_init 73 = .ok (.newarray .int, 2) := by decide +kernel
theorem dX7_init_75 : decode cX7_init 75 = .ok (.putfield 38, 3) := by decide +kernel
theorem dX7_init_78 : decode cX7_init 78 = .ok (.aload_n 0, 1) := by decide +kernel
theorem dX7_init_79 : decode cX7_init 79 = .ok (.iconst 4, 1) := by decide +kernel
theorem dX7_init_80 : decode cX7_init 80 = .ok (.newarray .int, 2) := by decide +kernel
theorem dX7_init_82 : decode cX7_init 82 = .ok (.putfield 41, 3) := by decide +kernel
theorem dX7_init_85 : decode cX7_init 85 = .ok (.aload_n 0, 1) := by decide +kernel
theorem dX7_init_86 : decode cX7_init 86 = .ok (.bipush 20, 2) := by decide +kernel
theorem dX7_init_88 : decode cX7_init 88 = .ok (.newarray .int, 2) := by decide +kernel
theorem dX7_init_90 : decode cX7_init 90 = .ok (.putfield 44, 3) := by decide +kernel
theorem dX7_init_93 : decode cX7_init 93 = .ok (.aload_n 0, 1) := by decide +kernel
theorem dX7_init_94 : decode cX7_init 94 = .ok (.iconst 2, 1) := by decide +kernel
theorem dX7_init_95 : decode cX7_init 95 = .ok (.newarray .int, 2) := by decide +kernel
theorem dX7_init_97 : decode cX7_init 97 = .ok (.putfield 47, 3) := by decide +kernel
theorem dX7_init_100 : decode cX7_init 100 = .ok (.aload_n 0, 1) := by decide +kernel
theorem dX7_init_101 : decode cX7_init 101 = .ok (.iconst 2, 1) := by decide +kernel
theorem dX7_init_102 : decode cX7_init 102 = .ok (.newarray .int, 2) := by decide +kernel
theorem dX7_init_104 : decode cX7_init 104 = .ok (.putfield 50, 3) := by decide +kernel
theorem dX7_init_107 : decode cX7_init 107 = .ok (.aload_n 0, 1) := by decide +kernel
theorem dX7_init_108 : decode cX7_init 108 = .ok (.bipush 10, 2) := by decide +kernel
theorem dX7_init_110 : decode cX7_init 110 = .ok (.newarray .int, 2) := by decide +kernel
theorem dX7_init_112 : decode cX7_init 112 = .ok (.putfield 53, 3) := by decide +kernel
theorem dX7_init_115 : decode cX7_init 115 = .ok (.iconst 0, 1) := by decide +kernel
theorem dX7_init_116 : decode cX7_init 116 = .ok (.istore_n 1, 1) := by decide +kernel
theorem dX7_init_117 : decode cX7_init 117 = .ok (.iload_n 1, 1) := by decide +kernel
theorem dX7_init_118 : decode cX7_init 118 = .ok (.bipush 9, 2) := by decide +kernel
theorem dX7_init_120 : decode cX7_init 120 = .ok (.if_icmp .ge 17, 3) := by decide +kernel
theorem dX7_init_123 : decode cX7_init 123 = .ok (.aload_n 0, 1) := by decide +kernel
theorem dX7_init_124 : decode cX7_init 124 = .ok (.getfield 13, 3) := by decide +kernel
theorem dX7_init_127 : decode cX7_init 127 = .ok (.iload_n 1, 1) := by decide +kernel
theorem dX7_init_128 : decode cX7_init 128 = .ok (.bipush 9, 2) := by decide +kernel
theorem dX7_init_130 : decode cX7_init 130 = .ok (.iastore, 1) := by decide +kernel
theorem dX7_init_131 : decode cX7_init 131 = .ok (.iinc 1 1, 3) := by decide +kernel
theorem dX7_init_134 : decode cX7_init 134 = .ok (.goto (-17), 3) := by decide +kernel
theorem dX7_init_137 : decode cX7_init 137 = .ok (.iconst 0, 1) := by decide +kernel
theorem dX7_init_138 : decode cX7_init 138 = .ok (.istore_n 1, 1) := by decide +kernel
theorem dX7_init_139 : decode cX7_init 139 = .ok (.iload_n 1, 1) := by decide +kernel
theorem dX7_init_140 : decode cX7_init 140 = .ok (.iconst 4, 1) := by decide +kernel
theorem dX7_init_141 : decode cX7_init 141 = .ok (.if_icmp .ge 32, 3) := by decide +kernel
theorem dX7_init_144 : decode cX7_init 144 = .ok (.aload_n 0, 1) := by decide +kernel
theorem dX7_init_145 : decode cX7_init 145 = .ok (.getfield 16, 3) := by decide +kernel
theorem dX7_init_148 : decode cX7_init 148 = .ok (.iload_n 1, 1) := by decide +kernel
theorem dX7_init_149 : decode cX7_init 149 = .ok (.bipush 10, 2) := by decide +kernel
theorem dX7_init_151 : decode cX7_init 151 = .ok (.iastore, 1) := by decide +kernel
theorem dX7_init_152 : decode cX7_init 152 = .ok (.aload_n 0, 1) := by decide +kernel
theorem dX7_init_153 : decode cX7_init 153 = .ok (.getfield 19, 3) := by decide +kernel
theorem dX7_init_156 : decode cX7_init 156 = .ok (.iload_n 1, 1) := by decide +kernel
theorem dX7_init_157 : decode cX7_init 157 = .ok (.iconst 1, 1) := by decide +kernel
theorem dX7_init_158 : decode cX7_init 158 = .ok (.iastore, 1) := by decide +kernel
theorem dX7_init_159 : decode cX7_init 159 = .ok (.aload_n 0, 1) := by decide +kernel
theorem dX7_init_160 : decode cX7_init 160 = .ok (.getfield 22, 3) := by decide +kernel
theorem dX7_init_163 : decode cX7_init 163 = .ok (.iload_n 1, 1) := by decide +kernel
theorem dX7_init_164 : decode cX7_init 164 = .ok (.bipush 20, 2) := by decide +kernel
theorem dX7_init_166 : decode cX7_init 166 = .ok (.iastore, 1) := by decide +kernel
theorem dX7_init_167 : decode cX7_init 167 = .ok (.iinc 1 1, 3) := by decide +kernel
theorem dX7_init_170 : decode cX7_init 170 = .ok (.goto (-31), 3) := by decide +kernel
theorem dX7_init_173 : decode cX7_init 173 = .ok (.iconst 0, 1) := by decide +kernel
theorem dX7_init_174 : decode cX7_init 174 = .ok (.istore_n 1, 1) := by decide +kernel
theorem dX7_init_175 : decode cX7_init 175 = .ok (.iload_n 1, 1) := by decide +kernel
theorem dX7_init_176 : decode cX7_init 176 = .ok (.bipush 12, 2) := by decide +kernel
theorem dX7_init_178 : decode cX7_init 178 = .ok (.if_icmp .ge 16, 3) := by decide +kernel
theorem dX7_init_181 : decode cX7_init 181 = .ok (.aload_n 0, 1) := by decide +kernel
theorem dX7_init_182 : decode cX7_init 182 = .ok (.getfield 28, 3) := by decide +kernel
theorem dX7_init_185 : decode cX7_init 185 = .ok (.iload_n 1, 1) := by decide +kernel
theorem dX7_init_186 : decode cX7_init 186 = .ok (.iconst (-1), 1) := by decide +kernel
theorem dX7_init_187 : decode cX7_init 187 = .ok (.iastore, 1) := by decide +kernel
theorem dX7_init_188 : decode cX7_init 188 = .ok (.iinc 1 1, 3) := by decide +kernel
theorem dX7_init_191 : decode cX7_init 191 = .ok (.goto (-16), 3) := by decide +kernel
theorem dX7_init_194 : decode cX7_init 194 = .ok (.return_, 1) := by decide +kernel
theorem dX7_thrown_0 : decode cX7_thrown 0 = .ok (.aload_n 0, 1) := by decide +kernel
theorem dX7_thrown_1 : decode cX7_thrown 1 = .ok (.getfield 56, 3) := by decide +kernel
theorem dX7_thrown_4 : decode cX7_thrown 4 = .ok (.ireturn, 1) := by decide +kernel
theorem dX7_holds_0 : decode cX7_holds 0 = .ok (.aload_n 0, 1) := by decide +kernel
theorem dX7_holds_1 : decode cX7_holds 1 = .ok (.iload_n 1, 1) := by decide +kernel
theorem dX7_holds_2 : decode cX7_holds 2 = .ok (.putfield 56, 3) := by decide +kernel
theorem dX7_holds_5 : decode cX7_holds 5 = .ok (.iload_n 1, 1) := by decide +kernel
theorem dX7_holds_6 : decode cX7_holds 6 = .ok (.ifCond .ne 7, 3) := by decide +kernel
theorem dX7_holds_9 : decode cX7_holds 9 = .ok (.iconst 1, 1) := by decide +kernel
theorem dX7_holds_10 : decode cX7_holds 10 = .ok (.goto 4, 3) := by decide +kernel
theorem dX7_holds_13 : decode cX7_holds 13 = .ok (.iconst 0, 1) := by decide +kernel
theorem dX7_holds_14 : decode cX7_holds 14 = .ok (.ireturn, 1) := by decide +kernel
theorem dX7_in_0 : decode cX7_in 0 = .ok (.iload_n 0, 1) := by decide +kernel
theorem dX7_in_1 : decode cX7_in 1 = .ok (.iload_n 1, 1) := by decide +kernel
theorem dX7_in_2 : decode cX7_in 2 = .ok (.if_icmp .lt 12, 3) := by decide +kernel
theorem dX7_in_5 : decode cX7_in 5 = .ok (.iload_n 0, 1) := by decide +kernel
theorem dX7_in_6 : decode cX7_in 6 = .ok (.iload_n 2, 1) := by decide +kernel
theorem dX7_in_7 : decode cX7_in 7 = .ok (.if_icmp .gt 7, 3) := by decide +kernel
theorem dX7_in_10 : decode cX7_in 10 = .ok (.iconst 1, 1) := by decide +kernel
theorem dX7_in_11 : decode cX7_in 11 = .ok (.goto 4, 3) := by decide +kernel
theorem dX7_in_14 : decode cX7_in 14 = .ok (.iconst 0, 1) := by decide +kernel
theorem dX7_in_15 : decode cX7_in 15 = .ok (.ireturn, 1) := by decide +kernel
theorem dX7_isPlayer_0 : decode cX7_isPlayer 0 = .ok (.iload_n 0, 1) := by decide +kernel
theorem dX7_isPlayer_1 : decode cX7_isPlayer 1 = .ok (.iconst 0, 1) := by decide +kernel
theorem dX7_isPlayer_2 : decode cX7_isPlayer 2 = .ok (.iconst 3, 1) := by decide +kernel
theorem dX7_isPlayer_3 : decode cX7_isPlayer 3 = .ok (.invokestatic 60, 3) := by decide +kernel
theorem dX7_isPlayer_6 : decode cX7_isPlayer 6 = .ok (.ireturn, 1) := by decide +kernel
theorem dX7_isSlot_0 : decode cX7_isSlot 0 = .ok (.iload_n 0, 1) := by decide +kernel
theorem dX7_isSlot_1 : decode cX7_isSlot 1 = .ok (.invokestatic 64, 3) := by decide +kernel
theorem dX7_isSlot_4 : decode cX7_isSlot 4 = .ok (.ifCond .eq 16, 3) := by decide +kernel
theorem dX7_isSlot_7 : decode cX7_isSlot 7 = .ok (.iload_n 1, 1) := by decide +kernel
theorem dX7_isSlot_8 : decode cX7_isSlot 8 = .ok (.iconst 0, 1) := by decide +kernel
theorem dX7_isSlot_9 : decode cX7_isSlot 9 = .ok (.iconst 2, 1) := by decide +kernel
theorem dX7_isSlot_10 : decode cX7_isSlot 10 = .ok (.invokestatic 60, 3) := by decide +kernel
theorem dX7_isSlot_13 : decode cX7_isSlot 13 = .ok (.ifCond .eq 7, 3) := by decide +kernel
theorem dX7_isSlot_16 : decode cX7_isSlot 16 = .ok (.iconst 1, 1) := by decide +kernel
theorem dX7_isSlot_17 : decode cX7_isSlot 17 = .ok (.goto 4, 3) := by decide +kernel
theorem dX7_isSlot_20 : decode cX7_isSlot 20 = .ok (.iconst 0, 1) := by decide +kernel
theorem dX7_isSlot_21 : decode cX7_isSlot 21 = .ok (.ireturn, 1) := by decide +kernel
theorem dX7_cost_0 : decode cX7_cost 0 = .ok (.iload_n 0, 1) := by decide +kernel
theorem dX7_cost_1 : decode cX7_cost 1 = .ok (.iconst 3, 1) := by decide +kernel
theorem dX7_cost_2 : decode cX7_cost 2 = .ok (.idiv, 1) := by decide +kernel
theorem dX7_cost_3 : decode cX7_cost 3 = .ok (.iconst 1, 1) := by decide +kernel
theorem dX7_cost_4 : decode cX7_cost 4 = .ok (.iadd, 1) := by decide +kernel
theorem dX7_cost_5 : decode cX7_cost 5 = .ok (.ireturn, 1) := by decide +kernel
theorem dX7_worth_0 : decode cX7_worth 0 = .ok (.iload_n 0, 1) := by decide +kernel
theorem dX7_worth_1 : decode cX7_worth 1 = .ok (.iconst 1, 1) := by decide +kernel
theorem dX7_worth_2 : decode cX7_worth 2 = .ok (.if_icmp .ne 7, 3) := by decide +kernel
theorem dX7_worth_5 : decode cX7_worth 5 = .ok (.iconst 1, 1) := by decide +kernel
theorem dX7_worth_6 : decode cX7_worth 6 = .ok (.goto 14, 3) := by decide +kernel
theorem dX7_worth_9 : decode cX7_worth 9 = .ok (.iload_n 0, 1) := by decide +kernel
theorem dX7_worth_10 : decode cX7_worth 10 = .ok (.iconst 2, 1) := by decide +kernel
theorem dX7_worth_11 : decode cX7_worth 11 = .ok (.if_icmp .ne 7, 3) := by decide +kernel
theorem dX7_worth_14 : decode cX7_worth 14 = .ok (.iconst 3, 1) := by decide +kernel
theorem dX7_worth_15 : decode cX7_worth 15 = .ok (.goto 5, 3) := by decide +kernel
theorem dX7_worth_18 : decode cX7_worth 18 = .ok (.bipush 9, 2) := by decide +kernel
theorem dX7_worth_20 : decode cX7_worth 20 = .ok (.ireturn, 1) := by decide +kernel
theorem dX7_least_0 : decode cX7_least 0 = .ok (.iload_n 0, 1) := by decide +kernel
theorem dX7_least_1 : decode cX7_least 1 = .ok (.iload_n 1, 1) := by decide +kernel
theorem dX7_least_2 : decode cX7_least 2 = .ok (.if_icmp .ge 7, 3) := by decide +kernel
theorem dX7_least_5 : decode cX7_least 5 = .ok (.iload_n 0, 1) := by decide +kernel
theorem dX7_least_6 : decode cX7_least 6 = .ok (.goto 4, 3) := by decide +kernel
theorem dX7_least_9 : decode cX7_least 9 = .ok (.iload_n 1, 1) := by decide +kernel
theorem dX7_least_10 : decode cX7_least 10 = .ok (.ireturn, 1) := by decide +kernel
theorem dX7_tell_0 : decode cX7_tell 0 = .ok (.aload_n 0, 1) := by decide +kernel
theorem dX7_tell_1 : decode cX7_tell 1 = .ok (.iload_n 1, 1) := by decide +kernel
theorem dX7_tell_2 : decode cX7_tell 2 = .ok (.iconst 0, 1) := by decide +kernel
theorem dX7_tell_3 : decode cX7_tell 3 = .ok (.sipush 1000, 3) := by decide +kernel
theorem dX7_tell_6 : decode cX7_tell 6 = .ok (.invokestatic 60, 3) := by decide +kernel
theorem dX7_tell_9 : decode cX7_tell 9 = .ok (.ifCond .ne 7, 3) := by decide +kernel
theorem dX7_tell_12 : decode cX7_tell 12 = .ok (.iconst 1, 1) := by decide +kernel
theorem dX7_tell_13 : decode cX7_tell 13 = .ok (.goto 17, 3) := by decide +kernel
theorem dX7_tell_16 : decode cX7_tell 16 = .ok (.aload_n 0, 1) := by decide +kernel
theorem dX7_tell_17 : decode cX7_tell 17 = .ok (.getfield 68, 3) := by decide +kernel
theorem dX7_tell_20 : decode cX7_tell 20 = .ok (.bipush 100, 2) := by decide +kernel
theorem dX7_tell_22 : decode cX7_tell 22 = .ok (.if_icmp .ne 7, 3) := by decide +kernel
theorem dX7_tell_25 : decode cX7_tell 25 = .ok (.iconst 2, 1) := by decide +kernel
theorem dX7_tell_26 : decode cX7_tell 26 = .ok (.goto 4, 3) := by decide +kernel
theorem dX7_tell_29 : decode cX7_tell 29 = .ok (.iconst 0, 1) := by decide +kernel
theorem dX7_tell_30 : decode cX7_tell 30 = .ok (.invokevirtual 71, 3) := by decide +kernel
theorem dX7_tell_33 : decode cX7_tell 33 = .ok (.ifCond .ne 5, 3) := by decide +kernel
theorem dX7_tell_36 : decode cX7_tell 36 = .ok (.iconst 0, 1) := by decide +kernel
theorem dX7_tell_37 : decode cX7_tell 37 = .ok (.ireturn, 1) := by decide +kernel
theorem dX7_tell_38 : decode cX7_tell 38 = .ok (.aload_n 0, 1) := by decide +kernel
theorem dX7_tell_39 : decode cX7_tell 39 = .ok (.getfield 7, 3) := by decide +kernel
theorem dX7_tell_42 : decode cX7_tell 42 = .ok (.aload_n 0, 1) := by decide +kernel
theorem dX7_tell_43 : decode cX7_tell 43 = .ok (.getfield 74, 3) := by decide +kernel
theorem dX7_tell_46 : decode cX7_tell 46 = .ok (.aload_n 0, 1) := by decide +kernel
theorem dX7_tell_47 : decode cX7_tell 47 = .ok (.getfield 68, 3) := by decide +kernel
theorem dX7_tell_50 : decode cX7_tell 50 = .ok (.iadd, 1) := by decide +kernel
theorem dX7_tell_51 : decode cX7_tell 51 = .ok (.bipush 100, 2) := by decide +kernel
theorem dX7_tell_53 : decode cX7_tell 53 = .ok (.irem, 1) := by decide +kernel
theorem dX7_tell_54 : decode cX7_tell 54 = .ok (.iload_n 1, 1) := by decide +kernel
theorem dX7_tell_55 : decode cX7_tell 55 = .ok (.iastore, 1) := by decide +kernel
theorem dX7_tell_56 : decode cX7_tell 56 = .ok (.aload_n 0, 1) := by decide +kernel
theorem dX7_tell_57 : decode cX7_tell 57 = .ok (.dup, 1) := by decide +kernel
theorem dX7_tell_58 : decode cX7_tell 58 = .ok (.getfield 68, 3) := by decide +kernel
theorem dX7_tell_61 : decode cX7_tell 61 = .ok (.iconst 1, 1) := by decide +kernel
theorem dX7_tell_62 : decode cX7_tell 62 = .ok (.iadd, 1) := by decide +kernel
theorem dX7_tell_63 : decode cX7_tell 63 = .ok (.putfield 68, 3) := by decide +kernel
theorem dX7_tell_66 : decode cX7_tell 66 = .ok (.aload_n 0, 1) := by decide +kernel
theorem dX7_tell_67 : decode cX7_tell 67 = .ok (.getfield 68, 3) := by decide +kernel
theorem dX7_tell_70 : decode cX7_tell 70 = .ok (.ireturn, 1) := by decide +kernel
theorem dX7_next_0 : decode cX7_next 0 = .ok (.aload_n 0, 1) := by decide +kernel
theorem dX7_next_1 : decode cX7_next 1 = .ok (.getfield 68, 3) := by decide +kernel
theorem dX7_next_4 : decode cX7_next 4 = .ok (.ifCond .ne 5, 3) := by decide +kernel
theorem dX7_next_7 : decode cX7_next 7 = .ok (.iconst 0, 1) := by decide +kernel
theorem dX7_next_8 : decode cX7_next 8 = .ok (.ireturn, 1) := by decide +kernel
theorem dX7_next_9 : decode cX7_next 9 = .ok (.aload_n 0, 1) := by decide +kernel
theorem dX7_next_10 : decode cX7_next 10 = .ok (.getfield 7, 3) := by decide +kernel
theorem dX7_next_13 : decode cX7_next 13 = .ok (.aload_n 0, 1) := by decide +kernel
theorem dX7_next_14 : decode cX7_next 14 = .ok (.getfield 74, 3) := by decide +kernel
theorem dX7_next_17 : decode cX7_next 17 = .ok (.iaload, 1) := by decide +kernel
theorem dX7_next_18 : decode cX7_next 18 = .ok (.istore_n 1, 1) := by decide +kernel
theorem dX7_next_19 : decode cX7_next 19 = .ok (.aload_n 0, 1) := by decide +kernel
theorem dX7_next_20 : decode cX7_next 20 = .ok (.aload_n 0, 1) := by decide +kernel
theorem dX7_next_21 : decode cX7_next 21 = .ok (.getfield 74, 3) := by decide +kernel
theorem dX7_next_24 : decode cX7_next 24 = .ok (.iconst 1, 1) := by decide +kernel
theorem dX7_next_25 : decode cX7_next 25 = .ok (.iadd, 1) := by decide +kernel
theorem dX7_next_26 : decode cX7_next 26 = .ok (.bipush 100, 2) := by decide +kernel
theorem dX7_next_28 : decode cX7_next 28 = .ok (.irem, 1) := by decide +kernel
theorem dX7_next_29 : decode cX7_next 29 = .ok (.putfield 74, 3) := by decide +kernel
theorem dX7_next_32 : decode cX7_next 32 = .ok (.aload_n 0, 1) := by decide +kernel
theorem dX7_next_33 : decode cX7_next 33 = .ok (.dup, 1) := by decide +kernel
theorem dX7_next_34 : decode cX7_next 34 = .ok (.getfield 68, 3) := by decide +kernel
theorem dX7_next_37 : decode cX7_next 37 = .ok (.iconst 1, 1) := by decide +kernel
theorem dX7_next_38 : decode cX7_next 38 = .ok (.isub, 1) := by decide +kernel
theorem dX7_next_39 : decode cX7_next 39 = .ok (.putfield 68, 3) := by decide +kernel
theorem dX7_next_42 : decode cX7_next 42 = .ok (.iload_n 1, 1) := by decide +kernel
theorem dX7_next_43 : decode cX7_next 43 = .ok (.ireturn, 1) := by decide +kernel
theorem dX7_fillsSlot_0 : decode cX7_fillsSlot 0 = .ok (.aload_n 0, 1) := by decide +kernel
theorem dX7_fillsSlot_1 : decode cX7_fillsSlot 1 = .ok (.invokevirtual 77, 3) := by decide +kernel
theorem dX7_fillsSlot_4 : decode cX7_fillsSlot 4 = .ok (.istore_n 3, 1) := by decide +kernel
theorem dX7_fillsSlot_5 : decode cX7_fillsSlot 5 = .ok (.iconst 0, 1) := by decide +kernel
theorem dX7_fillsSlot_6 : decode cX7_fillsSlot 6 = .ok (.istore 4, 2) := by decide +kernel
theorem dX7_fillsSlot_8 : decode cX7_fillsSlot 8 = .ok (.iconst 0, 1) := by decide +kernel
theorem dX7_fillsSlot_9 : decode cX7_fillsSlot 9 = .ok (.istore 5, 2) := by decide +kernel
theorem dX7_fillsSlot_11 : decode cX7_fillsSlot 11 = .ok (.iload 5, 2) := by decide +kernel
theorem dX7_fillsSlot_13 : decode cX7_fillsSlot 13 = .ok (.bipush 9, 2) := by decide +kernel
theorem dX7_fillsSlot_15 : decode cX7_fillsSlot 15 = .ok (.if_icmp .ge 41, 3) := by decide +kernel
theorem dX7_fillsSlot_18 : decode cX7_fillsSlot 18 = .ok (.iload 4, 2) := by decide +kernel
theorem dX7_fillsSlot_20 : decode cX7_fillsSlot 20 = .ok (.iload 5, 2) := by decide +kernel
theorem dX7_fillsSlot_22 : decode cX7_fillsSlot 22 = .ok (.invokestatic 81, 3) := by decide +kernel
theorem dX7_fillsSlot_25 : decode cX7_fillsSlot 25 = .ok (.aload_n 0, 1) := by decide +kernel
theorem dX7_fillsSlot_26 : decode cX7_fillsSlot 26 = .ok (.getfield 19, 3) := by decide +kernel
theorem dX7_fillsSlot_29 : decode cX7_fillsSlot 29 = .ok (.iload_n 1, 1) := by decide +kernel
theorem dX7_fillsSlot_30 : decode cX7_fillsSlot 30 = .ok (.iaload, 1) := by decide +kernel
theorem dX7_fillsSlot_31 : decode cX7_fillsSlot 31 = .ok (.iconst 1, 1) := by decide +kernel
theorem dX7_fillsSlot_32 : decode cX7_fillsSlot 32 = .ok (.iadd, 1) := by decide +kernel
theorem dX7_fillsSlot_33 : decode cX7_fillsSlot 33 = .ok (.if_icmp .gt 13, 3) := by decide +kernel
theorem dX7_fillsSlot_36 : decode cX7_fillsSlot 36 = .ok (.aload_n 0, 1) := by decide +kernel
theorem dX7_fillsSlot_37 : decode cX7_fillsSlot 37 = .ok (.getfield 13, 3) := by decide +kernel
theorem dX7_fillsSlot_40 : decode cX7_fillsSlot 40 = .ok (.iload 5, 2) := by decide +kernel
theorem dX7_fillsSlot_42 : decode cX7_fillsSlot 42 = .ok (.iaload, 1) := by decide +kernel
theorem dX7_fillsSlot_43 : decode cX7_fillsSlot 43 = .ok (.goto 4, 3) := by decide +kernel
theorem dX7_fillsSlot_46 : decode cX7_fillsSlot 46 = .ok (.iconst 0, 1) := by decide +kernel
theorem dX7_fillsSlot_47 : decode cX7_fillsSlot 47 = .ok (.iadd, 1) := by decide +kernel
theorem dX7_fillsSlot_48 : decode cX7_fillsSlot 48 = .ok (.istore 4, 2) := by decide +kernel
theorem dX7_fillsSlot_50 : decode cX7_fillsSlot 50 = .ok (.iinc 5 1, 3) := by decide +kernel
theorem dX7_fillsSlot_53 : decode cX7_fillsSlot 53 = .ok (.goto (-42), 3) := by decide +kernel
theorem dX7_fillsSlot_56 : decode cX7_fillsSlot 56 = .ok (.iload 4, 2) := by decide +kernel
theorem dX7_fillsSlot_58 : decode cX7_fillsSlot 58 = .ok (.ifCond .le 65, 3) := by decide +kernel
theorem dX7_fillsSlot_61 : decode cX7_fillsSlot 61 = .ok (.iload_n 3, 1) := by decide +kernel
theorem dX7_fillsSlot_62 : decode cX7_fillsSlot 62 = .ok (.iload 4, 2) := by decide +kernel
theorem dX7_fillsSlot_64 : decode cX7_fillsSlot 64 = .ok (.irem, 1) := by decide +kernel
theorem dX7_fillsSlot_65 : decode cX7_fillsSlot 65 = .ok (.istore 5, 2) := by decide +kernel
theorem dX7_fillsSlot_67 : decode cX7_fillsSlot 67 = .ok (.iconst 0, 1) := by decide +kernel
theorem dX7_fillsSlot_68 : decode cX7_fillsSlot 68 = .ok (.istore 6, 2) := by decide +kernel
theorem dX7_fillsSlot_70 : decode cX7_fillsSlot 70 = .ok (.iload 5, 2) := by decide +kernel
theorem dX7_fillsSlot_72 : decode cX7_fillsSlot 72 = .ok (.aload_n 0, 1) := by decide +kernel
theorem dX7_fillsSlot_73 : decode cX7_fillsSlot 73 = .ok (.getfield 13, 3) := by decide +kernel
theorem dX7_fillsSlot_76 : decode cX7_fillsSlot 76 = .ok (.iload 6, 2) := by decide +kernel
theorem dX7_fillsSlot_78 : decode cX7_fillsSlot 78 = .ok (.iaload, 1) := by decide +kernel
theorem dX7_fillsSlot_79 : decode cX7_fillsSlot 79 = .ok (.if_icmp .lt 21, 3) := by decide +kernel
theorem dX7_fillsSlot_82 : decode cX7_fillsSlot 82 = .ok (.iload 5, 2) := by decide +kernel
theorem dX7_fillsSlot_84 : decode cX7_fillsSlot 84 = .ok (.aload_n 0, 1) := by decide +kernel
theorem dX7_fillsSlot_85 : decode cX7_fillsSlot 85 = .ok (.getfield 13, 3) := by decide +kernel
theorem dX7_fillsSlot_88 : decode cX7_fillsSlot 88 = .ok (.iload 6, 2) := by decide +kernel
theorem dX7_fillsSlot_90 : decode cX7_fillsSlot 90 = .ok (.iaload, 1) := by decide +kernel
theorem dX7_fillsSlot_91 : decode cX7_fillsSlot 91 = .ok (.isub, 1) := by decide +kernel
theorem dX7_fillsSlot_92 : decode cX7_fillsSlot 92 = .ok (.istore 5, 2) := by decide +kernel
theorem dX7_fillsSlot_94 : decode cX7_fillsSlot 94 = .ok (.iinc 6 1, 3) := by decide +kernel
theorem dX7_fillsSlot_97 : decode cX7_fillsSlot 97 = .ok (.goto (-27), 3) := by decide +kernel
theorem dX7_fillsSlot_100 : decode cX7_fillsSlot 100 = .ok (.aload_n 0, 1) := by decide +kernel
theorem dX7_fillsSlot_101 : decode cX7_fillsSlot 101 = .ok (.getfield 13, 3) := by decide +kernel
theorem dX7_fillsSlot_104 : decode cX7_fillsSlot 104 = .ok (.iload 6, 2) := by decide +kernel
theorem dX7_fillsSlot_106 : decode cX7_fillsSlot 106 = .ok (.dup2, 1) := by decide +kernel
theorem dX7_fillsSlot_107 : decode cX7_fillsSlot 107 = .ok (.iaload, 1) := by decide +kernel
theorem dX7_fillsSlot_108 : decode cX7_fillsSlot 108 = .ok (.iconst 1, 1) := by decide +kernel
theorem dX7_fillsSlot_109 : decode cX7_fillsSlot 109 = .ok (.isub, 1) := by decide +kernel
theorem dX7_fillsSlot_110 : decode cX7_fillsSlot 110 = .ok (.iastore, 1) := by decide +kernel
theorem dX7_fillsSlot_111 : decode cX7_fillsSlot 111 = .ok (.aload_n 0, 1) := by decide +kernel
theorem dX7_fillsSlot_112 : decode cX7_fillsSlot 112 = .ok (.getfield 28, 3) := by decide +kernel
theorem dX7_fillsSlot_115 : decode cX7_fillsSlot 115 = .ok (.iconst 3, 1) := by decide +kernel
theorem dX7_fillsSlot_116 : decode cX7_fillsSlot 116 = .ok (.iload_n 1, 1) := by decide +kernel
theorem dX7_fillsSlot_117 : decode cX7_fillsSlot 117 = .ok (.imul, 1) := by decide +kernel
theorem dX7_fillsSlot_118 : decode cX7_fillsSlot 118 = .ok (.iload_n 2, 1) := by decide +kernel
theorem dX7_fillsSlot_119 : decode cX7_fillsSlot 119 = .ok (.iadd, 1) := by decide +kernel
theorem dX7_fillsSlot_120 : decode cX7_fillsSlot 120 = .ok (.iload 6, 2) := by decide +kernel
theorem dX7_fillsSlot_122 : decode cX7_fillsSlot 122 = .ok (.iastore, 1) := by decide +kernel
theorem dX7_fillsSlot_123 : decode cX7_fillsSlot 123 = .ok (.return_, 1) := by decide +kernel
theorem dX7_fills_0 : decode cX7_fills 0 = .ok (.iconst 0, 1) := by decide +kernel
theorem dX7_fills_1 : decode cX7_fills 1 = .ok (.istore_n 2, 1) := by decide +kernel
theorem dX7_fills_2 : decode cX7_fills 2 = .ok (.iload_n 2, 1) := by decide +kernel
theorem dX7_fills_3 : decode cX7_fills 3 = .ok (.iconst 3, 1) := by decide +kernel
theorem dX7_fills_4 : decode cX7_fills 4 = .ok (.if_icmp .ge 46, 3) := by decide +kernel
theorem dX7_fills_7 : decode cX7_fills 7 = .ok (.aload_n 0, 1) := by decide +kernel
theorem dX7_fills_8 : decode cX7_fills 8 = .ok (.getfield 28, 3) := by decide +kernel
theorem dX7_fills_11 : decode cX7_fills 11 = .ok (.iconst 3, 1) := by decide +kernel
theorem dX7_fills_12 : decode cX7_fills 12 = .ok (.iload_n 1, 1) := by decide +kernel
theorem dX7_fills_13 : decode cX7_fills 13 = .ok (.imul, 1) := by decide +kernel
theorem dX7_fills_14 : decode cX7_fills 14 = .ok (.iload_n 2, 1) := by decide +kernel
theorem dX7_fills_15 : decode cX7_fills 15 = .ok (.iadd, 1) := by decide +kernel
theorem dX7_fills_16 : decode cX7_fills 16 = .ok (.iaload, 1) := by decide +kernel
theorem dX7_fills_17 : decode cX7_fills 17 = .ok (.istore_n 3, 1) := by decide +kernel
theorem dX7_fills_18 : decode cX7_fills 18 = .ok (.iload_n 3, 1) := by decide +kernel
theorem dX7_fills_19 : decode cX7_fills 19 = .ok (.iconst (-1), 1) := by decide +kernel
theorem dX7_fills_20 : decode cX7_fills 20 = .ok (.if_icmp .eq 13, 3) := by decide +kernel
theorem dX7_fills_23 : decode cX7_fills 23 = .ok (.aload_n 0, 1) := by decide +kernel
theorem dX7_fills_24 : decode cX7_fills 24 = .ok (.getfield 13, 3) := by decide +kernel
theorem dX7_fills_27 : decode cX7_fills 27 = .ok (.iload_n 3, 1) := by decide +kernel
theorem dX7_fills_28 : decode cX7_fills 28 = .ok (.dup2, 1) := by decide +kernel
theorem dX7_fills_29 : decode cX7_fills 29 = .ok (.iaload, 1) := by decide +kernel
theorem dX7_fills_30 : decode cX7_fills 30 = .ok (.iconst 1, 1) := by decide +kernel
theorem dX7_fills_31 : decode cX7_fills 31 = .ok (.iadd, 1) := by decide +kernel
theorem dX7_fills_32 : decode cX7_fills 32 = .ok (.iastore, 1) := by decide +kernel
theorem dX7_fills_33 : decode cX7_fills 33 = .ok (.aload_n 0, 1) := by decide +kernel
theorem dX7_fills_34 : decode cX7_fills 34 = .ok (.getfield 28, 3) := by decide +kernel
theorem dX7_fills_37 : decode cX7_fills 37 = .ok (.iconst 3, 1) := by decide +kernel
theorem dX7_fills_38 : decode cX7_fills 38 = .ok (.iload_n 1, 1) := by decide +kernel
theorem dX7_fills_39 : decode cX7_fills 39 = .ok (.imul, 1) := by decide +kernel
theorem dX7_fills_40 : decode cX7_fills 40 = .ok (.iload_n 2, 1) := by decide +kernel
theorem dX7_fills_41 : decode cX7_fills 41 = .ok (.iadd, 1) := by decide +kernel
theorem dX7_fills_42 : decode cX7_fills 42 = .ok (.iconst (-1), 1) := by decide +kernel
theorem dX7_fills_43 : decode cX7_fills 43 = .ok (.iastore, 1) := by decide +kernel
theorem dX7_fills_44 : decode cX7_fills 44 = .ok (.iinc 2 1, 3) := by decide +kernel
theorem dX7_fills_47 : decode cX7_fills 47 = .ok (.goto (-45), 3) := by decide +kernel
theorem dX7_fills_50 : decode cX7_fills 50 = .ok (.iconst 0, 1) := by decide +kernel
theorem dX7_fills_51 : decode cX7_fills 51 = .ok (.istore_n 2, 1) := by decide +kernel
theorem dX7_fills_52 : decode cX7_fills 52 = .ok (.iload_n 2, 1) := by decide +kernel
theorem dX7_fills_53 : decode cX7_fills 53 = .ok (.iconst 3, 1) := by decide +kernel
theorem dX7_fills_54 : decode cX7_fills 54 = .ok (.if_icmp .ge 15, 3) := by decide +kernel
theorem dX7_fills_57 : decode cX7_fills 57 = .ok (.aload_n 0, 1) := by decide +kernel
theorem dX7_fills_58 : decode cX7_fills 58 = .ok (.iload_n 1, 1) := by decide +kernel
theorem dX7_fills_59 : decode cX7_fills 59 = .ok (.iload_n 2, 1) := by decide +kernel
theorem dX7_fills_60 : decode cX7_fills 60 = .ok (.invokevirtual 85, 3) := by decide +kernel
theorem dX7_fills_63 : decode cX7_fills 63 = .ok (.iinc 2 1, 3) := by decide +kernel
theorem dX7_fills_66 : decode cX7_fills 66 = .ok (.goto (-14), 3) := by decide +kernel
theorem dX7_fills_69 : decode cX7_fills 69 = .ok (.aload_n 0, 1) := by decide +kernel
theorem dX7_fills_70 : decode cX7_fills 70 = .ok (.getfield 31, 3) := by decide +kernel
theorem dX7_fills_73 : decode cX7_fills 73 = .ok (.iload_n 1, 1) := by decide +kernel
theorem dX7_fills_74 : decode cX7_fills 74 = .ok (.iconst 0, 1) := by decide +kernel
theorem dX7_fills_75 : decode cX7_fills 75 = .ok (.bastore, 1) := by decide +kernel
theorem dX7_fills_76 : decode cX7_fills 76 = .ok (.return_, 1) := by decide +kernel
theorem dX7_roll_0 : decode cX7_roll 0 = .ok (.aload_n 0, 1) := by decide +kernel
theorem dX7_roll_1 : decode cX7_roll 1 = .ok (.iload_n 1, 1) := by decide +kernel
theorem dX7_roll_2 : decode cX7_roll 2 = .ok (.invokestatic 64, 3) := by decide +kernel
theorem dX7_roll_5 : decode cX7_roll 5 = .ok (.ifCond .ne 7, 3) := by decide +kernel
theorem dX7_roll_8 : decode cX7_roll 8 = .ok (.iconst 1, 1) := by decide +kernel
theorem dX7_roll_9 : decode cX7_roll 9 = .ok (.goto 17, 3) := by decide +kernel
theorem dX7_roll_12 : decode cX7_roll 12 = .ok (.aload_n 0, 1) := by decide +kernel
theorem dX7_roll_13 : decode cX7_roll 13 = .ok (.getfield 16, 3) := by decide +kernel
theorem dX7_roll_16 : decode cX7_roll 16 = .ok (.iload_n 1, 1) := by decide +kernel
theorem dX7_roll_17 : decode cX7_roll 17 = .ok (.iaload, 1) := by decide +kernel
theorem dX7_roll_18 : decode cX7_roll 18 = .ok (.ifCond .ne 7, 3) := by decide +kernel
theorem dX7_roll_21 : decode cX7_roll 21 = .ok (.iconst 2, 1) := by decide +kernel
theorem dX7_roll_22 : decode cX7_roll 22 = .ok (.goto 4, 3) := by decide +kernel
theorem dX7_roll_25 : decode cX7_roll 25 = .ok (.iconst 0, 1) := by decide +kernel
theorem dX7_roll_26 : decode cX7_roll 26 = .ok (.invokevirtual 71, 3) := by decide +kernel
theorem dX7_roll_29 : decode cX7_roll 29 = .ok (.ifCond .ne 5, 3) := by decide +kernel
theorem dX7_roll_32 : decode cX7_roll 32 = .ok (.iconst 0, 1) := by decide +kernel
theorem dX7_roll_33 : decode cX7_roll 33 = .ok (.ireturn, 1) := by decide +kernel
theorem dX7_roll_34 : decode cX7_roll 34 = .ok (.aload_n 0, 1) := by decide +kernel
theorem dX7_roll_35 : decode cX7_roll 35 = .ok (.getfield 16, 3) := by decide +kernel
theorem dX7_roll_38 : decode cX7_roll 38 = .ok (.iload_n 1, 1) := by decide +kernel
theorem dX7_roll_39 : decode cX7_roll 39 = .ok (.dup2, 1) := by decide +kernel
theorem dX7_roll_40 : decode cX7_roll 40 = .ok (.iaload, 1) := by decide +kernel
theorem dX7_roll_41 : decode cX7_roll 41 = .ok (.iconst 1, 1) := by decide +kernel
theorem dX7_roll_42 : decode cX7_roll 42 = .ok (.isub, 1) := by decide +kernel
theorem dX7_roll_43 : decode cX7_roll 43 = .ok (.iastore, 1) := by decide +kernel
theorem dX7_roll_44 : decode cX7_roll 44 = .ok (.aload_n 0, 1) := by decide +kernel
theorem dX7_roll_45 : decode cX7_roll 45 = .ok (.iload_n 1, 1) := by decide +kernel
theorem dX7_roll_46 : decode cX7_roll 46 = .ok (.invokevirtual 89, 3) := by decide +kernel
theorem dX7_roll_49 : decode cX7_roll 49 = .ok (.aload_n 0, 1) := by decide +kernel
theorem dX7_roll_50 : decode cX7_roll 50 = .ok (.getfield 16, 3) := by decide +kernel
theorem dX7_roll_53 : decode cX7_roll 53 = .ok (.iload_n 1, 1) := by decide +kernel
theorem dX7_roll_54 : decode cX7_roll 54 = .ok (.iaload, 1) := by decide +kernel
theorem dX7_roll_55 : decode cX7_roll 55 = .ok (.ireturn, 1) := by decide +kernel
theorem dX7_toggleLock_0 : decode cX7_toggleLock 0 = .ok (.aload_n 0, 1) := by decide +kernel
theorem dX7_toggleLock_1 : decode cX7_toggleLock 1 = .ok (.iload_n 1, 1) := by decide +kernel
theorem dX7_toggleLock_2 : decode cX7_toggleLock 2 = .ok (.invokestatic 64, 3) := by decide +kernel
theorem dX7_toggleLock_5 : decode cX7_toggleLock 5 = .ok (.ifCond .eq 7, 3) := by decide +kernel
theorem dX7_toggleLock_8 : decode cX7_toggleLock 8 = .ok (.iconst 0, 1) := by decide +kernel
theorem dX7_toggleLock_9 : decode cX7_toggleLock 9 = .ok (.goto 4, 3) := by decide +kernel
theorem dX7_toggleLock_12 : decode cX7_toggleLock 12 = .ok (.iconst 1, 1) := by decide +kernel
theorem dX7_toggleLock_13 : decode cX7_toggleLock 13 = .ok (.invokevirtual 71, 3) := by decide +kernel
theorem dX7_toggleLock_16 : decode cX7_toggleLock 16 = .ok (.ifCond .ne 5, 3) := by decide +kernel
theorem dX7_toggleLock_19 : decode cX7_toggleLock 19 = .ok (.iconst 0, 1) := by decide +kernel
theorem dX7_toggleLock_20 : decode cX7_toggleLock 20 = .ok (.ireturn, 1) := by decide +kernel
theorem dX7_toggleLock_21 : decode cX7_toggleLock 21 = .ok (.aload_n 0, 1) := by decide +kernel
theorem dX7_toggleLock_22 : decode cX7_toggleLock 22 = .ok (.getfield 31, 3) := by decide +kernel
theorem dX7_toggleLock_25 : decode cX7_toggleLock 25 = .ok (.iload_n 1, 1) := by decide +kernel
theorem dX7_toggleLock_26 : decode cX7_toggleLock 26 = .ok (.aload_n 0, 1) := by decide +kernel
theorem dX7_toggleLock_27 : decode cX7_toggleLock 27 = .ok (.getfield 31, 3) := by decide +kernel
theorem dX7_toggleLock_30 : decode cX7_toggleLock 30 = .ok (.iload_n 1, 1) := by decide +kernel
theorem dX7_toggleLock_31 : decode cX7_toggleLock 31 = .ok (.baload, 1) := by decide +kernel
theorem dX7_toggleLock_32 : decode cX7_toggleLock 32 = .ok (.ifCond .ne 7, 3) := by decide +kernel
theorem dX7_toggleLock_35 : decode cX7_toggleLock 35 = .ok (.iconst 1, 1) := by decide +kernel
theorem dX7_toggleLock_36 : decode cX7_toggleLock 36 = .ok (.goto 4, 3) := by decide +kernel
theorem dX7_toggleLock_39 : decode cX7_toggleLock 39 = .ok (.iconst 0, 1) := by decide +kernel
theorem dX7_toggleLock_40 : decode cX7_toggleLock 40 = .ok (.bastore, 1) := by decide +kernel
theorem dX7_toggleLock_41 : decode cX7_toggleLock 41 = .ok (.aload_n 0, 1) := by decide +kernel
theorem dX7_toggleLock_42 : decode cX7_toggleLock 42 = .ok (.getfield 31, 3) := by decide +kernel
theorem dX7_toggleLock_45 : decode cX7_toggleLock 45 = .ok (.iload_n 1, 1) := by decide +kernel
theorem dX7_toggleLock_46 : decode cX7_toggleLock 46 = .ok (.baload, 1) := by decide +kernel
theorem dX7_toggleLock_47 : decode cX7_toggleLock 47 = .ok (.ireturn, 1) := by decide +kernel
theorem dX7_buyLevel_0 : decode cX7_buyLevel 0 = .ok (.aload_n 0, 1) := by decide +kernel
theorem dX7_buyLevel_1 : decode cX7_buyLevel 1 = .ok (.iload_n 1, 1) := by decide +kernel
theorem dX7_buyLevel_2 : decode cX7_buyLevel 2 = .ok (.invokestatic 64, 3) := by decide +kernel
theorem dX7_buyLevel_5 : decode cX7_buyLevel 5 = .ok (.ifCond .ne 7, 3) := by decide +kernel
theorem dX7_buyLevel_8 : decode cX7_buyLevel 8 = .ok (.iconst 1, 1) := by decide +kernel
theorem dX7_buyLevel_9 : decode cX7_buyLevel 9 = .ok (.goto 28, 3) := by decide +kernel
theorem dX7_buyLevel_12 : decode cX7_buyLevel 12 = .ok (.aload_n 0, 1) := by decide +kernel
theorem dX7_buyLevel_13 : decode cX7_buyLevel 13 = .ok (.getfield 16, 3) := by decide +kernel
theorem dX7_buyLevel_16 : decode cX7_buyLevel 16 = .ok (.iload_n 1, 1) := by decide +kernel
theorem dX7_buyLevel_17 : decode cX7_buyLevel 17 = .ok (.iaload, 1) := by decide +kernel
theorem dX7_buyLevel_18 : decode cX7_buyLevel 18 = .ok (.iconst 4, 1) := by decide +kernel
theorem dX7_buyLevel_19 : decode cX7_buyLevel 19 = .ok (.if_icmp .lt 13, 3) := by decide +kernel
theorem dX7_buyLevel_22 : decode cX7_buyLevel 22 = .ok (.aload_n 0, 1) := by decide +kernel
theorem dX7_buyLevel_23 : decode cX7_buyLevel 23 = .ok (.getfield 19, 3) := by decide +kernel
theorem dX7_buyLevel_26 : decode cX7_buyLevel 26 = .ok (.iload_n 1, 1) := by decide +kernel
theorem dX7_buyLevel_27 : decode cX7_buyLevel 27 = .ok (.iaload, 1) := by decide +kernel
theorem dX7_buyLevel_28 : decode cX7_buyLevel 28 = .ok (.iconst 5, 1) := by decide +kernel
theorem dX7_buyLevel_29 : decode cX7_buyLevel 29 = .ok (.if_icmp .ne 7, 3) := by decide +kernel
theorem dX7_buyLevel_32 : decode cX7_buyLevel 32 = .ok (.iconst 2, 1) := by decide +kernel
theorem dX7_buyLevel_33 : decode cX7_buyLevel 33 = .ok (.goto 4, 3) := by decide +kernel
theorem dX7_buyLevel_36 : decode cX7_buyLevel 36 = .ok (.iconst 0, 1) := by decide +kernel
theorem dX7_buyLevel_37 : decode cX7_buyLevel 37 = .ok (.invokevirtual 71, 3) := by decide +kernel
theorem dX7_buyLevel_40 : decode cX7_buyLevel 40 = .ok (.ifCond .ne 5, 3) := by decide +kernel
theorem dX7_buyLevel_43 : decode cX7_buyLevel 43 = .ok (.iconst 0, 1) := by decide +kernel
theorem dX7_buyLevel_44 : decode cX7_buyLevel 44 = .ok (.ireturn, 1) := by decide +kernel
theorem dX7_buyLevel_45 : decode cX7_buyLevel 45 = .ok (.aload_n 0, 1) := by decide +kernel
theorem dX7_buyLevel_46 : decode cX7_buyLevel 46 = .ok (.getfield 16, 3) := by decide +kernel
theorem dX7_buyLevel_49 : decode cX7_buyLevel 49 = .ok (.iload_n 1, 1) := by decide +kernel
theorem dX7_buyLevel_50 : decode cX7_buyLevel 50 = .ok (.dup2, 1) := by decide +kernel
theorem dX7_buyLevel_51 : decode cX7_buyLevel 51 = .ok (.iaload, 1) := by decide +kernel
theorem dX7_buyLevel_52 : decode cX7_buyLevel 52 = .ok (.iconst 4, 1) := by decide +kernel
theorem dX7_buyLevel_53 : decode cX7_buyLevel 53 = .ok (.isub, 1) := by decide +kernel
theorem dX7_buyLevel_54 : decode cX7_buyLevel 54 = .ok (.iastore, 1) := by decide +kernel
theorem dX7_buyLevel_55 : decode cX7_buyLevel 55 = .ok (.aload_n 0, 1) := by decide +kernel
theorem dX7_buyLevel_56 : decode cX7_buyLevel 56 = .ok (.getfield 19, 3) := by decide +kernel
theorem dX7_buyLevel_59 : decode cX7_buyLevel 59 = .ok (.iload_n 1, 1) := by decide +kernel
theorem dX7_buyLevel_60 : decode cX7_buyLevel 60 = .ok (.dup2, 1) := by decide +kernel
theorem dX7_buyLevel_61 : decode cX7_buyLevel 61 = .ok (.iaload, 1) := by decide +kernel
theorem dX7_buyLevel_62 : decode cX7_buyLevel 62 = .ok (.iconst 1, 1) := by decide +kernel
theorem dX7_buyLevel_63 : decode cX7_buyLevel 63 = .ok (.iadd, 1) := by decide +kernel
theorem dX7_buyLevel_64 : decode cX7_buyLevel 64 = .ok (.iastore, 1) := by decide +kernel
theorem dX7_buyLevel_65 : decode cX7_buyLevel 65 = .ok (.aload_n 0, 1) := by decide +kernel
theorem dX7_buyLevel_66 : decode cX7_buyLevel 66 = .ok (.getfield 19, 3) := by decide +kernel
theorem dX7_buyLevel_69 : decode cX7_buyLevel 69 = .ok (.iload_n 1, 1) := by decide +kernel
theorem dX7_buyLevel_70 : decode cX7_buyLevel 70 = .ok (.iaload, 1) := by decide +kernel
theorem dX7_buyLevel_71 : decode cX7_buyLevel 71 = .ok (.ireturn, 1) := by decide +kernel
theorem dX7_alike_0 : decode cX7_alike 0 = .ok (.iconst 0, 1) := by decide +kernel
theorem dX7_alike_1 : decode cX7_alike 1 = .ok (.istore_n 3, 1) := by decide +kernel
theorem dX7_alike_2 : decode cX7_alike 2 = .ok (.iconst 0, 1) := by decide +kernel
theorem dX7_alike_3 : decode cX7_alike 3 = .ok (.istore 4, 2) := by decide +kernel
theorem dX7_alike_5 : decode cX7_alike 5 = .ok (.iload 4, 2) := by decide +kernel
theorem dX7_alike_7 : decode cX7_alike 7 = .ok (.aload_n 0, 1) := by decide +kernel
theorem dX7_alike_8 : decode cX7_alike 8 = .ok (.getfield 41, 3) := by decide +kernel
theorem dX7_alike_11 : decode cX7_alike 11 = .ok (.iload_n 1, 1) := by decide +kernel
theorem dX7_alike_12 : decode cX7_alike 12 = .ok (.iaload, 1) := by decide +kernel
theorem dX7_alike_13 : decode cX7_alike 13 = .ok (.if_icmp .ge 32, 3) := by decide +kernel
theorem dX7_alike_16 : decode cX7_alike 16 = .ok (.iload_n 3, 1) := by decide +kernel
theorem dX7_alike_17 : decode cX7_alike 17 = .ok (.aload_n 0, 1) := by decide +kernel
theorem dX7_alike_18 : decode cX7_alike 18 = .ok (.getfield 44, 3) := by decide +kernel
theorem dX7_alike_21 : decode cX7_alike 21 = .ok (.iconst 5, 1) := by decide +kernel
theorem dX7_alike_22 : decode cX7_alike 22 = .ok (.iload_n 1, 1) := by decide +kernel
theorem dX7_alike_23 : decode cX7_alike 23 = .ok (.imul, 1) := by decide +kernel
theorem dX7_alike_24 : decode cX7_alike 24 = .ok (.iload 4, 2) := by decide +kernel
theorem dX7_alike_26 : decode cX7_alike 26 = .ok (.iadd, 1) := by decide +kernel
theorem dX7_alike_27 : decode cX7_alike 27 = .ok (.iaload, 1) := by decide +kernel
theorem dX7_alike_28 : decode cX7_alike 28 = .ok (.iload_n 2, 1) := by decide +kernel
theorem dX7_alike_29 : decode cX7_alike 29 = .ok (.if_icmp .ne 7, 3) := by decide +kernel
theorem dX7_alike_32 : decode cX7_alike 32 = .ok (.iconst 1, 1) := by decide +kernel
theorem dX7_alike_33 : decode cX7_alike 33 = .ok (.goto 4, 3) := by decide +kernel
theorem dX7_alike_36 : decode cX7_alike 36 = .ok (.iconst 0, 1) := by decide +kernel
theorem dX7_alike_37 : decode cX7_alike 37 = .ok (.iadd, 1) := by decide +kernel
theorem dX7_alike_38 : decode cX7_alike 38 = .ok (.istore_n 3, 1) := by decide +kernel
theorem dX7_alike_39 : decode cX7_alike 39 = .ok (.iinc 4 1, 3) := by decide +kernel
theorem dX7_alike_42 : decode cX7_alike 42 = .ok (.goto (-37), 3) := by decide +kernel
theorem dX7_alike_45 : decode cX7_alike 45 = .ok (.iconst 0, 1) := by decide +kernel
theorem dX7_alike_46 : decode cX7_alike 46 = .ok (.istore 4, 2) := by decide +kernel
theorem dX7_alike_48 : decode cX7_alike 48 = .ok (.iload 4, 2) := by decide +kernel
theorem dX7_alike_50 : decode cX7_alike 50 = .ok (.aload_n 0, 1) := by decide +kernel
theorem dX7_alike_51 : decode cX7_alike 51 = .ok (.getfield 35, 3) := by decide +kernel
theorem dX7_alike_54 : decode cX7_alike 54 = .ok (.iload_n 1, 1) := by decide +kernel
theorem dX7_alike_55 : decode cX7_alike 55 = .ok (.iaload, 1) := by decide +kernel
theorem dX7_alike_56 : decode cX7_alike 56 = .ok (.if_icmp .ge 33, 3) := by decide +kernel
theorem dX7_alike_59 : decode cX7_alike 59 = .ok (.iload_n 3, 1) := by decide +kernel
theorem dX7_alike_60 : decode cX7_alike 60 = .ok (.aload_n 0, 1) := by decide +kernel
theorem dX7_alike_61 : decode cX7_alike 61 = .ok (.getfield 38, 3) := by decide +kernel
theorem dX7_alike_64 : decode cX7_alike 64 = .ok (.bipush 6, 2) := by decide +kernel
theorem dX7_alike_66 : decode cX7_alike 66 = .ok (.iload_n 1, 1) := by decide +kernel
theorem dX7_alike_67 : decode cX7_alike 67 = .ok (.imul, 1) := by decide +kernel
theorem dX7_alike_68 : decode cX7_alike 68 = .ok (.iload 4, 2) := by decide +kernel
theorem dX7_alike_70 : decode cX7_alike 70 = .ok (.iadd, 1) := by decide +kernel
theorem dX7_alike_71 : decode cX7_alike 71 = .ok (.iaload, 1) := by decide +kernel
theorem dX7_alike_72 : decode cX7_alike 72 = .ok (.iload_n 2, 1) := by decide +kernel
theorem dX7_alike_73 : decode cX7_alike 73 = .ok (.if_icmp .ne 7, 3) := by decide +kernel
theorem dX7_alike_76 : decode cX7_alike 76 = .ok (.iconst 1, 1) := by decide +kernel
theorem dX7_alike_77 : decode cX7_alike 77 = .ok (.goto 4, 3) := by decide +kernel
theorem dX7_alike_80 : decode cX7_alike 80 = .ok (.iconst 0, 1) := by decide +kernel
theorem dX7_alike_81 : decode cX7_alike 81 = .ok (.iadd, 1) := by decide +kernel
theorem dX7_alike_82 : decode cX7_alike 82 = .ok (.istore_n 3, 1) := by decide +kernel
theorem dX7_alike_83 : decode cX7_alike 83 = .ok (.iinc 4 1, 3) := by decide +kernel
theorem dX7_alike_86 : decode cX7_alike 86 = .ok (.goto (-38), 3) := by decide +kernel
theorem dX7_alike_89 : decode cX7_alike 89 = .ok (.iload_n 3, 1) := by decide +kernel
theorem dX7_alike_90 : decode cX7_alike 90 = .ok (.ireturn, 1) := by decide +kernel
theorem dX7_takesOffBoard_0 : decode cX7_takesOffBoard 0 = .ok (.iload_n 2, 1) := by decide +kernel
theorem dX7_takesOffBoard_1 : decode cX7_takesOffBoard 1 = .ok (.iconst 1, 1) := by decide +kernel
theorem dX7_takesOffBoard_2 : decode cX7_takesOffBoard 2 = .ok (.iadd, 1) := by decide +kernel
theorem dX7_takesOffBoard_3 : decode cX7_takesOffBoard 3 = .ok (.istore_n 3, 1) := by decide +kernel
theorem dX7_takesOffBoard_4 : decode cX7_takesOffBoard 4 = .ok (.iload_n 3, 1) := by decide +kernel
theorem dX7_takesOffBoard_5 : decode cX7_takesOffBoard 5 = .ok (.aload_n 0, 1) := by decide +kernel
theorem dX7_takesOffBoard_6 : decode cX7_takesOffBoard 6 = .ok (.getfield 41, 3) := by decide +kernel
theorem dX7_takesOffBoard_9 : decode cX7_takesOffBoard 9 = .ok (.iload_n 1, 1) := by decide +kernel
theorem dX7_takesOffBoard_10 : decode cX7_takesOffBoard 10 = .ok (.iaload, 1) := by decide +kernel
theorem dX7_takesOffBoard_11 : decode cX7_takesOffBoard 11 = .ok (.if_icmp .ge 31, 3) := by decide +kernel
theorem dX7_takesOffBoard_14 : decode cX7_takesOffBoard 14 = .ok (.aload_n 0, 1) := by decide +kernel
theorem dX7_takesOffBoard_15 : decode cX7_takesOffBoard 15 = .ok (.getfield 44, 3) := by decide +kernel
theorem dX7_takesOffBoard_18 : decode cX7_takesOffBoard 18 = .ok (.iconst 5, 1) := by decide +kernel
theorem dX7_takesOffBoard_19 : decode cX7_takesOffBoard 19 = .ok (.iload_n 1, 1) := by decide +kernel
theorem dX7_takesOffBoard_20 : decode cX7_takesOffBoard 20 = .ok (.imul, 1) := by decide +kernel
theorem dX7_takesOffBoard_21 : decode cX7_takesOffBoard 21 = .ok (.iload_n 3, 1) := by decide +kernel
theorem dX7_takesOffBoard_22 : decode cX7_takesOffBoard 22 = .ok (.iadd, 1) := by decide +kernel
theorem dX7_takesOffBoard_23 : decode cX7_takesOffBoard 23 = .ok (.iconst 1, 1) := by decide +kernel
theorem dX7_takesOffBoard_24 : decode cX7_takesOffBoard 24 = .ok (.isub, 1) := by decide +kernel
theorem dX7_takesOffBoard_25 : decode cX7_takesOffBoard 25 = .ok (.aload_n 0, 1) := by decide +kernel
theorem dX7_takesOffBoard_26 : decode cX7_takesOffBoard 26 = .ok (.getfield 44, 3) := by decide +kernel
theorem dX7_takesOffBoard_29 : decode cX7_takesOffBoard 29 = .ok (.iconst 5, 1) := by decide +kernel
theorem dX7_takesOffBoard_30 : decode cX7_takesOffBoard 30 = .ok (.iload_n 1, 1) := by decide +kernel
theorem dX7_takesOffBoard_31 : decode cX7_takesOffBoard 31 = .ok (.imul, 1) := by decide +kernel
theorem dX7_takesOffBoard_32 : decode cX7_takesOffBoard 32 = .ok (.iload_n 3, 1) := by decide +kernel
theorem dX7_takesOffBoard_33 : decode cX7_takesOffBoard 33 = .ok (.iadd, 1) := by decide +kernel
theorem dX7_takesOffBoard_34 : decode cX7_takesOffBoard 34 = .ok (.iaload, 1) := by decide +kernel
theorem dX7_takesOffBoard_35 : decode cX7_takesOffBoard 35 = .ok (.iastore, 1) := by decide +kernel
theorem dX7_takesOffBoard_36 : decode cX7_takesOffBoard 36 = .ok (.iinc 3 1, 3) := by decide +kernel
theorem dX7_takesOffBoard_39 : decode cX7_takesOffBoard 39 = .ok (.goto (-35), 3) := by decide +kernel
theorem dX7_takesOffBoard_42 : decode cX7_takesOffBoard 42 = .ok (.aload_n 0, 1) := by decide +kernel
theorem dX7_takesOffBoard_43 : decode cX7_takesOffBoard 43 = .ok (.getfield 41, 3) := by decide +kernel
theorem dX7_takesOffBoard_46 : decode cX7_takesOffBoard 46 = .ok (.iload_n 1, 1) := by decide +kernel
theorem dX7_takesOffBoard_47 : decode cX7_takesOffBoard 47 = .ok (.dup2, 1) := by decide +kernel
theorem dX7_takesOffBoard_48 : decode cX7_takesOffBoard 48 = .ok (.iaload, 1) := by decide +kernel
theorem dX7_takesOffBoard_49 : decode cX7_takesOffBoard 49 = .ok (.iconst 1, 1) := by decide +kernel
theorem dX7_takesOffBoard_50 : decode cX7_takesOffBoard 50 = .ok (.isub, 1) := by decide +kernel
theorem dX7_takesOffBoard_51 : decode cX7_takesOffBoard 51 = .ok (.iastore, 1) := by decide +kernel
theorem dX7_takesOffBoard_52 : decode cX7_takesOffBoard 52 = .ok (.return_, 1) := by decide +kernel
theorem dX7_takesOffBench_0 : decode cX7_takesOffBench 0 = .ok (.iload_n 2, 1) := by decide +kernel
theorem dX7_takesOffBench_1 : decode cX7_takesOffBench 1 = .ok (.iconst 1, 1) := by decide +kernel
theorem dX7_takesOffBench_2 : decode cX7_takesOffBench 2 = .ok (.iadd, 1) := by decide +kernel
theorem dX7_takesOffBench_3 : decode cX7_takesOffBench 3 = .ok (.istore_n 3, 1) := by decide +kernel
theorem dX7_takesOffBench_4 : decode cX7_takesOffBench 4 = .ok (.iload_n 3, 1) := by decide +kernel
theorem dX7_takesOffBench_5 : decode cX7_takesOffBench 5 = .ok (.aload_n 0, 1) := by decide +kernel
theorem dX7_takesOffBench_6 : decode cX7_takesOffBench 6 = .ok (.getfield 35, 3) := by decide +kernel
theorem dX7_takesOffBench_9 : decode cX7_takesOffBench 9 = .ok (.iload_n 1, 1) := by decide +kernel
theorem dX7_takesOffBench_10 : decode cX7_takesOffBench 10 = .ok (.iaload, 1) := by decide +kernel
theorem dX7_takesOffBench_11 : decode cX7_takesOffBench 11 = .ok (.if_icmp .ge 33, 3) := by decide +kernel
theorem dX7_takesOffBench_14 : decode cX7_takesOffBench 14 = .ok (.aload_n 0, 1) := by decide +kernel
theorem dX7_takesOffBench_15 : decode cX7_takesOffBench 15 = .ok (.getfield 38, 3) := by decide +kernel
theorem dX7_takesOffBench_18 : decode cX7_takesOffBench 18 = .ok (.bipush 6, 2) := by decide +kernel
theorem dX7_takesOffBench_20 : decode cX7_takesOffBench 20 = .ok (.iload_n 1, 1) := by decide +kernel
theorem dX7_takesOffBench_21 : decode cX7_takesOffBench 21 = .ok (.imul, 1) := by decide +kernel
theorem dX7_takesOffBench_22 : decode cX7_takesOffBench 22 = .ok (.iload_n 3, 1) := by decide +kernel
theorem dX7_takesOffBench_23 : decode cX7_takesOffBench 23 = .ok (.iadd, 1) := by decide +kernel
theorem dX7_takesOffBench_24 : decode cX7_takesOffBench 24 = .ok (.iconst 1, 1) := by decide +kernel
theorem dX7_takesOffBench_25 : decode cX7_takesOffBench 25 = .ok (.isub, 1) := by decide +kernel
theorem dX7_takesOffBench_26 : decode cX7_takesOffBench 26 = .ok (.aload_n 0, 1) := by decide +kernel
theorem dX7_takesOffBench_27 : decode cX7_takesOffBench 27 = .ok (.getfield 38, 3) := by decide +kernel
theorem dX7_takesOffBench_30 : decode cX7_takesOffBench 30 = .ok (.bipush 6, 2) := by decide +kernel
theorem dX7_takesOffBench_32 : decode cX7_takesOffBench 32 = .ok (.iload_n 1, 1) := by decide +kernel
theorem dX7_takesOffBench_33 : decode cX7_takesOffBench 33 = .ok (.imul, 1) := by decide +kernel
theorem dX7_takesOffBench_34 : decode cX7_takesOffBench 34 = .ok (.iload_n 3, 1) := by decide +kernel
theorem dX7_takesOffBench_35 : decode cX7_takesOffBench 35 = .ok (.iadd, 1) := by decide +kernel
theorem dX7_takesOffBench_36 : decode cX7_takesOffBench 36 = .ok (.iaload, 1) := by decide +kernel
theorem dX7_takesOffBench_37 : decode cX7_takesOffBench 37 = .ok (.iastore, 1) := by decide +kernel
theorem dX7_takesOffBench_38 : decode cX7_takesOffBench 38 = .ok (.iinc 3 1, 3) := by decide +kernel
theorem dX7_takesOffBench_41 : decode cX7_takesOffBench 41 = .ok (.goto (-37), 3) := by decide +kernel
theorem dX7_takesOffBench_44 : decode cX7_takesOffBench 44 = .ok (.aload_n 0, 1) := by decide +kernel
theorem dX7_takesOffBench_45 : decode cX7_takesOffBench 45 = .ok (.getfield 35, 3) := by decide +kernel
theorem dX7_takesOffBench_48 : decode cX7_takesOffBench 48 = .ok (.iload_n 1, 1) := by decide +kernel
theorem dX7_takesOffBench_49 : decode cX7_takesOffBench 49 = .ok (.dup2, 1) := by decide +kernel
theorem dX7_takesOffBench_50 : decode cX7_takesOffBench 50 = .ok (.iaload, 1) := by decide +kernel
theorem dX7_takesOffBench_51 : decode cX7_takesOffBench 51 = .ok (.iconst 1, 1) := by decide +kernel
theorem dX7_takesOffBench_52 : decode cX7_takesOffBench 52 = .ok (.isub, 1) := by decide +kernel
theorem dX7_takesOffBench_53 : decode cX7_takesOffBench 53 = .ok (.iastore, 1) := by decide +kernel
theorem dX7_takesOffBench_54 : decode cX7_takesOffBench 54 = .ok (.return_, 1) := by decide +kernel
theorem dX7_placeOf_0 : decode cX7_placeOf 0 = .ok (.iload_n 3, 1) := by decide +kernel
theorem dX7_placeOf_1 : decode cX7_placeOf 1 = .ok (.istore 4, 2) := by decide +kernel
theorem dX7_placeOf_3 : decode cX7_placeOf 3 = .ok (.iload 4, 2) := by decide +kernel
theorem dX7_placeOf_5 : decode cX7_placeOf 5 = .ok (.aload_n 0, 1) := by decide +kernel
theorem dX7_placeOf_6 : decode cX7_placeOf 6 = .ok (.getfield 41, 3) := by decide +kernel
theorem dX7_placeOf_9 : decode cX7_placeOf 9 = .ok (.iload_n 1, 1) := by decide +kernel
theorem dX7_placeOf_10 : decode cX7_placeOf 10 = .ok (.iaload, 1) := by decide +kernel
theorem dX7_placeOf_11 : decode cX7_placeOf 11 = .ok (.aload_n 0, 1) := by decide +kernel
theorem dX7_placeOf_12 : decode cX7_placeOf 12 = .ok (.getfield 35, 3) := by decide +kernel
theorem dX7_placeOf_15 : decode cX7_placeOf 15 = .ok (.iload_n 1, 1) := by decide +kernel
theorem dX7_placeOf_16 : decode cX7_placeOf 16 = .ok (.iaload, 1) := by decide +kernel
theorem dX7_placeOf_17 : decode cX7_placeOf 17 = .ok (.iadd, 1) := by decide +kernel
theorem dX7_placeOf_18 : decode cX7_placeOf 18 = .ok (.if_icmp .ge 64, 3) := by decide +kernel
theorem dX7_placeOf_21 : decode cX7_placeOf 21 = .ok (.iload 4, 2) := by decide +kernel
theorem dX7_placeOf_23 : decode cX7_placeOf 23 = .ok (.aload_n 0, 1) := by decide +kernel
theorem dX7_placeOf_24 : decode cX7_placeOf 24 = .ok (.getfield 41, 3) := by decide +kernel
theorem dX7_placeOf_27 : decode cX7_placeOf 27 = .ok (.iload_n 1, 1) := by decide +kernel
theorem dX7_placeOf_28 : decode cX7_placeOf 28 = .ok (.iaload, 1) := by decide +kernel
theorem dX7_placeOf_29 : decode cX7_placeOf 29 = .ok (.if_icmp .ge 17, 3) := by decide +kernel
theorem dX7_placeOf_32 : decode cX7_placeOf 32 = .ok (.aload_n 0, 1) := by decide +kernel
theorem dX7_placeOf_33 : decode cX7_placeOf 33 = .ok (.getfield 44, 3) := by decide +kernel
theorem dX7_placeOf_36 : decode cX7_placeOf 36 = .ok (.iconst 5, 1) := by decide +kernel
theorem dX7_placeOf_37 : decode cX7_placeOf 37 = .ok (.iload_n 1, 1) := by decide +kernel
theorem dX7_placeOf_38 : decode cX7_placeOf 38 = .ok (.imul, 1) := by decide +kernel
theorem dX7_placeOf_39 : decode cX7_placeOf 39 = .ok (.iload 4, 2) := by decide +kernel
theorem dX7_placeOf_41 : decode cX7_placeOf 41 = .ok (.iadd, 1) := by decide +kernel
theorem dX7_placeOf_42 : decode cX7_placeOf 42 = .ok (.iaload, 1) := by decide +kernel
theorem dX7_placeOf_43 : decode cX7_placeOf 43 = .ok (.goto 22, 3) := by decide +kernel
theorem dX7_placeOf_46 : decode cX7_placeOf 46 = .ok (.aload_n 0, 1) := by decide +kernel
theorem dX7_placeOf_47 : decode cX7_placeOf 47 = .ok (.getfield 38, 3) := by decide +kernel
theorem dX7_placeOf_50 : decode cX7_placeOf 50 = .ok (.bipush 6, 2) := by decide +kernel
theorem dX7_placeOf_52 : decode cX7_placeOf 52 = .ok (.iload_n 1, 1) := by decide +kernel
theorem dX7_placeOf_53 : decode cX7_placeOf 53 = .ok (.imul, 1) := by decide +kernel
theorem dX7_placeOf_54 : decode cX7_placeOf 54 = .ok (.iload 4, 2) := by decide +kernel
theorem dX7_placeOf_56 : decode cX7_placeOf 56 = .ok (.iadd, 1) := by decide +kernel
theorem dX7_placeOf_57 : decode cX7_placeOf 57 = .ok (.aload_n 0, 1) := by decide +kernel
theorem dX7_placeOf_58 : decode cX7_placeOf 58 = .ok (.getfield 41, 3) := by decide +kernel
theorem dX7_placeOf_61 : decode cX7_placeOf 61 = .ok (.iload_n 1, 1) := by decide +kernel
theorem dX7_placeOf_62 : decode cX7_placeOf 62 = .ok (.iaload, 1) := by decide +kernel
theorem dX7_placeOf_63 : decode cX7_placeOf 63 = .ok (.isub, 1) := by decide +kernel
theorem dX7_placeOf_64 : decode cX7_placeOf 64 = .ok (.iaload, 1) := by decide +kernel
theorem dX7_placeOf_65 : decode cX7_placeOf 65 = .ok (.istore 5, 2) := by decide +kernel
theorem dX7_placeOf_67 : decode cX7_placeOf 67 = .ok (.iload 5, 2) := by decide +kernel
theorem dX7_placeOf_69 : decode cX7_placeOf 69 = .ok (.iload_n 2, 1) := by decide +kernel
theorem dX7_placeOf_70 : decode cX7_placeOf 70 = .ok (.if_icmp .ne 6, 3) := by decide +kernel
theorem dX7_placeOf_73 : decode cX7_placeOf 73 = .ok (.iload 4, 2) := by decide +kernel
theorem dX7_placeOf_75 : decode cX7_placeOf 75 = .ok (.ireturn, 1) := by decide +kernel
theorem dX7_placeOf_76 : decode cX7_placeOf 76 = .ok (.iinc 4 1, 3) := by decide +kernel
theorem dX7_placeOf_79 : decode cX7_placeOf 79 = .ok (.goto (-76), 3) := by decide +kernel
theorem dX7_placeOf_82 : decode cX7_placeOf 82 = .ok (.iconst (-1), 1) := by decide +kernel
theorem dX7_placeOf_83 : decode cX7_placeOf 83 = .ok (.ireturn, 1) := by decide +kernel
theorem dX7_takes_0 : decode cX7_takes 0 = .ok (.iload_n 2, 1) := by decide +kernel
theorem dX7_takes_1 : decode cX7_takes 1 = .ok (.aload_n 0, 1) := by decide +kernel
theorem dX7_takes_2 : decode cX7_takes 2 = .ok (.getfield 41, 3) := by decide +kernel
theorem dX7_takes_5 : decode cX7_takes 5 = .ok (.iload_n 1, 1) := by decide +kernel
theorem dX7_takes_6 : decode cX7_takes 6 = .ok (.iaload, 1) := by decide +kernel
theorem dX7_takes_7 : decode cX7_takes 7 = .ok (.if_icmp .ge 12, 3) := by decide +kernel
theorem dX7_takes_10 : decode cX7_takes 10 = .ok (.aload_n 0, 1) := by decide +kernel
theorem dX7_takes_11 : decode cX7_takes 11 = .ok (.iload_n 1, 1) := by decide +kernel
theorem dX7_takes_12 : decode cX7_takes 12 = .ok (.iload_n 2, 1) := by decide +kernel
theorem dX7_takes_13 : decode cX7_takes 13 = .ok (.invokevirtual 93, 3) := by decide +kernel
theorem dX7_takes_16 : decode cX7_takes 16 = .ok (.goto 16, 3) := by decide +kernel
theorem dX7_takes_19 : decode cX7_takes 19 = .ok (.aload_n 0, 1) := by decide +kernel
theorem dX7_takes_20 : decode cX7_takes 20 = .ok (.iload_n 1, 1) := by decide +kernel
theorem dX7_takes_21 : decode cX7_takes 21 = .ok (.iload_n 2, 1) := by decide +kernel
theorem dX7_takes_22 : decode cX7_takes 22 = .ok (.aload_n 0, 1) := by decide +kernel
theorem dX7_takes_23 : decode cX7_takes 23 = .ok (.getfield 41, 3) := by decide +kernel
theorem dX7_takes_26 : decode cX7_takes 26 = .ok (.iload_n 1, 1) := by decide +kernel
theorem dX7_takes_27 : decode cX7_takes 27 = .ok (.iaload, 1) := by decide +kernel
theorem dX7_takes_28 : decode cX7_takes 28 = .ok (.isub, 1) := by decide +kernel
theorem dX7_takes_29 : decode cX7_takes 29 = .ok (.invokevirtual 96, 3) := by decide +kernel
theorem dX7_takes_32 : decode cX7_takes 32 = .ok (.return_, 1) := by decide +kernel
theorem dX7_merge_0 : decode cX7_merge 0 = .ok (.aload_n 0, 1) := by decide +kernel
theorem dX7_merge_1 : decode cX7_merge 1 = .ok (.iload_n 1, 1) := by decide +kernel
theorem dX7_merge_2 : decode cX7_merge 2 = .ok (.iload_n 2, 1) := by decide +kernel
theorem dX7_merge_3 : decode cX7_merge 3 = .ok (.iconst 0, 1) := by decide +kernel
theorem dX7_merge_4 : decode cX7_merge 4 = .ok (.invokevirtual 99, 3) := by decide +kernel
theorem dX7_merge_7 : decode cX7_merge 7 = .ok (.istore_n 3, 1) := by decide +kernel
theorem dX7_merge_8 : decode cX7_merge 8 = .ok (.aload_n 0, 1) := by decide +kernel
theorem dX7_merge_9 : decode cX7_merge 9 = .ok (.iload_n 1, 1) := by decide +kernel
theorem dX7_merge_10 : decode cX7_merge 10 = .ok (.aload_n 0, 1) := by decide +kernel
theorem dX7_merge_11 : decode cX7_merge 11 = .ok (.iload_n 1, 1) := by decide +kernel
theorem dX7_merge_12 : decode cX7_merge 12 = .ok (.iload_n 2, 1) := by decide +kernel
theorem dX7_merge_13 : decode cX7_merge 13 = .ok (.iload_n 3, 1) := by decide +kernel
theorem dX7_merge_14 : decode cX7_merge 14 = .ok (.iconst 1, 1) := by decide +kernel
theorem dX7_merge_15 : decode cX7_merge 15 = .ok (.iadd, 1) := by decide +kernel
theorem dX7_merge_16 : decode cX7_merge 16 = .ok (.invokevirtual 99, 3) := by decide +kernel
theorem dX7_merge_19 : decode cX7_merge 19 = .ok (.invokevirtual 103, 3) := by decide +kernel
theorem dX7_merge_22 : decode cX7_merge 22 = .ok (.aload_n 0, 1) := by decide +kernel
theorem dX7_merge_23 : decode cX7_merge 23 = .ok (.iload_n 1, 1) := by decide +kernel
theorem dX7_merge_24 : decode cX7_merge 24 = .ok (.aload_n 0, 1) := by decide +kernel
theorem dX7_merge_25 : decode cX7_merge 25 = .ok (.iload_n 1, 1) := by decide +kernel
theorem dX7_merge_26 : decode cX7_merge 26 = .ok (.iload_n 2, 1) := by decide +kernel
theorem dX7_merge_27 : decode cX7_merge 27 = .ok (.iload_n 3, 1) := by decide +kernel
theorem dX7_merge_28 : decode cX7_merge 28 = .ok (.iconst 1, 1) := by decide +kernel
theorem dX7_merge_29 : decode cX7_merge 29 = .ok (.iadd, 1) := by decide +kernel
theorem dX7_merge_30 : decode cX7_merge 30 = .ok (.invokevirtual 99, 3) := by decide +kernel
theorem dX7_merge_33 : decode cX7_merge 33 = .ok (.invokevirtual 103, 3) := by decide +kernel
theorem dX7_merge_36 : decode cX7_merge 36 = .ok (.iload_n 3, 1) := by decide +kernel
theorem dX7_merge_37 : decode cX7_merge 37 = .ok (.aload_n 0, 1) := by decide +kernel
theorem dX7_merge_38 : decode cX7_merge 38 = .ok (.getfield 41, 3) := by decide +kernel
theorem dX7_merge_41 : decode cX7_merge 41 = .ok (.iload_n 1, 1) := by decide +kernel
theorem dX7_merge_42 : decode cX7_merge 42 = .ok (.iaload, 1) := by decide +kernel
theorem dX7_merge_43 : decode cX7_merge 43 = .ok (.if_icmp .ge 19, 3) := by decide +kernel
theorem dX7_merge_46 : decode cX7_merge 46 = .ok (.aload_n 0, 1) := by decide +kernel
theorem dX7_merge_47 : decode cX7_merge 47 = .ok (.getfield 44, 3) := by decide +kernel
theorem dX7_merge_50 : decode cX7_merge 50 = .ok (.iconst 5, 1) := by decide +kernel
theorem dX7_merge_51 : decode cX7_merge 51 = .ok (.iload_n 1, 1) := by decide +kernel
theorem dX7_merge_52 : decode cX7_merge 52 = .ok (.imul, 1) := by decide +kernel
theorem dX7_merge_53 : decode cX7_merge 53 = .ok (.iload_n 3, 1) := by decide +kernel
theorem dX7_merge_54 : decode cX7_merge 54 = .ok (.iadd, 1) := by decide +kernel
theorem dX7_merge_55 : decode cX7_merge 55 = .ok (.iload_n 2, 1) := by decide +kernel
theorem dX7_merge_56 : decode cX7_merge 56 = .ok (.iconst 1, 1) := by decide +kernel
theorem dX7_merge_57 : decode cX7_merge 57 = .ok (.iadd, 1) := by decide +kernel
theorem dX7_merge_58 : decode cX7_merge 58 = .ok (.iastore, 1) := by decide +kernel
theorem dX7_merge_59 : decode cX7_merge 59 = .ok (.goto 24, 3) := by decide +kernel
theorem dX7_merge_62 : decode cX7_merge 62 = .ok (.aload_n 0, 1) := by decide +kernel
theorem dX7_merge_63 : decode cX7_merge 63 = .ok (.getfield 38, 3) := by decide +kernel
theorem dX7_merge_66 : decode cX7_merge 66 = .ok (.bipush 6, 2) := by decide +kernel
theorem dX7_merge_68 : decode cX7_merge 68 = .ok (.iload_n 1, 1) := by decide +kernel
theorem dX7_merge_69 : decode cX7_merge 69 = .ok (.imul, 1) := by decide +kernel
theorem dX7_merge_70 : decode cX7_merge 70 = .ok (.iload_n 3, 1) := by decide +kernel
theorem dX7_merge_71 : decode cX7_merge 71 = .ok (.iadd, 1) := by decide +kernel
theorem dX7_merge_72 : decode cX7_merge 72 = .ok (.aload_n 0, 1) := by decide +kernel
theorem dX7_merge_73 : decode cX7_merge 73 = .ok (.getfield 41, 3) := by decide +kernel
theorem dX7_merge_76 : decode cX7_merge 76 = .ok (.iload_n 1, 1) := by decide +kernel
theorem dX7_merge_77 : decode cX7_merge 77 = .ok (.iaload, 1) := by decide +kernel
theorem dX7_merge_78 : decode cX7_merge 78 = .ok (.isub, 1) := by decide +kernel
theorem dX7_merge_79 : decode cX7_merge 79 = .ok (.iload_n 2, 1) := by decide +kernel
theorem dX7_merge_80 : decode cX7_merge 80 = .ok (.iconst 1, 1) := by decide +kernel
theorem dX7_merge_81 : decode cX7_merge 81 = .ok (.iadd, 1) := by decide +kernel
theorem dX7_merge_82 : decode cX7_merge 82 = .ok (.iastore, 1) := by decide +kernel
theorem dX7_merge_83 : decode cX7_merge 83 = .ok (.return_, 1) := by decide +kernel
theorem dX7_merges_0 : decode cX7_merges 0 = .ok (.iconst 0, 1) := by decide +kernel
theorem dX7_merges_1 : decode cX7_merges 1 = .ok (.istore_n 2, 1) := by decide +kernel
theorem dX7_merges_2 : decode cX7_merges 2 = .ok (.iload_n 2, 1) := by decide +kernel
theorem dX7_merges_3 : decode cX7_merges 3 = .ok (.bipush 18, 2) := by decide +kernel
theorem dX7_merges_5 : decode cX7_merges 5 = .ok (.if_icmp .ge 60, 3) := by decide +kernel
theorem dX7_merges_8 : decode cX7_merges 8 = .ok (.bipush 10, 2) := by decide +kernel
theorem dX7_merges_10 : decode cX7_merges 10 = .ok (.iload_n 2, 1) := by decide +kernel
theorem dX7_merges_11 : decode cX7_merges 11 = .ok (.iconst 2, 1) := by decide +kernel
theorem dX7_merges_12 : decode cX7_merges 12 = .ok (.idiv, 1) := by decide +kernel
theorem dX7_merges_13 : decode cX7_merges 13 = .ok (.imul, 1) := by decide +kernel
theorem dX7_merges_14 : decode cX7_merges 14 = .ok (.iconst 1, 1) := by decide +kernel
theorem dX7_merges_15 : decode cX7_merges 15 = .ok (.iadd, 1) := by decide +kernel
theorem dX7_merges_16 : decode cX7_merges 16 = .ok (.iload_n 2, 1) := by decide +kernel
theorem dX7_merges_17 : decode cX7_merges 17 = .ok (.iconst 2, 1) := by decide +kernel
theorem dX7_merges_18 : decode cX7_merges 18 = .ok (.irem, 1) := by decide +kernel
theorem dX7_merges_19 : decode cX7_merges 19 = .ok (.iadd, 1) := by decide +kernel
theorem dX7_merges_20 : decode cX7_merges 20 = .ok (.istore_n 3, 1) := by decide +kernel
theorem dX7_merges_21 : decode cX7_merges 21 = .ok (.aload_n 0, 1) := by decide +kernel
theorem dX7_merges_22 : decode cX7_merges 22 = .ok (.iload_n 1, 1) := by decide +kernel
theorem dX7_merges_23 : decode cX7_merges 23 = .ok (.iload_n 3, 1) := by decide +kernel
theorem dX7_merges_24 : decode cX7_merges 24 = .ok (.invokevirtual 106, 3) := by decide +kernel
theorem dX7_merges_27 : decode cX7_merges 27 = .ok (.iconst 2, 1) := by decide +kernel
theorem dX7_merges_28 : decode cX7_merges 28 = .ok (.if_icmp .le 7, 3) := by decide +kernel
theorem dX7_merges_31 : decode cX7_merges 31 = .ok (.iconst 1, 1) := by decide +kernel
theorem dX7_merges_32 : decode cX7_merges 32 = .ok (.goto 4, 3) := by decide +kernel
theorem dX7_merges_35 : decode cX7_merges 35 = .ok (.iconst 0, 1) := by decide +kernel
theorem dX7_merges_36 : decode cX7_merges 36 = .ok (.istore 4, 2) := by decide +kernel
theorem dX7_merges_38 : decode cX7_merges 38 = .ok (.iload 4, 2) := by decide +kernel
theorem dX7_merges_40 : decode cX7_merges 40 = .ok (.ifCond .eq 9, 3) := by decide +kernel
theorem dX7_merges_43 : decode cX7_merges 43 = .ok (.aload_n 0, 1) := by decide +kernel
theorem dX7_merges_44 : decode cX7_merges 44 = .ok (.iload_n 1, 1) := by decide +kernel
theorem dX7_merges_45 : decode cX7_merges 45 = .ok (.iload_n 3, 1) := by decide +kernel
theorem dX7_merges_46 : decode cX7_merges 46 = .ok (.invokevirtual 110, 3) := by decide +kernel
theorem dX7_merges_49 : decode cX7_merges 49 = .ok (.iload 4, 2) := by decide +kernel
theorem dX7_merges_51 : decode cX7_merges 51 = .ok (.ifCond .eq 7, 3) := by decide +kernel
theorem dX7_merges_54 : decode cX7_merges 54 = .ok (.iconst 0, 1) := by decide +kernel
theorem dX7_merges_55 : decode cX7_merges 55 = .ok (.goto 6, 3) := by decide +kernel
theorem dX7_merges_58 : decode cX7_merges 58 = .ok (.iload_n 2, 1) := by decide +kernel
theorem dX7_merges_59 : decode cX7_merges 59 = .ok (.iconst 1, 1) := by decide +kernel
theorem dX7_merges_60 : decode cX7_merges 60 = .ok (.iadd, 1) := by decide +kernel
theorem dX7_merges_61 : decode cX7_merges 61 = .ok (.istore_n 2, 1) := by decide +kernel
theorem dX7_merges_62 : decode cX7_merges 62 = .ok (.goto (-60), 3) := by decide +kernel
theorem dX7_merges_65 : decode cX7_merges 65 = .ok (.return_, 1) := by decide +kernel
theorem dX7_errorOfBuy_0 : decode cX7_errorOfBuy 0 = .ok (.iload_n 1, 1) := by decide +kernel
theorem dX7_errorOfBuy_1 : decode cX7_errorOfBuy 1 = .ok (.iload_n 2, 1) := by decide +kernel
theorem dX7_errorOfBuy_2 : decode cX7_errorOfBuy 2 = .ok (.invokestatic 113, 3) := by decide +kernel
theorem dX7_errorOfBuy_5 : decode cX7_errorOfBuy 5 = .ok (.ifCond .ne 5, 3) := by decide +kernel
theorem dX7_errorOfBuy_8 : decode cX7_errorOfBuy 8 = .ok (.iconst 1, 1) := by decide +kernel
theorem dX7_errorOfBuy_9 : decode cX7_errorOfBuy 9 = .ok (.ireturn, 1) := by decide +kernel
theorem dX7_errorOfBuy_10 : decode cX7_errorOfBuy 10 = .ok (.aload_n 0, 1) := by decide +kernel
theorem dX7_errorOfBuy_11 : decode cX7_errorOfBuy 11 = .ok (.getfield 28, 3) := by decide +kernel
theorem dX7_errorOfBuy_14 : decode cX7_errorOfBuy 14 = .ok (.iconst 3, 1) := by decide +kernel
theorem dX7_errorOfBuy_15 : decode cX7_errorOfBuy 15 = .ok (.iload_n 1, 1) := by decide +kernel
theorem dX7_errorOfBuy_16 : decode cX7_errorOfBuy 16 = .ok (.imul, 1) := by decide +kernel
theorem dX7_errorOfBuy_17 : decode cX7_errorOfBuy 17 = .ok (.iload_n 2, 1) := by decide +kernel
theorem dX7_errorOfBuy_18 : decode cX7_errorOfBuy 18 = .ok (.iadd, 1) := by decide +kernel
theorem dX7_errorOfBuy_19 : decode cX7_errorOfBuy 19 = .ok (.iaload, 1) := by decide +kernel
theorem dX7_errorOfBuy_20 : decode cX7_errorOfBuy 20 = .ok (.istore_n 3, 1) := by decide +kernel
theorem dX7_errorOfBuy_21 : decode cX7_errorOfBuy 21 = .ok (.iload_n 3, 1) := by decide +kernel
theorem dX7_errorOfBuy_22 : decode cX7_errorOfBuy 22 = .ok (.iconst (-1), 1) := by decide +kernel
theorem dX7_errorOfBuy_23 : decode cX7_errorOfBuy 23 = .ok (.if_icmp .ne 7, 3) := by decide +kernel
theorem dX7_errorOfBuy_26 : decode cX7_errorOfBuy 26 = .ok (.iconst 2, 1) := by decide +kernel
theorem dX7_errorOfBuy_27 : decode cX7_errorOfBuy 27 = .ok (.goto 32, 3) := by decide +kernel
theorem dX7_errorOfBuy_30 : decode cX7_errorOfBuy 30 = .ok (.aload_n 0, 1) := by decide +kernel
theorem dX7_errorOfBuy_31 : decode cX7_errorOfBuy 31 = .ok (.getfield 16, 3) := by decide +kernel
theorem dX7_errorOfBuy_34 : decode cX7_errorOfBuy 34 = .ok (.iload_n 1, 1) := by decide +kernel
theorem dX7_errorOfBuy_35 : decode cX7_errorOfBuy 35 = .ok (.iaload, 1) := by decide +kernel
theorem dX7_errorOfBuy_36 : decode cX7_errorOfBuy 36 = .ok (.iload_n 3, 1) := by decide +kernel
theorem dX7_errorOfBuy_37 : decode cX7_errorOfBuy 37 = .ok (.invokestatic 81, 3) := by decide +kernel
theorem dX7_errorOfBuy_40 : decode cX7_errorOfBuy 40 = .ok (.if_icmp .lt 14, 3) := by decide +kernel
theorem dX7_errorOfBuy_43 : decode cX7_errorOfBuy 43 = .ok (.aload_n 0, 1) := by decide +kernel
theorem dX7_errorOfBuy_44 : decode cX7_errorOfBuy 44 = .ok (.getfield 35, 3) := by decide +kernel
theorem dX7_errorOfBuy_47 : decode cX7_errorOfBuy 47 = .ok (.iload_n 1, 1) := by decide +kernel
theorem dX7_errorOfBuy_48 : decode cX7_errorOfBuy 48 = .ok (.iaload, 1) := by decide +kernel
theorem dX7_errorOfBuy_49 : decode cX7_errorOfBuy 49 = .ok (.bipush 6, 2) := by decide +kernel
theorem dX7_errorOfBuy_51 : decode cX7_errorOfBuy 51 = .ok (.if_icmp .ne 7, 3) := by decide +kernel
theorem dX7_errorOfBuy_54 : decode cX7_errorOfBuy 54 = .ok (.iconst 3, 1) := by decide +kernel
theorem dX7_errorOfBuy_55 : decode cX7_errorOfBuy 55 = .ok (.goto 4, 3) := by decide +kernel
theorem dX7_errorOfBuy_58 : decode cX7_errorOfBuy 58 = .ok (.iconst 0, 1) := by decide +kernel
theorem dX7_errorOfBuy_59 : decode cX7_errorOfBuy 59 = .ok (.ireturn, 1) := by decide +kernel
theorem dX7_buy_0 : decode cX7_buy 0 = .ok (.aload_n 0, 1) := by decide +kernel
theorem dX7_buy_1 : decode cX7_buy 1 = .ok (.aload_n 0, 1) := by decide +kernel
theorem dX7_buy_2 : decode cX7_buy 2 = .ok (.iload_n 1, 1) := by decide +kernel
theorem dX7_buy_3 : decode cX7_buy 3 = .ok (.iload_n 2, 1) := by decide +kernel
theorem dX7_buy_4 : decode cX7_buy 4 = .ok (.invokevirtual 117, 3) := by decide +kernel
theorem dX7_buy_7 : decode cX7_buy 7 = .ok (.invokevirtual 71, 3) := by decide +kernel
theorem dX7_buy_10 : decode cX7_buy 10 = .ok (.ifCond .ne 5, 3) := by decide +kernel
theorem dX7_buy_13 : decode cX7_buy 13 = .ok (.iconst 0, 1) := by decide +kernel
theorem dX7_buy_14 : decode cX7_buy 14 = .ok (.ireturn, 1) := by decide +kernel
theorem dX7_buy_15 : decode cX7_buy 15 = .ok (.aload_n 0, 1) := by decide +kernel
theorem dX7_buy_16 : decode cX7_buy 16 = .ok (.getfield 28, 3) := by decide +kernel
theorem dX7_buy_19 : decode cX7_buy 19 = .ok (.iconst 3, 1) := by decide +kernel
theorem dX7_buy_20 : decode cX7_buy 20 = .ok (.iload_n 1, 1) := by decide +kernel
theorem dX7_buy_21 : decode cX7_buy 21 = .ok (.imul, 1) := by decide +kernel
theorem dX7_buy_22 : decode cX7_buy 22 = .ok (.iload_n 2, 1) := by decide +kernel
theorem dX7_buy_23 : decode cX7_buy 23 = .ok (.iadd, 1) := by decide +kernel
theorem dX7_buy_24 : decode cX7_buy 24 = .ok (.iaload, 1) := by decide +kernel
theorem dX7_buy_25 : decode cX7_buy 25 = .ok (.istore_n 3, 1) := by decide +kernel
theorem dX7_buy_26 : decode cX7_buy 26 = .ok (.aload_n 0, 1) := by decide +kernel
theorem dX7_buy_27 : decode cX7_buy 27 = .ok (.getfield 28, 3) := by decide +kernel
theorem dX7_buy_30 : decode cX7_buy 30 = .ok (.iconst 3, 1) := by decide +kernel
theorem dX7_buy_31 : decode cX7_buy 31 = .ok (.iload_n 1, 1) := by decide +kernel
theorem dX7_buy_32 : decode cX7_buy 32 = .ok (.imul, 1) := by decide +kernel
theorem dX7_buy_33 : decode cX7_buy 33 = .ok (.iload_n 2, 1) := by decide +kernel
theorem dX7_buy_34 : decode cX7_buy 34 = .ok (.iadd, 1) := by decide +kernel
theorem dX7_buy_35 : decode cX7_buy 35 = .ok (.iconst (-1), 1) := by decide +kernel
theorem dX7_buy_36 : decode cX7_buy 36 = .ok (.iastore, 1) := by decide +kernel
theorem dX7_buy_37 : decode cX7_buy 37 = .ok (.aload_n 0, 1) := by decide +kernel
theorem dX7_buy_38 : decode cX7_buy 38 = .ok (.getfield 16, 3) := by decide +kernel
theorem dX7_buy_41 : decode cX7_buy 41 = .ok (.iload_n 1, 1) := by decide +kernel
theorem dX7_buy_42 : decode cX7_buy 42 = .ok (.dup2, 1) := by decide +kernel
theorem dX7_buy_43 : decode cX7_buy 43 = .ok (.iaload, 1) := by decide +kernel
theorem dX7_buy_44 : decode cX7_buy 44 = .ok (.iload_n 3, 1) := by decide +kernel
theorem dX7_buy_45 : decode cX7_buy 45 = .ok (.invokestatic 81, 3) := by decide +kernel
theorem dX7_buy_48 : decode cX7_buy 48 = .ok (.isub, 1) := by decide +kernel
theorem dX7_buy_49 : decode cX7_buy 49 = .ok (.iastore, 1) := by decide +kernel
theorem dX7_buy_50 : decode cX7_buy 50 = .ok (.aload_n 0, 1) := by decide +kernel
theorem dX7_buy_51 : decode cX7_buy 51 = .ok (.getfield 38, 3) := by decide +kernel
theorem dX7_buy_54 : decode cX7_buy 54 = .ok (.bipush 6, 2) := by decide +kernel
theorem dX7_buy_56 : decode cX7_buy 56 = .ok (.iload_n 1, 1) := by decide +kernel
theorem dX7_buy_57 : decode cX7_buy 57 = .ok (.imul, 1) := by decide +kernel
theorem dX7_buy_58 : decode cX7_buy 58 = .ok (.aload_n 0, 1) := by decide +kernel
theorem dX7_buy_59 : decode cX7_buy 59 = .ok (.getfield 35, 3) := by decide +kernel
theorem dX7_buy_62 : decode cX7_buy 62 = .ok (.iload_n 1, 1) := by decide +kernel
theorem dX7_buy_63 : decode cX7_buy 63 = .ok (.iaload, 1) := by decide +kernel
theorem dX7_buy_64 : decode cX7_buy 64 = .ok (.iadd, 1) := by decide +kernel
theorem dX7_buy_65 : decode cX7_buy 65 = .ok (.bipush 10, 2) := by decide +kernel
theorem dX7_buy_67 : decode cX7_buy 67 = .ok (.iload_n 3, 1) := by decide +kernel
theorem dX7_buy_68 : decode cX7_buy 68 = .ok (.imul, 1) := by decide +kernel
theorem dX7_buy_69 : decode cX7_buy 69 = .ok (.iconst 1, 1) := by decide +kernel
theorem dX7_buy_70 : decode cX7_buy 70 = .ok (.iadd, 1) := by decide +kernel
theorem dX7_buy_71 : decode cX7_buy 71 = .ok (.iastore, 1) := by decide +kernel
theorem dX7_buy_72 : decode cX7_buy 72 = .ok (.aload_n 0, 1) := by decide +kernel
theorem dX7_buy_73 : decode cX7_buy 73 = .ok (.getfield 35, 3) := by decide +kernel
theorem dX7_buy_76 : decode cX7_buy 76 = .ok (.iload_n 1, 1) := by decide +kernel
theorem dX7_buy_77 : decode cX7_buy 77 = .ok (.dup2, 1) := by decide +kernel
theorem dX7_buy_78 : decode cX7_buy 78 = .ok (.iaload, 1) := by decide +kernel
theorem dX7_buy_79 : decode cX7_buy 79 = .ok (.iconst 1, 1) := by decide +kernel
theorem dX7_buy_80 : decode cX7_buy 80 = .ok (.iadd, 1) := by decide +kernel
theorem dX7_buy_81 : decode cX7_buy 81 = .ok (.iastore, 1) := by decide +kernel
theorem dX7_buy_82 : decode cX7_buy 82 = .ok (.aload_n 0, 1) := by decide +kernel
theorem dX7_buy_83 : decode cX7_buy 83 = .ok (.iload_n 1, 1) := by decide +kernel
theorem dX7_buy_84 : decode cX7_buy 84 = .ok (.invokevirtual 120, 3) := by decide +kernel
theorem dX7_buy_87 : decode cX7_buy 87 = .ok (.aload_n 0, 1) := by decide +kernel
theorem dX7_buy_88 : decode cX7_buy 88 = .ok (.getfield 16, 3) := by decide +kernel
theorem dX7_buy_91 : decode cX7_buy 91 = .ok (.iload_n 1, 1) := by decide +kernel
theorem dX7_buy_92 : decode cX7_buy 92 = .ok (.iaload, 1) := by decide +kernel
theorem dX7_buy_93 : decode cX7_buy 93 = .ok (.ireturn, 1) := by decide +kernel
theorem dX7_isOnBench_0 : decode cX7_isOnBench 0 = .ok (.iload_n 1, 1) := by decide +kernel
theorem dX7_isOnBench_1 : decode cX7_isOnBench 1 = .ok (.invokestatic 64, 3) := by decide +kernel
theorem dX7_isOnBench_4 : decode cX7_isOnBench 4 = .ok (.ifCond .eq 23, 3) := by decide +kernel
theorem dX7_isOnBench_7 : decode cX7_isOnBench 7 = .ok (.iload_n 2, 1) := by decide +kernel
theorem dX7_isOnBench_8 : decode cX7_isOnBench 8 = .ok (.iconst 0, 1) := by decide +kernel
theorem dX7_isOnBench_9 : decode cX7_isOnBench 9 = .ok (.aload_n 0, 1) := by decide +kernel
theorem dX7_isOnBench_10 : decode cX7_isOnBench 10 = .ok (.getfield 35, 3) := by decide +kernel
theorem dX7_isOnBench_13 : decode cX7_isOnBench 13 = .ok (.iload_n 1, 1) := by decide +kernel
theorem dX7_isOnBench_14 : decode cX7_isOnBench 14 = .ok (.iaload, 1) := by decide +kernel
theorem dX7_isOnBench_15 : decode cX7_isOnBench 15 = .ok (.iconst 1, 1) := by decide +kernel
theorem dX7_isOnBench_16 : decode cX7_isOnBench 16 = .ok (.isub, 1) := by decide +kernel
theorem dX7_isOnBench_17 : decode cX7_isOnBench 17 = .ok (.invokestatic 60, 3) := by decide +kernel
theorem dX7_isOnBench_20 : decode cX7_isOnBench 20 = .ok (.ifCond .eq 7, 3) := by decide +kernel
theorem dX7_isOnBench_23 : decode cX7_isOnBench 23 = .ok (.iconst 1, 1) := by decide +kernel
theorem dX7_isOnBench_24 : decode cX7_isOnBench 24 = .ok (.goto 4, 3) := by decide +kernel
theorem dX7_isOnBench_27 : decode cX7_isOnBench 27 = .ok (.iconst 0, 1) := by decide +kernel
theorem dX7_isOnBench_28 : decode cX7_isOnBench 28 = .ok (.ireturn, 1) := by decide +kernel
theorem dX7_isOnBoard_0 : decode cX7_isOnBoard 0 = .ok (.iload_n 1, 1) := by decide +kernel
theorem dX7_isOnBoard_1 : decode cX7_isOnBoard 1 = .ok (.invokestatic 64, 3) := by decide +kernel
theorem dX7_isOnBoard_4 : decode cX7_isOnBoard 4 = .ok (.ifCond .eq 23, 3) := by decide +kernel
theorem dX7_isOnBoard_7 : decode cX7_isOnBoard 7 = .ok (.iload_n 2, 1) := by decide +kernel
theorem dX7_isOnBoard_8 : decode cX7_isOnBoard 8 = .ok (.iconst 0, 1) := by decide +kernel
theorem dX7_isOnBoard_9 : decode cX7_isOnBoard 9 = .ok (.aload_n 0, 1) := by decide +kernel
theorem dX7_isOnBoard_10 : decode cX7_isOnBoard 10 = .ok (.getfield 41, 3) := by decide +kernel
theorem dX7_isOnBoard_13 : decode cX7_isOnBoard 13 = .ok (.iload_n 1, 1) := by decide +kernel
theorem dX7_isOnBoard_14 : decode cX7_isOnBoard 14 = .ok (.iaload, 1) := by decide +kernel
theorem dX7_isOnBoard_15 : decode cX7_isOnBoard 15 = .ok (.iconst 1, 1) := by decide +kernel
theorem dX7_isOnBoard_16 : decode cX7_isOnBoard 16 = .ok (.isub, 1) := by decide +kernel
theorem dX7_isOnBoard_17 : decode cX7_isOnBoard 17 = .ok (.invokestatic 60, 3) := by decide +kernel
theorem dX7_isOnBoard_20 : decode cX7_isOnBoard 20 = .ok (.ifCond .eq 7, 3) := by decide +kernel
theorem dX7_isOnBoard_23 : decode cX7_isOnBoard 23 = .ok (.iconst 1, 1) := by decide +kernel
theorem dX7_isOnBoard_24 : decode cX7_isOnBoard 24 = .ok (.goto 4, 3) := by decide +kernel
theorem dX7_isOnBoard_27 : decode cX7_isOnBoard 27 = .ok (.iconst 0, 1) := by decide +kernel
theorem dX7_isOnBoard_28 : decode cX7_isOnBoard 28 = .ok (.ireturn, 1) := by decide +kernel
theorem dX7_sell_0 : decode cX7_sell 0 = .ok (.aload_n 0, 1) := by decide +kernel
theorem dX7_sell_1 : decode cX7_sell 1 = .ok (.aload_n 0, 1) := by decide +kernel
theorem dX7_sell_2 : decode cX7_sell 2 = .ok (.iload_n 1, 1) := by decide +kernel
theorem dX7_sell_3 : decode cX7_sell 3 = .ok (.iload_n 2, 1) := by decide +kernel
theorem dX7_sell_4 : decode cX7_sell 4 = .ok (.invokevirtual 123, 3) := by decide +kernel
theorem dX7_sell_7 : decode cX7_sell 7 = .ok (.ifCond .eq 7, 3) := by decide +kernel
theorem dX7_sell_10 : decode cX7_sell 10 = .ok (.iconst 0, 1) := by decide +kernel
theorem dX7_sell_11 : decode cX7_sell 11 = .ok (.goto 4, 3) := by decide +kernel
theorem dX7_sell_14 : decode cX7_sell 14 = .ok (.iconst 1, 1) := by decide +kernel
theorem dX7_sell_15 : decode cX7_sell 15 = .ok (.invokevirtual 71, 3) := by decide +kernel
theorem dX7_sell_18 : decode cX7_sell 18 = .ok (.ifCond .ne 5, 3) := by decide +kernel
theorem dX7_sell_21 : decode cX7_sell 21 = .ok (.iconst 0, 1) := by decide +kernel
theorem dX7_sell_22 : decode cX7_sell 22 = .ok (.ireturn, 1) := by decide +kernel
theorem dX7_sell_23 : decode cX7_sell 23 = .ok (.aload_n 0, 1) := by decide +kernel
theorem dX7_sell_24 : decode cX7_sell 24 = .ok (.getfield 38, 3) := by decide +kernel
theorem dX7_sell_27 : decode cX7_sell 27 = .ok (.bipush 6, 2) := by decide +kernel
theorem dX7_sell_29 : decode cX7_sell 29 = .ok (.iload_n 1, 1) := by decide +kernel
theorem dX7_sell_30 : decode cX7_sell 30 = .ok (.imul, 1) := by decide +kernel
theorem dX7_sell_31 : decode cX7_sell 31 = .ok (.iload_n 2, 1) := by decide +kernel
theorem dX7_sell_32 : decode cX7_sell 32 = .ok (.iadd, 1) := by decide +kernel
theorem dX7_sell_33 : decode cX7_sell 33 = .ok (.iaload, 1) := by decide +kernel
theorem dX7_sell_34 : decode cX7_sell 34 = .ok (.istore_n 3, 1) := by decide +kernel
theorem dX7_sell_35 : decode cX7_sell 35 = .ok (.iload_n 3, 1) := by decide +kernel
theorem dX7_sell_36 : decode cX7_sell 36 = .ok (.bipush 10, 2) := by decide +kernel
theorem dX7_sell_38 : decode cX7_sell 38 = .ok (.irem, 1) := by decide +kernel
theorem dX7_sell_39 : decode cX7_sell 39 = .ok (.invokestatic 126, 3) := by decide +kernel
theorem dX7_sell_42 : decode cX7_sell 42 = .ok (.istore 4, 2) := by decide +kernel
theorem dX7_sell_44 : decode cX7_sell 44 = .ok (.aload_n 0, 1) := by decide +kernel
theorem dX7_sell_45 : decode cX7_sell 45 = .ok (.iload_n 1, 1) := by decide +kernel
theorem dX7_sell_46 : decode cX7_sell 46 = .ok (.iload_n 2, 1) := by decide +kernel
theorem dX7_sell_47 : decode cX7_sell 47 = .ok (.invokevirtual 96, 3) := by decide +kernel
theorem dX7_sell_50 : decode cX7_sell 50 = .ok (.aload_n 0, 1) := by decide +kernel
theorem dX7_sell_51 : decode cX7_sell 51 = .ok (.getfield 13, 3) := by decide +kernel
theorem dX7_sell_54 : decode cX7_sell 54 = .ok (.iload_n 3, 1) := by decide +kernel
theorem dX7_sell_55 : decode cX7_sell 55 = .ok (.bipush 10, 2) := by decide +kernel
theorem dX7_sell_57 : decode cX7_sell 57 = .ok (.idiv, 1) := by decide +kernel
theorem dX7_sell_58 : decode cX7_sell 58 = .ok (.dup2, 1) := by decide +kernel
theorem dX7_sell_59 : decode cX7_sell 59 = .ok (.iaload, 1) := by decide +kernel
theorem dX7_sell_60 : decode cX7_sell 60 = .ok (.iload 4, 2) := by decide +kernel
theorem dX7_sell_62 : decode cX7_sell 62 = .ok (.iadd, 1) := by decide +kernel
theorem dX7_sell_63 : decode cX7_sell 63 = .ok (.iastore, 1) := by decide +kernel
theorem dX7_sell_64 : decode cX7_sell 64 = .ok (.aload_n 0, 1) := by decide +kernel
theorem dX7_sell_65 : decode cX7_sell 65 = .ok (.getfield 16, 3) := by decide +kernel
theorem dX7_sell_68 : decode cX7_sell 68 = .ok (.iload_n 1, 1) := by decide +kernel
theorem dX7_sell_69 : decode cX7_sell 69 = .ok (.aload_n 0, 1) := by decide +kernel
theorem dX7_sell_70 : decode cX7_sell 70 = .ok (.getfield 16, 3) := by decide +kernel
theorem dX7_sell_73 : decode cX7_sell 73 = .ok (.iload_n 1, 1) := by decide +kernel
theorem dX7_sell_74 : decode cX7_sell 74 = .ok (.iaload, 1) := by decide +kernel
theorem dX7_sell_75 : decode cX7_sell 75 = .ok (.iload_n 3, 1) := by decide +kernel
theorem dX7_sell_76 : decode cX7_sell 76 = .ok (.bipush 10, 2) := by decide +kernel
theorem dX7_sell_78 : decode cX7_sell 78 = .ok (.idiv, 1) := by decide +kernel
theorem dX7_sell_79 : decode cX7_sell 79 = .ok (.invokestatic 81, 3) := by decide +kernel
theorem dX7_sell_82 : decode cX7_sell 82 = .ok (.iload 4, 2) := by decide +kernel
theorem dX7_sell_84 : decode cX7_sell 84 = .ok (.imul, 1) := by decide +kernel
theorem dX7_sell_85 : decode cX7_sell 85 = .ok (.iadd, 1) := by decide +kernel
theorem dX7_sell_86 : decode cX7_sell 86 = .ok (.bipush 100, 2) := by decide +kernel
theorem dX7_sell_88 : decode cX7_sell 88 = .ok (.invokestatic 129, 3) := by decide +kernel
theorem dX7_sell_91 : decode cX7_sell 91 = .ok (.iastore, 1) := by decide +kernel
theorem dX7_sell_92 : decode cX7_sell 92 = .ok (.aload_n 0, 1) := by decide +kernel
theorem dX7_sell_93 : decode cX7_sell 93 = .ok (.getfield 16, 3) := by decide +kernel
theorem dX7_sell_96 : decode cX7_sell 96 = .ok (.iload_n 1, 1) := by decide +kernel
theorem dX7_sell_97 : decode cX7_sell 97 = .ok (.iaload, 1) := by decide +kernel
theorem dX7_sell_98 : decode cX7_sell 98 = .ok (.ireturn, 1) := by decide +kernel
theorem dX7_toBoard_0 : decode cX7_toBoard 0 = .ok (.aload_n 0, 1) := by decide +kernel
theorem dX7_toBoard_1 : decode cX7_toBoard 1 = .ok (.iload_n 1, 1) := by decide +kernel
theorem dX7_toBoard_2 : decode cX7_toBoard 2 = .ok (.iload_n 2, 1) := by decide +kernel
theorem dX7_toBoard_3 : decode cX7_toBoard 3 = .ok (.invokevirtual 123, 3) := by decide +kernel
theorem dX7_toBoard_6 : decode cX7_toBoard 6 = .ok (.istore_n 3, 1) := by decide +kernel
theorem dX7_toBoard_7 : decode cX7_toBoard 7 = .ok (.aload_n 0, 1) := by decide +kernel
theorem dX7_toBoard_8 : decode cX7_toBoard 8 = .ok (.iload_n 3, 1) := by decide +kernel
theorem dX7_toBoard_9 : decode cX7_toBoard 9 = .ok (.ifCond .ne 7, 3) := by decide +kernel
theorem dX7_toBoard_12 : decode cX7_toBoard 12 = .ok (.iconst 1, 1) := by decide +kernel
theorem dX7_toBoard_13 : decode cX7_toBoard 13 = .ok (.goto 23, 3) := by decide +kernel
theorem dX7_toBoard_16 : decode cX7_toBoard 16 = .ok (.aload_n 0, 1) := by decide +kernel
theorem dX7_toBoard_17 : decode cX7_toBoard 17 = .ok (.getfield 41, 3) := by decide +kernel
theorem dX7_toBoard_20 : decode cX7_toBoard 20 = .ok (.iload_n 1, 1) := by decide +kernel
theorem dX7_toBoard_21 : decode cX7_toBoard 21 = .ok (.iaload, 1) := by decide +kernel
theorem dX7_toBoard_22 : decode cX7_toBoard 22 = .ok (.aload_n 0, 1) := by decide +kernel
theorem dX7_toBoard_23 : decode cX7_toBoard 23 = .ok (.getfield 19, 3) := by decide +kernel
theorem dX7_toBoard_26 : decode cX7_toBoard 26 = .ok (.iload_n 1, 1) := by decide +kernel
theorem dX7_toBoard_27 : decode cX7_toBoard 27 = .ok (.iaload, 1) := by decide +kernel
theorem dX7_toBoard_28 : decode cX7_toBoard 28 = .ok (.if_icmp .ne 7, 3) := by decide +kernel
theorem dX7_toBoard_31 : decode cX7_toBoard 31 = .ok (.iconst 2, 1) := by decide +kernel
theorem dX7_toBoard_32 : decode cX7_toBoard 32 = .ok (.goto 4, 3) := by decide +kernel
theorem dX7_toBoard_35 : decode cX7_toBoard 35 = .ok (.iconst 0, 1) := by decide +kernel
theorem dX7_toBoard_36 : decode cX7_toBoard 36 = .ok (.invokevirtual 71, 3) := by decide +kernel
theorem dX7_toBoard_39 : decode cX7_toBoard 39 = .ok (.ifCond .ne 5, 3) := by decide +kernel
theorem dX7_toBoard_42 : decode cX7_toBoard 42 = .ok (.iconst 0, 1) := by decide +kernel
theorem dX7_toBoard_43 : decode cX7_toBoard 43 = .ok (.ireturn, 1) := by decide +kernel
theorem dX7_toBoard_44 : decode cX7_toBoard 44 = .ok (.aload_n 0, 1) := by decide +kernel
theorem dX7_toBoard_45 : decode cX7_toBoard 45 = .ok (.getfield 38, 3) := by decide +kernel
theorem dX7_toBoard_48 : decode cX7_toBoard 48 = .ok (.bipush 6, 2) := by decide +kernel
theorem dX7_toBoard_50 : decode cX7_toBoard 50 = .ok (.iload_n 1, 1) := by decide +kernel
theorem dX7_toBoard_51 : decode cX7_toBoard 51 = .ok (.imul, 1) := by decide +kernel
theorem dX7_toBoard_52 : decode cX7_toBoard 52 = .ok (.iload_n 2, 1) := by decide +kernel
theorem dX7_toBoard_53 : decode cX7_toBoard 53 = .ok (.iadd, 1) := by decide +kernel
theorem dX7_toBoard_54 : decode cX7_toBoard 54 = .ok (.iaload, 1) := by decide +kernel
theorem dX7_toBoard_55 : decode cX7_toBoard 55 = .ok (.istore 4, 2) := by decide +kernel
theorem dX7_toBoard_57 : decode cX7_toBoard 57 = .ok (.aload_n 0, 1) := by decide +kernel
theorem dX7_toBoard_58 : decode cX7_toBoard 58 = .ok (.iload_n 1, 1) := by decide +kernel
theorem dX7_toBoard_59 : decode cX7_toBoard 59 = .ok (.iload_n 2, 1) := by decide +kernel
theorem dX7_toBoard_60 : decode cX7_toBoard 60 = .ok (.invokevirtual 96, 3) := by decide +kernel
theorem dX7_toBoard_63 : decode cX7_toBoard 63 = .ok (.aload_n 0, 1) := by decide +kernel
theorem dX7_toBoard_64 : decode cX7_toBoard 64 = .ok (.getfield 44, 3) := by decide +kernel
theorem dX7_toBoard_67 : decode cX7_toBoard 67 = .ok (.iconst 5, 1) := by decide +kernel
theorem dX7_toBoard_68 : decode cX7_toBoard 68 = .ok (.iload_n 1, 1) := by decide +kernel
theorem dX7_toBoard_69 : decode cX7_toBoard 69 = .ok (.imul, 1) := by decide +kernel
theorem dX7_toBoard_70 : decode cX7_toBoard 70 = .ok (.aload_n 0, 1) := by decide +kernel
theorem dX7_toBoard_71 : decode cX7_toBoard 71 = .ok (.getfield 41, 3) := by decide +kernel
theorem dX7_toBoard_74 : decode cX7_toBoard 74 = .ok (.iload_n 1, 1) := by decide +kernel
theorem dX7_toBoard_75 : decode cX7_toBoard 75 = .ok (.iaload, 1) := by decide +kernel
theorem dX7_toBoard_76 : decode cX7_toBoard 76 = .ok (.iadd, 1) := by decide +kernel
theorem dX7_toBoard_77 : decode cX7_toBoard 77 = .ok (.iload 4, 2) := by decide +kernel
theorem dX7_toBoard_79 : decode cX7_toBoard 79 = .ok (.iastore, 1) := by decide +kernel
theorem dX7_toBoard_80 : decode cX7_toBoard 80 = .ok (.aload_n 0, 1) := by decide +kernel
theorem dX7_toBoard_81 : decode cX7_toBoard 81 = .ok (.getfield 41, 3) := by decide +kernel
theorem dX7_toBoard_84 : decode cX7_toBoard 84 = .ok (.iload_n 1, 1) := by decide +kernel
theorem dX7_toBoard_85 : decode cX7_toBoard 85 = .ok (.dup2, 1) := by decide +kernel
theorem dX7_toBoard_86 : decode cX7_toBoard 86 = .ok (.iaload, 1) := by decide +kernel
theorem dX7_toBoard_87 : decode cX7_toBoard 87 = .ok (.iconst 1, 1) := by decide +kernel
theorem dX7_toBoard_88 : decode cX7_toBoard 88 = .ok (.iadd, 1) := by decide +kernel
theorem dX7_toBoard_89 : decode cX7_toBoard 89 = .ok (.iastore, 1) := by decide +kernel
theorem dX7_toBoard_90 : decode cX7_toBoard 90 = .ok (.aload_n 0, 1) := by decide +kernel
theorem dX7_toBoard_91 : decode cX7_toBoard 91 = .ok (.getfield 41, 3) := by decide +kernel
theorem dX7_toBoard_94 : decode cX7_toBoard 94 = .ok (.iload_n 1, 1) := by decide +kernel
theorem dX7_toBoard_95 : decode cX7_toBoard 95 = .ok (.iaload, 1) := by decide +kernel
theorem dX7_toBoard_96 : decode cX7_toBoard 96 = .ok (.ireturn, 1) := by decide +kernel
theorem dX7_toBench_0 : decode cX7_toBench 0 = .ok (.aload_n 0, 1) := by decide +kernel
theorem dX7_toBench_1 : decode cX7_toBench 1 = .ok (.iload_n 1, 1) := by decide +kernel
theorem dX7_toBench_2 : decode cX7_toBench 2 = .ok (.iload_n 2, 1) := by decide +kernel
theorem dX7_toBench_3 : decode cX7_toBench 3 = .ok (.invokevirtual 132, 3) := by decide +kernel
theorem dX7_toBench_6 : decode cX7_toBench 6 = .ok (.istore_n 3, 1) := by decide +kernel
theorem dX7_toBench_7 : decode cX7_toBench 7 = .ok (.aload_n 0, 1) := by decide +kernel
theorem dX7_toBench_8 : decode cX7_toBench 8 = .ok (.iload_n 3, 1) := by decide +kernel
theorem dX7_toBench_9 : decode cX7_toBench 9 = .ok (.ifCond .ne 7, 3) := by decide +kernel
theorem dX7_toBench_12 : decode cX7_toBench 12 = .ok (.iconst 1, 1) := by decide +kernel
theorem dX7_toBench_13 : decode cX7_toBench 13 = .ok (.goto 19, 3) := by decide +kernel
theorem dX7_toBench_16 : decode cX7_toBench 16 = .ok (.aload_n 0, 1) := by decide +kernel
theorem dX7_toBench_17 : decode cX7_toBench 17 = .ok (.getfield 35, 3) := by decide +kernel
theorem dX7_toBench_20 : decode cX7_toBench 20 = .ok (.iload_n 1, 1) := by decide +kernel
theorem dX7_toBench_21 : decode cX7_toBench 21 = .ok (.iaload, 1) := by decide +kernel
theorem dX7_toBench_22 : decode cX7_toBench 22 = .ok (.bipush 6, 2) := by decide +kernel
theorem dX7_toBench_24 : decode cX7_toBench 24 = .ok (.if_icmp .ne 7, 3) := by decide +kernel
theorem dX7_toBench_27 : decode cX7_toBench 27 = .ok (.iconst 2, 1) := by decide +kernel
theorem dX7_toBench_28 : decode cX7_toBench 28 = .ok (.goto 4, 3) := by decide +kernel
theorem dX7_toBench_31 : decode cX7_toBench 31 = .ok (.iconst 0, 1) := by decide +kernel
theorem dX7_toBench_32 : decode cX7_toBench 32 = .ok (.invokevirtual 71, 3) := by decide +kernel
theorem dX7_toBench_35 : decode cX7_toBench 35 = .ok (.ifCond .ne 5, 3) := by decide +kernel
theorem dX7_toBench_38 : decode cX7_toBench 38 = .ok (.iconst 0, 1) := by decide +kernel
theorem dX7_toBench_39 : decode cX7_toBench 39 = .ok (.ireturn, 1) := by decide +kernel
theorem dX7_toBench_40 : decode cX7_toBench 40 = .ok (.aload_n 0, 1) := by decide +kernel
theorem dX7_toBench_41 : decode cX7_toBench 41 = .ok (.getfield 44, 3) := by decide +kernel
theorem dX7_toBench_44 : decode cX7_toBench 44 = .ok (.iconst 5, 1) := by decide +kernel
theorem dX7_toBench_45 : decode cX7_toBench 45 = .ok (.iload_n 1, 1) := by decide +kernel
theorem dX7_toBench_46 : decode cX7_toBench 46 = .ok (.imul, 1) := by decide +kernel
theorem dX7_toBench_47 : decode cX7_toBench 47 = .ok (.iload_n 2, 1) := by decide +kernel
theorem dX7_toBench_48 : decode cX7_toBench 48 = .ok (.iadd, 1) := by decide +kernel
theorem dX7_toBench_49 : decode cX7_toBench 49 = .ok (.iaload, 1) := by decide +kernel
theorem dX7_toBench_50 : decode cX7_toBench 50 = .ok (.istore 4, 2) := by decide +kernel
theorem dX7_toBench_52 : decode cX7_toBench 52 = .ok (.aload_n 0, 1) := by decide +kernel
theorem dX7_toBench_53 : decode cX7_toBench 53 = .ok (.iload_n 1, 1) := by decide +kernel
theorem dX7_toBench_54 : decode cX7_toBench 54 = .ok (.iload_n 2, 1) := by decide +kernel
theorem dX7_toBench_55 : decode cX7_toBench 55 = .ok (.invokevirtual 93, 3) := by decide +kernel
theorem dX7_toBench_58 : decode cX7_toBench 58 = .ok (.aload_n 0, 1) := by decide +kernel
theorem dX7_toBench_59 : decode cX7_toBench 59 = .ok (.getfield 38, 3) := by decide +kernel
theorem dX7_toBench_62 : decode cX7_toBench 62 = .ok (.bipush 6, 2) := by decide +kernel
theorem dX7_toBench_64 : decode cX7_toBench 64 = .ok (.iload_n 1, 1) := by decide +kernel
theorem dX7_toBench_65 : decode cX7_toBench 65 = .ok (.imul, 1) := by decide +kernel
theorem dX7_toBench_66 : decode cX7_toBench 66 = .ok (.aload_n 0, 1) := by decide +kernel
theorem dX7_toBench_67 : decode cX7_toBench 67 = .ok (.getfield 35, 3) := by decide +kernel
theorem dX7_toBench_70 : decode cX7_toBench 70 = .ok (.iload_n 1, 1) := by decide +kernel
theorem dX7_toBench_71 : decode cX7_toBench 71 = .ok (.iaload, 1) := by decide +kernel
theorem dX7_toBench_72 : decode cX7_toBench 72 = .ok (.iadd, 1) := by decide +kernel
theorem dX7_toBench_73 : decode cX7_toBench 73 = .ok (.iload 4, 2) := by decide +kernel
theorem dX7_toBench_75 : decode cX7_toBench 75 = .ok (.iastore, 1) := by decide +kernel
theorem dX7_toBench_76 : decode cX7_toBench 76 = .ok (.aload_n 0, 1) := by decide +kernel
theorem dX7_toBench_77 : decode cX7_toBench 77 = .ok (.getfield 35, 3) := by decide +kernel
theorem dX7_toBench_80 : decode cX7_toBench 80 = .ok (.iload_n 1, 1) := by decide +kernel
theorem dX7_toBench_81 : decode cX7_toBench 81 = .ok (.dup2, 1) := by decide +kernel
theorem dX7_toBench_82 : decode cX7_toBench 82 = .ok (.iaload, 1) := by decide +kernel
theorem dX7_toBench_83 : decode cX7_toBench 83 = .ok (.iconst 1, 1) := by decide +kernel
theorem dX7_toBench_84 : decode cX7_toBench 84 = .ok (.iadd, 1) := by decide +kernel
theorem dX7_toBench_85 : decode cX7_toBench 85 = .ok (.iastore, 1) := by decide +kernel
theorem dX7_toBench_86 : decode cX7_toBench 86 = .ok (.aload_n 0, 1) := by decide +kernel
theorem dX7_toBench_87 : decode cX7_toBench 87 = .ok (.iload_n 1, 1) := by decide +kernel
theorem dX7_toBench_88 : decode cX7_toBench 88 = .ok (.invokevirtual 120, 3) := by decide +kernel
theorem dX7_toBench_91 : decode cX7_toBench 91 = .ok (.aload_n 0, 1) := by decide +kernel
theorem dX7_toBench_92 : decode cX7_toBench 92 = .ok (.getfield 35, 3) := by decide +kernel
theorem dX7_toBench_95 : decode cX7_toBench 95 = .ok (.iload_n 1, 1) := by decide +kernel
theorem dX7_toBench_96 : decode cX7_toBench 96 = .ok (.iaload, 1) := by decide +kernel
theorem dX7_toBench_97 : decode cX7_toBench 97 = .ok (.ireturn, 1) := by decide +kernel
theorem dX7_blowOf_0 : decode cX7_blowOf 0 = .ok (.aload_n 0, 1) := by decide +kernel
theorem dX7_blowOf_1 : decode cX7_blowOf 1 = .ok (.getfield 44, 3) := by decide +kernel
theorem dX7_blowOf_4 : decode cX7_blowOf 4 = .ok (.iconst 5, 1) := by decide +kernel
theorem dX7_blowOf_5 : decode cX7_blowOf 5 = .ok (.iload_n 1, 1) := by decide +kernel
theorem dX7_blowOf_6 : decode cX7_blowOf 6 = .ok (.imul, 1) := by decide +kernel
theorem dX7_blowOf_7 : decode cX7_blowOf 7 = .ok (.iload_n 2, 1) := by decide +kernel
theorem dX7_blowOf_8 : decode cX7_blowOf 8 = .ok (.iadd, 1) := by decide +kernel
theorem dX7_blowOf_9 : decode cX7_blowOf 9 = .ok (.iaload, 1) := by decide +kernel
theorem dX7_blowOf_10 : decode cX7_blowOf 10 = .ok (.istore_n 3, 1) := by decide +kernel
theorem dX7_blowOf_11 : decode cX7_blowOf 11 = .ok (.iconst 0, 1) := by decide +kernel
theorem dX7_blowOf_12 : decode cX7_blowOf 12 = .ok (.istore 4, 2) := by decide +kernel
theorem dX7_blowOf_14 : decode cX7_blowOf 14 = .ok (.iload_n 3, 1) := by decide +kernel
theorem dX7_blowOf_15 : decode cX7_blowOf 15 = .ok (.bipush 10, 2) := by decide +kernel
theorem dX7_blowOf_17 : decode cX7_blowOf 17 = .ok (.idiv, 1) := by decide +kernel
theorem dX7_blowOf_18 : decode cX7_blowOf 18 = .ok (.iconst 3, 1) := by decide +kernel
theorem dX7_blowOf_19 : decode cX7_blowOf 19 = .ok (.irem, 1) := by decide +kernel
theorem dX7_blowOf_20 : decode cX7_blowOf 20 = .ok (.istore 5, 2) := by decide +kernel
theorem dX7_blowOf_22 : decode cX7_blowOf 22 = .ok (.iload 5, 2) := by decide +kernel
theorem dX7_blowOf_24 : decode cX7_blowOf 24 = .ok (.bipush 9, 2) := by decide +kernel
theorem dX7_blowOf_26 : decode cX7_blowOf 26 = .ok (.if_icmp .ge 87, 3) := by decide +kernel
theorem dX7_blowOf_29 : decode cX7_blowOf 29 = .ok (.iconst 0, 1) := by decide +kernel
theorem dX7_blowOf_30 : decode cX7_blowOf 30 = .ok (.istore 6, 2) := by decide +kernel
theorem dX7_blowOf_32 : decode cX7_blowOf 32 = .ok (.iconst 0, 1) := by decide +kernel
theorem dX7_blowOf_33 : decode cX7_blowOf 33 = .ok (.istore 7, 2) := by decide +kernel
theorem dX7_blowOf_35 : decode cX7_blowOf 35 = .ok (.iload 7, 2) := by decide +kernel
theorem dX7_blowOf_37 : decode cX7_blowOf 37 = .ok (.aload_n 0, 1) := by decide +kernel
theorem dX7_blowOf_38 : decode cX7_blowOf 38 = .ok (.getfield 41, 3) := by decide +kernel
theorem dX7_blowOf_41 : decode cX7_blowOf 41 = .ok (.iload_n 1, 1) := by decide +kernel
theorem dX7_blowOf_42 : decode cX7_blowOf 42 = .ok (.iaload, 1) := by decide +kernel
theorem dX7_blowOf_43 : decode cX7_blowOf 43 = .ok (.if_icmp .ge 40, 3) := by decide +kernel
theorem dX7_blowOf_46 : decode cX7_blowOf 46 = .ok (.iload 6, 2) := by decide +kernel
theorem dX7_blowOf_48 : decode cX7_blowOf 48 = .ok (.ifCond .ne 22, 3) := by decide +kernel
theorem dX7_blowOf_51 : decode cX7_blowOf 51 = .ok (.aload_n 0, 1) := by decide +kernel
theorem dX7_blowOf_52 : decode cX7_blowOf 52 = .ok (.getfield 44, 3) := by decide +kernel
theorem dX7_blowOf_55 : decode cX7_blowOf 55 = .ok (.iconst 5, 1) := by decide +kernel
theorem dX7_blowOf_56 : decode cX7_blowOf 56 = .ok (.iload_n 1, 1) := by decide +kernel
theorem dX7_blowOf_57 : decode cX7_blowOf 57 = .ok (.imul, 1) := by decide +kernel
theorem dX7_blowOf_58 : decode cX7_blowOf 58 = .ok (.iload 7, 2) := by decide +kernel
theorem dX7_blowOf_60 : decode cX7_blowOf 60 = .ok (.iadd, 1) := by decide +kernel
theorem dX7_blowOf_61 : decode cX7_blowOf 61 = .ok (.iaload, 1) := by decide +kernel
theorem dX7_blowOf_62 : decode cX7_blowOf 62 = .ok (.bipush 10, 2) := by decide +kernel
theorem dX7_blowOf_64 : decode cX7_blowOf 64 = .ok (.idiv, 1) := by decide +kernel
theorem dX7_blowOf_65 : decode cX7_blowOf 65 = .ok (.iload 5, 2) := by decide +kernel
theorem dX7_blowOf_67 : decode cX7_blowOf 67 = .ok (.if_icmp .ne 7, 3) := by decide +kernel
theorem dX7_blowOf_70 : decode cX7_blowOf 70 = .ok (.iconst 1, 1) := by decide +kernel
theorem dX7_blowOf_71 : decode cX7_blowOf 71 = .ok (.goto 4, 3) := by decide +kernel
theorem dX7_blowOf_74 : decode cX7_blowOf 74 = .ok (.iconst 0, 1) := by decide +kernel
theorem dX7_blowOf_75 : decode cX7_blowOf 75 = .ok (.istore 6, 2) := by decide +kernel
theorem dX7_blowOf_77 : decode cX7_blowOf 77 = .ok (.iinc 7 1, 3) := by decide +kernel
theorem dX7_blowOf_80 : decode cX7_blowOf 80 = .ok (.goto (-45), 3) := by decide +kernel
theorem dX7_blowOf_83 : decode cX7_blowOf 83 = .ok (.iload 4, 2) := by decide +kernel
theorem dX7_blowOf_85 : decode cX7_blowOf 85 = .ok (.iload 6, 2) := by decide +kernel
theorem dX7_blowOf_87 : decode cX7_blowOf 87 = .ok (.ifCond .eq 16, 3) := by decide +kernel
theorem dX7_blowOf_90 : decode cX7_blowOf 90 = .ok (.iload 5, 2) := by decide +kernel
theorem dX7_blowOf_92 : decode cX7_blowOf 92 = .ok (.iload_n 3, 1) := by decide +kernel
theorem dX7_blowOf_93 : decode cX7_blowOf 93 = .ok (.bipush 10, 2) := by decide +kernel
theorem dX7_blowOf_95 : decode cX7_blowOf 95 = .ok (.idiv, 1) := by decide +kernel
theorem dX7_blowOf_96 : decode cX7_blowOf 96 = .ok (.if_icmp .eq 7, 3) := by decide +kernel
theorem dX7_blowOf_99 : decode cX7_blowOf 99 = .ok (.iconst 1, 1) := by decide +kernel
theorem dX7_blowOf_100 : decode cX7_blowOf 100 = .ok (.goto 4, 3) := by decide +kernel
theorem dX7_blowOf_103 : decode cX7_blowOf 103 = .ok (.iconst 0, 1) := by decide +kernel
theorem dX7_blowOf_104 : decode cX7_blowOf 104 = .ok (.iadd, 1) := by decide +kernel
theorem dX7_blowOf_105 : decode cX7_blowOf 105 = .ok (.istore 4, 2) := by decide +kernel
theorem dX7_blowOf_107 : decode cX7_blowOf 107 = .ok (.iinc 5 3, 3) := by decide +kernel
theorem dX7_blowOf_110 : decode cX7_blowOf 110 = .ok (.goto (-88), 3) := by decide +kernel
theorem dX7_blowOf_113 : decode cX7_blowOf 113 = .ok (.iconst 2, 1) := by decide +kernel
theorem dX7_blowOf_114 : decode cX7_blowOf 114 = .ok (.iload_n 3, 1) := by decide +kernel
theorem dX7_blowOf_115 : decode cX7_blowOf 115 = .ok (.bipush 10, 2) := by decide +kernel
theorem dX7_blowOf_117 : decode cX7_blowOf 117 = .ok (.idiv, 1) := by decide +kernel
theorem dX7_blowOf_118 : decode cX7_blowOf 118 = .ok (.invokestatic 81, 3) := by decide +kernel
theorem dX7_blowOf_121 : decode cX7_blowOf 121 = .ok (.imul, 1) := by decide +kernel
theorem dX7_blowOf_122 : decode cX7_blowOf 122 = .ok (.iload_n 3, 1) := by decide +kernel
theorem dX7_blowOf_123 : decode cX7_blowOf 123 = .ok (.bipush 10, 2) := by decide +kernel
theorem dX7_blowOf_125 : decode cX7_blowOf 125 = .ok (.irem, 1) := by decide +kernel
theorem dX7_blowOf_126 : decode cX7_blowOf 126 = .ok (.imul, 1) := by decide +kernel
theorem dX7_blowOf_127 : decode cX7_blowOf 127 = .ok (.iload 4, 2) := by decide +kernel
theorem dX7_blowOf_129 : decode cX7_blowOf 129 = .ok (.iadd, 1) := by decide +kernel
theorem dX7_blowOf_130 : decode cX7_blowOf 130 = .ok (.ireturn, 1) := by decide +kernel
theorem dX7_stands_0 : decode cX7_stands 0 = .ok (.aload_n 0, 1) := by decide +kernel
theorem dX7_stands_1 : decode cX7_stands 1 = .ok (.getfield 47, 3) := by decide +kernel
theorem dX7_stands_4 : decode cX7_stands 4 = .ok (.iload_n 1, 1) := by decide +kernel
theorem dX7_stands_5 : decode cX7_stands 5 = .ok (.aload_n 0, 1) := by decide +kernel
theorem dX7_stands_6 : decode cX7_stands 6 = .ok (.getfield 41, 3) := by decide +kernel
theorem dX7_stands_9 : decode cX7_stands 9 = .ok (.iload_n 2, 1) := by decide +kernel
theorem dX7_stands_10 : decode cX7_stands 10 = .ok (.iaload, 1) := by decide +kernel
theorem dX7_stands_11 : decode cX7_stands 11 = .ok (.iastore, 1) := by decide +kernel
theorem dX7_stands_12 : decode cX7_stands 12 = .ok (.aload_n 0, 1) := by decide +kernel
theorem dX7_stands_13 : decode cX7_stands 13 = .ok (.getfield 50, 3) := by decide +kernel
theorem dX7_stands_16 : decode cX7_stands 16 = .ok (.iload_n 1, 1) := by decide +kernel
theorem dX7_stands_17 : decode cX7_stands 17 = .ok (.iconst 0, 1) := by decide +kernel
theorem dX7_stands_18 : decode cX7_stands 18 = .ok (.iastore, 1) := by decide +kernel
theorem dX7_stands_19 : decode cX7_stands 19 = .ok (.iconst 0, 1) := by decide +kernel
theorem dX7_stands_20 : decode cX7_stands 20 = .ok (.istore_n 3, 1) := by decide +kernel
theorem dX7_stands_21 : decode cX7_stands 21 = .ok (.iload_n 3, 1) := by decide +kernel
theorem dX7_stands_22 : decode cX7_stands 22 = .ok (.aload_n 0, 1) := by decide +kernel
theorem dX7_stands_23 : decode cX7_stands 23 = .ok (.getfield 41, 3) := by decide +kernel
theorem dX7_stands_26 : decode cX7_stands 26 = .ok (.iload_n 2, 1) := by decide +kernel
theorem dX7_stands_27 : decode cX7_stands 27 = .ok (.iaload, 1) := by decide +kernel
theorem dX7_stands_28 : decode cX7_stands 28 = .ok (.if_icmp .ge 48, 3) := by decide +kernel
theorem dX7_stands_31 : decode cX7_stands 31 = .ok (.aload_n 0, 1) := by decide +kernel
theorem dX7_stands_32 : decode cX7_stands 32 = .ok (.getfield 44, 3) := by decide +kernel
theorem dX7_stands_35 : decode cX7_stands 35 = .ok (.iconst 5, 1) := by decide +kernel
theorem dX7_stands_36 : decode cX7_stands 36 = .ok (.iload_n 2, 1) := by decide +kernel
theorem dX7_stands_37 : decode cX7_stands 37 = .ok (.imul, 1) := by decide +kernel
theorem dX7_stands_38 : decode cX7_stands 38 = .ok (.iload_n 3, 1) := by decide +kernel
theorem dX7_stands_39 : decode cX7_stands 39 = .ok (.iadd, 1) := by decide +kernel
theorem dX7_stands_40 : decode cX7_stands 40 = .ok (.iaload, 1) := by decide +kernel
theorem dX7_stands_41 : decode cX7_stands 41 = .ok (.istore 4, 2) := by decide +kernel
theorem dX7_stands_43 : decode cX7_stands 43 = .ok (.aload_n 0, 1) := by decide +kernel
theorem dX7_stands_44 : decode cX7_stands 44 = .ok (.getfield 53, 3) := by decide +kernel
theorem dX7_stands_47 : decode cX7_stands 47 = .ok (.iconst 5, 1) := by decide +kernel
theorem dX7_stands_48 : decode cX7_stands 48 = .ok (.iload_n 1, 1) := by decide +kernel
theorem dX7_stands_49 : decode cX7_stands 49 = .ok (.imul, 1) := by decide +kernel
theorem dX7_stands_50 : decode cX7_stands 50 = .ok (.iload_n 3, 1) := by decide +kernel
theorem dX7_stands_51 : decode cX7_stands 51 = .ok (.iadd, 1) := by decide +kernel
theorem dX7_stands_52 : decode cX7_stands 52 = .ok (.bipush 6, 2) := by decide +kernel
theorem dX7_stands_54 : decode cX7_stands 54 = .ok (.iload 4, 2) := by decide +kernel
theorem dX7_stands_56 : decode cX7_stands 56 = .ok (.bipush 10, 2) := by decide +kernel
theorem dX7_stands_58 : decode cX7_stands 58 = .ok (.idiv, 1) := by decide +kernel
theorem dX7_stands_59 : decode cX7_stands 59 = .ok (.invokestatic 81, 3) := by decide +kernel
theorem dX7_stands_62 : decode cX7_stands 62 = .ok (.imul, 1) := by decide +kernel
theorem dX7_stands_63 : decode cX7_stands 63 = .ok (.iload 4, 2) := by decide +kernel
theorem dX7_stands_65 : decode cX7_stands 65 = .ok (.bipush 10, 2) := by decide +kernel
theorem dX7_stands_67 : decode cX7_stands 67 = .ok (.irem, 1) := by decide +kernel
theorem dX7_stands_68 : decode cX7_stands 68 = .ok (.imul, 1) := by decide +kernel
theorem dX7_stands_69 : decode cX7_stands 69 = .ok (.iastore, 1) := by decide +kernel
theorem dX7_stands_70 : decode cX7_stands 70 = .ok (.iinc 3 1, 3) := by decide +kernel
theorem dX7_stands_73 : decode cX7_stands 73 = .ok (.goto (-52), 3) := by decide +kernel
theorem dX7_stands_76 : decode cX7_stands 76 = .ok (.return_, 1) := by decide +kernel
theorem dX7_living_0 : decode cX7_living 0 = .ok (.iconst 0, 1) := by decide +kernel
theorem dX7_living_1 : decode cX7_living 1 = .ok (.istore_n 2, 1) := by decide +kernel
theorem dX7_living_2 : decode cX7_living 2 = .ok (.iconst 0, 1) := by decide +kernel
theorem dX7_living_3 : decode cX7_living 3 = .ok (.istore_n 3, 1) := by decide +kernel
theorem dX7_living_4 : decode cX7_living 4 = .ok (.iload_n 3, 1) := by decide +kernel
theorem dX7_living_5 : decode cX7_living 5 = .ok (.aload_n 0, 1) := by decide +kernel
theorem dX7_living_6 : decode cX7_living 6 = .ok (.getfield 47, 3) := by decide +kernel
theorem dX7_living_9 : decode cX7_living 9 = .ok (.iload_n 1, 1) := by decide +kernel
theorem dX7_living_10 : decode cX7_living 10 = .ok (.iaload, 1) := by decide +kernel
theorem dX7_living_11 : decode cX7_living 11 = .ok (.if_icmp .ge 30, 3) := by decide +kernel
theorem dX7_living_14 : decode cX7_living 14 = .ok (.iload_n 2, 1) := by decide +kernel
theorem dX7_living_15 : decode cX7_living 15 = .ok (.aload_n 0, 1) := by decide +kernel
theorem dX7_living_16 : decode cX7_living 16 = .ok (.getfield 53, 3) := by decide +kernel
theorem dX7_living_19 : decode cX7_living 19 = .ok (.iconst 5, 1) := by decide +kernel
theorem dX7_living_20 : decode cX7_living 20 = .ok (.iload_n 1, 1) := by decide +kernel
theorem dX7_living_21 : decode cX7_living 21 = .ok (.imul, 1) := by decide +kernel
theorem dX7_living_22 : decode cX7_living 22 = .ok (.iload_n 3, 1) := by decide +kernel
theorem dX7_living_23 : decode cX7_living 23 = .ok (.iadd, 1) := by decide +kernel
theorem dX7_living_24 : decode cX7_living 24 = .ok (.iaload, 1) := by decide +kernel
theorem dX7_living_25 : decode cX7_living 25 = .ok (.ifCond .le 7, 3) := by decide +kernel
theorem dX7_living_28 : decode cX7_living 28 = .ok (.iconst 1, 1) := by decide +kernel
theorem dX7_living_29 : decode cX7_living 29 = .ok (.goto 4, 3) := by decide +kernel
theorem dX7_living_32 : decode cX7_living 32 = .ok (.iconst 0, 1) := by decide +kernel
theorem dX7_living_33 : decode cX7_living 33 = .ok (.iadd, 1) := by decide +kernel
theorem dX7_living_34 : decode cX7_living 34 = .ok (.istore_n 2, 1) := by decide +kernel
theorem dX7_living_35 : decode cX7_living 35 = .ok (.iinc 3 1, 3) := by decide +kernel
theorem dX7_living_38 : decode cX7_living 38 = .ok (.goto (-34), 3) := by decide +kernel
theorem dX7_living_41 : decode cX7_living 41 = .ok (.iload_n 2, 1) := by decide +kernel
theorem dX7_living_42 : decode cX7_living 42 = .ok (.ireturn, 1) := by decide +kernel
theorem dX7_blows_0 : decode cX7_blows 0 = .ok (.aload_n 0, 1) := by decide +kernel
theorem dX7_blows_1 : decode cX7_blows 1 = .ok (.getfield 53, 3) := by decide +kernel
theorem dX7_blows_4 : decode cX7_blows 4 = .ok (.iconst 5, 1) := by decide +kernel
theorem dX7_blows_5 : decode cX7_blows 5 = .ok (.iload_n 1, 1) := by decide +kernel
theorem dX7_blows_6 : decode cX7_blows 6 = .ok (.imul, 1) := by decide +kernel
theorem dX7_blows_7 : decode cX7_blows 7 = .ok (.aload_n 0, 1) := by decide +kernel
theorem dX7_blows_8 : decode cX7_blows 8 = .ok (.getfield 50, 3) := by decide +kernel
theorem dX7_blows_11 : decode cX7_blows 11 = .ok (.iload_n 1, 1) := by decide +kernel
theorem dX7_blows_12 : decode cX7_blows 12 = .ok (.iaload, 1) := by decide +kernel
theorem dX7_blows_13 : decode cX7_blows 13 = .ok (.iadd, 1) := by decide +kernel
theorem dX7_blows_14 : decode cX7_blows 14 = .ok (.iaload, 1) := by decide +kernel
theorem dX7_blows_15 : decode cX7_blows 15 = .ok (.ifCond .gt 27, 3) := by decide +kernel
theorem dX7_blows_18 : decode cX7_blows 18 = .ok (.aload_n 0, 1) := by decide +kernel
theorem dX7_blows_19 : decode cX7_blows 19 = .ok (.getfield 50, 3) := by decide +kernel
theorem dX7_blows_22 : decode cX7_blows 22 = .ok (.iload_n 1, 1) := by decide +kernel
theorem dX7_blows_23 : decode cX7_blows 23 = .ok (.aload_n 0, 1) := by decide +kernel
theorem dX7_blows_24 : decode cX7_blows 24 = .ok (.getfield 50, 3) := by decide +kernel
theorem dX7_blows_27 : decode cX7_blows 27 = .ok (.iload_n 1, 1) := by decide +kernel
theorem dX7_blows_28 : decode cX7_blows 28 = .ok (.iaload, 1) := by decide +kernel
theorem dX7_blows_29 : decode cX7_blows 29 = .ok (.iconst 1, 1) := by decide +kernel
theorem dX7_blows_30 : decode cX7_blows 30 = .ok (.iadd, 1) := by decide +kernel
theorem dX7_blows_31 : decode cX7_blows 31 = .ok (.aload_n 0, 1) := by decide +kernel
theorem dX7_blows_32 : decode cX7_blows 32 = .ok (.getfield 47, 3) := by decide +kernel
theorem dX7_blows_35 : decode cX7_blows 35 = .ok (.iload_n 1, 1) := by decide +kernel
theorem dX7_blows_36 : decode cX7_blows 36 = .ok (.iaload, 1) := by decide +kernel
theorem dX7_blows_37 : decode cX7_blows 37 = .ok (.irem, 1) := by decide +kernel
theorem dX7_blows_38 : decode cX7_blows 38 = .ok (.iastore, 1) := by decide +kernel
theorem dX7_blows_39 : decode cX7_blows 39 = .ok (.goto (-39), 3) := by decide +kernel
theorem dX7_blows_42 : decode cX7_blows 42 = .ok (.iconst 0, 1) := by decide +kernel
theorem dX7_blows_43 : decode cX7_blows 43 = .ok (.istore_n 3, 1) := by decide +kernel
theorem dX7_blows_44 : decode cX7_blows 44 = .ok (.aload_n 0, 1) := by decide +kernel
theorem dX7_blows_45 : decode cX7_blows 45 = .ok (.getfield 53, 3) := by decide +kernel
theorem dX7_blows_48 : decode cX7_blows 48 = .ok (.iconst 5, 1) := by decide +kernel
theorem dX7_blows_49 : decode cX7_blows 49 = .ok (.iconst 1, 1) := by decide +kernel
theorem dX7_blows_50 : decode cX7_blows 50 = .ok (.iload_n 1, 1) := by decide +kernel
theorem dX7_blows_51 : decode cX7_blows 51 = .ok (.isub, 1) := by decide +kernel
theorem dX7_blows_52 : decode cX7_blows 52 = .ok (.imul, 1) := by decide +kernel
theorem dX7_blows_53 : decode cX7_blows 53 = .ok (.iload_n 3, 1) := by decide +kernel
theorem dX7_blows_54 : decode cX7_blows 54 = .ok (.iadd, 1) := by decide +kernel
theorem dX7_blows_55 : decode cX7_blows 55 = .ok (.iaload, 1) := by decide +kernel
theorem dX7_blows_56 : decode cX7_blows 56 = .ok (.ifCond .gt 9, 3) := by decide +kernel
theorem dX7_blows_59 : decode cX7_blows 59 = .ok (.iinc 3 1, 3) := by decide +kernel
theorem dX7_blows_62 : decode cX7_blows 62 = .ok (.goto (-18), 3) := by decide +kernel
theorem dX7_blows_65 : decode cX7_blows 65 = .ok (.aload_n 0, 1) := by decide +kernel
theorem dX7_blows_66 : decode cX7_blows 66 = .ok (.getfield 53, 3) := by decide +kernel
theorem dX7_blows_69 : decode cX7_blows 69 = .ok (.iconst 5, 1) := by decide +kernel
theorem dX7_blows_70 : decode cX7_blows 70 = .ok (.iconst 1, 1) := by decide +kernel
theorem dX7_blows_71 : decode cX7_blows 71 = .ok (.iload_n 1, 1) := by decide +kernel
theorem dX7_blows_72 : decode cX7_blows 72 = .ok (.isub, 1) := by decide +kernel
theorem dX7_blows_73 : decode cX7_blows 73 = .ok (.imul, 1) := by decide +kernel
theorem dX7_blows_74 : decode cX7_blows 74 = .ok (.iload_n 3, 1) := by decide +kernel
theorem dX7_blows_75 : decode cX7_blows 75 = .ok (.iadd, 1) := by decide +kernel
theorem dX7_blows_76 : decode cX7_blows 76 = .ok (.dup2, 1) := by decide +kernel
theorem dX7_blows_77 : decode cX7_blows 77 = .ok (.iaload, 1) := by decide +kernel
theorem dX7_blows_78 : decode cX7_blows 78 = .ok (.aload_n 0, 1) := by decide +kernel
theorem dX7_blows_79 : decode cX7_blows 79 = .ok (.iload_n 2, 1) := by decide +kernel
theorem dX7_blows_80 : decode cX7_blows 80 = .ok (.aload_n 0, 1) := by decide +kernel
theorem dX7_blows_81 : decode cX7_blows 81 = .ok (.getfield 50, 3) := by decide +kernel
theorem dX7_blows_84 : decode cX7_blows 84 = .ok (.iload_n 1, 1) := by decide +kernel
theorem dX7_blows_85 : decode cX7_blows 85 = .ok (.iaload, 1) := by decide +kernel
theorem dX7_blows_86 : decode cX7_blows 86 = .ok (.invokevirtual 135, 3) := by decide +kernel
theorem dX7_blows_89 : decode cX7_blows 89 = .ok (.isub, 1) := by decide +kernel
theorem dX7_blows_90 : decode cX7_blows 90 = .ok (.iastore, 1) := by decide +kernel
theorem dX7_blows_91 : decode cX7_blows 91 = .ok (.aload_n 0, 1) := by decide +kernel
theorem dX7_blows_92 : decode cX7_blows 92 = .ok (.getfield 50, 3) := by decide +kernel
theorem dX7_blows_95 : decode cX7_blows 95 = .ok (.iload_n 1, 1) := by decide +kernel
theorem dX7_blows_96 : decode cX7_blows 96 = .ok (.aload_n 0, 1) := by decide +kernel
theorem dX7_blows_97 : decode cX7_blows 97 = .ok (.getfield 50, 3) := by decide +kernel
theorem dX7_blows_100 : decode cX7_blows 100 = .ok (.iload_n 1, 1) := by decide +kernel
theorem dX7_blows_101 : decode cX7_blows 101 = .ok (.iaload, 1) := by decide +kernel
theorem dX7_blows_102 : decode cX7_blows 102 = .ok (.iconst 1, 1) := by decide +kernel
theorem dX7_blows_103 : decode cX7_blows 103 = .ok (.iadd, 1) := by decide +kernel
theorem dX7_blows_104 : decode cX7_blows 104 = .ok (.aload_n 0, 1) := by decide +kernel
theorem dX7_blows_105 : decode cX7_blows 105 = .ok (.getfield 47, 3) := by decide +kernel
theorem dX7_blows_108 : decode cX7_blows 108 = .ok (.iload_n 1, 1) := by decide +kernel
theorem dX7_blows_109 : decode cX7_blows 109 = .ok (.iaload, 1) := by decide +kernel
theorem dX7_blows_110 : decode cX7_blows 110 = .ok (.irem, 1) := by decide +kernel
theorem dX7_blows_111 : decode cX7_blows 111 = .ok (.iastore, 1) := by decide +kernel
theorem dX7_blows_112 : decode cX7_blows 112 = .ok (.return_, 1) := by decide +kernel
theorem dX7_fought_0 : decode cX7_fought 0 = .ok (.aload_n 0, 1) := by decide +kernel
theorem dX7_fought_1 : decode cX7_fought 1 = .ok (.iconst 0, 1) := by decide +kernel
theorem dX7_fought_2 : decode cX7_fought 2 = .ok (.iload_n 1, 1) := by decide +kernel
theorem dX7_fought_3 : decode cX7_fought 3 = .ok (.invokevirtual 138, 3) := by decide +kernel
theorem dX7_fought_6 : decode cX7_fought 6 = .ok (.aload_n 0, 1) := by decide +kernel
theorem dX7_fought_7 : decode cX7_fought 7 = .ok (.iconst 1, 1) := by decide +kernel
theorem dX7_fought_8 : decode cX7_fought 8 = .ok (.iload_n 2, 1) := by decide +kernel
theorem dX7_fought_9 : decode cX7_fought 9 = .ok (.invokevirtual 138, 3) := by decide +kernel
theorem dX7_fought_12 : decode cX7_fought 12 = .ok (.iconst 0, 1) := by decide +kernel
theorem dX7_fought_13 : decode cX7_fought 13 = .ok (.istore_n 3, 1) := by decide +kernel
theorem dX7_fought_14 : decode cX7_fought 14 = .ok (.iload_n 3, 1) := by decide +kernel
theorem dX7_fought_15 : decode cX7_fought 15 = .ok (.bipush 60, 2) := by decide +kernel
theorem dX7_fought_17 : decode cX7_fought 17 = .ok (.if_icmp .ge 43, 3) := by decide +kernel
theorem dX7_fought_20 : decode cX7_fought 20 = .ok (.aload_n 0, 1) := by decide +kernel
theorem dX7_fought_21 : decode cX7_fought 21 = .ok (.iconst 0, 1) := by decide +kernel
theorem dX7_fought_22 : decode cX7_fought 22 = .ok (.invokevirtual 141, 3) := by decide +kernel
theorem dX7_fought_25 : decode cX7_fought 25 = .ok (.ifCond .le 35, 3) := by decide +kernel
theorem dX7_fought_28 : decode cX7_fought 28 = .ok (.aload_n 0, 1) := by decide +kernel
theorem dX7_fought_29 : decode cX7_fought 29 = .ok (.iconst 1, 1) := by decide +kernel
theorem dX7_fought_30 : decode cX7_fought 30 = .ok (.invokevirtual 141, 3) := by decide +kernel
theorem dX7_fought_33 : decode cX7_fought 33 = .ok (.ifCond .le 27, 3) := by decide +kernel
theorem dX7_fought_36 : decode cX7_fought 36 = .ok (.aload_n 0, 1) := by decide +kernel
theorem dX7_fought_37 : decode cX7_fought 37 = .ok (.iload_n 3, 1) := by decide +kernel
theorem dX7_fought_38 : decode cX7_fought 38 = .ok (.iconst 2, 1) := by decide +kernel
theorem dX7_fought_39 : decode cX7_fought 39 = .ok (.irem, 1) := by decide +kernel
theorem dX7_fought_40 : decode cX7_fought 40 = .ok (.iload_n 3, 1) := by decide +kernel
theorem dX7_fought_41 : decode cX7_fought 41 = .ok (.iconst 2, 1) := by decide +kernel
theorem dX7_fought_42 : decode cX7_fought 42 = .ok (.irem, 1) := by decide +kernel
theorem dX7_fought_43 : decode cX7_fought 43 = .ok (.ifCond .ne 7, 3) := by decide +kernel
theorem dX7_fought_46 : decode cX7_fought 46 = .ok (.iload_n 1, 1) := by decide +kernel
theorem dX7_fought_47 : decode cX7_fought 47 = .ok (.goto 4, 3) := by decide +kernel
theorem dX7_fought_50 : decode cX7_fought 50 = .ok (.iload_n 2, 1) := by decide +kernel
theorem dX7_fought_51 : decode cX7_fought 51 = .ok (.invokevirtual 144, 3) := by decide +kernel
theorem dX7_fought_54 : decode cX7_fought 54 = .ok (.iinc 3 1, 3) := by decide +kernel
theorem dX7_fought_57 : decode cX7_fought 57 = .ok (.goto (-43), 3) := by decide +kernel
theorem dX7_fought_60 : decode cX7_fought 60 = .ok (.aload_n 0, 1) := by decide +kernel
theorem dX7_fought_61 : decode cX7_fought 61 = .ok (.iconst 0, 1) := by decide +kernel
theorem dX7_fought_62 : decode cX7_fought 62 = .ok (.invokevirtual 141, 3) := by decide +kernel
theorem dX7_fought_65 : decode cX7_fought 65 = .ok (.aload_n 0, 1) := by decide +kernel
theorem dX7_fought_66 : decode cX7_fought 66 = .ok (.iconst 1, 1) := by decide +kernel
theorem dX7_fought_67 : decode cX7_fought 67 = .ok (.invokevirtual 141, 3) := by decide +kernel
theorem dX7_fought_70 : decode cX7_fought 70 = .ok (.isub, 1) := by decide +kernel
theorem dX7_fought_71 : decode cX7_fought 71 = .ok (.ireturn, 1) := by decide +kernel
theorem dX7_wins_0 : decode cX7_wins 0 = .ok (.aload_n 0, 1) := by decide +kernel
theorem dX7_wins_1 : decode cX7_wins 1 = .ok (.getfield 22, 3) := by decide +kernel
theorem dX7_wins_4 : decode cX7_wins 4 = .ok (.iload_n 2, 1) := by decide +kernel
theorem dX7_wins_5 : decode cX7_wins 5 = .ok (.dup2, 1) := by decide +kernel
theorem dX7_wins_6 : decode cX7_wins 6 = .ok (.iaload, 1) := by decide +kernel
theorem dX7_wins_7 : decode cX7_wins 7 = .ok (.iload_n 3, 1) := by decide +kernel
theorem dX7_wins_8 : decode cX7_wins 8 = .ok (.iconst 1, 1) := by decide +kernel
theorem dX7_wins_9 : decode cX7_wins 9 = .ok (.iadd, 1) := by decide +kernel
theorem dX7_wins_10 : decode cX7_wins 10 = .ok (.aload_n 0, 1) := by decide +kernel
theorem dX7_wins_11 : decode cX7_wins 11 = .ok (.getfield 22, 3) := by decide +kernel
theorem dX7_wins_14 : decode cX7_wins 14 = .ok (.iload_n 2, 1) := by decide +kernel
theorem dX7_wins_15 : decode cX7_wins 15 = .ok (.iaload, 1) := by decide +kernel
theorem dX7_wins_16 : decode cX7_wins 16 = .ok (.invokestatic 129, 3) := by decide +kernel
theorem dX7_wins_19 : decode cX7_wins 19 = .ok (.isub, 1) := by decide +kernel
theorem dX7_wins_20 : decode cX7_wins 20 = .ok (.iastore, 1) := by decide +kernel
theorem dX7_wins_21 : decode cX7_wins 21 = .ok (.aload_n 0, 1) := by decide +kernel
theorem dX7_wins_22 : decode cX7_wins 22 = .ok (.getfield 25, 3) := by decide +kernel
theorem dX7_wins_25 : decode cX7_wins 25 = .ok (.iload_n 1, 1) := by decide +kernel
theorem dX7_wins_26 : decode cX7_wins 26 = .ok (.aload_n 0, 1) := by decide +kernel
theorem dX7_wins_27 : decode cX7_wins 27 = .ok (.getfield 25, 3) := by decide +kernel
theorem dX7_wins_30 : decode cX7_wins 30 = .ok (.iload_n 1, 1) := by decide +kernel
theorem dX7_wins_31 : decode cX7_wins 31 = .ok (.iaload, 1) := by decide +kernel
theorem dX7_wins_32 : decode cX7_wins 32 = .ok (.ifCond .le 14, 3) := by decide +kernel
theorem dX7_wins_35 : decode cX7_wins 35 = .ok (.aload_n 0, 1) := by decide +kernel
theorem dX7_wins_36 : decode cX7_wins 36 = .ok (.getfield 25, 3) := by decide +kernel
theorem dX7_wins_39 : decode cX7_wins 39 = .ok (.iload_n 1, 1) := by decide +kernel
theorem dX7_wins_40 : decode cX7_wins 40 = .ok (.iaload, 1) := by decide +kernel
theorem dX7_wins_41 : decode cX7_wins 41 = .ok (.iconst 1, 1) := by decide +kernel
theorem dX7_wins_42 : decode cX7_wins 42 = .ok (.iadd, 1) := by decide +kernel
theorem dX7_wins_43 : decode cX7_wins 43 = .ok (.goto 4, 3) := by decide +kernel
theorem dX7_wins_46 : decode cX7_wins 46 = .ok (.iconst 1, 1) := by decide +kernel
theorem dX7_wins_47 : decode cX7_wins 47 = .ok (.iastore, 1) := by decide +kernel
theorem dX7_wins_48 : decode cX7_wins 48 = .ok (.aload_n 0, 1) := by decide +kernel
theorem dX7_wins_49 : decode cX7_wins 49 = .ok (.getfield 25, 3) := by decide +kernel
theorem dX7_wins_52 : decode cX7_wins 52 = .ok (.iload_n 2, 1) := by decide +kernel
theorem dX7_wins_53 : decode cX7_wins 53 = .ok (.aload_n 0, 1) := by decide +kernel
theorem dX7_wins_54 : decode cX7_wins 54 = .ok (.getfield 25, 3) := by decide +kernel
theorem dX7_wins_57 : decode cX7_wins 57 = .ok (.iload_n 2, 1) := by decide +kernel
theorem dX7_wins_58 : decode cX7_wins 58 = .ok (.iaload, 1) := by decide +kernel
theorem dX7_wins_59 : decode cX7_wins 59 = .ok (.ifCond .ge 14, 3) := by decide +kernel
theorem dX7_wins_62 : decode cX7_wins 62 = .ok (.aload_n 0, 1) := by decide +kernel
theorem dX7_wins_63 : decode cX7_wins 63 = .ok (.getfield 25, 3) := by decide +kernel
theorem dX7_wins_66 : decode cX7_wins 66 = .ok (.iload_n 2, 1) := by decide +kernel
theorem dX7_wins_67 : decode cX7_wins 67 = .ok (.iaload, 1) := by decide +kernel
theorem dX7_wins_68 : decode cX7_wins 68 = .ok (.iconst 1, 1) := by decide +kernel
theorem dX7_wins_69 : decode cX7_wins 69 = .ok (.isub, 1) := by decide +kernel
theorem dX7_wins_70 : decode cX7_wins 70 = .ok (.goto 4, 3) := by decide +kernel
theorem dX7_wins_73 : decode cX7_wins 73 = .ok (.iconst (-1), 1) := by decide +kernel
theorem dX7_wins_74 : decode cX7_wins 74 = .ok (.iastore, 1) := by decide +kernel
theorem dX7_wins_75 : decode cX7_wins 75 = .ok (.return_, 1) := by decide +kernel
theorem dX7_pairs_0 : decode cX7_pairs 0 = .ok (.aload_n 0, 1) := by decide +kernel
theorem dX7_pairs_1 : decode cX7_pairs 1 = .ok (.iload_n 1, 1) := by decide +kernel
theorem dX7_pairs_2 : decode cX7_pairs 2 = .ok (.iload_n 2, 1) := by decide +kernel
theorem dX7_pairs_3 : decode cX7_pairs 3 = .ok (.invokevirtual 147, 3) := by decide +kernel
theorem dX7_pairs_6 : decode cX7_pairs 6 = .ok (.istore_n 3, 1) := by decide +kernel
theorem dX7_pairs_7 : decode cX7_pairs 7 = .ok (.iload_n 3, 1) := by decide +kernel
theorem dX7_pairs_8 : decode cX7_pairs 8 = .ok (.ifCond .le 13, 3) := by decide +kernel
theorem dX7_pairs_11 : decode cX7_pairs 11 = .ok (.aload_n 0, 1) := by decide +kernel
theorem dX7_pairs_12 : decode cX7_pairs 12 = .ok (.iload_n 1, 1) := by decide +kernel
theorem dX7_pairs_13 : decode cX7_pairs 13 = .ok (.iload_n 2, 1) := by decide +kernel
theorem dX7_pairs_14 : decode cX7_pairs 14 = .ok (.iload_n 3, 1) := by decide +kernel
theorem dX7_pairs_15 : decode cX7_pairs 15 = .ok (.invokevirtual 150, 3) := by decide +kernel
theorem dX7_pairs_18 : decode cX7_pairs 18 = .ok (.goto 32, 3) := by decide +kernel
theorem dX7_pairs_21 : decode cX7_pairs 21 = .ok (.iload_n 3, 1) := by decide +kernel
theorem dX7_pairs_22 : decode cX7_pairs 22 = .ok (.ifCond .ge 14, 3) := by decide +kernel
theorem dX7_pairs_25 : decode cX7_pairs 25 = .ok (.aload_n 0, 1) := by decide +kernel
theorem dX7_pairs_26 : decode cX7_pairs 26 = .ok (.iload_n 2, 1) := by decide +kernel
theorem dX7_pairs_27 : decode cX7_pairs 27 = .ok (.iload_n 1, 1) := by decide +kernel
theorem dX7_pairs_28 : decode cX7_pairs 28 = .ok (.iload_n 3, 1) := by decide +kernel
theorem dX7_pairs_29 : decode cX7_pairs 29 = .ok (.ineg, 1) := by decide +kernel
theorem dX7_pairs_30 : decode cX7_pairs 30 = .ok (.invokevirtual 150, 3) := by decide +kernel
theorem dX7_pairs_33 : decode cX7_pairs 33 = .ok (.goto 17, 3) := by decide +kernel
theorem dX7_pairs_36 : decode cX7_pairs 36 = .ok (.aload_n 0, 1) := by decide +kernel
theorem dX7_pairs_37 : decode cX7_pairs 37 = .ok (.getfield 25, 3) := by decide +kernel
theorem dX7_pairs_40 : decode cX7_pairs 40 = .ok (.iload_n 1, 1) := by decide +kernel
theorem dX7_pairs_41 : decode cX7_pairs 41 = .ok (.iconst 0, 1) := by decide +kernel
theorem dX7_pairs_42 : decode cX7_pairs 42 = .ok (.iastore, 1) := by decide +kernel
theorem dX7_pairs_43 : decode cX7_pairs 43 = .ok (.aload_n 0, 1) := by decide +kernel
theorem dX7_pairs_44 : decode cX7_pairs 44 = .ok (.getfield 25, 3) := by decide +kernel
theorem dX7_pairs_47 : decode cX7_pairs 47 = .ok (.iload_n 2, 1) := by decide +kernel
theorem dX7_pairs_48 : decode cX7_pairs 48 = .ok (.iconst 0, 1) := by decide +kernel
theorem dX7_pairs_49 : decode cX7_pairs 49 = .ok (.iastore, 1) := by decide +kernel
theorem dX7_pairs_50 : decode cX7_pairs 50 = .ok (.return_, 1) := by decide +kernel
theorem dX7_third_0 : decode cX7_third 0 = .ok (.iload_n 0, 1) := by decide +kernel
theorem dX7_third_1 : decode cX7_third 1 = .ok (.ifCond .ne 7, 3) := by decide +kernel
theorem dX7_third_4 : decode cX7_third 4 = .ok (.iconst 2, 1) := by decide +kernel
theorem dX7_third_5 : decode cX7_third 5 = .ok (.goto 4, 3) := by decide +kernel
theorem dX7_third_8 : decode cX7_third 8 = .ok (.iconst 1, 1) := by decide +kernel
theorem dX7_third_9 : decode cX7_third 9 = .ok (.ireturn, 1) := by decide +kernel
theorem dX7_round_0 : decode cX7_round 0 = .ok (.aload_n 0, 1) := by decide +kernel
theorem dX7_round_1 : decode cX7_round 1 = .ok (.aload_n 0, 1) := by decide +kernel
theorem dX7_round_2 : decode cX7_round 2 = .ok (.getfield 154, 3) := by decide +kernel
theorem dX7_round_5 : decode cX7_round 5 = .ok (.sipush 200, 3) := by decide +kernel
theorem dX7_round_8 : decode cX7_round 8 = .ok (.if_icmp .ne 7, 3) := by decide +kernel
theorem dX7_round_11 : decode cX7_round 11 = .ok (.iconst 1, 1) := by decide +kernel
theorem dX7_round_12 : decode cX7_round 12 = .ok (.goto 4, 3) := by decide +kernel
theorem dX7_round_15 : decode cX7_round 15 = .ok (.iconst 0, 1) := by decide +kernel
theorem dX7_round_16 : decode cX7_round 16 = .ok (.invokevirtual 71, 3) := by decide +kernel
theorem dX7_round_19 : decode cX7_round 19 = .ok (.ifCond .ne 5, 3) := by decide +kernel
theorem dX7_round_22 : decode cX7_round 22 = .ok (.iconst 0, 1) := by decide +kernel
theorem dX7_round_23 : decode cX7_round 23 = .ok (.ireturn, 1) := by decide +kernel
theorem dX7_round_24 : decode cX7_round 24 = .ok (.aload_n 0, 1) := by decide +kernel
theorem dX7_round_25 : decode cX7_round 25 = .ok (.getfield 154, 3) := by decide +kernel
theorem dX7_round_28 : decode cX7_round 28 = .ok (.iconst 3, 1) := by decide +kernel
theorem dX7_round_29 : decode cX7_round 29 = .ok (.irem, 1) := by decide +kernel
theorem dX7_round_30 : decode cX7_round 30 = .ok (.istore_n 1, 1) := by decide +kernel
theorem dX7_round_31 : decode cX7_round 31 = .ok (.aload_n 0, 1) := by decide +kernel
theorem dX7_round_32 : decode cX7_round 32 = .ok (.iconst 0, 1) := by decide +kernel
theorem dX7_round_33 : decode cX7_round 33 = .ok (.iconst 1, 1) := by decide +kernel
theorem dX7_round_34 : decode cX7_round 34 = .ok (.iload_n 1, 1) := by decide +kernel
theorem dX7_round_35 : decode cX7_round 35 = .ok (.iadd, 1) := by decide +kernel
theorem dX7_round_36 : decode cX7_round 36 = .ok (.invokevirtual 157, 3) := by decide +kernel
theorem dX7_round_39 : decode cX7_round 39 = .ok (.aload_n 0, 1) := by decide +kernel
theorem dX7_round_40 : decode cX7_round 40 = .ok (.iload_n 1, 1) := by decide +kernel
theorem dX7_round_41 : decode cX7_round 41 = .ok (.invokestatic 160, 3) := by decide +kernel
theorem dX7_round_44 : decode cX7_round 44 = .ok (.iload_n 1, 1) := by decide +kernel
theorem dX7_round_45 : decode cX7_round 45 = .ok (.iconst 2, 1) := by decide +kernel
theorem dX7_round_46 : decode cX7_round 46 = .ok (.if_icmp .ne 7, 3) := by decide +kernel
theorem dX7_round_49 : decode cX7_round 49 = .ok (.iconst 2, 1) := by decide +kernel
theorem dX7_round_50 : decode cX7_round 50 = .ok (.goto 4, 3) := by decide +kernel
theorem dX7_round_53 : decode cX7_round 53 = .ok (.iconst 3, 1) := by decide +kernel
theorem dX7_round_54 : decode cX7_round 54 = .ok (.invokevirtual 157, 3) := by decide +kernel
theorem dX7_round_57 : decode cX7_round 57 = .ok (.aload_n 0, 1) := by decide +kernel
theorem dX7_round_58 : decode cX7_round 58 = .ok (.dup, 1) := by decide +kernel
theorem dX7_round_59 : decode cX7_round 59 = .ok (.getfield 154, 3) := by decide +kernel
theorem dX7_round_62 : decode cX7_round 62 = .ok (.iconst 1, 1) := by decide +kernel
theorem dX7_round_63 : decode cX7_round 63 = .ok (.iadd, 1) := by decide +kernel
theorem dX7_round_64 : decode cX7_round 64 = .ok (.putfield 154, 3) := by decide +kernel
theorem dX7_round_67 : decode cX7_round 67 = .ok (.iconst 0, 1) := by decide +kernel
theorem dX7_round_68 : decode cX7_round 68 = .ok (.istore_n 2, 1) := by decide +kernel
theorem dX7_round_69 : decode cX7_round 69 = .ok (.iconst 0, 1) := by decide +kernel
theorem dX7_round_70 : decode cX7_round 70 = .ok (.istore_n 3, 1) := by decide +kernel
theorem dX7_round_71 : decode cX7_round 71 = .ok (.iload_n 3, 1) := by decide +kernel
theorem dX7_round_72 : decode cX7_round 72 = .ok (.iconst 4, 1) := by decide +kernel
theorem dX7_round_73 : decode cX7_round 73 = .ok (.if_icmp .ge 97, 3) := by decide +kernel
theorem dX7_round_76 : decode cX7_round 76 = .ok (.aload_n 0, 1) := by decide +kernel
theorem dX7_round_77 : decode cX7_round 77 = .ok (.getfield 25, 3) := by decide +kernel
theorem dX7_round_80 : decode cX7_round 80 = .ok (.iload_n 3, 1) := by decide +kernel
theorem dX7_round_81 : decode cX7_round 81 = .ok (.iaload, 1) := by decide +kernel
theorem dX7_round_82 : decode cX7_round 82 = .ok (.iconst 1, 1) := by decide +kernel
theorem dX7_round_83 : decode cX7_round 83 = .ok (.if_icmp .gt 13, 3) := by decide +kernel
theorem dX7_round_86 : decode cX7_round 86 = .ok (.aload_n 0, 1) := by decide +kernel
theorem dX7_round_87 : decode cX7_round 87 = .ok (.getfield 25, 3) := by decide +kernel
theorem dX7_round_90 : decode cX7_round 90 = .ok (.iload_n 3, 1) := by decide +kernel
theorem dX7_round_91 : decode cX7_round 91 = .ok (.iaload, 1) := by decide +kernel
theorem dX7_round_92 : decode cX7_round 92 = .ok (.iconst (-1), 1) := by decide +kernel
theorem dX7_round_93 : decode cX7_round 93 = .ok (.if_icmp .ge 7, 3) := by decide +kernel
theorem dX7_round_96 : decode cX7_round 96 = .ok (.iconst 1, 1) := by decide +kernel
theorem dX7_round_97 : decode cX7_round 97 = .ok (.goto 4, 3) := by decide +kernel
theorem dX7_round_100 : decode cX7_round 100 = .ok (.iconst 0, 1) := by decide +kernel
theorem dX7_round_101 : decode cX7_round 101 = .ok (.istore 4, 2) := by decide +kernel
theorem dX7_round_103 : decode cX7_round 103 = .ok (.aload_n 0, 1) := by decide +kernel
theorem dX7_round_104 : decode cX7_round 104 = .ok (.getfield 16, 3) := by decide +kernel
theorem dX7_round_107 : decode cX7_round 107 = .ok (.iload_n 3, 1) := by decide +kernel
theorem dX7_round_108 : decode cX7_round 108 = .ok (.aload_n 0, 1) := by decide +kernel
theorem dX7_round_109 : decode cX7_round 109 = .ok (.getfield 16, 3) := by decide +kernel
theorem dX7_round_112 : decode cX7_round 112 = .ok (.iload_n 3, 1) := by decide +kernel
theorem dX7_round_113 : decode cX7_round 113 = .ok (.iaload, 1) := by decide +kernel
theorem dX7_round_114 : decode cX7_round 114 = .ok (.iconst 3, 1) := by decide +kernel
theorem dX7_round_115 : decode cX7_round 115 = .ok (.iadd, 1) := by decide +kernel
theorem dX7_round_116 : decode cX7_round 116 = .ok (.aload_n 0, 1) := by decide +kernel
theorem dX7_round_117 : decode cX7_round 117 = .ok (.getfield 16, 3) := by decide +kernel
theorem dX7_round_120 : decode cX7_round 120 = .ok (.iload_n 3, 1) := by decide +kernel
theorem dX7_round_121 : decode cX7_round 121 = .ok (.iaload, 1) := by decide +kernel
theorem dX7_round_122 : decode cX7_round 122 = .ok (.bipush 10, 2) := by decide +kernel
theorem dX7_round_124 : decode cX7_round 124 = .ok (.idiv, 1) := by decide +kernel
theorem dX7_round_125 : decode cX7_round 125 = .ok (.iconst 3, 1) := by decide +kernel
theorem dX7_round_126 : decode cX7_round 126 = .ok (.invokestatic 129, 3) := by decide +kernel
theorem dX7_round_129 : decode cX7_round 129 = .ok (.iadd, 1) := by decide +kernel
theorem dX7_round_130 : decode cX7_round 130 = .ok (.iload 4, 2) := by decide +kernel
theorem dX7_round_132 : decode cX7_round 132 = .ok (.ifCond .eq 7, 3) := by decide +kernel
theorem dX7_round_135 : decode cX7_round 135 = .ok (.iconst 1, 1) := by decide +kernel
theorem dX7_round_136 : decode cX7_round 136 = .ok (.goto 4, 3) := by decide +kernel
theorem dX7_round_139 : decode cX7_round 139 = .ok (.iconst 0, 1) := by decide +kernel
theorem dX7_round_140 : decode cX7_round 140 = .ok (.iadd, 1) := by decide +kernel
theorem dX7_round_141 : decode cX7_round 141 = .ok (.bipush 100, 2) := by decide +kernel
theorem dX7_round_143 : decode cX7_round 143 = .ok (.invokestatic 129, 3) := by decide +kernel
theorem dX7_round_146 : decode cX7_round 146 = .ok (.iastore, 1) := by decide +kernel
theorem dX7_round_147 : decode cX7_round 147 = .ok (.iload_n 2, 1) := by decide +kernel
theorem dX7_round_148 : decode cX7_round 148 = .ok (.aload_n 0, 1) := by decide +kernel
theorem dX7_round_149 : decode cX7_round 149 = .ok (.getfield 22, 3) := by decide +kernel
theorem dX7_round_152 : decode cX7_round 152 = .ok (.iload_n 3, 1) := by decide +kernel
theorem dX7_round_153 : decode cX7_round 153 = .ok (.iaload, 1) := by decide +kernel
theorem dX7_round_154 : decode cX7_round 154 = .ok (.ifCond .le 7, 3) := by decide +kernel
theorem dX7_round_157 : decode cX7_round 157 = .ok (.iconst 1, 1) := by decide +kernel
theorem dX7_round_158 : decode cX7_round 158 = .ok (.goto 4, 3) := by decide +kernel
theorem dX7_round_161 : decode cX7_round 161 = .ok (.iconst 0, 1) := by decide +kernel
theorem dX7_round_162 : decode cX7_round 162 = .ok (.iadd, 1) := by decide +kernel
theorem dX7_round_163 : decode cX7_round 163 = .ok (.istore_n 2, 1) := by decide +kernel
theorem dX7_round_164 : decode cX7_round 164 = .ok (.iinc 3 1, 3) := by decide +kernel
theorem dX7_round_167 : decode cX7_round 167 = .ok (.goto (-96), 3) := by decide +kernel
theorem dX7_round_170 : decode cX7_round 170 = .ok (.iconst 0, 1) := by decide +kernel
theorem dX7_round_171 : decode cX7_round 171 = .ok (.istore_n 3, 1) := by decide +kernel
theorem dX7_round_172 : decode cX7_round 172 = .ok (.iload_n 3, 1) := by decide +kernel
theorem dX7_round_173 : decode cX7_round 173 = .ok (.iconst 4, 1) := by decide +kernel
theorem dX7_round_174 : decode cX7_round 174 = .ok (.if_icmp .ge 30, 3) := by decide +kernel
theorem dX7_round_177 : decode cX7_round 177 = .ok (.aload_n 0, 1) := by decide +kernel
theorem dX7_round_178 : decode cX7_round 178 = .ok (.getfield 31, 3) := by decide +kernel
theorem dX7_round_181 : decode cX7_round 181 = .ok (.iload_n 3, 1) := by decide +kernel
theorem dX7_round_182 : decode cX7_round 182 = .ok (.baload, 1) := by decide +kernel
theorem dX7_round_183 : decode cX7_round 183 = .ok (.ifCond .ne 8, 3) := by decide +kernel
theorem dX7_round_186 : decode cX7_round 186 = .ok (.aload_n 0, 1) := by decide +kernel
theorem dX7_round_187 : decode cX7_round 187 = .ok (.iload_n 3, 1) := by decide +kernel
theorem dX7_round_188 : decode cX7_round 188 = .ok (.invokevirtual 89, 3) := by decide +kernel
theorem dX7_round_191 : decode cX7_round 191 = .ok (.aload_n 0, 1) := by decide +kernel
theorem dX7_round_192 : decode cX7_round 192 = .ok (.getfield 31, 3) := by decide +kernel
theorem dX7_round_195 : decode cX7_round 195 = .ok (.iload_n 3, 1) := by decide +kernel
theorem dX7_round_196 : decode cX7_round 196 = .ok (.iconst 0, 1) := by decide +kernel
theorem dX7_round_197 : decode cX7_round 197 = .ok (.bastore, 1) := by decide +kernel
theorem dX7_round_198 : decode cX7_round 198 = .ok (.iinc 3 1, 3) := by decide +kernel
theorem dX7_round_201 : decode cX7_round 201 = .ok (.goto (-29), 3) := by decide +kernel
theorem dX7_round_204 : decode cX7_round 204 = .ok (.iload_n 2, 1) := by decide +kernel
theorem dX7_round_205 : decode cX7_round 205 = .ok (.ireturn, 1) := by decide +kernel
theorem dX7_rounds_0 : decode cX7_rounds 0 = .ok (.aload_n 0, 1) := by decide +kernel
theorem dX7_rounds_1 : decode cX7_rounds 1 = .ok (.iconst 0, 1) := by decide +kernel
theorem dX7_rounds_2 : decode cX7_rounds 2 = .ok (.putfield 56, 3) := by decide +kernel
theorem dX7_rounds_5 : decode cX7_rounds 5 = .ok (.aload_n 0, 1) := by decide +kernel
theorem dX7_rounds_6 : decode cX7_rounds 6 = .ok (.getfield 154, 3) := by decide +kernel
theorem dX7_rounds_9 : decode cX7_rounds 9 = .ok (.ireturn, 1) := by decide +kernel
theorem dX7_mayFight_0 : decode cX7_mayFight 0 = .ok (.aload_n 0, 1) := by decide +kernel
theorem dX7_mayFight_1 : decode cX7_mayFight 1 = .ok (.iload_n 1, 1) := by decide +kernel
theorem dX7_mayFight_2 : decode cX7_mayFight 2 = .ok (.invokestatic 64, 3) := by decide +kernel
theorem dX7_mayFight_5 : decode cX7_mayFight 5 = .ok (.ifCond .eq 10, 3) := by decide +kernel
theorem dX7_mayFight_8 : decode cX7_mayFight 8 = .ok (.iload_n 2, 1) := by decide +kernel
theorem dX7_mayFight_9 : decode cX7_mayFight 9 = .ok (.invokestatic 64, 3) := by decide +kernel
theorem dX7_mayFight_12 : decode cX7_mayFight 12 = .ok (.ifCond .ne 7, 3) := by decide +kernel
theorem dX7_mayFight_15 : decode cX7_mayFight 15 = .ok (.iconst 1, 1) := by decide +kernel
theorem dX7_mayFight_16 : decode cX7_mayFight 16 = .ok (.goto 13, 3) := by decide +kernel
theorem dX7_mayFight_19 : decode cX7_mayFight 19 = .ok (.iload_n 1, 1) := by decide +kernel
theorem dX7_mayFight_20 : decode cX7_mayFight 20 = .ok (.iload_n 2, 1) := by decide +kernel
theorem dX7_mayFight_21 : decode cX7_mayFight 21 = .ok (.if_icmp .ne 7, 3) := by decide +kernel
theorem dX7_mayFight_24 : decode cX7_mayFight 24 = .ok (.iconst 2, 1) := by decide +kernel
theorem dX7_mayFight_25 : decode cX7_mayFight 25 = .ok (.goto 4, 3) := by decide +kernel
theorem dX7_mayFight_28 : decode cX7_mayFight 28 = .ok (.iconst 0, 1) := by decide +kernel
theorem dX7_mayFight_29 : decode cX7_mayFight 29 = .ok (.invokevirtual 71, 3) := by decide +kernel
theorem dX7_mayFight_32 : decode cX7_mayFight 32 = .ok (.ireturn, 1) := by decide +kernel
theorem dX7_fight_0 : decode cX7_fight 0 = .ok (.aload_n 0, 1) := by decide +kernel
theorem dX7_fight_1 : decode cX7_fight 1 = .ok (.iload_n 1, 1) := by decide +kernel
theorem dX7_fight_2 : decode cX7_fight 2 = .ok (.iload_n 2, 1) := by decide +kernel
theorem dX7_fight_3 : decode cX7_fight 3 = .ok (.invokevirtual 163, 3) := by decide +kernel
theorem dX7_fight_6 : decode cX7_fight 6 = .ok (.ifCond .eq 12, 3) := by decide +kernel
theorem dX7_fight_9 : decode cX7_fight 9 = .ok (.aload_n 0, 1) := by decide +kernel
theorem dX7_fight_10 : decode cX7_fight 10 = .ok (.iload_n 1, 1) := by decide +kernel
theorem dX7_fight_11 : decode cX7_fight 11 = .ok (.iload_n 2, 1) := by decide +kernel
theorem dX7_fight_12 : decode cX7_fight 12 = .ok (.invokevirtual 147, 3) := by decide +kernel
theorem dX7_fight_15 : decode cX7_fight 15 = .ok (.goto 4, 3) := by decide +kernel
theorem dX7_fight_18 : decode cX7_fight 18 = .ok (.iconst 0, 1) := by decide +kernel
theorem dX7_fight_19 : decode cX7_fight 19 = .ok (.ireturn, 1) := by decide +kernel
theorem dX7_fightByRecord_0 : decode cX7_fightByRecord 0 = .ok (.aload_n 0, 1) := by decide +kernel
theorem dX7_fightByRecord_1 : decode cX7_fightByRecord 1 = .ok (.iload_n 1, 1) := by decide +kernel
theorem dX7_fightByRecord_2 : decode cX7_fightByRecord 2 = .ok (.iload_n 2, 1) := by decide +kernel
theorem dX7_fightByRecord_3 : decode cX7_fightByRecord 3 = .ok (.invokevirtual 163, 3) := by decide +kernel
theorem dX7_fightByRecord_6 : decode cX7_fightByRecord 6 = .ok (.ifCond .eq 12, 3) := by decide +kernel
theorem dX7_fightByRecord_9 : decode cX7_fightByRecord 9 = .ok (.aload_n 0, 1) := by decide +kernel
theorem dX7_fightByRecord_10 : decode cX7_fightByRecord 10 = .ok (.iload_n 1, 1) := by decide +kernel
theorem dX7_fightByRecord_11 : decode cX7_fightByRecord 11 = .ok (.iload_n 2, 1) := by decide +kernel
theorem dX7_fightByRecord_12 : decode cX7_fightByRecord 12 = .ok (.invokevirtual 147, 3) := by decide +kernel
theorem dX7_fightByRecord_15 : decode cX7_fightByRecord 15 = .ok (.goto 4, 3) := by decide +kernel
theorem dX7_fightByRecord_18 : decode cX7_fightByRecord 18 = .ok (.iconst 0, 1) := by decide +kernel
theorem dX7_fightByRecord_19 : decode cX7_fightByRecord 19 = .ok (.ireturn, 1) := by decide +kernel
theorem dX7_gold_0 : decode cX7_gold 0 = .ok (.aload_n 0, 1) := by decide +kernel
theorem dX7_gold_1 : decode cX7_gold 1 = .ok (.iload_n 1, 1) := by decide +kernel
theorem dX7_gold_2 : decode cX7_gold 2 = .ok (.invokestatic 64, 3) := by decide +kernel
theorem dX7_gold_5 : decode cX7_gold 5 = .ok (.ifCond .eq 7, 3) := by decide +kernel
theorem dX7_gold_8 : decode cX7_gold 8 = .ok (.iconst 0, 1) := by decide +kernel
theorem dX7_gold_9 : decode cX7_gold 9 = .ok (.goto 4, 3) := by decide +kernel
theorem dX7_gold_12 : decode cX7_gold 12 = .ok (.iconst 1, 1) := by decide +kernel
theorem dX7_gold_13 : decode cX7_gold 13 = .ok (.invokevirtual 71, 3) := by decide +kernel
theorem dX7_gold_16 : decode cX7_gold 16 = .ok (.ifCond .eq 12, 3) := by decide +kernel
theorem dX7_gold_19 : decode cX7_gold 19 = .ok (.aload_n 0, 1) := by decide +kernel
theorem dX7_gold_20 : decode cX7_gold 20 = .ok (.getfield 16, 3) := by decide +kernel
theorem dX7_gold_23 : decode cX7_gold 23 = .ok (.iload_n 1, 1) := by decide +kernel
theorem dX7_gold_24 : decode cX7_gold 24 = .ok (.iaload, 1) := by decide +kernel
theorem dX7_gold_25 : decode cX7_gold 25 = .ok (.goto 4, 3) := by decide +kernel
theorem dX7_gold_28 : decode cX7_gold 28 = .ok (.iconst 0, 1) := by decide +kernel
theorem dX7_gold_29 : decode cX7_gold 29 = .ok (.ireturn, 1) := by decide +kernel
theorem dX7_health_0 : decode cX7_health 0 = .ok (.aload_n 0, 1) := by decide +kernel
theorem dX7_health_1 : decode cX7_health 1 = .ok (.iload_n 1, 1) := by decide +kernel
theorem dX7_health_2 : decode cX7_health 2 = .ok (.invokestatic 64, 3) := by decide +kernel
theorem dX7_health_5 : decode cX7_health 5 = .ok (.ifCond .eq 7, 3) := by decide +kernel
theorem dX7_health_8 : decode cX7_health 8 = .ok (.iconst 0, 1) := by decide +kernel
theorem dX7_health_9 : decode cX7_health 9 = .ok (.goto 4, 3) := by decide +kernel
theorem dX7_health_12 : decode cX7_health 12 = .ok (.iconst 1, 1) := by decide +kernel
theorem dX7_health_13 : decode cX7_health 13 = .ok (.invokevirtual 71, 3) := by decide +kernel
theorem dX7_health_16 : decode cX7_health 16 = .ok (.ifCond .eq 12, 3) := by decide +kernel
theorem dX7_health_19 : decode cX7_health 19 = .ok (.aload_n 0, 1) := by decide +kernel
theorem dX7_health_20 : decode cX7_health 20 = .ok (.getfield 22, 3) := by decide +kernel
theorem dX7_health_23 : decode cX7_health 23 = .ok (.iload_n 1, 1) := by decide +kernel
theorem dX7_health_24 : decode cX7_health 24 = .ok (.iaload, 1) := by decide +kernel
theorem dX7_health_25 : decode cX7_health 25 = .ok (.goto 4, 3) := by decide +kernel
theorem dX7_health_28 : decode cX7_health 28 = .ok (.iconst 0, 1) := by decide +kernel
theorem dX7_health_29 : decode cX7_health 29 = .ok (.ireturn, 1) := by decide +kernel
theorem dX7_streak_0 : decode cX7_streak 0 = .ok (.aload_n 0, 1) := by decide +kernel
theorem dX7_streak_1 : decode cX7_streak 1 = .ok (.iload_n 1, 1) := by decide +kernel
theorem dX7_streak_2 : decode cX7_streak 2 = .ok (.invokestatic 64, 3) := by decide +kernel
theorem dX7_streak_5 : decode cX7_streak 5 = .ok (.ifCond .eq 7, 3) := by decide +kernel
theorem dX7_streak_8 : decode cX7_streak 8 = .ok (.iconst 0, 1) := by decide +kernel
theorem dX7_streak_9 : decode cX7_streak 9 = .ok (.goto 4, 3) := by decide +kernel
theorem dX7_streak_12 : decode cX7_streak 12 = .ok (.iconst 1, 1) := by decide +kernel
theorem dX7_streak_13 : decode cX7_streak 13 = .ok (.invokevirtual 71, 3) := by decide +kernel
theorem dX7_streak_16 : decode cX7_streak 16 = .ok (.ifCond .eq 12, 3) := by decide +kernel
theorem dX7_streak_19 : decode cX7_streak 19 = .ok (.aload_n 0, 1) := by decide +kernel
theorem dX7_streak_20 : decode cX7_streak 20 = .ok (.getfield 25, 3) := by decide +kernel
theorem dX7_streak_23 : decode cX7_streak 23 = .ok (.iload_n 1, 1) := by decide +kernel
theorem dX7_streak_24 : decode cX7_streak 24 = .ok (.iaload, 1) := by decide +kernel
theorem dX7_streak_25 : decode cX7_streak 25 = .ok (.goto 4, 3) := by decide +kernel
theorem dX7_streak_28 : decode cX7_streak 28 = .ok (.iconst 0, 1) := by decide +kernel
theorem dX7_streak_29 : decode cX7_streak 29 = .ok (.ireturn, 1) := by decide +kernel
theorem dX7_shopAt_0 : decode cX7_shopAt 0 = .ok (.aload_n 0, 1) := by decide +kernel
theorem dX7_shopAt_1 : decode cX7_shopAt 1 = .ok (.iload_n 1, 1) := by decide +kernel
theorem dX7_shopAt_2 : decode cX7_shopAt 2 = .ok (.iload_n 2, 1) := by decide +kernel
theorem dX7_shopAt_3 : decode cX7_shopAt 3 = .ok (.invokestatic 113, 3) := by decide +kernel
theorem dX7_shopAt_6 : decode cX7_shopAt 6 = .ok (.ifCond .eq 7, 3) := by decide +kernel
theorem dX7_shopAt_9 : decode cX7_shopAt 9 = .ok (.iconst 0, 1) := by decide +kernel
theorem dX7_shopAt_10 : decode cX7_shopAt 10 = .ok (.goto 4, 3) := by decide +kernel
theorem dX7_shopAt_13 : decode cX7_shopAt 13 = .ok (.iconst 1, 1) := by decide +kernel
theorem dX7_shopAt_14 : decode cX7_shopAt 14 = .ok (.invokevirtual 71, 3) := by decide +kernel
theorem dX7_shopAt_17 : decode cX7_shopAt 17 = .ok (.ifCond .eq 16, 3) := by decide +kernel
theorem dX7_shopAt_20 : decode cX7_shopAt 20 = .ok (.aload_n 0, 1) := by decide +kernel
theorem dX7_shopAt_21 : decode cX7_shopAt 21 = .ok (.getfield 28, 3) := by decide +kernel
theorem dX7_shopAt_24 : decode cX7_shopAt 24 = .ok (.iconst 3, 1) := by decide +kernel
theorem dX7_shopAt_25 : decode cX7_shopAt 25 = .ok (.iload_n 1, 1) := by decide +kernel
theorem dX7_shopAt_26 : decode cX7_shopAt 26 = .ok (.imul, 1) := by decide +kernel
theorem dX7_shopAt_27 : decode cX7_shopAt 27 = .ok (.iload_n 2, 1) := by decide +kernel
theorem dX7_shopAt_28 : decode cX7_shopAt 28 = .ok (.iadd, 1) := by decide +kernel
theorem dX7_shopAt_29 : decode cX7_shopAt 29 = .ok (.iaload, 1) := by decide +kernel
theorem dX7_shopAt_30 : decode cX7_shopAt 30 = .ok (.goto 4, 3) := by decide +kernel
theorem dX7_shopAt_33 : decode cX7_shopAt 33 = .ok (.iconst 0, 1) := by decide +kernel
theorem dX7_shopAt_34 : decode cX7_shopAt 34 = .ok (.ireturn, 1) := by decide +kernel
theorem dX7_benchAt_0 : decode cX7_benchAt 0 = .ok (.aload_n 0, 1) := by decide +kernel
theorem dX7_benchAt_1 : decode cX7_benchAt 1 = .ok (.iload_n 1, 1) := by decide +kernel
theorem dX7_benchAt_2 : decode cX7_benchAt 2 = .ok (.invokestatic 64, 3) := by decide +kernel
theorem dX7_benchAt_5 : decode cX7_benchAt 5 = .ok (.ifCond .eq 16, 3) := by decide +kernel
theorem dX7_benchAt_8 : decode cX7_benchAt 8 = .ok (.iload_n 2, 1) := by decide +kernel
theorem dX7_benchAt_9 : decode cX7_benchAt 9 = .ok (.iconst 0, 1) := by decide +kernel
theorem dX7_benchAt_10 : decode cX7_benchAt 10 = .ok (.iconst 5, 1) := by decide +kernel
theorem dX7_benchAt_11 : decode cX7_benchAt 11 = .ok (.invokestatic 60, 3) := by decide +kernel
theorem dX7_benchAt_14 : decode cX7_benchAt 14 = .ok (.ifCond .eq 7, 3) := by decide +kernel
theorem dX7_benchAt_17 : decode cX7_benchAt 17 = .ok (.iconst 0, 1) := by decide +kernel
theorem dX7_benchAt_18 : decode cX7_benchAt 18 = .ok (.goto 4, 3) := by decide +kernel
theorem dX7_benchAt_21 : decode cX7_benchAt 21 = .ok (.iconst 1, 1) := by decide +kernel
theorem dX7_benchAt_22 : decode cX7_benchAt 22 = .ok (.invokevirtual 71, 3) := by decide +kernel
theorem dX7_benchAt_25 : decode cX7_benchAt 25 = .ok (.ifCond .ne 5, 3) := by decide +kernel
theorem dX7_benchAt_28 : decode cX7_benchAt 28 = .ok (.iconst 0, 1) := by decide +kernel
theorem dX7_benchAt_29 : decode cX7_benchAt 29 = .ok (.ireturn, 1) := by decide +kernel
theorem dX7_benchAt_30 : decode cX7_benchAt 30 = .ok (.iload_n 2, 1) := by decide +kernel
theorem dX7_benchAt_31 : decode cX7_benchAt 31 = .ok (.aload_n 0, 1) := by decide +kernel
theorem dX7_benchAt_32 : decode cX7_benchAt 32 = .ok (.getfield 35, 3) := by decide +kernel
theorem dX7_benchAt_35 : decode cX7_benchAt 35 = .ok (.iload_n 1, 1) := by decide +kernel
theorem dX7_benchAt_36 : decode cX7_benchAt 36 = .ok (.iaload, 1) := by decide +kernel
theorem dX7_benchAt_37 : decode cX7_benchAt 37 = .ok (.if_icmp .ge 17, 3) := by decide +kernel
theorem dX7_benchAt_40 : decode cX7_benchAt 40 = .ok (.aload_n 0, 1) := by decide +kernel
theorem dX7_benchAt_41 : decode cX7_benchAt 41 = .ok (.getfield 38, 3) := by decide +kernel
theorem dX7_benchAt_44 : decode cX7_benchAt 44 = .ok (.bipush 6, 2) := by decide +kernel
theorem dX7_benchAt_46 : decode cX7_benchAt 46 = .ok (.iload_n 1, 1) := by decide +kernel
theorem dX7_benchAt_47 : decode cX7_benchAt 47 = .ok (.imul, 1) := by decide +kernel
theorem dX7_benchAt_48 : decode cX7_benchAt 48 = .ok (.iload_n 2, 1) := by decide +kernel
theorem dX7_benchAt_49 : decode cX7_benchAt 49 = .ok (.iadd, 1) := by decide +kernel
theorem dX7_benchAt_50 : decode cX7_benchAt 50 = .ok (.iaload, 1) := by decide +kernel
theorem dX7_benchAt_51 : decode cX7_benchAt 51 = .ok (.goto 4, 3) := by decide +kernel
theorem dX7_benchAt_54 : decode cX7_benchAt 54 = .ok (.iconst (-1), 1) := by decide +kernel
theorem dX7_benchAt_55 : decode cX7_benchAt 55 = .ok (.ireturn, 1) := by decide +kernel
theorem dX7_boardAt_0 : decode cX7_boardAt 0 = .ok (.aload_n 0, 1) := by decide +kernel
theorem dX7_boardAt_1 : decode cX7_boardAt 1 = .ok (.iload_n 1, 1) := by decide +kernel
theorem dX7_boardAt_2 : decode cX7_boardAt 2 = .ok (.invokestatic 64, 3) := by decide +kernel
theorem dX7_boardAt_5 : decode cX7_boardAt 5 = .ok (.ifCond .eq 16, 3) := by decide +kernel
theorem dX7_boardAt_8 : decode cX7_boardAt 8 = .ok (.iload_n 2, 1) := by decide +kernel
theorem dX7_boardAt_9 : decode cX7_boardAt 9 = .ok (.iconst 0, 1) := by decide +kernel
theorem dX7_boardAt_10 : decode cX7_boardAt 10 = .ok (.iconst 4, 1) := by decide +kernel
theorem dX7_boardAt_11 : decode cX7_boardAt 11 = .ok (.invokestatic 60, 3) := by decide +kernel
theorem dX7_boardAt_14 : decode cX7_boardAt 14 = .ok (.ifCond .eq 7, 3) := by decide +kernel
theorem dX7_boardAt_17 : decode cX7_boardAt 17 = .ok (.iconst 0, 1) := by decide +kernel
theorem dX7_boardAt_18 : decode cX7_boardAt 18 = .ok (.goto 4, 3) := by decide +kernel
theorem dX7_boardAt_21 : decode cX7_boardAt 21 = .ok (.iconst 1, 1) := by decide +kernel
theorem dX7_boardAt_22 : decode cX7_boardAt 22 = .ok (.invokevirtual 71, 3) := by decide +kernel
theorem dX7_boardAt_25 : decode cX7_boardAt 25 = .ok (.ifCond .ne 5, 3) := by decide +kernel
theorem dX7_boardAt_28 : decode cX7_boardAt 28 = .ok (.iconst 0, 1) := by decide +kernel
theorem dX7_boardAt_29 : decode cX7_boardAt 29 = .ok (.ireturn, 1) := by decide +kernel
theorem dX7_boardAt_30 : decode cX7_boardAt 30 = .ok (.iload_n 2, 1) := by decide +kernel
theorem dX7_boardAt_31 : decode cX7_boardAt 31 = .ok (.aload_n 0, 1) := by decide +kernel
theorem dX7_boardAt_32 : decode cX7_boardAt 32 = .ok (.getfield 41, 3) := by decide +kernel
theorem dX7_boardAt_35 : decode cX7_boardAt 35 = .ok (.iload_n 1, 1) := by decide +kernel
theorem dX7_boardAt_36 : decode cX7_boardAt 36 = .ok (.iaload, 1) := by decide +kernel
theorem dX7_boardAt_37 : decode cX7_boardAt 37 = .ok (.if_icmp .ge 16, 3) := by decide +kernel
theorem dX7_boardAt_40 : decode cX7_boardAt 40 = .ok (.aload_n 0, 1) := by decide +kernel
theorem dX7_boardAt_41 : decode cX7_boardAt 41 = .ok (.getfield 44, 3) := by decide +kernel
theorem dX7_boardAt_44 : decode cX7_boardAt 44 = .ok (.iconst 5, 1) := by decide +kernel
theorem dX7_boardAt_45 : decode cX7_boardAt 45 = .ok (.iload_n 1, 1) := by decide +kernel
theorem dX7_boardAt_46 : decode cX7_boardAt 46 = .ok (.imul, 1) := by decide +kernel
theorem dX7_boardAt_47 : decode cX7_boardAt 47 = .ok (.iload_n 2, 1) := by decide +kernel
theorem dX7_boardAt_48 : decode cX7_boardAt 48 = .ok (.iadd, 1) := by decide +kernel
theorem dX7_boardAt_49 : decode cX7_boardAt 49 = .ok (.iaload, 1) := by decide +kernel
theorem dX7_boardAt_50 : decode cX7_boardAt 50 = .ok (.goto 4, 3) := by decide +kernel
theorem dX7_boardAt_53 : decode cX7_boardAt 53 = .ok (.iconst (-1), 1) := by decide +kernel
theorem dX7_boardAt_54 : decode cX7_boardAt 54 = .ok (.ireturn, 1) := by decide +kernel
theorem dX7_blow_0 : decode cX7_blow 0 = .ok (.aload_n 0, 1) := by decide +kernel
theorem dX7_blow_1 : decode cX7_blow 1 = .ok (.aload_n 0, 1) := by decide +kernel
theorem dX7_blow_2 : decode cX7_blow 2 = .ok (.iload_n 1, 1) := by decide +kernel
theorem dX7_blow_3 : decode cX7_blow 3 = .ok (.iload_n 2, 1) := by decide +kernel
theorem dX7_blow_4 : decode cX7_blow 4 = .ok (.invokevirtual 132, 3) := by decide +kernel
theorem dX7_blow_7 : decode cX7_blow 7 = .ok (.ifCond .eq 7, 3) := by decide +kernel
theorem dX7_blow_10 : decode cX7_blow 10 = .ok (.iconst 0, 1) := by decide +kernel
theorem dX7_blow_11 : decode cX7_blow 11 = .ok (.goto 4, 3) := by decide +kernel
theorem dX7_blow_14 : decode cX7_blow 14 = .ok (.iconst 1, 1) := by decide +kernel
theorem dX7_blow_15 : decode cX7_blow 15 = .ok (.invokevirtual 71, 3) := by decide +kernel
theorem dX7_blow_18 : decode cX7_blow 18 = .ok (.ifCond .eq 12, 3) := by decide +kernel
theorem dX7_blow_21 : decode cX7_blow 21 = .ok (.aload_n 0, 1) := by decide +kernel
theorem dX7_blow_22 : decode cX7_blow 22 = .ok (.iload_n 1, 1) := by decide +kernel
theorem dX7_blow_23 : decode cX7_blow 23 = .ok (.iload_n 2, 1) := by decide +kernel
theorem dX7_blow_24 : decode cX7_blow 24 = .ok (.invokevirtual 135, 3) := by decide +kernel
theorem dX7_blow_27 : decode cX7_blow 27 = .ok (.goto 4, 3) := by decide +kernel
theorem dX7_blow_30 : decode cX7_blow 30 = .ok (.iconst 0, 1) := by decide +kernel
theorem dX7_blow_31 : decode cX7_blow 31 = .ok (.ireturn, 1) := by decide +kernel
theorem dX7_isKind_0 : decode cX7_isKind 0 = .ok (.iload_n 0, 1) := by decide +kernel
theorem dX7_isKind_1 : decode cX7_isKind 1 = .ok (.iconst 0, 1) := by decide +kernel
theorem dX7_isKind_2 : decode cX7_isKind 2 = .ok (.bipush 8, 2) := by decide +kernel
theorem dX7_isKind_4 : decode cX7_isKind 4 = .ok (.invokestatic 60, 3) := by decide +kernel
theorem dX7_isKind_7 : decode cX7_isKind 7 = .ok (.ireturn, 1) := by decide +kernel
theorem dX7_pool_0 : decode cX7_pool 0 = .ok (.aload_n 0, 1) := by decide +kernel
theorem dX7_pool_1 : decode cX7_pool 1 = .ok (.iload_n 1, 1) := by decide +kernel
theorem dX7_pool_2 : decode cX7_pool 2 = .ok (.invokestatic 166, 3) := by decide +kernel
theorem dX7_pool_5 : decode cX7_pool 5 = .ok (.ifCond .eq 7, 3) := by decide +kernel
theorem dX7_pool_8 : decode cX7_pool 8 = .ok (.iconst 0, 1) := by decide +kernel
theorem dX7_pool_9 : decode cX7_pool 9 = .ok (.goto 4, 3) := by decide +kernel
theorem dX7_pool_12 : decode cX7_pool 12 = .ok (.iconst 1, 1) := by decide +kernel
theorem dX7_pool_13 : decode cX7_pool 13 = .ok (.invokevirtual 71, 3) := by decide +kernel
theorem dX7_pool_16 : decode cX7_pool 16 = .ok (.ifCond .eq 12, 3) := by decide +kernel
theorem dX7_pool_19 : decode cX7_pool 19 = .ok (.aload_n 0, 1) := by decide +kernel
theorem dX7_pool_20 : decode cX7_pool 20 = .ok (.getfield 13, 3) := by decide +kernel
theorem dX7_pool_23 : decode cX7_pool 23 = .ok (.iload_n 1, 1) := by decide +kernel
theorem dX7_pool_24 : decode cX7_pool 24 = .ok (.iaload, 1) := by decide +kernel
theorem dX7_pool_25 : decode cX7_pool 25 = .ok (.goto 4, 3) := by decide +kernel
theorem dX7_pool_28 : decode cX7_pool 28 = .ok (.iconst 0, 1) := by decide +kernel
theorem dX7_pool_29 : decode cX7_pool 29 = .ok (.ireturn, 1) := by decide +kernel
theorem dX7_out_0 : decode cX7_out 0 = .ok (.aload_n 0, 1) := by decide +kernel
theorem dX7_out_1 : decode cX7_out 1 = .ok (.iload_n 1, 1) := by decide +kernel
theorem dX7_out_2 : decode cX7_out 2 = .ok (.invokestatic 166, 3) := by decide +kernel
theorem dX7_out_5 : decode cX7_out 5 = .ok (.ifCond .eq 7, 3) := by decide +kernel
theorem dX7_out_8 : decode cX7_out 8 = .ok (.iconst 0, 1) := by decide +kernel
theorem dX7_out_9 : decode cX7_out 9 = .ok (.goto 4, 3) := by decide +kernel
theorem dX7_out_12 : decode cX7_out 12 = .ok (.iconst 1, 1) := by decide +kernel
theorem dX7_out_13 : decode cX7_out 13 = .ok (.invokevirtual 71, 3) := by decide +kernel
theorem dX7_out_16 : decode cX7_out 16 = .ok (.ifCond .ne 5, 3) := by decide +kernel
theorem dX7_out_19 : decode cX7_out 19 = .ok (.iconst 0, 1) := by decide +kernel
theorem dX7_out_20 : decode cX7_out 20 = .ok (.ireturn, 1) := by decide +kernel
theorem dX7_out_21 : decode cX7_out 21 = .ok (.iconst 0, 1) := by decide +kernel
theorem dX7_out_22 : decode cX7_out 22 = .ok (.istore_n 2, 1) := by decide +kernel
theorem dX7_out_23 : decode cX7_out 23 = .ok (.iconst 0, 1) := by decide +kernel
theorem dX7_out_24 : decode cX7_out 24 = .ok (.istore_n 3, 1) := by decide +kernel
theorem dX7_out_25 : decode cX7_out 25 = .ok (.iload_n 3, 1) := by decide +kernel
theorem dX7_out_26 : decode cX7_out 26 = .ok (.bipush 12, 2) := by decide +kernel
theorem dX7_out_28 : decode cX7_out 28 = .ok (.if_icmp .ge 27, 3) := by decide +kernel
theorem dX7_out_31 : decode cX7_out 31 = .ok (.iload_n 2, 1) := by decide +kernel
theorem dX7_out_32 : decode cX7_out 32 = .ok (.aload_n 0, 1) := by decide +kernel
theorem dX7_out_33 : decode cX7_out 33 = .ok (.getfield 28, 3) := by decide +kernel
theorem dX7_out_36 : decode cX7_out 36 = .ok (.iload_n 3, 1) := by decide +kernel
theorem dX7_out_37 : decode cX7_out 37 = .ok (.iaload, 1) := by decide +kernel
theorem dX7_out_38 : decode cX7_out 38 = .ok (.iload_n 1, 1) := by decide +kernel
theorem dX7_out_39 : decode cX7_out 39 = .ok (.if_icmp .ne 7, 3) := by decide +kernel
theorem dX7_out_42 : decode cX7_out 42 = .ok (.iconst 1, 1) := by decide +kernel
theorem dX7_out_43 : decode cX7_out 43 = .ok (.goto 4, 3) := by decide +kernel
theorem dX7_out_46 : decode cX7_out 46 = .ok (.iconst 0, 1) := by decide +kernel
theorem dX7_out_47 : decode cX7_out 47 = .ok (.iadd, 1) := by decide +kernel
theorem dX7_out_48 : decode cX7_out 48 = .ok (.istore_n 2, 1) := by decide +kernel
theorem dX7_out_49 : decode cX7_out 49 = .ok (.iinc 3 1, 3) := by decide +kernel
theorem dX7_out_52 : decode cX7_out 52 = .ok (.goto (-27), 3) := by decide +kernel
theorem dX7_out_55 : decode cX7_out 55 = .ok (.iconst 0, 1) := by decide +kernel
theorem dX7_out_56 : decode cX7_out 56 = .ok (.istore_n 3, 1) := by decide +kernel
theorem dX7_out_57 : decode cX7_out 57 = .ok (.iload_n 3, 1) := by decide +kernel
theorem dX7_out_58 : decode cX7_out 58 = .ok (.iconst 4, 1) := by decide +kernel
theorem dX7_out_59 : decode cX7_out 59 = .ok (.if_icmp .ge 45, 3) := by decide +kernel
theorem dX7_out_62 : decode cX7_out 62 = .ok (.iconst 1, 1) := by decide +kernel
theorem dX7_out_63 : decode cX7_out 63 = .ok (.istore 4, 2) := by decide +kernel
theorem dX7_out_65 : decode cX7_out 65 = .ok (.iload 4, 2) := by decide +kernel
theorem dX7_out_67 : decode cX7_out 67 = .ok (.iconst 3, 1) := by decide +kernel
theorem dX7_out_68 : decode cX7_out 68 = .ok (.if_icmp .gt 30, 3) := by decide +kernel
theorem dX7_out_71 : decode cX7_out 71 = .ok (.iload_n 2, 1) := by decide +kernel
theorem dX7_out_72 : decode cX7_out 72 = .ok (.iload 4, 2) := by decide +kernel
theorem dX7_out_74 : decode cX7_out 74 = .ok (.invokestatic 126, 3) := by decide +kernel
theorem dX7_out_77 : decode cX7_out 77 = .ok (.aload_n 0, 1) := by decide +kernel
theorem dX7_out_78 : decode cX7_out 78 = .ok (.iload_n 3, 1) := by decide +kernel
theorem dX7_out_79 : decode cX7_out 79 = .ok (.bipush 10, 2) := by decide +kernel
theorem dX7_out_81 : decode cX7_out 81 = .ok (.iload_n 1, 1) := by decide +kernel
theorem dX7_out_82 : decode cX7_out 82 = .ok (.imul, 1) := by decide +kernel
theorem dX7_out_83 : decode cX7_out 83 = .ok (.iload 4, 2) := by decide +kernel
theorem dX7_out_85 : decode cX7_out 85 = .ok (.iadd, 1) := by decide +kernel
theorem dX7_out_86 : decode cX7_out 86 = .ok (.invokevirtual 106, 3) := by decide +kernel
theorem dX7_out_89 : decode cX7_out 89 = .ok (.imul, 1) := by decide +kernel
theorem dX7_out_90 : decode cX7_out 90 = .ok (.iadd, 1) := by decide +kernel
theorem dX7_out_91 : decode cX7_out 91 = .ok (.istore_n 2, 1) := by decide +kernel
theorem dX7_out_92 : decode cX7_out 92 = .ok (.iinc 4 1, 3) := by decide +kernel
theorem dX7_out_95 : decode cX7_out 95 = .ok (.goto (-30), 3) := by decide +kernel
theorem dX7_out_98 : decode cX7_out 98 = .ok (.iinc 3 1, 3) := by decide +kernel
theorem dX7_out_101 : decode cX7_out 101 = .ok (.goto (-44), 3) := by decide +kernel
theorem dX7_out_104 : decode cX7_out 104 = .ok (.iload_n 2, 1) := by decide +kernel
theorem dX7_out_105 : decode cX7_out 105 = .ok (.ireturn, 1) := by decide +kernel
theorem dJ9_min_7cf53_0 : decode cJ9_min_7cf53 0 = .ok (.iload_n 0, 1) := by decide +kernel
theorem dJ9_min_7cf53_1 : decode cJ9_min_7cf53 1 = .ok (.iload_n 1, 1) := by decide +kernel
theorem dJ9_min_7cf53_2 : decode cJ9_min_7cf53 2 = .ok (.if_icmp .gt 7, 3) := by decide +kernel
theorem dJ9_min_7cf53_5 : decode cJ9_min_7cf53 5 = .ok (.iload_n 0, 1) := by decide +kernel
theorem dJ9_min_7cf53_6 : decode cJ9_min_7cf53 6 = .ok (.goto 4, 3) := by decide +kernel
theorem dJ9_min_7cf53_9 : decode cJ9_min_7cf53 9 = .ok (.iload_n 1, 1) := by decide +kernel
theorem dJ9_min_7cf53_10 : decode cJ9_min_7cf53 10 = .ok (.ireturn, 1) := by decide +kernel
theorem dL_tell_0 : decode cL_tell 0 = .ok (.aload_n 2, 1) := by decide +kernel
theorem dL_tell_1 : decode cL_tell 1 = .ok (.iconst 0, 1) := by decide +kernel
theorem dL_tell_2 : decode cL_tell 2 = .ok (.aload_n 0, 1) := by decide +kernel
theorem dL_tell_3 : decode cL_tell 3 = .ok (.iload_n 1, 1) := by decide +kernel
theorem dL_tell_4 : decode cL_tell 4 = .ok (.invokevirtual 7, 3) := by decide +kernel
theorem dL_tell_7 : decode cL_tell 7 = .ok (.i2l, 1) := by decide +kernel
theorem dL_tell_8 : decode cL_tell 8 = .ok (.lastore, 1) := by decide +kernel
theorem dL_tell_9 : decode cL_tell 9 = .ok (.goto 9, 3) := by decide +kernel
theorem dL_tell_12 : decode cL_tell 12 = .ok (.astore_n 3, 1) := by decide +kernel
theorem dL_tell_13 : decode cL_tell 13 = .ok (.iconst 1, 1) := by decide +kernel
theorem dL_tell_14 : decode cL_tell 14 = .ok (.ireturn, 1) := by decide +kernel
theorem dL_tell_15 : decode cL_tell 15 = .ok (.astore_n 3, 1) := by decide +kernel
theorem dL_tell_16 : decode cL_tell 16 = .ok (.iconst 2, 1) := by decide +kernel
theorem dL_tell_17 : decode cL_tell 17 = .ok (.ireturn, 1) := by decide +kernel
theorem dL_tell_18 : decode cL_tell 18 = .ok (.iconst 0, 1) := by decide +kernel
theorem dL_tell_19 : decode cL_tell 19 = .ok (.ireturn, 1) := by decide +kernel
theorem dL_roll_0 : decode cL_roll 0 = .ok (.aload_n 2, 1) := by decide +kernel
theorem dL_roll_1 : decode cL_roll 1 = .ok (.iconst 0, 1) := by decide +kernel
theorem dL_roll_2 : decode cL_roll 2 = .ok (.aload_n 0, 1) := by decide +kernel
theorem dL_roll_3 : decode cL_roll 3 = .ok (.iload_n 1, 1) := by decide +kernel
theorem dL_roll_4 : decode cL_roll 4 = .ok (.invokevirtual 17, 3) := by decide +kernel
theorem dL_roll_7 : decode cL_roll 7 = .ok (.i2l, 1) := by decide +kernel
theorem dL_roll_8 : decode cL_roll 8 = .ok (.lastore, 1) := by decide +kernel
theorem dL_roll_9 : decode cL_roll 9 = .ok (.goto 9, 3) := by decide +kernel
theorem dL_roll_12 : decode cL_roll 12 = .ok (.astore_n 3, 1) := by decide +kernel
theorem dL_roll_13 : decode cL_roll 13 = .ok (.iconst 1, 1) := by decide +kernel
theorem dL_roll_14 : decode cL_roll 14 = .ok (.ireturn, 1) := by decide +kernel
theorem dL_roll_15 : decode cL_roll 15 = .ok (.astore_n 3, 1) := by decide +kernel
theorem dL_roll_16 : decode cL_roll 16 = .ok (.iconst 2, 1) := by decide +kernel
theorem dL_roll_17 : decode cL_roll 17 = .ok (.ireturn, 1) := by decide +kernel
theorem dL_roll_18 : decode cL_roll 18 = .ok (.iconst 0, 1) := by decide +kernel
theorem dL_roll_19 : decode cL_roll 19 = .ok (.ireturn, 1) := by decide +kernel
theorem dL_toggleLock_0 : decode cL_toggleLock 0 = .ok (.aload_n 2, 1) := by decide +kernel
theorem dL_toggleLock_1 : decode cL_toggleLock 1 = .ok (.iconst 0, 1) := by decide +kernel
theorem dL_toggleLock_2 : decode cL_toggleLock 2 = .ok (.aload_n 0, 1) := by decide +kernel
theorem dL_toggleLock_3 : decode cL_toggleLock 3 = .ok (.iload_n 1, 1) := by decide +kernel
theorem dL_toggleLock_4 : decode cL_toggleLock 4 = .ok (.invokevirtual 22, 3) := by decide +kernel
theorem dL_toggleLock_7 : decode cL_toggleLock 7 = .ok (.ifCond .eq 7, 3) := by decide +kernel
theorem dL_toggleLock_10 : decode cL_toggleLock 10 = .ok (.lconst 1, 1) := by decide +kernel
theorem dL_toggleLock_11 : decode cL_toggleLock 11 = .ok (.goto 4, 3) := by decide +kernel
theorem dL_toggleLock_14 : decode cL_toggleLock 14 = .ok (.lconst 0, 1) := by decide +kernel
theorem dL_toggleLock_15 : decode cL_toggleLock 15 = .ok (.lastore, 1) := by decide +kernel
theorem dL_toggleLock_16 : decode cL_toggleLock 16 = .ok (.goto 6, 3) := by decide +kernel
theorem dL_toggleLock_19 : decode cL_toggleLock 19 = .ok (.astore_n 3, 1) := by decide +kernel
theorem dL_toggleLock_20 : decode cL_toggleLock 20 = .ok (.iconst 1, 1) := by decide +kernel
theorem dL_toggleLock_21 : decode cL_toggleLock 21 = .ok (.ireturn, 1) := by decide +kernel
theorem dL_toggleLock_22 : decode cL_toggleLock 22 = .ok (.iconst 0, 1) := by decide +kernel
theorem dL_toggleLock_23 : decode cL_toggleLock 23 = .ok (.ireturn, 1) := by decide +kernel
theorem dL_buyLevel_0 : decode cL_buyLevel 0 = .ok (.aload_n 2, 1) := by decide +kernel
theorem dL_buyLevel_1 : decode cL_buyLevel 1 = .ok (.iconst 0, 1) := by decide +kernel
theorem dL_buyLevel_2 : decode cL_buyLevel 2 = .ok (.aload_n 0, 1) := by decide +kernel
theorem dL_buyLevel_3 : decode cL_buyLevel 3 = .ok (.iload_n 1, 1) := by decide +kernel
theorem dL_buyLevel_4 : decode cL_buyLevel 4 = .ok (.invokevirtual 26, 3) := by decide +kernel
theorem dL_buyLevel_7 : decode cL_buyLevel 7 = .ok (.i2l, 1) := by decide +kernel
theorem dL_buyLevel_8 : decode cL_buyLevel 8 = .ok (.lastore, 1) := by decide +kernel
theorem dL_buyLevel_9 : decode cL_buyLevel 9 = .ok (.goto 9, 3) := by decide +kernel
theorem dL_buyLevel_12 : decode cL_buyLevel 12 = .ok (.astore_n 3, 1) := by decide +kernel
theorem dL_buyLevel_13 : decode cL_buyLevel 13 = .ok (.iconst 1, 1) := by decide +kernel
theorem dL_buyLevel_14 : decode cL_buyLevel 14 = .ok (.ireturn, 1) := by decide +kernel
theorem dL_buyLevel_15 : decode cL_buyLevel 15 = .ok (.astore_n 3, 1) := by decide +kernel
theorem dL_buyLevel_16 : decode cL_buyLevel 16 = .ok (.iconst 2, 1) := by decide +kernel
theorem dL_buyLevel_17 : decode cL_buyLevel 17 = .ok (.ireturn, 1) := by decide +kernel
theorem dL_buyLevel_18 : decode cL_buyLevel 18 = .ok (.iconst 0, 1) := by decide +kernel
theorem dL_buyLevel_19 : decode cL_buyLevel 19 = .ok (.ireturn, 1) := by decide +kernel
theorem dL_buy_0 : decode cL_buy 0 = .ok (.aload_n 3, 1) := by decide +kernel
theorem dL_buy_1 : decode cL_buy 1 = .ok (.iconst 0, 1) := by decide +kernel
theorem dL_buy_2 : decode cL_buy 2 = .ok (.aload_n 0, 1) := by decide +kernel
theorem dL_buy_3 : decode cL_buy 3 = .ok (.iload_n 1, 1) := by decide +kernel
theorem dL_buy_4 : decode cL_buy 4 = .ok (.iload_n 2, 1) := by decide +kernel
theorem dL_buy_5 : decode cL_buy 5 = .ok (.invokevirtual 29, 3) := by decide +kernel
theorem dL_buy_8 : decode cL_buy 8 = .ok (.i2l, 1) := by decide +kernel
theorem dL_buy_9 : decode cL_buy 9 = .ok (.lastore, 1) := by decide +kernel
theorem dL_buy_10 : decode cL_buy 10 = .ok (.goto 15, 3) := by decide +kernel
theorem dL_buy_13 : decode cL_buy 13 = .ok (.astore 4, 2) := by decide +kernel
theorem dL_buy_15 : decode cL_buy 15 = .ok (.iconst 1, 1) := by decide +kernel
theorem dL_buy_16 : decode cL_buy 16 = .ok (.ireturn, 1) := by decide +kernel
theorem dL_buy_17 : decode cL_buy 17 = .ok (.astore 4, 2) := by decide +kernel
theorem dL_buy_19 : decode cL_buy 19 = .ok (.iconst 2, 1) := by decide +kernel
theorem dL_buy_20 : decode cL_buy 20 = .ok (.ireturn, 1) := by decide +kernel
theorem dL_buy_21 : decode cL_buy 21 = .ok (.astore 4, 2) := by decide +kernel
theorem dL_buy_23 : decode cL_buy 23 = .ok (.iconst 3, 1) := by decide +kernel
theorem dL_buy_24 : decode cL_buy 24 = .ok (.ireturn, 1) := by decide +kernel
theorem dL_buy_25 : decode cL_buy 25 = .ok (.iconst 0, 1) := by decide +kernel
theorem dL_buy_26 : decode cL_buy 26 = .ok (.ireturn, 1) := by decide +kernel
theorem dL_sell_0 : decode cL_sell 0 = .ok (.aload_n 3, 1) := by decide +kernel
theorem dL_sell_1 : decode cL_sell 1 = .ok (.iconst 0, 1) := by decide +kernel
theorem dL_sell_2 : decode cL_sell 2 = .ok (.aload_n 0, 1) := by decide +kernel
theorem dL_sell_3 : decode cL_sell 3 = .ok (.iload_n 1, 1) := by decide +kernel
theorem dL_sell_4 : decode cL_sell 4 = .ok (.iload_n 2, 1) := by decide +kernel
theorem dL_sell_5 : decode cL_sell 5 = .ok (.invokevirtual 35, 3) := by decide +kernel
theorem dL_sell_8 : decode cL_sell 8 = .ok (.i2l, 1) := by decide +kernel
theorem dL_sell_9 : decode cL_sell 9 = .ok (.lastore, 1) := by decide +kernel
theorem dL_sell_10 : decode cL_sell 10 = .ok (.goto 7, 3) := by decide +kernel
theorem dL_sell_13 : decode cL_sell 13 = .ok (.astore 4, 2) := by decide +kernel
theorem dL_sell_15 : decode cL_sell 15 = .ok (.iconst 1, 1) := by decide +kernel
theorem dL_sell_16 : decode cL_sell 16 = .ok (.ireturn, 1) := by decide +kernel
theorem dL_sell_17 : decode cL_sell 17 = .ok (.iconst 0, 1) := by decide +kernel
theorem dL_sell_18 : decode cL_sell 18 = .ok (.ireturn, 1) := by decide +kernel
theorem dL_toBoard_0 : decode cL_toBoard 0 = .ok (.aload_n 3, 1) := by decide +kernel
theorem dL_toBoard_1 : decode cL_toBoard 1 = .ok (.iconst 0, 1) := by decide +kernel
theorem dL_toBoard_2 : decode cL_toBoard 2 = .ok (.aload_n 0, 1) := by decide +kernel
theorem dL_toBoard_3 : decode cL_toBoard 3 = .ok (.iload_n 1, 1) := by decide +kernel
theorem dL_toBoard_4 : decode cL_toBoard 4 = .ok (.iload_n 2, 1) := by decide +kernel
theorem dL_toBoard_5 : decode cL_toBoard 5 = .ok (.invokevirtual 38, 3) := by decide +kernel
theorem dL_toBoard_8 : decode cL_toBoard 8 = .ok (.i2l, 1) := by decide +kernel
theorem dL_toBoard_9 : decode cL_toBoard 9 = .ok (.lastore, 1) := by decide +kernel
theorem dL_toBoard_10 : decode cL_toBoard 10 = .ok (.goto 11, 3) := by decide +kernel
theorem dL_toBoard_13 : decode cL_toBoard 13 = .ok (.astore 4, 2) := by decide +kernel
theorem dL_toBoard_15 : decode cL_toBoard 15 = .ok (.iconst 1, 1) := by decide +kernel
theorem dL_toBoard_16 : decode cL_toBoard 16 = .ok (.ireturn, 1) := by decide +kernel
theorem dL_toBoard_17 : decode cL_toBoard 17 = .ok (.astore 4, 2) := by decide +kernel
theorem dL_toBoard_19 : decode cL_toBoard 19 = .ok (.iconst 2, 1) := by decide +kernel
theorem dL_toBoard_20 : decode cL_toBoard 20 = .ok (.ireturn, 1) := by decide +kernel
theorem dL_toBoard_21 : decode cL_toBoard 21 = .ok (.iconst 0, 1) := by decide +kernel
theorem dL_toBoard_22 : decode cL_toBoard 22 = .ok (.ireturn, 1) := by decide +kernel
theorem dL_toBench_0 : decode cL_toBench 0 = .ok (.aload_n 3, 1) := by decide +kernel
theorem dL_toBench_1 : decode cL_toBench 1 = .ok (.iconst 0, 1) := by decide +kernel
theorem dL_toBench_2 : decode cL_toBench 2 = .ok (.aload_n 0, 1) := by decide +kernel
theorem dL_toBench_3 : decode cL_toBench 3 = .ok (.iload_n 1, 1) := by decide +kernel
theorem dL_toBench_4 : decode cL_toBench 4 = .ok (.iload_n 2, 1) := by decide +kernel
theorem dL_toBench_5 : decode cL_toBench 5 = .ok (.invokevirtual 41, 3) := by decide +kernel
theorem dL_toBench_8 : decode cL_toBench 8 = .ok (.i2l, 1) := by decide +kernel
theorem dL_toBench_9 : decode cL_toBench 9 = .ok (.lastore, 1) := by decide +kernel
theorem dL_toBench_10 : decode cL_toBench 10 = .ok (.goto 11, 3) := by decide +kernel
theorem dL_toBench_13 : decode cL_toBench 13 = .ok (.astore 4, 2) := by decide +kernel
theorem dL_toBench_15 : decode cL_toBench 15 = .ok (.iconst 1, 1) := by decide +kernel
theorem dL_toBench_16 : decode cL_toBench 16 = .ok (.ireturn, 1) := by decide +kernel
theorem dL_toBench_17 : decode cL_toBench 17 = .ok (.astore 4, 2) := by decide +kernel
theorem dL_toBench_19 : decode cL_toBench 19 = .ok (.iconst 2, 1) := by decide +kernel
theorem dL_toBench_20 : decode cL_toBench 20 = .ok (.ireturn, 1) := by decide +kernel
theorem dL_toBench_21 : decode cL_toBench 21 = .ok (.iconst 0, 1) := by decide +kernel
theorem dL_toBench_22 : decode cL_toBench 22 = .ok (.ireturn, 1) := by decide +kernel
theorem dL_round_0 : decode cL_round 0 = .ok (.aload_n 1, 1) := by decide +kernel
theorem dL_round_1 : decode cL_round 1 = .ok (.iconst 0, 1) := by decide +kernel
theorem dL_round_2 : decode cL_round 2 = .ok (.aload_n 0, 1) := by decide +kernel
theorem dL_round_3 : decode cL_round 3 = .ok (.invokevirtual 44, 3) := by decide +kernel
theorem dL_round_6 : decode cL_round 6 = .ok (.i2l, 1) := by decide +kernel
theorem dL_round_7 : decode cL_round 7 = .ok (.lastore, 1) := by decide +kernel
theorem dL_round_8 : decode cL_round 8 = .ok (.goto 6, 3) := by decide +kernel
theorem dL_round_11 : decode cL_round 11 = .ok (.astore_n 2, 1) := by decide +kernel
theorem dL_round_12 : decode cL_round 12 = .ok (.iconst 1, 1) := by decide +kernel
theorem dL_round_13 : decode cL_round 13 = .ok (.ireturn, 1) := by decide +kernel
theorem dL_round_14 : decode cL_round 14 = .ok (.iconst 0, 1) := by decide +kernel
theorem dL_round_15 : decode cL_round 15 = .ok (.ireturn, 1) := by decide +kernel
theorem dL_fight_0 : decode cL_fight 0 = .ok (.aload_n 3, 1) := by decide +kernel
theorem dL_fight_1 : decode cL_fight 1 = .ok (.iconst 0, 1) := by decide +kernel
theorem dL_fight_2 : decode cL_fight 2 = .ok (.aload_n 0, 1) := by decide +kernel
theorem dL_fight_3 : decode cL_fight 3 = .ok (.iload_n 1, 1) := by decide +kernel
theorem dL_fight_4 : decode cL_fight 4 = .ok (.iload_n 2, 1) := by decide +kernel
theorem dL_fight_5 : decode cL_fight 5 = .ok (.invokevirtual 48, 3) := by decide +kernel
theorem dL_fight_8 : decode cL_fight 8 = .ok (.i2l, 1) := by decide +kernel
theorem dL_fight_9 : decode cL_fight 9 = .ok (.lastore, 1) := by decide +kernel
theorem dL_fight_10 : decode cL_fight 10 = .ok (.goto 11, 3) := by decide +kernel
theorem dL_fight_13 : decode cL_fight 13 = .ok (.astore 4, 2) := by decide +kernel
theorem dL_fight_15 : decode cL_fight 15 = .ok (.iconst 1, 1) := by decide +kernel
theorem dL_fight_16 : decode cL_fight 16 = .ok (.ireturn, 1) := by decide +kernel
theorem dL_fight_17 : decode cL_fight 17 = .ok (.astore 4, 2) := by decide +kernel
theorem dL_fight_19 : decode cL_fight 19 = .ok (.iconst 2, 1) := by decide +kernel
theorem dL_fight_20 : decode cL_fight 20 = .ok (.ireturn, 1) := by decide +kernel
theorem dL_fight_21 : decode cL_fight 21 = .ok (.iconst 0, 1) := by decide +kernel
theorem dL_fight_22 : decode cL_fight 22 = .ok (.ireturn, 1) := by decide +kernel
theorem dL_fightByRecord_0 : decode cL_fightByRecord 0 = .ok (.aload_n 3, 1) := by decide +kernel
theorem dL_fightByRecord_1 : decode cL_fightByRecord 1 = .ok (.iconst 0, 1) := by decide +kernel
theorem dL_fightByRecord_2 : decode cL_fightByRecord 2 = .ok (.aload_n 0, 1) := by decide +kernel
theorem dL_fightByRecord_3 : decode cL_fightByRecord 3 = .ok (.iload_n 1, 1) := by decide +kernel
theorem dL_fightByRecord_4 : decode cL_fightByRecord 4 = .ok (.iload_n 2, 1) := by decide +kernel
theorem dL_fightByRecord_5 : decode cL_fightByRecord 5 = .ok (.invokevirtual 51, 3) := by decide +kernel
theorem dL_fightByRecord_8 : decode cL_fightByRecord 8 = .ok (.i2l, 1) := by decide +kernel
theorem dL_fightByRecord_9 : decode cL_fightByRecord 9 = .ok (.lastore, 1) := by decide +kernel
theorem dL_fightByRecord_10 : decode cL_fightByRecord 10 = .ok (.goto 11, 3) := by decide +kernel
theorem dL_fightByRecord_13 : decode cL_fightByRecord 13 = .ok (.astore 4, 2) := by decide +kernel
theorem dL_fightByRecord_15 : decode cL_fightByRecord 15 = .ok (.iconst 1, 1) := by decide +kernel
theorem dL_fightByRecord_16 : decode cL_fightByRecord 16 = .ok (.ireturn, 1) := by decide +kernel
theorem dL_fightByRecord_17 : decode cL_fightByRecord 17 = .ok (.astore 4, 2) := by decide +kernel
theorem dL_fightByRecord_19 : decode cL_fightByRecord 19 = .ok (.iconst 2, 1) := by decide +kernel
theorem dL_fightByRecord_20 : decode cL_fightByRecord 20 = .ok (.ireturn, 1) := by decide +kernel
theorem dL_fightByRecord_21 : decode cL_fightByRecord 21 = .ok (.iconst 0, 1) := by decide +kernel
theorem dL_fightByRecord_22 : decode cL_fightByRecord 22 = .ok (.ireturn, 1) := by decide +kernel
theorem dL_gold_0 : decode cL_gold 0 = .ok (.aload_n 2, 1) := by decide +kernel
theorem dL_gold_1 : decode cL_gold 1 = .ok (.iconst 0, 1) := by decide +kernel
theorem dL_gold_2 : decode cL_gold 2 = .ok (.aload_n 0, 1) := by decide +kernel
theorem dL_gold_3 : decode cL_gold 3 = .ok (.iload_n 1, 1) := by decide +kernel
theorem dL_gold_4 : decode cL_gold 4 = .ok (.invokevirtual 54, 3) := by decide +kernel
theorem dL_gold_7 : decode cL_gold 7 = .ok (.i2l, 1) := by decide +kernel
theorem dL_gold_8 : decode cL_gold 8 = .ok (.lastore, 1) := by decide +kernel
theorem dL_gold_9 : decode cL_gold 9 = .ok (.goto 6, 3) := by decide +kernel
theorem dL_gold_12 : decode cL_gold 12 = .ok (.astore_n 3, 1) := by decide +kernel
theorem dL_gold_13 : decode cL_gold 13 = .ok (.iconst 1, 1) := by decide +kernel
theorem dL_gold_14 : decode cL_gold 14 = .ok (.ireturn, 1) := by decide +kernel
theorem dL_gold_15 : decode cL_gold 15 = .ok (.iconst 0, 1) := by decide +kernel
theorem dL_gold_16 : decode cL_gold 16 = .ok (.ireturn, 1) := by decide +kernel
theorem dL_health_0 : decode cL_health 0 = .ok (.aload_n 2, 1) := by decide +kernel
theorem dL_health_1 : decode cL_health 1 = .ok (.iconst 0, 1) := by decide +kernel
theorem dL_health_2 : decode cL_health 2 = .ok (.aload_n 0, 1) := by decide +kernel
theorem dL_health_3 : decode cL_health 3 = .ok (.iload_n 1, 1) := by decide +kernel
theorem dL_health_4 : decode cL_health 4 = .ok (.invokevirtual 57, 3) := by decide +kernel
theorem dL_health_7 : decode cL_health 7 = .ok (.i2l, 1) := by decide +kernel
theorem dL_health_8 : decode cL_health 8 = .ok (.lastore, 1) := by decide +kernel
theorem dL_health_9 : decode cL_health 9 = .ok (.goto 6, 3) := by decide +kernel
theorem dL_health_12 : decode cL_health 12 = .ok (.astore_n 3, 1) := by decide +kernel
theorem dL_health_13 : decode cL_health 13 = .ok (.iconst 1, 1) := by decide +kernel
theorem dL_health_14 : decode cL_health 14 = .ok (.ireturn, 1) := by decide +kernel
theorem dL_health_15 : decode cL_health 15 = .ok (.iconst 0, 1) := by decide +kernel
theorem dL_health_16 : decode cL_health 16 = .ok (.ireturn, 1) := by decide +kernel
theorem dL_streak_0 : decode cL_streak 0 = .ok (.aload_n 2, 1) := by decide +kernel
theorem dL_streak_1 : decode cL_streak 1 = .ok (.iconst 0, 1) := by decide +kernel
theorem dL_streak_2 : decode cL_streak 2 = .ok (.aload_n 0, 1) := by decide +kernel
theorem dL_streak_3 : decode cL_streak 3 = .ok (.iload_n 1, 1) := by decide +kernel
theorem dL_streak_4 : decode cL_streak 4 = .ok (.invokevirtual 60, 3) := by decide +kernel
theorem dL_streak_7 : decode cL_streak 7 = .ok (.i2l, 1) := by decide +kernel
theorem dL_streak_8 : decode cL_streak 8 = .ok (.lastore, 1) := by decide +kernel
theorem dL_streak_9 : decode cL_streak 9 = .ok (.goto 6, 3) := by decide +kernel
theorem dL_streak_12 : decode cL_streak 12 = .ok (.astore_n 3, 1) := by decide +kernel
theorem dL_streak_13 : decode cL_streak 13 = .ok (.iconst 1, 1) := by decide +kernel
theorem dL_streak_14 : decode cL_streak 14 = .ok (.ireturn, 1) := by decide +kernel
theorem dL_streak_15 : decode cL_streak 15 = .ok (.iconst 0, 1) := by decide +kernel
theorem dL_streak_16 : decode cL_streak 16 = .ok (.ireturn, 1) := by decide +kernel
theorem dL_shopAt_0 : decode cL_shopAt 0 = .ok (.aload_n 3, 1) := by decide +kernel
theorem dL_shopAt_1 : decode cL_shopAt 1 = .ok (.iconst 0, 1) := by decide +kernel
theorem dL_shopAt_2 : decode cL_shopAt 2 = .ok (.aload_n 0, 1) := by decide +kernel
theorem dL_shopAt_3 : decode cL_shopAt 3 = .ok (.iload_n 1, 1) := by decide +kernel
theorem dL_shopAt_4 : decode cL_shopAt 4 = .ok (.iload_n 2, 1) := by decide +kernel
theorem dL_shopAt_5 : decode cL_shopAt 5 = .ok (.invokevirtual 63, 3) := by decide +kernel
theorem dL_shopAt_8 : decode cL_shopAt 8 = .ok (.i2l, 1) := by decide +kernel
theorem dL_shopAt_9 : decode cL_shopAt 9 = .ok (.lastore, 1) := by decide +kernel
theorem dL_shopAt_10 : decode cL_shopAt 10 = .ok (.goto 7, 3) := by decide +kernel
theorem dL_shopAt_13 : decode cL_shopAt 13 = .ok (.astore 4, 2) := by decide +kernel
theorem dL_shopAt_15 : decode cL_shopAt 15 = .ok (.iconst 1, 1) := by decide +kernel
theorem dL_shopAt_16 : decode cL_shopAt 16 = .ok (.ireturn, 1) := by decide +kernel
theorem dL_shopAt_17 : decode cL_shopAt 17 = .ok (.iconst 0, 1) := by decide +kernel
theorem dL_shopAt_18 : decode cL_shopAt 18 = .ok (.ireturn, 1) := by decide +kernel
theorem dL_benchAt_0 : decode cL_benchAt 0 = .ok (.aload_n 3, 1) := by decide +kernel
theorem dL_benchAt_1 : decode cL_benchAt 1 = .ok (.iconst 0, 1) := by decide +kernel
theorem dL_benchAt_2 : decode cL_benchAt 2 = .ok (.aload_n 0, 1) := by decide +kernel
theorem dL_benchAt_3 : decode cL_benchAt 3 = .ok (.iload_n 1, 1) := by decide +kernel
theorem dL_benchAt_4 : decode cL_benchAt 4 = .ok (.iload_n 2, 1) := by decide +kernel
theorem dL_benchAt_5 : decode cL_benchAt 5 = .ok (.invokevirtual 66, 3) := by decide +kernel
theorem dL_benchAt_8 : decode cL_benchAt 8 = .ok (.i2l, 1) := by decide +kernel
theorem dL_benchAt_9 : decode cL_benchAt 9 = .ok (.lastore, 1) := by decide +kernel
theorem dL_benchAt_10 : decode cL_benchAt 10 = .ok (.goto 7, 3) := by decide +kernel
theorem dL_benchAt_13 : decode cL_benchAt 13 = .ok (.astore 4, 2) := by decide +kernel
theorem dL_benchAt_15 : decode cL_benchAt 15 = .ok (.iconst 1, 1) := by decide +kernel
theorem dL_benchAt_16 : decode cL_benchAt 16 = .ok (.ireturn, 1) := by decide +kernel
theorem dL_benchAt_17 : decode cL_benchAt 17 = .ok (.iconst 0, 1) := by decide +kernel
theorem dL_benchAt_18 : decode cL_benchAt 18 = .ok (.ireturn, 1) := by decide +kernel
theorem dL_boardAt_0 : decode cL_boardAt 0 = .ok (.aload_n 3, 1) := by decide +kernel
theorem dL_boardAt_1 : decode cL_boardAt 1 = .ok (.iconst 0, 1) := by decide +kernel
theorem dL_boardAt_2 : decode cL_boardAt 2 = .ok (.aload_n 0, 1) := by decide +kernel
theorem dL_boardAt_3 : decode cL_boardAt 3 = .ok (.iload_n 1, 1) := by decide +kernel
theorem dL_boardAt_4 : decode cL_boardAt 4 = .ok (.iload_n 2, 1) := by decide +kernel
theorem dL_boardAt_5 : decode cL_boardAt 5 = .ok (.invokevirtual 69, 3) := by decide +kernel
theorem dL_boardAt_8 : decode cL_boardAt 8 = .ok (.i2l, 1) := by decide +kernel
theorem dL_boardAt_9 : decode cL_boardAt 9 = .ok (.lastore, 1) := by decide +kernel
theorem dL_boardAt_10 : decode cL_boardAt 10 = .ok (.goto 7, 3) := by decide +kernel
theorem dL_boardAt_13 : decode cL_boardAt 13 = .ok (.astore 4, 2) := by decide +kernel
theorem dL_boardAt_15 : decode cL_boardAt 15 = .ok (.iconst 1, 1) := by decide +kernel
theorem dL_boardAt_16 : decode cL_boardAt 16 = .ok (.ireturn, 1) := by decide +kernel
theorem dL_boardAt_17 : decode cL_boardAt 17 = .ok (.iconst 0, 1) := by decide +kernel
theorem dL_boardAt_18 : decode cL_boardAt 18 = .ok (.ireturn, 1) := by decide +kernel
theorem dL_blow_0 : decode cL_blow 0 = .ok (.aload_n 3, 1) := by decide +kernel
theorem dL_blow_1 : decode cL_blow 1 = .ok (.iconst 0, 1) := by decide +kernel
theorem dL_blow_2 : decode cL_blow 2 = .ok (.aload_n 0, 1) := by decide +kernel
theorem dL_blow_3 : decode cL_blow 3 = .ok (.iload_n 1, 1) := by decide +kernel
theorem dL_blow_4 : decode cL_blow 4 = .ok (.iload_n 2, 1) := by decide +kernel
theorem dL_blow_5 : decode cL_blow 5 = .ok (.invokevirtual 72, 3) := by decide +kernel
theorem dL_blow_8 : decode cL_blow 8 = .ok (.i2l, 1) := by decide +kernel
theorem dL_blow_9 : decode cL_blow 9 = .ok (.lastore, 1) := by decide +kernel
theorem dL_blow_10 : decode cL_blow 10 = .ok (.goto 7, 3) := by decide +kernel
theorem dL_blow_13 : decode cL_blow 13 = .ok (.astore 4, 2) := by decide +kernel
theorem dL_blow_15 : decode cL_blow 15 = .ok (.iconst 1, 1) := by decide +kernel
theorem dL_blow_16 : decode cL_blow 16 = .ok (.ireturn, 1) := by decide +kernel
theorem dL_blow_17 : decode cL_blow 17 = .ok (.iconst 0, 1) := by decide +kernel
theorem dL_blow_18 : decode cL_blow 18 = .ok (.ireturn, 1) := by decide +kernel
theorem dL_pool_0 : decode cL_pool 0 = .ok (.aload_n 2, 1) := by decide +kernel
theorem dL_pool_1 : decode cL_pool 1 = .ok (.iconst 0, 1) := by decide +kernel
theorem dL_pool_2 : decode cL_pool 2 = .ok (.aload_n 0, 1) := by decide +kernel
theorem dL_pool_3 : decode cL_pool 3 = .ok (.iload_n 1, 1) := by decide +kernel
theorem dL_pool_4 : decode cL_pool 4 = .ok (.invokevirtual 75, 3) := by decide +kernel
theorem dL_pool_7 : decode cL_pool 7 = .ok (.i2l, 1) := by decide +kernel
theorem dL_pool_8 : decode cL_pool 8 = .ok (.lastore, 1) := by decide +kernel
theorem dL_pool_9 : decode cL_pool 9 = .ok (.goto 6, 3) := by decide +kernel
theorem dL_pool_12 : decode cL_pool 12 = .ok (.astore_n 3, 1) := by decide +kernel
theorem dL_pool_13 : decode cL_pool 13 = .ok (.iconst 1, 1) := by decide +kernel
theorem dL_pool_14 : decode cL_pool 14 = .ok (.ireturn, 1) := by decide +kernel
theorem dL_pool_15 : decode cL_pool 15 = .ok (.iconst 0, 1) := by decide +kernel
theorem dL_pool_16 : decode cL_pool 16 = .ok (.ireturn, 1) := by decide +kernel
theorem dL_out_0 : decode cL_out 0 = .ok (.aload_n 2, 1) := by decide +kernel
theorem dL_out_1 : decode cL_out 1 = .ok (.iconst 0, 1) := by decide +kernel
theorem dL_out_2 : decode cL_out 2 = .ok (.aload_n 0, 1) := by decide +kernel
theorem dL_out_3 : decode cL_out 3 = .ok (.iload_n 1, 1) := by decide +kernel
theorem dL_out_4 : decode cL_out 4 = .ok (.invokevirtual 78, 3) := by decide +kernel
theorem dL_out_7 : decode cL_out 7 = .ok (.i2l, 1) := by decide +kernel
theorem dL_out_8 : decode cL_out 8 = .ok (.lastore, 1) := by decide +kernel
theorem dL_out_9 : decode cL_out 9 = .ok (.goto 6, 3) := by decide +kernel
theorem dL_out_12 : decode cL_out 12 = .ok (.astore_n 3, 1) := by decide +kernel
theorem dL_out_13 : decode cL_out 13 = .ok (.iconst 1, 1) := by decide +kernel
theorem dL_out_14 : decode cL_out 14 = .ok (.ireturn, 1) := by decide +kernel
theorem dL_out_15 : decode cL_out 15 = .ok (.iconst 0, 1) := by decide +kernel
theorem dL_out_16 : decode cL_out 16 = .ok (.ireturn, 1) := by decide +kernel
theorem dL_law_0 : decode cL_law 0 = .ok (.new 8, 3) := by decide +kernel
theorem dL_law_3 : decode cL_law 3 = .ok (.dup, 1) := by decide +kernel
theorem dL_law_4 : decode cL_law 4 = .ok (.invokespecial 81, 3) := by decide +kernel
theorem dL_law_7 : decode cL_law 7 = .ok (.astore_n 1, 1) := by decide +kernel
theorem dL_law_8 : decode cL_law 8 = .ok (.new 82, 3) := by decide +kernel
theorem dL_law_11 : decode cL_law 11 = .ok (.dup, 1) := by decide +kernel
theorem dL_law_12 : decode cL_law 12 = .ok (.invokespecial 84, 3) := by decide +kernel
theorem dL_law_15 : decode cL_law 15 = .ok (.astore_n 2, 1) := by decide +kernel
theorem dL_law_16 : decode cL_law 16 = .ok (.iconst 1, 1) := by decide +kernel
theorem dL_law_17 : decode cL_law 17 = .ok (.newarray .long, 2) := by decide +kernel
theorem dL_law_19 : decode cL_law 19 = .ok (.astore_n 3, 1) := by decide +kernel
theorem dL_law_20 : decode cL_law 20 = .ok (.iconst 0, 1) := by decide +kernel
theorem dL_law_21 : decode cL_law 21 = .ok (.istore 4, 2) := by decide +kernel
theorem dL_law_23 : decode cL_law 23 = .ok (.iload 4, 2) := by decide +kernel
theorem dL_law_25 : decode cL_law 25 = .ok (.aload_n 0, 1) := by decide +kernel
theorem dL_law_26 : decode cL_law 26 = .ok (.arraylength, 1) := by decide +kernel
theorem dL_law_27 : decode cL_law 27 = .ok (.iconst 3, 1) := by decide +kernel
theorem dL_law_28 : decode cL_law 28 = .ok (.isub, 1) := by decide +kernel
theorem dL_law_29 : decode cL_law 29 = .ok (.if_icmp .gt 1361, 3) := by decide +kernel
theorem dL_law_32 : decode cL_law 32 = .ok (.aload_n 0, 1) := by decide +kernel
theorem dL_law_33 : decode cL_law 33 = .ok (.iload 4, 2) := by decide +kernel
theorem dL_law_35 : decode cL_law 35 = .ok (.iaload, 1) := by decide +kernel
theorem dL_law_36 : decode cL_law 36 = .ok (.bipush 31, 2) := by decide +kernel
theorem dL_law_38 : decode cL_law 38 = .ok (.iand, 1) := by decide +kernel
theorem dL_law_39 : decode cL_law 39 = .ok (.tableswitch 1345 0 20 #[97, 153, 209, 272, 328, 396, 464, 532, 600, 644, 657, 725, 793, 849, 905, 961, 1029, 1097, 1165, 1233, 1289], 97) := by decide +kernel
theorem dL_law_136 : decode cL_law 136 = .ok (.aload_n 1, 1) := by decide +kernel
theorem dL_law_137 : decode cL_law 137 = .ok (.aload_n 0, 1) := by decide +kernel
theorem dL_law_138 : decode cL_law 138 = .ok (.iload 4, 2) := by decide +kernel
theorem dL_law_140 : decode cL_law 140 = .ok (.iconst 1, 1) := by decide +kernel
theorem dL_law_141 : decode cL_law 141 = .ok (.iadd, 1) := by decide +kernel
theorem dL_law_142 : decode cL_law 142 = .ok (.iaload, 1) := by decide +kernel
theorem dL_law_143 : decode cL_law 143 = .ok (.aload_n 3, 1) := by decide +kernel
theorem dL_law_144 : decode cL_law 144 = .ok (.invokestatic 85, 3) := by decide +kernel
theorem dL_law_147 : decode cL_law 147 = .ok (.istore 5, 2) := by decide +kernel
theorem dL_law_149 : decode cL_law 149 = .ok (.aload_n 2, 1) := by decide +kernel
theorem dL_law_150 : decode cL_law 150 = .ok (.aload_n 0, 1) := by decide +kernel
theorem dL_law_151 : decode cL_law 151 = .ok (.iload 4, 2) := by decide +kernel
theorem dL_law_153 : decode cL_law 153 = .ok (.iconst 1, 1) := by decide +kernel
theorem dL_law_154 : decode cL_law 154 = .ok (.iadd, 1) := by decide +kernel
theorem dL_law_155 : decode cL_law 155 = .ok (.iaload, 1) := by decide +kernel
theorem dL_law_156 : decode cL_law 156 = .ok (.invokevirtual 90, 3) := by decide +kernel
theorem dL_law_159 : decode cL_law 159 = .ok (.istore 6, 2) := by decide +kernel
theorem dL_law_161 : decode cL_law 161 = .ok (.aload_n 2, 1) := by decide +kernel
theorem dL_law_162 : decode cL_law 162 = .ok (.invokevirtual 91, 3) := by decide +kernel
theorem dL_law_165 : decode cL_law 165 = .ok (.iload 5, 2) := by decide +kernel
theorem dL_law_167 : decode cL_law 167 = .ok (.if_icmp .eq 5, 3) := by decide +kernel
theorem dL_law_170 : decode cL_law 170 = .ok (.iconst 0, 1) := by decide +kernel
theorem dL_law_171 : decode cL_law 171 = .ok (.ireturn, 1) := by decide +kernel
theorem dL_law_172 : decode cL_law 172 = .ok (.iload 5, 2) := by decide +kernel
theorem dL_law_174 : decode cL_law 174 = .ok (.ifCond .ne 15, 3) := by decide +kernel
theorem dL_law_177 : decode cL_law 177 = .ok (.aload_n 3, 1) := by decide +kernel
theorem dL_law_178 : decode cL_law 178 = .ok (.iconst 0, 1) := by decide +kernel
theorem dL_law_179 : decode cL_law 179 = .ok (.laload, 1) := by decide +kernel
theorem dL_law_180 : decode cL_law 180 = .ok (.iload 6, 2) := by decide +kernel
theorem dL_law_182 : decode cL_law 182 = .ok (.i2l, 1) := by decide +kernel
theorem dL_law_183 : decode cL_law 183 = .ok (.lcmp, 1) := by decide +kernel
theorem dL_law_184 : decode cL_law 184 = .ok (.ifCond .eq 5, 3) := by decide +kernel
theorem dL_law_187 : decode cL_law 187 = .ok (.iconst 0, 1) := by decide +kernel
theorem dL_law_188 : decode cL_law 188 = .ok (.ireturn, 1) := by decide +kernel
theorem dL_law_189 : decode cL_law 189 = .ok (.goto 1195, 3) := by decide +kernel
theorem dL_law_192 : decode cL_law 192 = .ok (.aload_n 1, 1) := by decide +kernel
theorem dL_law_193 : decode cL_law 193 = .ok (.aload_n 0, 1) := by decide +kernel
theorem dL_law_194 : decode cL_law 194 = .ok (.iload 4, 2) := by decide +kernel
theorem dL_law_196 : decode cL_law 196 = .ok (.iconst 1, 1) := by decide +kernel
theorem dL_law_197 : decode cL_law 197 = .ok (.iadd, 1) := by decide +kernel
theorem dL_law_198 : decode cL_law 198 = .ok (.iaload, 1) := by decide +kernel
theorem dL_law_199 : decode cL_law 199 = .ok (.aload_n 3, 1) := by decide +kernel
theorem dL_law_200 : decode cL_law 200 = .ok (.invokestatic 94, 3) := by decide +kernel
theorem dL_law_203 : decode cL_law 203 = .ok (.istore 5, 2) := by decide +kernel
theorem dL_law_205 : decode cL_law 205 = .ok (.aload_n 2, 1) := by decide +kernel
theorem dL_law_206 : decode cL_law 206 = .ok (.aload_n 0, 1) := by decide +kernel
theorem dL_law_207 : decode cL_law 207 = .ok (.iload 4, 2) := by decide +kernel
theorem dL_law_209 : decode cL_law 209 = .ok (.iconst 1, 1) := by decide +kernel
theorem dL_law_210 : decode cL_law 210 = .ok (.iadd, 1) := by decide +kernel
theorem dL_law_211 : decode cL_law 211 = .ok (.iaload, 1) := by decide +kernel
theorem dL_law_212 : decode cL_law 212 = .ok (.invokevirtual 96, 3) := by decide +kernel
theorem dL_law_215 : decode cL_law 215 = .ok (.istore 6, 2) := by decide +kernel
theorem dL_law_217 : decode cL_law 217 = .ok (.aload_n 2, 1) := by decide +kernel
theorem dL_law_218 : decode cL_law 218 = .ok (.invokevirtual 91, 3) := by decide +kernel
theorem dL_law_221 : decode cL_law 221 = .ok (.iload 5, 2) := by decide +kernel
theorem dL_law_223 : decode cL_law 223 = .ok (.if_icmp .eq 5, 3) := by decide +kernel
theorem dL_law_226 : decode cL_law 226 = .ok (.iconst 0, 1) := by decide +kernel
theorem dL_law_227 : decode cL_law 227 = .ok (.ireturn, 1) := by decide +kernel
theorem dL_law_228 : decode cL_law 228 = .ok (.iload 5, 2) := by decide +kernel
theorem dL_law_230 : decode cL_law 230 = .ok (.ifCond .ne 15, 3) := by decide +kernel
theorem dL_law_233 : decode cL_law 233 = .ok (.aload_n 3, 1) := by decide +kernel
theorem dL_law_234 : decode cL_law 234 = .ok (.iconst 0, 1) := by decide +kernel
theorem dL_law_235 : decode cL_law 235 = .ok (.laload, 1) := by decide +kernel
theorem dL_law_236 : decode cL_law 236 = .ok (.iload 6, 2) := by decide +kernel
theorem dL_law_238 : decode cL_law 238 = .ok (.i2l, 1) := by decide +kernel
theorem dL_law_239 : decode cL_law 239 = .ok (.lcmp, 1) := by decide +kernel
theorem dL_law_240 : decode cL_law 240 = .ok (.ifCond .eq 5, 3) := by decide +kernel
theorem dL_law_243 : decode cL_law 243 = .ok (.iconst 0, 1) := by decide +kernel
theorem dL_law_244 : decode cL_law 244 = .ok (.ireturn, 1) := by decide +kernel
theorem dL_law_245 : decode cL_law 245 = .ok (.goto 1139, 3) := by decide +kernel
theorem dL_law_248 : decode cL_law 248 = .ok (.aload_n 1, 1) := by decide +kernel
theorem dL_law_249 : decode cL_law 249 = .ok (.aload_n 0, 1) := by decide +kernel
theorem dL_law_250 : decode cL_law 250 = .ok (.iload 4, 2) := by decide +kernel
theorem dL_law_252 : decode cL_law 252 = .ok (.iconst 1, 1) := by decide +kernel
theorem dL_law_253 : decode cL_law 253 = .ok (.iadd, 1) := by decide +kernel
theorem dL_law_254 : decode cL_law 254 = .ok (.iaload, 1) := by decide +kernel
theorem dL_law_255 : decode cL_law 255 = .ok (.aload_n 3, 1) := by decide +kernel
theorem dL_law_256 : decode cL_law 256 = .ok (.invokestatic 97, 3) := by decide +kernel
theorem dL_law_259 : decode cL_law 259 = .ok (.istore 5, 2) := by decide +kernel
theorem dL_law_261 : decode cL_law 261 = .ok (.aload_n 2, 1) := by decide +kernel
theorem dL_law_262 : decode cL_law 262 = .ok (.aload_n 0, 1) := by decide +kernel
theorem dL_law_263 : decode cL_law 263 = .ok (.iload 4, 2) := by decide +kernel
theorem dL_law_265 : decode cL_law 265 = .ok (.iconst 1, 1) := by decide +kernel
theorem dL_law_266 : decode cL_law 266 = .ok (.iadd, 1) := by decide +kernel
theorem dL_law_267 : decode cL_law 267 = .ok (.iaload, 1) := by decide +kernel
theorem dL_law_268 : decode cL_law 268 = .ok (.invokevirtual 99, 3) := by decide +kernel
theorem dL_law_271 : decode cL_law 271 = .ok (.istore 6, 2) := by decide +kernel
theorem dL_law_273 : decode cL_law 273 = .ok (.aload_n 2, 1) := by decide +kernel
theorem dL_law_274 : decode cL_law 274 = .ok (.invokevirtual 91, 3) := by decide +kernel
theorem dL_law_277 : decode cL_law 277 = .ok (.iload 5, 2) := by decide +kernel
theorem dL_law_279 : decode cL_law 279 = .ok (.if_icmp .eq 5, 3) := by decide +kernel
theorem dL_law_282 : decode cL_law 282 = .ok (.iconst 0, 1) := by decide +kernel
theorem dL_law_283 : decode cL_law 283 = .ok (.ireturn, 1) := by decide +kernel
theorem dL_law_284 : decode cL_law 284 = .ok (.iload 5, 2) := by decide +kernel
theorem dL_law_286 : decode cL_law 286 = .ok (.ifCond .ne 22, 3) := by decide +kernel
theorem dL_law_289 : decode cL_law 289 = .ok (.aload_n 3, 1) := by decide +kernel
theorem dL_law_290 : decode cL_law 290 = .ok (.iconst 0, 1) := by decide +kernel
theorem dL_law_291 : decode cL_law 291 = .ok (.laload, 1) := by decide +kernel
theorem dL_law_292 : decode cL_law 292 = .ok (.iload 6, 2) := by decide +kernel
theorem dL_law_294 : decode cL_law 294 = .ok (.ifCond .eq 7, 3) := by decide +kernel
theorem dL_law_297 : decode cL_law 297 = .ok (.lconst 1, 1) := by decide +kernel
theorem dL_law_298 : decode cL_law 298 = .ok (.goto 4, 3) := by decide +kernel
theorem dL_law_301 : decode cL_law 301 = .ok (.lconst 0, 1) := by decide +kernel
theorem dL_law_302 : decode cL_law 302 = .ok (.lcmp, 1) := by decide +kernel
theorem dL_law_303 : decode cL_law 303 = .ok (.ifCond .eq 5, 3) := by decide +kernel
theorem dL_law_306 : decode cL_law 306 = .ok (.iconst 0, 1) := by decide +kernel
theorem dL_law_307 : decode cL_law 307 = .ok (.ireturn, 1) := by decide +kernel
theorem dL_law_308 : decode cL_law 308 = .ok (.goto 1076, 3) := by decide +kernel
theorem dL_law_311 : decode cL_law 311 = .ok (.aload_n 1, 1) := by decide +kernel
theorem dL_law_312 : decode cL_law 312 = .ok (.aload_n 0, 1) := by decide +kernel
theorem dL_law_313 : decode cL_law 313 = .ok (.iload 4, 2) := by decide +kernel
theorem dL_law_315 : decode cL_law 315 = .ok (.iconst 1, 1) := by decide +kernel
theorem dL_law_316 : decode cL_law 316 = .ok (.iadd, 1) := by decide +kernel
theorem dL_law_317 : decode cL_law 317 = .ok (.iaload, 1) := by decide +kernel
theorem dL_law_318 : decode cL_law 318 = .ok (.aload_n 3, 1) := by decide +kernel
theorem dL_law_319 : decode cL_law 319 = .ok (.invokestatic 100, 3) := by decide +kernel
theorem dL_law_322 : decode cL_law 322 = .ok (.istore 5, 2) := by decide +kernel
theorem dL_law_324 : decode cL_law 324 = .ok (.aload_n 2, 1) := by decide +kernel
theorem dL_law_325 : decode cL_law 325 = .ok (.aload_n 0, 1) := by decide +kernel
theorem dL_law_326 : decode cL_law 326 = .ok (.iload 4, 2) := by decide +kernel
theorem dL_law_328 : decode cL_law 328 = .ok (.iconst 1, 1) := by decide +kernel
theorem dL_law_329 : decode cL_law 329 = .ok (.iadd, 1) := by decide +kernel
theorem dL_law_330 : decode cL_law 330 = .ok (.iaload, 1) := by decide +kernel
theorem dL_law_331 : decode cL_law 331 = .ok (.invokevirtual 102, 3) := by decide +kernel
theorem dL_law_334 : decode cL_law 334 = .ok (.istore 6, 2) := by decide +kernel
theorem dL_law_336 : decode cL_law 336 = .ok (.aload_n 2, 1) := by decide +kernel
theorem dL_law_337 : decode cL_law 337 = .ok (.invokevirtual 91, 3) := by decide +kernel
theorem dL_law_340 : decode cL_law 340 = .ok (.iload 5, 2) := by decide +kernel
theorem dL_law_342 : decode cL_law 342 = .ok (.if_icmp .eq 5, 3) := by decide +kernel
theorem dL_law_345 : decode cL_law 345 = .ok (.iconst 0, 1) := by decide +kernel
theorem dL_law_346 : decode cL_law 346 = .ok (.ireturn, 1) := by decide +kernel
theorem dL_law_347 : decode cL_law 347 = .ok (.iload 5, 2) := by decide +kernel
theorem dL_law_349 : decode cL_law 349 = .ok (.ifCond .ne 15, 3) := by decide +kernel
theorem dL_law_352 : decode cL_law 352 = .ok (.aload_n 3, 1) := by decide +kernel
theorem dL_law_353 : decode cL_law 353 = .ok (.iconst 0, 1) := by decide +kernel
theorem dL_law_354 : decode cL_law 354 = .ok (.laload, 1) := by decide +kernel
theorem dL_law_355 : decode cL_law 355 = .ok (.iload 6, 2) := by decide +kernel
theorem dL_law_357 : decode cL_law 357 = .ok (.i2l, 1) := by decide +kernel
theorem dL_law_358 : decode cL_law 358 = .ok (.lcmp, 1) := by decide +kernel
theorem dL_law_359 : decode cL_law 359 = .ok (.ifCond .eq 5, 3) := by decide +kernel
theorem dL_law_362 : decode cL_law 362 = .ok (.iconst 0, 1) := by decide +kernel
theorem dL_law_363 : decode cL_law 363 = .ok (.ireturn, 1) := by decide +kernel
theorem dL_law_364 : decode cL_law 364 = .ok (.goto 1020, 3) := by decide +kernel
theorem dL_law_367 : decode cL_law 367 = .ok (.aload_n 1, 1) := by decide +kernel
theorem dL_law_368 : decode cL_law 368 = .ok (.aload_n 0, 1) := by decide +kernel
theorem dL_law_369 : decode cL_law 369 = .ok (.iload 4, 2) := by decide +kernel
theorem dL_law_371 : decode cL_law 371 = .ok (.iconst 1, 1) := by decide +kernel
theorem dL_law_372 : decode cL_law 372 = .ok (.iadd, 1) := by decide +kernel
theorem dL_law_373 : decode cL_law 373 = .ok (.iaload, 1) := by decide +kernel
theorem dL_law_374 : decode cL_law 374 = .ok (.aload_n 0, 1) := by decide +kernel
theorem dL_law_375 : decode cL_law 375 = .ok (.iload 4, 2) := by decide +kernel
theorem dL_law_377 : decode cL_law 377 = .ok (.iconst 2, 1) := by decide +kernel
theorem dL_law_378 : decode cL_law 378 = .ok (.iadd, 1) := by decide +kernel
theorem dL_law_379 : decode cL_law 379 = .ok (.iaload, 1) := by decide +kernel
theorem dL_law_380 : decode cL_law 380 = .ok (.aload_n 3, 1) := by decide +kernel
theorem dL_law_381 : decode cL_law 381 = .ok (.invokestatic 103, 3) := by decide +kernel
theorem dL_law_384 : decode cL_law 384 = .ok (.istore 5, 2) := by decide +kernel
theorem dL_law_386 : decode cL_law 386 = .ok (.aload_n 2, 1) := by decide +kernel
theorem dL_law_387 : decode cL_law 387 = .ok (.aload_n 0, 1) := by decide +kernel
theorem dL_law_388 : decode cL_law 388 = .ok (.iload 4, 2) := by decide +kernel
theorem dL_law_390 : decode cL_law 390 = .ok (.iconst 1, 1) := by decide +kernel
theorem dL_law_391 : decode cL_law 391 = .ok (.iadd, 1) := by decide +kernel
theorem dL_law_392 : decode cL_law 392 = .ok (.iaload, 1) := by decide +kernel
theorem dL_law_393 : decode cL_law 393 = .ok (.aload_n 0, 1) := by decide +kernel
theorem dL_law_394 : decode cL_law 394 = .ok (.iload 4, 2) := by decide +kernel
theorem dL_law_396 : decode cL_law 396 = .ok (.iconst 2, 1) := by decide +kernel
theorem dL_law_397 : decode cL_law 397 = .ok (.iadd, 1) := by decide +kernel
theorem dL_law_398 : decode cL_law 398 = .ok (.iaload, 1) := by decide +kernel
theorem dL_law_399 : decode cL_law 399 = .ok (.invokevirtual 106, 3) := by decide +kernel
theorem dL_law_402 : decode cL_law 402 = .ok (.istore 6, 2) := by decide +kernel
theorem dL_law_404 : decode cL_law 404 = .ok (.aload_n 2, 1) := by decide +kernel
theorem dL_law_405 : decode cL_law 405 = .ok (.invokevirtual 91, 3) := by decide +kernel
theorem dL_law_408 : decode cL_law 408 = .ok (.iload 5, 2) := by decide +kernel
theorem dL_law_410 : decode cL_law 410 = .ok (.if_icmp .eq 5, 3) := by decide +kernel
theorem dL_law_413 : decode cL_law 413 = .ok (.iconst 0, 1) := by decide +kernel
theorem dL_law_414 : decode cL_law 414 = .ok (.ireturn, 1) := by decide +kernel
theorem dL_law_415 : decode cL_law 415 = .ok (.iload 5, 2) := by decide +kernel
theorem dL_law_417 : decode cL_law 417 = .ok (.ifCond .ne 15, 3) := by decide +kernel
theorem dL_law_420 : decode cL_law 420 = .ok (.aload_n 3, 1) := by decide +kernel
theorem dL_law_421 : decode cL_law 421 = .ok (.iconst 0, 1) := by decide +kernel
theorem dL_law_422 : decode cL_law 422 = .ok (.laload, 1) := by decide +kernel
theorem dL_law_423 : decode cL_law 423 = .ok (.iload 6, 2) := by decide +kernel
theorem dL_law_425 : decode cL_law 425 = .ok (.i2l, 1) := by decide +kernel
theorem dL_law_426 : decode cL_law 426 = .ok (.lcmp, 1) := by decide +kernel
theorem dL_law_427 : decode cL_law 427 = .ok (.ifCond .eq 5, 3) := by decide +kernel
theorem dL_law_430 : decode cL_law 430 = .ok (.iconst 0, 1) := by decide +kernel
theorem dL_law_431 : decode cL_law 431 = .ok (.ireturn, 1) := by decide +kernel
theorem dL_law_432 : decode cL_law 432 = .ok (.goto 952, 3) := by decide +kernel
theorem dL_law_435 : decode cL_law 435 = .ok (.aload_n 1, 1) := by decide +kernel
theorem dL_law_436 : decode cL_law 436 = .ok (.aload_n 0, 1) := by decide +kernel
theorem dL_law_437 : decode cL_law 437 = .ok (.iload 4, 2) := by decide +kernel
theorem dL_law_439 : decode cL_law 439 = .ok (.iconst 1, 1) := by decide +kernel
theorem dL_law_440 : decode cL_law 440 = .ok (.iadd, 1) := by decide +kernel
theorem dL_law_441 : decode cL_law 441 = .ok (.iaload, 1) := by decide +kernel
theorem dL_law_442 : decode cL_law 442 = .ok (.aload_n 0, 1) := by decide +kernel
theorem dL_law_443 : decode cL_law 443 = .ok (.iload 4, 2) := by decide +kernel
theorem dL_law_445 : decode cL_law 445 = .ok (.iconst 2, 1) := by decide +kernel
theorem dL_law_446 : decode cL_law 446 = .ok (.iadd, 1) := by decide +kernel
theorem dL_law_447 : decode cL_law 447 = .ok (.iaload, 1) := by decide +kernel
theorem dL_law_448 : decode cL_law 448 = .ok (.aload_n 3, 1) := by decide +kernel
theorem dL_law_449 : decode cL_law 449 = .ok (.invokestatic 107, 3) := by decide +kernel
theorem dL_law_452 : decode cL_law 452 = .ok (.istore 5, 2) := by decide +kernel
theorem dL_law_454 : decode cL_law 454 = .ok (.aload_n 2, 1) := by decide +kernel
theorem dL_law_455 : decode cL_law 455 = .ok (.aload_n 0, 1) := by decide +kernel
theorem dL_law_456 : decode cL_law 456 = .ok (.iload 4, 2) := by decide +kernel
theorem dL_law_458 : decode cL_law 458 = .ok (.iconst 1, 1) := by decide +kernel
theorem dL_law_459 : decode cL_law 459 = .ok (.iadd, 1) := by decide +kernel
theorem dL_law_460 : decode cL_law 460 = .ok (.iaload, 1) := by decide +kernel
theorem dL_law_461 : decode cL_law 461 = .ok (.aload_n 0, 1) := by decide +kernel
theorem dL_law_462 : decode cL_law 462 = .ok (.iload 4, 2) := by decide +kernel
theorem dL_law_464 : decode cL_law 464 = .ok (.iconst 2, 1) := by decide +kernel
theorem dL_law_465 : decode cL_law 465 = .ok (.iadd, 1) := by decide +kernel
theorem dL_law_466 : decode cL_law 466 = .ok (.iaload, 1) := by decide +kernel
theorem dL_law_467 : decode cL_law 467 = .ok (.invokevirtual 109, 3) := by decide +kernel
theorem dL_law_470 : decode cL_law 470 = .ok (.istore 6, 2) := by decide +kernel
theorem dL_law_472 : decode cL_law 472 = .ok (.aload_n 2, 1) := by decide +kernel
theorem dL_law_473 : decode cL_law 473 = .ok (.invokevirtual 91, 3) := by decide +kernel
theorem dL_law_476 : decode cL_law 476 = .ok (.iload 5, 2) := by decide +kernel
theorem dL_law_478 : decode cL_law 478 = .ok (.if_icmp .eq 5, 3) := by decide +kernel
theorem dL_law_481 : decode cL_law 481 = .ok (.iconst 0, 1) := by decide +kernel
theorem dL_law_482 : decode cL_law 482 = .ok (.ireturn, 1) := by decide +kernel
theorem dL_law_483 : decode cL_law 483 = .ok (.iload 5, 2) := by decide +kernel
theorem dL_law_485 : decode cL_law 485 = .ok (.ifCond .ne 15, 3) := by decide +kernel
theorem dL_law_488 : decode cL_law 488 = .ok (.aload_n 3, 1) := by decide +kernel
theorem dL_law_489 : decode cL_law 489 = .ok (.iconst 0, 1) := by decide +kernel
theorem dL_law_490 : decode cL_law 490 = .ok (.laload, 1) := by decide +kernel
theorem dL_law_491 : decode cL_law 491 = .ok (.iload 6, 2) := by decide +kernel
theorem dL_law_493 : decode cL_law 493 = .ok (.i2l, 1) := by decide +kernel
theorem dL_law_494 : decode cL_law 494 = .ok (.lcmp, 1) := by decide +kernel
theorem dL_law_495 : decode cL_law 495 = .ok (.ifCond .eq 5, 3) := by decide +kernel
theorem dL_law_498 : decode cL_law 498 = .ok (.iconst 0, 1) := by decide +kernel
theorem dL_law_499 : decode cL_law 499 = .ok (.ireturn, 1) := by decide +kernel
theorem dL_law_500 : decode cL_law 500 = .ok (.goto 884, 3) := by decide +kernel
theorem dL_law_503 : decode cL_law 503 = .ok (.aload_n 1, 1) := by decide +kernel
theorem dL_law_504 : decode cL_law 504 = .ok (.aload_n 0, 1) := by decide +kernel
theorem dL_law_505 : decode cL_law 505 = .ok (.iload 4, 2) := by decide +kernel
theorem dL_law_507 : decode cL_law 507 = .ok (.iconst 1, 1) := by decide +kernel
theorem dL_law_508 : decode cL_law 508 = .ok (.iadd, 1) := by decide +kernel
theorem dL_law_509 : decode cL_law 509 = .ok (.iaload, 1) := by decide +kernel
theorem dL_law_510 : decode cL_law 510 = .ok (.aload_n 0, 1) := by decide +kernel
theorem dL_law_511 : decode cL_law 511 = .ok (.iload 4, 2) := by decide +kernel
theorem dL_law_513 : decode cL_law 513 = .ok (.iconst 2, 1) := by decide +kernel
theorem dL_law_514 : decode cL_law 514 = .ok (.iadd, 1) := by decide +kernel
theorem dL_law_515 : decode cL_law 515 = .ok (.iaload, 1) := by decide +kernel
theorem dL_law_516 : decode cL_law 516 = .ok (.aload_n 3, 1) := by decide +kernel
theorem dL_law_517 : decode cL_law 517 = .ok (.invokestatic 110, 3) := by decide +kernel
theorem dL_law_520 : decode cL_law 520 = .ok (.istore 5, 2) := by decide +kernel
theorem dL_law_522 : decode cL_law 522 = .ok (.aload_n 2, 1) := by decide +kernel
theorem dL_law_523 : decode cL_law 523 = .ok (.aload_n 0, 1) := by decide +kernel
theorem dL_law_524 : decode cL_law 524 = .ok (.iload 4, 2) := by decide +kernel
theorem dL_law_526 : decode cL_law 526 = .ok (.iconst 1, 1) := by decide +kernel
theorem dL_law_527 : decode cL_law 527 = .ok (.iadd, 1) := by decide +kernel
theorem dL_law_528 : decode cL_law 528 = .ok (.iaload, 1) := by decide +kernel
theorem dL_law_529 : decode cL_law 529 = .ok (.aload_n 0, 1) := by decide +kernel
theorem dL_law_530 : decode cL_law 530 = .ok (.iload 4, 2) := by decide +kernel
theorem dL_law_532 : decode cL_law 532 = .ok (.iconst 2, 1) := by decide +kernel
theorem dL_law_533 : decode cL_law 533 = .ok (.iadd, 1) := by decide +kernel
theorem dL_law_534 : decode cL_law 534 = .ok (.iaload, 1) := by decide +kernel
theorem dL_law_535 : decode cL_law 535 = .ok (.invokevirtual 112, 3) := by decide +kernel
theorem dL_law_538 : decode cL_law 538 = .ok (.istore 6, 2) := by decide +kernel
theorem dL_law_540 : decode cL_law 540 = .ok (.aload_n 2, 1) := by decide +kernel
theorem dL_law_541 : decode cL_law 541 = .ok (.invokevirtual 91, 3) := by decide +kernel
theorem dL_law_544 : decode cL_law 544 = .ok (.iload 5, 2) := by decide +kernel
theorem dL_law_546 : decode cL_law 546 = .ok (.if_icmp .eq 5, 3) := by decide +kernel
theorem dL_law_549 : decode cL_law 549 = .ok (.iconst 0, 1) := by decide +kernel
theorem dL_law_550 : decode cL_law 550 = .ok (.ireturn, 1) := by decide +kernel
theorem dL_law_551 : decode cL_law 551 = .ok (.iload 5, 2) := by decide +kernel
theorem dL_law_553 : decode cL_law 553 = .ok (.ifCond .ne 15, 3) := by decide +kernel
theorem dL_law_556 : decode cL_law 556 = .ok (.aload_n 3, 1) := by decide +kernel
theorem dL_law_557 : decode cL_law 557 = .ok (.iconst 0, 1) := by decide +kernel
theorem dL_law_558 : decode cL_law 558 = .ok (.laload, 1) := by decide +kernel
theorem dL_law_559 : decode cL_law 559 = .ok (.iload 6, 2) := by decide +kernel
theorem dL_law_561 : decode cL_law 561 = .ok (.i2l, 1) := by decide +kernel
theorem dL_law_562 : decode cL_law 562 = .ok (.lcmp, 1) := by decide +kernel
theorem dL_law_563 : decode cL_law 563 = .ok (.ifCond .eq 5, 3) := by decide +kernel
theorem dL_law_566 : decode cL_law 566 = .ok (.iconst 0, 1) := by decide +kernel
theorem dL_law_567 : decode cL_law 567 = .ok (.ireturn, 1) := by decide +kernel
theorem dL_law_568 : decode cL_law 568 = .ok (.goto 816, 3) := by decide +kernel
theorem dL_law_571 : decode cL_law 571 = .ok (.aload_n 1, 1) := by decide +kernel
theorem dL_law_572 : decode cL_law 572 = .ok (.aload_n 0, 1) := by decide +kernel
theorem dL_law_573 : decode cL_law 573 = .ok (.iload 4, 2) := by decide +kernel
theorem dL_law_575 : decode cL_law 575 = .ok (.iconst 1, 1) := by decide +kernel
theorem dL_law_576 : decode cL_law 576 = .ok (.iadd, 1) := by decide +kernel
theorem dL_law_577 : decode cL_law 577 = .ok (.iaload, 1) := by decide +kernel
theorem dL_law_578 : decode cL_law 578 = .ok (.aload_n 0, 1) := by decide +kernel
theorem dL_law_579 : decode cL_law 579 = .ok (.iload 4, 2) := by decide +kernel
theorem dL_law_581 : decode cL_law 581 = .ok (.iconst 2, 1) := by decide +kernel
theorem dL_law_582 : decode cL_law 582 = .ok (.iadd, 1) := by decide +kernel
theorem dL_law_583 : decode cL_law 583 = .ok (.iaload, 1) := by decide +kernel
theorem dL_law_584 : decode cL_law 584 = .ok (.aload_n 3, 1) := by decide +kernel
theorem dL_law_585 : decode cL_law 585 = .ok (.invokestatic 113, 3) := by decide +kernel
theorem dL_law_588 : decode cL_law 588 = .ok (.istore 5, 2) := by decide +kernel
theorem dL_law_590 : decode cL_law 590 = .ok (.aload_n 2, 1) := by decide +kernel
theorem dL_law_591 : decode cL_law 591 = .ok (.aload_n 0, 1) := by decide +kernel
theorem dL_law_592 : decode cL_law 592 = .ok (.iload 4, 2) := by decide +kernel
theorem dL_law_594 : decode cL_law 594 = .ok (.iconst 1, 1) := by decide +kernel
theorem dL_law_595 : decode cL_law 595 = .ok (.iadd, 1) := by decide +kernel
theorem dL_law_596 : decode cL_law 596 = .ok (.iaload, 1) := by decide +kernel
theorem dL_law_597 : decode cL_law 597 = .ok (.aload_n 0, 1) := by decide +kernel
theorem dL_law_598 : decode cL_law 598 = .ok (.iload 4, 2) := by decide +kernel
theorem dL_law_600 : decode cL_law 600 = .ok (.iconst 2, 1) := by decide +kernel
theorem dL_law_601 : decode cL_law 601 = .ok (.iadd, 1) := by decide +kernel
theorem dL_law_602 : decode cL_law 602 = .ok (.iaload, 1) := by decide +kernel
theorem dL_law_603 : decode cL_law 603 = .ok (.invokevirtual 115, 3) := by decide +kernel
theorem dL_law_606 : decode cL_law 606 = .ok (.istore 6, 2) := by decide +kernel
theorem dL_law_608 : decode cL_law 608 = .ok (.aload_n 2, 1) := by decide +kernel
theorem dL_law_609 : decode cL_law 609 = .ok (.invokevirtual 91, 3) := by decide +kernel
theorem dL_law_612 : decode cL_law 612 = .ok (.iload 5, 2) := by decide +kernel
theorem dL_law_614 : decode cL_law 614 = .ok (.if_icmp .eq 5, 3) := by decide +kernel
theorem dL_law_617 : decode cL_law 617 = .ok (.iconst 0, 1) := by decide +kernel
theorem dL_law_618 : decode cL_law 618 = .ok (.ireturn, 1) := by decide +kernel
theorem dL_law_619 : decode cL_law 619 = .ok (.iload 5, 2) := by decide +kernel
theorem dL_law_621 : decode cL_law 621 = .ok (.ifCond .ne 15, 3) := by decide +kernel
theorem dL_law_624 : decode cL_law 624 = .ok (.aload_n 3, 1) := by decide +kernel
theorem dL_law_625 : decode cL_law 625 = .ok (.iconst 0, 1) := by decide +kernel
theorem dL_law_626 : decode cL_law 626 = .ok (.laload, 1) := by decide +kernel
theorem dL_law_627 : decode cL_law 627 = .ok (.iload 6, 2) := by decide +kernel
theorem dL_law_629 : decode cL_law 629 = .ok (.i2l, 1) := by decide +kernel
theorem dL_law_630 : decode cL_law 630 = .ok (.lcmp, 1) := by decide +kernel
theorem dL_law_631 : decode cL_law 631 = .ok (.ifCond .eq 5, 3) := by decide +kernel
theorem dL_law_634 : decode cL_law 634 = .ok (.iconst 0, 1) := by decide +kernel
theorem dL_law_635 : decode cL_law 635 = .ok (.ireturn, 1) := by decide +kernel
theorem dL_law_636 : decode cL_law 636 = .ok (.goto 748, 3) := by decide +kernel
theorem dL_law_639 : decode cL_law 639 = .ok (.aload_n 1, 1) := by decide +kernel
theorem dL_law_640 : decode cL_law 640 = .ok (.aload_n 3, 1) := by decide +kernel
theorem dL_law_641 : decode cL_law 641 = .ok (.invokestatic 116, 3) := by decide +kernel
theorem dL_law_644 : decode cL_law 644 = .ok (.istore 5, 2) := by decide +kernel
theorem dL_law_646 : decode cL_law 646 = .ok (.aload_n 2, 1) := by decide +kernel
theorem dL_law_647 : decode cL_law 647 = .ok (.invokevirtual 119, 3) := by decide +kernel
theorem dL_law_650 : decode cL_law 650 = .ok (.istore 6, 2) := by decide +kernel
theorem dL_law_652 : decode cL_law 652 = .ok (.aload_n 2, 1) := by decide +kernel
theorem dL_law_653 : decode cL_law 653 = .ok (.invokevirtual 91, 3) := by decide +kernel
theorem dL_law_656 : decode cL_law 656 = .ok (.iload 5, 2) := by decide +kernel
theorem dL_law_658 : decode cL_law 658 = .ok (.if_icmp .eq 5, 3) := by decide +kernel
theorem dL_law_661 : decode cL_law 661 = .ok (.iconst 0, 1) := by decide +kernel
theorem dL_law_662 : decode cL_law 662 = .ok (.ireturn, 1) := by decide +kernel
theorem dL_law_663 : decode cL_law 663 = .ok (.iload 5, 2) := by decide +kernel
theorem dL_law_665 : decode cL_law 665 = .ok (.ifCond .ne 15, 3) := by decide +kernel
theorem dL_law_668 : decode cL_law 668 = .ok (.aload_n 3, 1) := by decide +kernel
theorem dL_law_669 : decode cL_law 669 = .ok (.iconst 0, 1) := by decide +kernel
theorem dL_law_670 : decode cL_law 670 = .ok (.laload, 1) := by decide +kernel
theorem dL_law_671 : decode cL_law 671 = .ok (.iload 6, 2) := by decide +kernel
theorem dL_law_673 : decode cL_law 673 = .ok (.i2l, 1) := by decide +kernel
theorem dL_law_674 : decode cL_law 674 = .ok (.lcmp, 1) := by decide +kernel
theorem dL_law_675 : decode cL_law 675 = .ok (.ifCond .eq 5, 3) := by decide +kernel
theorem dL_law_678 : decode cL_law 678 = .ok (.iconst 0, 1) := by decide +kernel
theorem dL_law_679 : decode cL_law 679 = .ok (.ireturn, 1) := by decide +kernel
theorem dL_law_680 : decode cL_law 680 = .ok (.goto 704, 3) := by decide +kernel
theorem dL_law_683 : decode cL_law 683 = .ok (.aload_n 1, 1) := by decide +kernel
theorem dL_law_684 : decode cL_law 684 = .ok (.invokevirtual 120, 3) := by decide +kernel
theorem dL_law_687 : decode cL_law 687 = .ok (.aload_n 2, 1) := by decide +kernel
theorem dL_law_688 : decode cL_law 688 = .ok (.invokevirtual 123, 3) := by decide +kernel
theorem dL_law_691 : decode cL_law 691 = .ok (.if_icmp .eq 693, 3) := by decide +kernel
theorem dL_law_694 : decode cL_law 694 = .ok (.iconst 0, 1) := by decide +kernel
theorem dL_law_695 : decode cL_law 695 = .ok (.ireturn, 1) := by decide +kernel
theorem dL_law_696 : decode cL_law 696 = .ok (.aload_n 1, 1) := by decide +kernel
theorem dL_law_697 : decode cL_law 697 = .ok (.aload_n 0, 1) := by decide +kernel
theorem dL_law_698 : decode cL_law 698 = .ok (.iload 4, 2) := by decide +kernel
theorem dL_law_700 : decode cL_law 700 = .ok (.iconst 1, 1) := by decide +kernel
theorem dL_law_701 : decode cL_law 701 = .ok (.iadd, 1) := by decide +kernel
theorem dL_law_702 : decode cL_law 702 = .ok (.iaload, 1) := by decide +kernel
theorem dL_law_703 : decode cL_law 703 = .ok (.aload_n 0, 1) := by decide +kernel
theorem dL_law_704 : decode cL_law 704 = .ok (.iload 4, 2) := by decide +kernel
theorem dL_law_706 : decode cL_law 706 = .ok (.iconst 2, 1) := by decide +kernel
theorem dL_law_707 : decode cL_law 707 = .ok (.iadd, 1) := by decide +kernel
theorem dL_law_708 : decode cL_law 708 = .ok (.iaload, 1) := by decide +kernel
theorem dL_law_709 : decode cL_law 709 = .ok (.aload_n 3, 1) := by decide +kernel
theorem dL_law_710 : decode cL_law 710 = .ok (.invokestatic 124, 3) := by decide +kernel
theorem dL_law_713 : decode cL_law 713 = .ok (.istore 5, 2) := by decide +kernel
theorem dL_law_715 : decode cL_law 715 = .ok (.aload_n 2, 1) := by decide +kernel
theorem dL_law_716 : decode cL_law 716 = .ok (.aload_n 0, 1) := by decide +kernel
theorem dL_law_717 : decode cL_law 717 = .ok (.iload 4, 2) := by decide +kernel
theorem dL_law_719 : decode cL_law 719 = .ok (.iconst 1, 1) := by decide +kernel
theorem dL_law_720 : decode cL_law 720 = .ok (.iadd, 1) := by decide +kernel
theorem dL_law_721 : decode cL_law 721 = .ok (.iaload, 1) := by decide +kernel
theorem dL_law_722 : decode cL_law 722 = .ok (.aload_n 0, 1) := by decide +kernel
theorem dL_law_723 : decode cL_law 723 = .ok (.iload 4, 2) := by decide +kernel
theorem dL_law_725 : decode cL_law 725 = .ok (.iconst 2, 1) := by decide +kernel
theorem dL_law_726 : decode cL_law 726 = .ok (.iadd, 1) := by decide +kernel
theorem dL_law_727 : decode cL_law 727 = .ok (.iaload, 1) := by decide +kernel
theorem dL_law_728 : decode cL_law 728 = .ok (.invokevirtual 126, 3) := by decide +kernel
theorem dL_law_731 : decode cL_law 731 = .ok (.istore 6, 2) := by decide +kernel
theorem dL_law_733 : decode cL_law 733 = .ok (.aload_n 2, 1) := by decide +kernel
theorem dL_law_734 : decode cL_law 734 = .ok (.invokevirtual 91, 3) := by decide +kernel
theorem dL_law_737 : decode cL_law 737 = .ok (.iload 5, 2) := by decide +kernel
theorem dL_law_739 : decode cL_law 739 = .ok (.if_icmp .eq 5, 3) := by decide +kernel
theorem dL_law_742 : decode cL_law 742 = .ok (.iconst 0, 1) := by decide +kernel
theorem dL_law_743 : decode cL_law 743 = .ok (.ireturn, 1) := by decide +kernel
theorem dL_law_744 : decode cL_law 744 = .ok (.iload 5, 2) := by decide +kernel
theorem dL_law_746 : decode cL_law 746 = .ok (.ifCond .ne 15, 3) := by decide +kernel
theorem dL_law_749 : decode cL_law 749 = .ok (.aload_n 3, 1) := by decide +kernel
theorem dL_law_750 : decode cL_law 750 = .ok (.iconst 0, 1) := by decide +kernel
theorem dL_law_751 : decode cL_law 751 = .ok (.laload, 1) := by decide +kernel
theorem dL_law_752 : decode cL_law 752 = .ok (.iload 6, 2) := by decide +kernel
theorem dL_law_754 : decode cL_law 754 = .ok (.i2l, 1) := by decide +kernel
theorem dL_law_755 : decode cL_law 755 = .ok (.lcmp, 1) := by decide +kernel
theorem dL_law_756 : decode cL_law 756 = .ok (.ifCond .eq 5, 3) := by decide +kernel
theorem dL_law_759 : decode cL_law 759 = .ok (.iconst 0, 1) := by decide +kernel
theorem dL_law_760 : decode cL_law 760 = .ok (.ireturn, 1) := by decide +kernel
theorem dL_law_761 : decode cL_law 761 = .ok (.goto 623, 3) := by decide +kernel
theorem dL_law_764 : decode cL_law 764 = .ok (.aload_n 1, 1) := by decide +kernel
theorem dL_law_765 : decode cL_law 765 = .ok (.aload_n 0, 1) := by decide +kernel
theorem dL_law_766 : decode cL_law 766 = .ok (.iload 4, 2) := by decide +kernel
theorem dL_law_768 : decode cL_law 768 = .ok (.iconst 1, 1) := by decide +kernel
theorem dL_law_769 : decode cL_law 769 = .ok (.iadd, 1) := by decide +kernel
theorem dL_law_770 : decode cL_law 770 = .ok (.iaload, 1) := by decide +kernel
theorem dL_law_771 : decode cL_law 771 = .ok (.aload_n 0, 1) := by decide +kernel
theorem dL_law_772 : decode cL_law 772 = .ok (.iload 4, 2) := by decide +kernel
theorem dL_law_774 : decode cL_law 774 = .ok (.iconst 2, 1) := by decide +kernel
theorem dL_law_775 : decode cL_law 775 = .ok (.iadd, 1) := by decide +kernel
theorem dL_law_776 : decode cL_law 776 = .ok (.iaload, 1) := by decide +kernel
theorem dL_law_777 : decode cL_law 777 = .ok (.aload_n 3, 1) := by decide +kernel
theorem dL_law_778 : decode cL_law 778 = .ok (.invokestatic 127, 3) := by decide +kernel
theorem dL_law_781 : decode cL_law 781 = .ok (.istore 5, 2) := by decide +kernel
theorem dL_law_783 : decode cL_law 783 = .ok (.aload_n 2, 1) := by decide +kernel
theorem dL_law_784 : decode cL_law 784 = .ok (.aload_n 0, 1) := by decide +kernel
theorem dL_law_785 : decode cL_law 785 = .ok (.iload 4, 2) := by decide +kernel
theorem dL_law_787 : decode cL_law 787 = .ok (.iconst 1, 1) := by decide +kernel
theorem dL_law_788 : decode cL_law 788 = .ok (.iadd, 1) := by decide +kernel
theorem dL_law_789 : decode cL_law 789 = .ok (.iaload, 1) := by decide +kernel
theorem dL_law_790 : decode cL_law 790 = .ok (.aload_n 0, 1) := by decide +kernel
theorem dL_law_791 : decode cL_law 791 = .ok (.iload 4, 2) := by decide +kernel
theorem dL_law_793 : decode cL_law 793 = .ok (.iconst 2, 1) := by decide +kernel
theorem dL_law_794 : decode cL_law 794 = .ok (.iadd, 1) := by decide +kernel
theorem dL_law_795 : decode cL_law 795 = .ok (.iaload, 1) := by decide +kernel
theorem dL_law_796 : decode cL_law 796 = .ok (.invokevirtual 129, 3) := by decide +kernel
theorem dL_law_799 : decode cL_law 799 = .ok (.istore 6, 2) := by decide +kernel
theorem dL_law_801 : decode cL_law 801 = .ok (.aload_n 2, 1) := by decide +kernel
theorem dL_law_802 : decode cL_law 802 = .ok (.invokevirtual 91, 3) := by decide +kernel
theorem dL_law_805 : decode cL_law 805 = .ok (.iload 5, 2) := by decide +kernel
theorem dL_law_807 : decode cL_law 807 = .ok (.if_icmp .eq 5, 3) := by decide +kernel
theorem dL_law_810 : decode cL_law 810 = .ok (.iconst 0, 1) := by decide +kernel
theorem dL_law_811 : decode cL_law 811 = .ok (.ireturn, 1) := by decide +kernel
theorem dL_law_812 : decode cL_law 812 = .ok (.iload 5, 2) := by decide +kernel
theorem dL_law_814 : decode cL_law 814 = .ok (.ifCond .ne 15, 3) := by decide +kernel
theorem dL_law_817 : decode cL_law 817 = .ok (.aload_n 3, 1) := by decide +kernel
theorem dL_law_818 : decode cL_law 818 = .ok (.iconst 0, 1) := by decide +kernel
theorem dL_law_819 : decode cL_law 819 = .ok (.laload, 1) := by decide +kernel
theorem dL_law_820 : decode cL_law 820 = .ok (.iload 6, 2) := by decide +kernel
theorem dL_law_822 : decode cL_law 822 = .ok (.i2l, 1) := by decide +kernel
theorem dL_law_823 : decode cL_law 823 = .ok (.lcmp, 1) := by decide +kernel
theorem dL_law_824 : decode cL_law 824 = .ok (.ifCond .eq 5, 3) := by decide +kernel
theorem dL_law_827 : decode cL_law 827 = .ok (.iconst 0, 1) := by decide +kernel
theorem dL_law_828 : decode cL_law 828 = .ok (.ireturn, 1) := by decide +kernel
theorem dL_law_829 : decode cL_law 829 = .ok (.goto 555, 3) := by decide +kernel
theorem dL_law_832 : decode cL_law 832 = .ok (.aload_n 1, 1) := by decide +kernel
theorem dL_law_833 : decode cL_law 833 = .ok (.aload_n 0, 1) := by decide +kernel
theorem dL_law_834 : decode cL_law 834 = .ok (.iload 4, 2) := by decide +kernel
theorem dL_law_836 : decode cL_law 836 = .ok (.iconst 1, 1) := by decide +kernel
theorem dL_law_837 : decode cL_law 837 = .ok (.iadd, 1) := by decide +kernel
theorem dL_law_838 : decode cL_law 838 = .ok (.iaload, 1) := by decide +kernel
theorem dL_law_839 : decode cL_law 839 = .ok (.aload_n 3, 1) := by decide +kernel
theorem dL_law_840 : decode cL_law 840 = .ok (.invokestatic 130, 3) := by decide +kernel
theorem dL_law_843 : decode cL_law 843 = .ok (.istore 5, 2) := by decide +kernel
theorem dL_law_845 : decode cL_law 845 = .ok (.aload_n 2, 1) := by decide +kernel
theorem dL_law_846 : decode cL_law 846 = .ok (.aload_n 0, 1) := by decide +kernel
theorem dL_law_847 : decode cL_law 847 = .ok (.iload 4, 2) := by decide +kernel
theorem dL_law_849 : decode cL_law 849 = .ok (.iconst 1, 1) := by decide +kernel
theorem dL_law_850 : decode cL_law 850 = .ok (.iadd, 1) := by decide +kernel
theorem dL_law_851 : decode cL_law 851 = .ok (.iaload, 1) := by decide +kernel
theorem dL_law_852 : decode cL_law 852 = .ok (.invokevirtual 132, 3) := by decide +kernel
theorem dL_law_855 : decode cL_law 855 = .ok (.istore 6, 2) := by decide +kernel
theorem dL_law_857 : decode cL_law 857 = .ok (.aload_n 2, 1) := by decide +kernel
theorem dL_law_858 : decode cL_law 858 = .ok (.invokevirtual 91, 3) := by decide +kernel
theorem dL_law_861 : decode cL_law 861 = .ok (.iload 5, 2) := by decide +kernel
theorem dL_law_863 : decode cL_law 863 = .ok (.if_icmp .eq 5, 3) := by decide +kernel
theorem dL_law_866 : decode cL_law 866 = .ok (.iconst 0, 1) := by decide +kernel
theorem dL_law_867 : decode cL_law 867 = .ok (.ireturn, 1) := by decide +kernel
theorem dL_law_868 : decode cL_law 868 = .ok (.iload 5, 2) := by decide +kernel
theorem dL_law_870 : decode cL_law 870 = .ok (.ifCond .ne 15, 3) := by decide +kernel
theorem dL_law_873 : decode cL_law 873 = .ok (.aload_n 3, 1) := by decide +kernel
theorem dL_law_874 : decode cL_law 874 = .ok (.iconst 0, 1) := by decide +kernel
theorem dL_law_875 : decode cL_law 875 = .ok (.laload, 1) := by decide +kernel
theorem dL_law_876 : decode cL_law 876 = .ok (.iload 6, 2) := by decide +kernel
theorem dL_law_878 : decode cL_law 878 = .ok (.i2l, 1) := by decide +kernel
theorem dL_law_879 : decode cL_law 879 = .ok (.lcmp, 1) := by decide +kernel
theorem dL_law_880 : decode cL_law 880 = .ok (.ifCond .eq 5, 3) := by decide +kernel
theorem dL_law_883 : decode cL_law 883 = .ok (.iconst 0, 1) := by decide +kernel
theorem dL_law_884 : decode cL_law 884 = .ok (.ireturn, 1) := by decide +kernel
theorem dL_law_885 : decode cL_law 885 = .ok (.goto 499, 3) := by decide +kernel
theorem dL_law_888 : decode cL_law 888 = .ok (.aload_n 1, 1) := by decide +kernel
theorem dL_law_889 : decode cL_law 889 = .ok (.aload_n 0, 1) := by decide +kernel
theorem dL_law_890 : decode cL_law 890 = .ok (.iload 4, 2) := by decide +kernel
theorem dL_law_892 : decode cL_law 892 = .ok (.iconst 1, 1) := by decide +kernel
theorem dL_law_893 : decode cL_law 893 = .ok (.iadd, 1) := by decide +kernel
theorem dL_law_894 : decode cL_law 894 = .ok (.iaload, 1) := by decide +kernel
theorem dL_law_895 : decode cL_law 895 = .ok (.aload_n 3, 1) := by decide +kernel
theorem dL_law_896 : decode cL_law 896 = .ok (.invokestatic 133, 3) := by decide +kernel
theorem dL_law_899 : decode cL_law 899 = .ok (.istore 5, 2) := by decide +kernel
theorem dL_law_901 : decode cL_law 901 = .ok (.aload_n 2, 1) := by decide +kernel
theorem dL_law_902 : decode cL_law 902 = .ok (.aload_n 0, 1) := by decide +kernel
theorem dL_law_903 : decode cL_law 903 = .ok (.iload 4, 2) := by decide +kernel
theorem dL_law_905 : decode cL_law 905 = .ok (.iconst 1, 1) := by decide +kernel
theorem dL_law_906 : decode cL_law 906 = .ok (.iadd, 1) := by decide +kernel
theorem dL_law_907 : decode cL_law 907 = .ok (.iaload, 1) := by decide +kernel
theorem dL_law_908 : decode cL_law 908 = .ok (.invokevirtual 135, 3) := by decide +kernel
theorem dL_law_911 : decode cL_law 911 = .ok (.istore 6, 2) := by decide +kernel
theorem dL_law_913 : decode cL_law 913 = .ok (.aload_n 2, 1) := by decide +kernel
theorem dL_law_914 : decode cL_law 914 = .ok (.invokevirtual 91, 3) := by decide +kernel
theorem dL_law_917 : decode cL_law 917 = .ok (.iload 5, 2) := by decide +kernel
theorem dL_law_919 : decode cL_law 919 = .ok (.if_icmp .eq 5, 3) := by decide +kernel
theorem dL_law_922 : decode cL_law 922 = .ok (.iconst 0, 1) := by decide +kernel
theorem dL_law_923 : decode cL_law 923 = .ok (.ireturn, 1) := by decide +kernel
theorem dL_law_924 : decode cL_law 924 = .ok (.iload 5, 2) := by decide +kernel
theorem dL_law_926 : decode cL_law 926 = .ok (.ifCond .ne 15, 3) := by decide +kernel
theorem dL_law_929 : decode cL_law 929 = .ok (.aload_n 3, 1) := by decide +kernel
theorem dL_law_930 : decode cL_law 930 = .ok (.iconst 0, 1) := by decide +kernel
theorem dL_law_931 : decode cL_law 931 = .ok (.laload, 1) := by decide +kernel
theorem dL_law_932 : decode cL_law 932 = .ok (.iload 6, 2) := by decide +kernel
theorem dL_law_934 : decode cL_law 934 = .ok (.i2l, 1) := by decide +kernel
theorem dL_law_935 : decode cL_law 935 = .ok (.lcmp, 1) := by decide +kernel
theorem dL_law_936 : decode cL_law 936 = .ok (.ifCond .eq 5, 3) := by decide +kernel
theorem dL_law_939 : decode cL_law 939 = .ok (.iconst 0, 1) := by decide +kernel
theorem dL_law_940 : decode cL_law 940 = .ok (.ireturn, 1) := by decide +kernel
theorem dL_law_941 : decode cL_law 941 = .ok (.goto 443, 3) := by decide +kernel
theorem dL_law_944 : decode cL_law 944 = .ok (.aload_n 1, 1) := by decide +kernel
theorem dL_law_945 : decode cL_law 945 = .ok (.aload_n 0, 1) := by decide +kernel
theorem dL_law_946 : decode cL_law 946 = .ok (.iload 4, 2) := by decide +kernel
theorem dL_law_948 : decode cL_law 948 = .ok (.iconst 1, 1) := by decide +kernel
theorem dL_law_949 : decode cL_law 949 = .ok (.iadd, 1) := by decide +kernel
theorem dL_law_950 : decode cL_law 950 = .ok (.iaload, 1) := by decide +kernel
theorem dL_law_951 : decode cL_law 951 = .ok (.aload_n 3, 1) := by decide +kernel
theorem dL_law_952 : decode cL_law 952 = .ok (.invokestatic 136, 3) := by decide +kernel
theorem dL_law_955 : decode cL_law 955 = .ok (.istore 5, 2) := by decide +kernel
theorem dL_law_957 : decode cL_law 957 = .ok (.aload_n 2, 1) := by decide +kernel
theorem dL_law_958 : decode cL_law 958 = .ok (.aload_n 0, 1) := by decide +kernel
theorem dL_law_959 : decode cL_law 959 = .ok (.iload 4, 2) := by decide +kernel
theorem dL_law_961 : decode cL_law 961 = .ok (.iconst 1, 1) := by decide +kernel
theorem dL_law_962 : decode cL_law 962 = .ok (.iadd, 1) := by decide +kernel
theorem dL_law_963 : decode cL_law 963 = .ok (.iaload, 1) := by decide +kernel
theorem dL_law_964 : decode cL_law 964 = .ok (.invokevirtual 138, 3) := by decide +kernel
theorem dL_law_967 : decode cL_law 967 = .ok (.istore 6, 2) := by decide +kernel
theorem dL_law_969 : decode cL_law 969 = .ok (.aload_n 2, 1) := by decide +kernel
theorem dL_law_970 : decode cL_law 970 = .ok (.invokevirtual 91, 3) := by decide +kernel
theorem dL_law_973 : decode cL_law 973 = .ok (.iload 5, 2) := by decide +kernel
theorem dL_law_975 : decode cL_law 975 = .ok (.if_icmp .eq 5, 3) := by decide +kernel
theorem dL_law_978 : decode cL_law 978 = .ok (.iconst 0, 1) := by decide +kernel
theorem dL_law_979 : decode cL_law 979 = .ok (.ireturn, 1) := by decide +kernel
theorem dL_law_980 : decode cL_law 980 = .ok (.iload 5, 2) := by decide +kernel
theorem dL_law_982 : decode cL_law 982 = .ok (.ifCond .ne 15, 3) := by decide +kernel
theorem dL_law_985 : decode cL_law 985 = .ok (.aload_n 3, 1) := by decide +kernel
theorem dL_law_986 : decode cL_law 986 = .ok (.iconst 0, 1) := by decide +kernel
theorem dL_law_987 : decode cL_law 987 = .ok (.laload, 1) := by decide +kernel
theorem dL_law_988 : decode cL_law 988 = .ok (.iload 6, 2) := by decide +kernel
theorem dL_law_990 : decode cL_law 990 = .ok (.i2l, 1) := by decide +kernel
theorem dL_law_991 : decode cL_law 991 = .ok (.lcmp, 1) := by decide +kernel
theorem dL_law_992 : decode cL_law 992 = .ok (.ifCond .eq 5, 3) := by decide +kernel
theorem dL_law_995 : decode cL_law 995 = .ok (.iconst 0, 1) := by decide +kernel
theorem dL_law_996 : decode cL_law 996 = .ok (.ireturn, 1) := by decide +kernel
theorem dL_law_997 : decode cL_law 997 = .ok (.goto 387, 3) := by decide +kernel
theorem dL_law_1000 : decode cL_law 1000 = .ok (.aload_n 1, 1) := by decide +kernel
theorem dL_law_1001 : decode cL_law 1001 = .ok (.aload_n 0, 1) := by decide +kernel
theorem dL_law_1002 : decode cL_law 1002 = .ok (.iload 4, 2) := by decide +kernel
theorem dL_law_1004 : decode cL_law 1004 = .ok (.iconst 1, 1) := by decide +kernel
theorem dL_law_1005 : decode cL_law 1005 = .ok (.iadd, 1) := by decide +kernel
theorem dL_law_1006 : decode cL_law 1006 = .ok (.iaload, 1) := by decide +kernel
theorem dL_law_1007 : decode cL_law 1007 = .ok (.aload_n 0, 1) := by decide +kernel
theorem dL_law_1008 : decode cL_law 1008 = .ok (.iload 4, 2) := by decide +kernel
theorem dL_law_1010 : decode cL_law 1010 = .ok (.iconst 2, 1) := by decide +kernel
theorem dL_law_1011 : decode cL_law 1011 = .ok (.iadd, 1) := by decide +kernel
theorem dL_law_1012 : decode cL_law 1012 = .ok (.iaload, 1) := by decide +kernel
theorem dL_law_1013 : decode cL_law 1013 = .ok (.aload_n 3, 1) := by decide +kernel
theorem dL_law_1014 : decode cL_law 1014 = .ok (.invokestatic 139, 3) := by decide +kernel
theorem dL_law_1017 : decode cL_law 1017 = .ok (.istore 5, 2) := by decide +kernel
theorem dL_law_1019 : decode cL_law 1019 = .ok (.aload_n 2, 1) := by decide +kernel
theorem dL_law_1020 : decode cL_law 1020 = .ok (.aload_n 0, 1) := by decide +kernel
theorem dL_law_1021 : decode cL_law 1021 = .ok (.iload 4, 2) := by decide +kernel
theorem dL_law_1023 : decode cL_law 1023 = .ok (.iconst 1, 1) := by decide +kernel
theorem dL_law_1024 : decode cL_law 1024 = .ok (.iadd, 1) := by decide +kernel
theorem dL_law_1025 : decode cL_law 1025 = .ok (.iaload, 1) := by decide +kernel
theorem dL_law_1026 : decode cL_law 1026 = .ok (.aload_n 0, 1) := by decide +kernel
theorem dL_law_1027 : decode cL_law 1027 = .ok (.iload 4, 2) := by decide +kernel
theorem dL_law_1029 : decode cL_law 1029 = .ok (.iconst 2, 1) := by decide +kernel
theorem dL_law_1030 : decode cL_law 1030 = .ok (.iadd, 1) := by decide +kernel
theorem dL_law_1031 : decode cL_law 1031 = .ok (.iaload, 1) := by decide +kernel
theorem dL_law_1032 : decode cL_law 1032 = .ok (.invokevirtual 141, 3) := by decide +kernel
theorem dL_law_1035 : decode cL_law 1035 = .ok (.istore 6, 2) := by decide +kernel
theorem dL_law_1037 : decode cL_law 1037 = .ok (.aload_n 2, 1) := by decide +kernel
theorem dL_law_1038 : decode cL_law 1038 = .ok (.invokevirtual 91, 3) := by decide +kernel
theorem dL_law_1041 : decode cL_law 1041 = .ok (.iload 5, 2) := by decide +kernel
theorem dL_law_1043 : decode cL_law 1043 = .ok (.if_icmp .eq 5, 3) := by decide +kernel
theorem dL_law_1046 : decode cL_law 1046 = .ok (.iconst 0, 1) := by decide +kernel
theorem dL_law_1047 : decode cL_law 1047 = .ok (.ireturn, 1) := by decide +kernel
theorem dL_law_1048 : decode cL_law 1048 = .ok (.iload 5, 2) := by decide +kernel
theorem dL_law_1050 : decode cL_law 1050 = .ok (.ifCond .ne 15, 3) := by decide +kernel
theorem dL_law_1053 : decode cL_law 1053 = .ok (.aload_n 3, 1) := by decide +kernel
theorem dL_law_1054 : decode cL_law 1054 = .ok (.iconst 0, 1) := by decide +kernel
theorem dL_law_1055 : decode cL_law 1055 = .ok (.laload, 1) := by decide +kernel
theorem dL_law_1056 : decode cL_law 1056 = .ok (.iload 6, 2) := by decide +kernel
theorem dL_law_1058 : decode cL_law 1058 = .ok (.i2l, 1) := by decide +kernel
theorem dL_law_1059 : decode cL_law 1059 = .ok (.lcmp, 1) := by decide +kernel
theorem dL_law_1060 : decode cL_law 1060 = .ok (.ifCond .eq 5, 3) := by decide +kernel
theorem dL_law_1063 : decode cL_law 1063 = .ok (.iconst 0, 1) := by decide +kernel
theorem dL_law_1064 : decode cL_law 1064 = .ok (.ireturn, 1) := by decide +kernel
theorem dL_law_1065 : decode cL_law 1065 = .ok (.goto 319, 3) := by decide +kernel
theorem dL_law_1068 : decode cL_law 1068 = .ok (.aload_n 1, 1) := by decide +kernel
theorem dL_law_1069 : decode cL_law 1069 = .ok (.aload_n 0, 1) := by decide +kernel
theorem dL_law_1070 : decode cL_law 1070 = .ok (.iload 4, 2) := by decide +kernel
theorem dL_law_1072 : decode cL_law 1072 = .ok (.iconst 1, 1) := by decide +kernel
theorem dL_law_1073 : decode cL_law 1073 = .ok (.iadd, 1) := by decide +kernel
theorem dL_law_1074 : decode cL_law 1074 = .ok (.iaload, 1) := by decide +kernel
theorem dL_law_1075 : decode cL_law 1075 = .ok (.aload_n 0, 1) := by decide +kernel
theorem dL_law_1076 : decode cL_law 1076 = .ok (.iload 4, 2) := by decide +kernel
theorem dL_law_1078 : decode cL_law 1078 = .ok (.iconst 2, 1) := by decide +kernel
theorem dL_law_1079 : decode cL_law 1079 = .ok (.iadd, 1) := by decide +kernel
theorem dL_law_1080 : decode cL_law 1080 = .ok (.iaload, 1) := by decide +kernel
theorem dL_law_1081 : decode cL_law 1081 = .ok (.aload_n 3, 1) := by decide +kernel
theorem dL_law_1082 : decode cL_law 1082 = .ok (.invokestatic 142, 3) := by decide +kernel
theorem dL_law_1085 : decode cL_law 1085 = .ok (.istore 5, 2) := by decide +kernel
theorem dL_law_1087 : decode cL_law 1087 = .ok (.aload_n 2, 1) := by decide +kernel
theorem dL_law_1088 : decode cL_law 1088 = .ok (.aload_n 0, 1) := by decide +kernel
theorem dL_law_1089 : decode cL_law 1089 = .ok (.iload 4, 2) := by decide +kernel
theorem dL_law_1091 : decode cL_law 1091 = .ok (.iconst 1, 1) := by decide +kernel
theorem dL_law_1092 : decode cL_law 1092 = .ok (.iadd, 1) := by decide +kernel
theorem dL_law_1093 : decode cL_law 1093 = .ok (.iaload, 1) := by decide +kernel
theorem dL_law_1094 : decode cL_law 1094 = .ok (.aload_n 0, 1) := by decide +kernel
theorem dL_law_1095 : decode cL_law 1095 = .ok (.iload 4, 2) := by decide +kernel
theorem dL_law_1097 : decode cL_law 1097 = .ok (.iconst 2, 1) := by decide +kernel
theorem dL_law_1098 : decode cL_law 1098 = .ok (.iadd, 1) := by decide +kernel
theorem dL_law_1099 : decode cL_law 1099 = .ok (.iaload, 1) := by decide +kernel
theorem dL_law_1100 : decode cL_law 1100 = .ok (.invokevirtual 144, 3) := by decide +kernel
theorem dL_law_1103 : decode cL_law 1103 = .ok (.istore 6, 2) := by decide +kernel
theorem dL_law_1105 : decode cL_law 1105 = .ok (.aload_n 2, 1) := by decide +kernel
theorem dL_law_1106 : decode cL_law 1106 = .ok (.invokevirtual 91, 3) := by decide +kernel
theorem dL_law_1109 : decode cL_law 1109 = .ok (.iload 5, 2) := by decide +kernel
theorem dL_law_1111 : decode cL_law 1111 = .ok (.if_icmp .eq 5, 3) := by decide +kernel
theorem dL_law_1114 : decode cL_law 1114 = .ok (.iconst 0, 1) := by decide +kernel
theorem dL_law_1115 : decode cL_law 1115 = .ok (.ireturn, 1) := by decide +kernel
theorem dL_law_1116 : decode cL_law 1116 = .ok (.iload 5, 2) := by decide +kernel
theorem dL_law_1118 : decode cL_law 1118 = .ok (.ifCond .ne 15, 3) := by decide +kernel
theorem dL_law_1121 : decode cL_law 1121 = .ok (.aload_n 3, 1) := by decide +kernel
theorem dL_law_1122 : decode cL_law 1122 = .ok (.iconst 0, 1) := by decide +kernel
theorem dL_law_1123 : decode cL_law 1123 = .ok (.laload, 1) := by decide +kernel
theorem dL_law_1124 : decode cL_law 1124 = .ok (.iload 6, 2) := by decide +kernel
theorem dL_law_1126 : decode cL_law 1126 = .ok (.i2l, 1) := by decide +kernel
theorem dL_law_1127 : decode cL_law 1127 = .ok (.lcmp, 1) := by decide +kernel
theorem dL_law_1128 : decode cL_law 1128 = .ok (.ifCond .eq 5, 3) := by decide +kernel
theorem dL_law_1131 : decode cL_law 1131 = .ok (.iconst 0, 1) := by decide +kernel
theorem dL_law_1132 : decode cL_law 1132 = .ok (.ireturn, 1) := by decide +kernel
theorem dL_law_1133 : decode cL_law 1133 = .ok (.goto 251, 3) := by decide +kernel
theorem dL_law_1136 : decode cL_law 1136 = .ok (.aload_n 1, 1) := by decide +kernel
theorem dL_law_1137 : decode cL_law 1137 = .ok (.aload_n 0, 1) := by decide +kernel
theorem dL_law_1138 : decode cL_law 1138 = .ok (.iload 4, 2) := by decide +kernel
theorem dL_law_1140 : decode cL_law 1140 = .ok (.iconst 1, 1) := by decide +kernel
theorem dL_law_1141 : decode cL_law 1141 = .ok (.iadd, 1) := by decide +kernel
theorem dL_law_1142 : decode cL_law 1142 = .ok (.iaload, 1) := by decide +kernel
theorem dL_law_1143 : decode cL_law 1143 = .ok (.aload_n 0, 1) := by decide +kernel
theorem dL_law_1144 : decode cL_law 1144 = .ok (.iload 4, 2) := by decide +kernel
theorem dL_law_1146 : decode cL_law 1146 = .ok (.iconst 2, 1) := by decide +kernel
theorem dL_law_1147 : decode cL_law 1147 = .ok (.iadd, 1) := by decide +kernel
theorem dL_law_1148 : decode cL_law 1148 = .ok (.iaload, 1) := by decide +kernel
theorem dL_law_1149 : decode cL_law 1149 = .ok (.aload_n 3, 1) := by decide +kernel
theorem dL_law_1150 : decode cL_law 1150 = .ok (.invokestatic 145, 3) := by decide +kernel
theorem dL_law_1153 : decode cL_law 1153 = .ok (.istore 5, 2) := by decide +kernel
theorem dL_law_1155 : decode cL_law 1155 = .ok (.aload_n 2, 1) := by decide +kernel
theorem dL_law_1156 : decode cL_law 1156 = .ok (.aload_n 0, 1) := by decide +kernel
theorem dL_law_1157 : decode cL_law 1157 = .ok (.iload 4, 2) := by decide +kernel
theorem dL_law_1159 : decode cL_law 1159 = .ok (.iconst 1, 1) := by decide +kernel
theorem dL_law_1160 : decode cL_law 1160 = .ok (.iadd, 1) := by decide +kernel
theorem dL_law_1161 : decode cL_law 1161 = .ok (.iaload, 1) := by decide +kernel
theorem dL_law_1162 : decode cL_law 1162 = .ok (.aload_n 0, 1) := by decide +kernel
theorem dL_law_1163 : decode cL_law 1163 = .ok (.iload 4, 2) := by decide +kernel
theorem dL_law_1165 : decode cL_law 1165 = .ok (.iconst 2, 1) := by decide +kernel
theorem dL_law_1166 : decode cL_law 1166 = .ok (.iadd, 1) := by decide +kernel
theorem dL_law_1167 : decode cL_law 1167 = .ok (.iaload, 1) := by decide +kernel
theorem dL_law_1168 : decode cL_law 1168 = .ok (.invokevirtual 147, 3) := by decide +kernel
theorem dL_law_1171 : decode cL_law 1171 = .ok (.istore 6, 2) := by decide +kernel
theorem dL_law_1173 : decode cL_law 1173 = .ok (.aload_n 2, 1) := by decide +kernel
theorem dL_law_1174 : decode cL_law 1174 = .ok (.invokevirtual 91, 3) := by decide +kernel
theorem dL_law_1177 : decode cL_law 1177 = .ok (.iload 5, 2) := by decide +kernel
theorem dL_law_1179 : decode cL_law 1179 = .ok (.if_icmp .eq 5, 3) := by decide +kernel
theorem dL_law_1182 : decode cL_law 1182 = .ok (.iconst 0, 1) := by decide +kernel
theorem dL_law_1183 : decode cL_law 1183 = .ok (.ireturn, 1) := by decide +kernel
theorem dL_law_1184 : decode cL_law 1184 = .ok (.iload 5, 2) := by decide +kernel
theorem dL_law_1186 : decode cL_law 1186 = .ok (.ifCond .ne 15, 3) := by decide +kernel
theorem dL_law_1189 : decode cL_law 1189 = .ok (.aload_n 3, 1) := by decide +kernel
theorem dL_law_1190 : decode cL_law 1190 = .ok (.iconst 0, 1) := by decide +kernel
theorem dL_law_1191 : decode cL_law 1191 = .ok (.laload, 1) := by decide +kernel
theorem dL_law_1192 : decode cL_law 1192 = .ok (.iload 6, 2) := by decide +kernel
theorem dL_law_1194 : decode cL_law 1194 = .ok (.i2l, 1) := by decide +kernel
theorem dL_law_1195 : decode cL_law 1195 = .ok (.lcmp, 1) := by decide +kernel
theorem dL_law_1196 : decode cL_law 1196 = .ok (.ifCond .eq 5, 3) := by decide +kernel
theorem dL_law_1199 : decode cL_law 1199 = .ok (.iconst 0, 1) := by decide +kernel
theorem dL_law_1200 : decode cL_law 1200 = .ok (.ireturn, 1) := by decide +kernel
theorem dL_law_1201 : decode cL_law 1201 = .ok (.goto 183, 3) := by decide +kernel
theorem dL_law_1204 : decode cL_law 1204 = .ok (.aload_n 1, 1) := by decide +kernel
theorem dL_law_1205 : decode cL_law 1205 = .ok (.aload_n 0, 1) := by decide +kernel
theorem dL_law_1206 : decode cL_law 1206 = .ok (.iload 4, 2) := by decide +kernel
theorem dL_law_1208 : decode cL_law 1208 = .ok (.iconst 1, 1) := by decide +kernel
theorem dL_law_1209 : decode cL_law 1209 = .ok (.iadd, 1) := by decide +kernel
theorem dL_law_1210 : decode cL_law 1210 = .ok (.iaload, 1) := by decide +kernel
theorem dL_law_1211 : decode cL_law 1211 = .ok (.aload_n 0, 1) := by decide +kernel
theorem dL_law_1212 : decode cL_law 1212 = .ok (.iload 4, 2) := by decide +kernel
theorem dL_law_1214 : decode cL_law 1214 = .ok (.iconst 2, 1) := by decide +kernel
theorem dL_law_1215 : decode cL_law 1215 = .ok (.iadd, 1) := by decide +kernel
theorem dL_law_1216 : decode cL_law 1216 = .ok (.iaload, 1) := by decide +kernel
theorem dL_law_1217 : decode cL_law 1217 = .ok (.aload_n 3, 1) := by decide +kernel
theorem dL_law_1218 : decode cL_law 1218 = .ok (.invokestatic 148, 3) := by decide +kernel
theorem dL_law_1221 : decode cL_law 1221 = .ok (.istore 5, 2) := by decide +kernel
theorem dL_law_1223 : decode cL_law 1223 = .ok (.aload_n 2, 1) := by decide +kernel
theorem dL_law_1224 : decode cL_law 1224 = .ok (.aload_n 0, 1) := by decide +kernel
theorem dL_law_1225 : decode cL_law 1225 = .ok (.iload 4, 2) := by decide +kernel
theorem dL_law_1227 : decode cL_law 1227 = .ok (.iconst 1, 1) := by decide +kernel
theorem dL_law_1228 : decode cL_law 1228 = .ok (.iadd, 1) := by decide +kernel
theorem dL_law_1229 : decode cL_law 1229 = .ok (.iaload, 1) := by decide +kernel
theorem dL_law_1230 : decode cL_law 1230 = .ok (.aload_n 0, 1) := by decide +kernel
theorem dL_law_1231 : decode cL_law 1231 = .ok (.iload 4, 2) := by decide +kernel
theorem dL_law_1233 : decode cL_law 1233 = .ok (.iconst 2, 1) := by decide +kernel
theorem dL_law_1234 : decode cL_law 1234 = .ok (.iadd, 1) := by decide +kernel
theorem dL_law_1235 : decode cL_law 1235 = .ok (.iaload, 1) := by decide +kernel
theorem dL_law_1236 : decode cL_law 1236 = .ok (.invokevirtual 150, 3) := by decide +kernel
theorem dL_law_1239 : decode cL_law 1239 = .ok (.istore 6, 2) := by decide +kernel
theorem dL_law_1241 : decode cL_law 1241 = .ok (.aload_n 2, 1) := by decide +kernel
theorem dL_law_1242 : decode cL_law 1242 = .ok (.invokevirtual 91, 3) := by decide +kernel
theorem dL_law_1245 : decode cL_law 1245 = .ok (.iload 5, 2) := by decide +kernel
theorem dL_law_1247 : decode cL_law 1247 = .ok (.if_icmp .eq 5, 3) := by decide +kernel
theorem dL_law_1250 : decode cL_law 1250 = .ok (.iconst 0, 1) := by decide +kernel
theorem dL_law_1251 : decode cL_law 1251 = .ok (.ireturn, 1) := by decide +kernel
theorem dL_law_1252 : decode cL_law 1252 = .ok (.iload 5, 2) := by decide +kernel
theorem dL_law_1254 : decode cL_law 1254 = .ok (.ifCond .ne 15, 3) := by decide +kernel
theorem dL_law_1257 : decode cL_law 1257 = .ok (.aload_n 3, 1) := by decide +kernel
theorem dL_law_1258 : decode cL_law 1258 = .ok (.iconst 0, 1) := by decide +kernel
theorem dL_law_1259 : decode cL_law 1259 = .ok (.laload, 1) := by decide +kernel
theorem dL_law_1260 : decode cL_law 1260 = .ok (.iload 6, 2) := by decide +kernel
theorem dL_law_1262 : decode cL_law 1262 = .ok (.i2l, 1) := by decide +kernel
theorem dL_law_1263 : decode cL_law 1263 = .ok (.lcmp, 1) := by decide +kernel
theorem dL_law_1264 : decode cL_law 1264 = .ok (.ifCond .eq 5, 3) := by decide +kernel
theorem dL_law_1267 : decode cL_law 1267 = .ok (.iconst 0, 1) := by decide +kernel
theorem dL_law_1268 : decode cL_law 1268 = .ok (.ireturn, 1) := by decide +kernel
theorem dL_law_1269 : decode cL_law 1269 = .ok (.goto 115, 3) := by decide +kernel
theorem dL_law_1272 : decode cL_law 1272 = .ok (.aload_n 1, 1) := by decide +kernel
theorem dL_law_1273 : decode cL_law 1273 = .ok (.aload_n 0, 1) := by decide +kernel
theorem dL_law_1274 : decode cL_law 1274 = .ok (.iload 4, 2) := by decide +kernel
theorem dL_law_1276 : decode cL_law 1276 = .ok (.iconst 1, 1) := by decide +kernel
theorem dL_law_1277 : decode cL_law 1277 = .ok (.iadd, 1) := by decide +kernel
theorem dL_law_1278 : decode cL_law 1278 = .ok (.iaload, 1) := by decide +kernel
theorem dL_law_1279 : decode cL_law 1279 = .ok (.aload_n 3, 1) := by decide +kernel
theorem dL_law_1280 : decode cL_law 1280 = .ok (.invokestatic 151, 3) := by decide +kernel
theorem dL_law_1283 : decode cL_law 1283 = .ok (.istore 5, 2) := by decide +kernel
theorem dL_law_1285 : decode cL_law 1285 = .ok (.aload_n 2, 1) := by decide +kernel
theorem dL_law_1286 : decode cL_law 1286 = .ok (.aload_n 0, 1) := by decide +kernel
theorem dL_law_1287 : decode cL_law 1287 = .ok (.iload 4, 2) := by decide +kernel
theorem dL_law_1289 : decode cL_law 1289 = .ok (.iconst 1, 1) := by decide +kernel
theorem dL_law_1290 : decode cL_law 1290 = .ok (.iadd, 1) := by decide +kernel
theorem dL_law_1291 : decode cL_law 1291 = .ok (.iaload, 1) := by decide +kernel
theorem dL_law_1292 : decode cL_law 1292 = .ok (.invokevirtual 153, 3) := by decide +kernel
theorem dL_law_1295 : decode cL_law 1295 = .ok (.istore 6, 2) := by decide +kernel
theorem dL_law_1297 : decode cL_law 1297 = .ok (.aload_n 2, 1) := by decide +kernel
theorem dL_law_1298 : decode cL_law 1298 = .ok (.invokevirtual 91, 3) := by decide +kernel
theorem dL_law_1301 : decode cL_law 1301 = .ok (.iload 5, 2) := by decide +kernel
theorem dL_law_1303 : decode cL_law 1303 = .ok (.if_icmp .eq 5, 3) := by decide +kernel
theorem dL_law_1306 : decode cL_law 1306 = .ok (.iconst 0, 1) := by decide +kernel
theorem dL_law_1307 : decode cL_law 1307 = .ok (.ireturn, 1) := by decide +kernel
theorem dL_law_1308 : decode cL_law 1308 = .ok (.iload 5, 2) := by decide +kernel
theorem dL_law_1310 : decode cL_law 1310 = .ok (.ifCond .ne 15, 3) := by decide +kernel
theorem dL_law_1313 : decode cL_law 1313 = .ok (.aload_n 3, 1) := by decide +kernel
theorem dL_law_1314 : decode cL_law 1314 = .ok (.iconst 0, 1) := by decide +kernel
theorem dL_law_1315 : decode cL_law 1315 = .ok (.laload, 1) := by decide +kernel
theorem dL_law_1316 : decode cL_law 1316 = .ok (.iload 6, 2) := by decide +kernel
theorem dL_law_1318 : decode cL_law 1318 = .ok (.i2l, 1) := by decide +kernel
theorem dL_law_1319 : decode cL_law 1319 = .ok (.lcmp, 1) := by decide +kernel
theorem dL_law_1320 : decode cL_law 1320 = .ok (.ifCond .eq 5, 3) := by decide +kernel
theorem dL_law_1323 : decode cL_law 1323 = .ok (.iconst 0, 1) := by decide +kernel
theorem dL_law_1324 : decode cL_law 1324 = .ok (.ireturn, 1) := by decide +kernel
theorem dL_law_1325 : decode cL_law 1325 = .ok (.goto 59, 3) := by decide +kernel
theorem dL_law_1328 : decode cL_law 1328 = .ok (.aload_n 1, 1) := by decide +kernel
theorem dL_law_1329 : decode cL_law 1329 = .ok (.aload_n 0, 1) := by decide +kernel
theorem dL_law_1330 : decode cL_law 1330 = .ok (.iload 4, 2) := by decide +kernel
theorem dL_law_1332 : decode cL_law 1332 = .ok (.iconst 1, 1) := by decide +kernel
theorem dL_law_1333 : decode cL_law 1333 = .ok (.iadd, 1) := by decide +kernel
theorem dL_law_1334 : decode cL_law 1334 = .ok (.iaload, 1) := by decide +kernel
theorem dL_law_1335 : decode cL_law 1335 = .ok (.aload_n 3, 1) := by decide +kernel
theorem dL_law_1336 : decode cL_law 1336 = .ok (.invokestatic 154, 3) := by decide +kernel
theorem dL_law_1339 : decode cL_law 1339 = .ok (.istore 5, 2) := by decide +kernel
theorem dL_law_1341 : decode cL_law 1341 = .ok (.aload_n 2, 1) := by decide +kernel
theorem dL_law_1342 : decode cL_law 1342 = .ok (.aload_n 0, 1) := by decide +kernel
theorem dL_law_1343 : decode cL_law 1343 = .ok (.iload 4, 2) := by decide +kernel
theorem dL_law_1345 : decode cL_law 1345 = .ok (.iconst 1, 1) := by decide +kernel
theorem dL_law_1346 : decode cL_law 1346 = .ok (.iadd, 1) := by decide +kernel
theorem dL_law_1347 : decode cL_law 1347 = .ok (.iaload, 1) := by decide +kernel
theorem dL_law_1348 : decode cL_law 1348 = .ok (.invokevirtual 156, 3) := by decide +kernel
theorem dL_law_1351 : decode cL_law 1351 = .ok (.istore 6, 2) := by decide +kernel
theorem dL_law_1353 : decode cL_law 1353 = .ok (.aload_n 2, 1) := by decide +kernel
theorem dL_law_1354 : decode cL_law 1354 = .ok (.invokevirtual 91, 3) := by decide +kernel
theorem dL_law_1357 : decode cL_law 1357 = .ok (.iload 5, 2) := by decide +kernel
theorem dL_law_1359 : decode cL_law 1359 = .ok (.if_icmp .eq 5, 3) := by decide +kernel
theorem dL_law_1362 : decode cL_law 1362 = .ok (.iconst 0, 1) := by decide +kernel
theorem dL_law_1363 : decode cL_law 1363 = .ok (.ireturn, 1) := by decide +kernel
theorem dL_law_1364 : decode cL_law 1364 = .ok (.iload 5, 2) := by decide +kernel
theorem dL_law_1366 : decode cL_law 1366 = .ok (.ifCond .ne 15, 3) := by decide +kernel
theorem dL_law_1369 : decode cL_law 1369 = .ok (.aload_n 3, 1) := by decide +kernel
theorem dL_law_1370 : decode cL_law 1370 = .ok (.iconst 0, 1) := by decide +kernel
theorem dL_law_1371 : decode cL_law 1371 = .ok (.laload, 1) := by decide +kernel
theorem dL_law_1372 : decode cL_law 1372 = .ok (.iload 6, 2) := by decide +kernel
theorem dL_law_1374 : decode cL_law 1374 = .ok (.i2l, 1) := by decide +kernel
theorem dL_law_1375 : decode cL_law 1375 = .ok (.lcmp, 1) := by decide +kernel
theorem dL_law_1376 : decode cL_law 1376 = .ok (.ifCond .eq 5, 3) := by decide +kernel
theorem dL_law_1379 : decode cL_law 1379 = .ok (.iconst 0, 1) := by decide +kernel
theorem dL_law_1380 : decode cL_law 1380 = .ok (.ireturn, 1) := by decide +kernel
theorem dL_law_1381 : decode cL_law 1381 = .ok (.goto 3, 3) := by decide +kernel
theorem dL_law_1384 : decode cL_law 1384 = .ok (.iinc 4 3, 3) := by decide +kernel
theorem dL_law_1387 : decode cL_law 1387 = .ok (.goto (-1364), 3) := by decide +kernel
theorem dL_law_1390 : decode cL_law 1390 = .ok (.iconst 1, 1) := by decide +kernel
theorem dL_law_1391 : decode cL_law 1391 = .ok (.ireturn, 1) := by decide +kernel
abbrev vwCl : List vw_C := [(RX0, TX0, 5), (RX1, TX1, 3), (RX2, TX2, 8), (RX3, TX3, 1), (RX4, TX4, 4), (RX5, TX5, 3), (RX6, TX6, 5), (RX7, TX7, 19)]
end
section
/-! ===== BEGIN a constructor that throws (launches without stack traces) ===== -/
section VXIA
variable {p : Program} {l : Launch} {e : Env} {R : Room} {s : State} {m : MethodId} {args : Array Value} {below : List Frame} {meth : Method} {c : Code} {T : State} {locs : List Loc} {cells slots : Nat}
theorem vx_callI (X : Stand p l e R s m args below meth c T locs cells slots) (hexec : p.tables.exec = Jvm.exec) {own : String} {index : Nat} {y : MethodName} {bytes : ByteArray} {maxL : Nat}
    (hown : s.vm.findClass own = some m.cls) (hy1 : y.name = "<init>") (hlink : (Cond.methodLink own index y).before args s = true) (hinst : (Cond.instanceMethod y).before args s = true)
    (hcode : (Cond.code y bytes maxL none).before args s = true) (hy : y.cls ≠ "java/lang/invoke/MethodHandle" ∧ y.cls ≠ "java/lang/invoke/VarHandle")
    {W9 : Nat} {Pre : Pt → Array Value → Prop} {Post : Pt → Array Value → Option Value → Pt → Prop} {PostX : Pt → Array Value → Addr → Pt → Prop} (hK : vx_Back l R p e below s args y 3 W9 Pre Post PostX)
    {g : JFrame} (hg : g.method = m) (hsize : g.locals.size = c.maxLocals) {a : Addr} {argsL rest : List Value} (hlen : ∀ sig, parseMethodDescriptor y.desc = some sig → argsL.length = sig.parameters.length)
    (hstack : g.stack = argsL.reverse ++ .ref a :: rest) (hW : 2 * g.monitorRoom + (rest.map fun v => v.category).sum ≤ W9) (hdg : decode c.code g.pc = .ok (.invokespecial index, 3))
    (hpre : ∀ vm₁, s.WarmedH vm₁ → Pre ⟨T.setVm vm₁, locs, cells, slots⟩ (Value.ref a :: argsL).toArray) :
    (∃ (v : Option Value) (vm₁ : Vm) (B : Pt), s.WarmedH vm₁ ∧ Stand p l e R s m args below meth c B.U B.locs B.cells B.slots ∧ Post ⟨T.setVm vm₁, locs, cells, slots⟩ (Value.ref a :: argsL).toArray v B ∧
      ∀ target, Steps p.tables e below (B.U.setTop { g with pc := g.pc + 3, stack := v.toList ++ rest }) target → Steps p.tables e below (T.setTop g) target) ∨
    (∃ (q : Addr) (vm₁ : Vm) (B : Pt), s.WarmedH vm₁ ∧ Stand p l e R s m args below meth c B.U B.locs B.cells B.slots ∧ PostX ⟨T.setVm vm₁, locs, cells, slots⟩ (Value.ref a :: argsL).toArray q B ∧
      Steps p.tables e below (T.setTop g) ((B.U.setTop { g with stack := rest }).pushFrame (.throwing q))) := by
  subst hg
  have hpl : e.platform.magicAccessors = ({} : Platform).magicAccessors := by rw [X.admits.platform]
  obtain ⟨mk, methM, cM, kP, vm₁, hnamed, hmethM, hcodeM, -, hlocalsM, -, hkP, -, hW₁, hstep₁⟩ := Steps.initColdArgs (e := e) X.here hexec X.warmed hpl hown hy1 hy hlink hinst hcode (f := g) rfl hlen hstack hdg
  have X₁ := X.noted hW₁
  rcases hK g.method meth c ⟨T.setVm vm₁, locs, cells, slots⟩ { g with stack := rest } (.invokespecial index) mk (Value.ref a :: argsL).toArray X₁ rfl hsize hdg hW (X₁.named hnamed) (hpre vm₁ X₁.warmed) with ⟨v, B, X', hpost, hsteps⟩ | ⟨q, B, X', hpost, hsteps⟩
  · exact Or.inl ⟨v, vm₁, B, X₁.warmed, X', hpost, fun target h => hstep₁ _ fun acts => by rw [doInvoke_state]; exact hsteps.trans h⟩
  · exact Or.inr ⟨q, vm₁, B, X₁.warmed, X', hpost, hstep₁ _ fun acts => by rw [doInvoke_state]; exact hsteps⟩
end VXIA
section VXIB
variable {p : Program} {l : Launch} {e : Env} {R : Room} {s : State} {m : MethodId} {args : Array Value} {below : List Frame} {meth : Method} {c : Code} {H : Heap} {locs : List Loc} {cells slots : Nat}
variable {y : MethodName} {bytes cc : ByteArray} {maxL nL mc ms n index : Nat} {ret : Option FieldType} {ws : List Cond} {rm : Room} {Pc : Array Value → State → Prop} {Qc : Array Value → State → Outcome → State → Prop} {XC : String → State → State → Prop} {free : Addr → Prop} {Ts : List Cond} {own C : String} {b : Addr} {As rest : List Value} {g : JFrame}
theorem vx_runI (S : CallFix p m c cc nL s args Ts own) (hM : vx_Met l y ws rm Pc Qc XC mc ms free) (cw : CallB R s args own index y bytes maxL none ws rm mc ms n ∧ y.name = "<init>" ∧ (Cond.instanceMethod y).before args s = true) (hp : PreS s H Pc (.ref b :: As))
    (hg : g.method = m) (hn : As.length = n) (hsize : g.locals.size = nL) (hstack : g.stack = As.reverse ++ .ref b :: rest) (hW : 2 * g.monitorRoom + (rest.map fun v => v.category).sum ≤ 8) (hdg : decode cc g.pc = .ok (.invokespecial index, 3)) (hf : cells + mc ≤ R.cells ∧ slots + ms ≤ R.slots) :
    vx_Run p l e R s m args below meth c H locs cells slots mc ms g rest (Qc (Value.ref b :: As).toArray) XC free := by
  have hK : vx_Back l R p e below s args y 3 8 (PreOf R mc ms Pc) (PostOf Qc mc ms free) (vx_Post XC mc ms free) := vx_callBack cw.1 hM hp.1
  obtain ⟨⟨-, -, -, -, -, -, hcode, -, hy, hlen, hl⟩, hy1, hin⟩ := cw
  obtain ⟨hx, hb, hml, ho, -⟩ := S
  have hPc := hp.2
  intro T hT X
  rcases vx_callI X hx (bytes := bytes) (maxL := maxL) ho hy1 hl hin hcode hy hK hg (hsize.trans hml.symm) (a := b) (argsL := As) (rest := rest) (fun sig h => hn.trans (hlen sig h)) hstack hW (by rw [hb]; exact hdg)
    (fun vm₁ hW₁ => ⟨hf.1, hf.2, hPc (T.setVm vm₁) hT hW₁⟩) with ⟨v, vm₁, ⟨U', l2, c2, s2⟩, hW₁, X', ⟨g', mk, t, L, e1, e2, hq, h1, hL, h2, h3⟩, st⟩ | ⟨q, vm₁, ⟨U', l2, c2, s2⟩, hW₁, X', ⟨g', mk, t, L, E, ce, e1, e2, hq, hce, hcv, hcl, h1, hL, h2, h3⟩, st⟩
  · dsimp only [Pt.U, Pt.locs, Pt.cells, Pt.slots] at X' e1 e2 h1 h2 h3 st
    subst h1; subst h2; subst h3
    exact Or.inl ⟨v, (T.setVm vm₁).calling g' mk (Value.ref b :: As).toArray, t, U', L, hT, X', hL, e1, e2, hq, st⟩
  · dsimp only [Pt.U, Pt.locs, Pt.cells, Pt.slots] at X' e1 e2 h1 h2 h3 st hcl
    subst h1; subst h2; subst h3
    exact Or.inr ⟨q, (T.setVm vm₁).calling g' mk (Value.ref b :: As).toArray, t, U', L, E, ce, hT, X', hL, e1, e2, hq, hce, hcv, vx_cls hW₁ hcl, st⟩
end VXIB
/-! ===== END ===== -/
/-! ===== BEGIN a private constructor of a nest mate that throws ===== -/
section VXIC
variable {p : Program} {l : Launch} {e : Env} {R : Room} {s : State} {m : MethodId} {args : Array Value} {below : List Frame} {meth : Method} {c : Code} {T : State} {locs : List Loc} {cells slots : Nat}
theorem vx_callIN (X : Stand p l e R s m args below meth c T locs cells slots) (hexec : p.tables.exec = Jvm.exec) {own : String} {index : Nat} {host : String} {y : MethodName} {bytes : ByteArray} {maxL : Nat}
    (hown : s.vm.findClass own = some m.cls) (hy1 : y.name = "<init>") (hlink : (Cond.methodLinkNest own index y host).before args s = true) (hinst : (Cond.instanceMethod y).before args s = true)
    (hcode : (Cond.code y bytes maxL none).before args s = true) (hy : y.cls ≠ "java/lang/invoke/MethodHandle" ∧ y.cls ≠ "java/lang/invoke/VarHandle")
    {W9 : Nat} {Pre : Pt → Array Value → Prop} {Post : Pt → Array Value → Option Value → Pt → Prop} {PostX : Pt → Array Value → Addr → Pt → Prop} (hK : vx_Back l R p e below s args y 3 W9 Pre Post PostX)
    {g : JFrame} (hg : g.method = m) (hsize : g.locals.size = c.maxLocals) {a : Addr} {argsL rest : List Value} (hlen : ∀ sig, parseMethodDescriptor y.desc = some sig → argsL.length = sig.parameters.length)
    (hstack : g.stack = argsL.reverse ++ .ref a :: rest) (hW : 2 * g.monitorRoom + (rest.map fun v => v.category).sum ≤ W9) (hdg : decode c.code g.pc = .ok (.invokespecial index, 3))
    (hpre : ∀ vm₁, s.WarmedH vm₁ → Pre ⟨T.setVm vm₁, locs, cells, slots⟩ (Value.ref a :: argsL).toArray) :
    (∃ (v : Option Value) (vm₁ : Vm) (B : Pt), s.WarmedH vm₁ ∧ Stand p l e R s m args below meth c B.U B.locs B.cells B.slots ∧ Post ⟨T.setVm vm₁, locs, cells, slots⟩ (Value.ref a :: argsL).toArray v B ∧
      ∀ target, Steps p.tables e below (B.U.setTop { g with pc := g.pc + 3, stack := v.toList ++ rest }) target → Steps p.tables e below (T.setTop g) target) ∨
    (∃ (q : Addr) (vm₁ : Vm) (B : Pt), s.WarmedH vm₁ ∧ Stand p l e R s m args below meth c B.U B.locs B.cells B.slots ∧ PostX ⟨T.setVm vm₁, locs, cells, slots⟩ (Value.ref a :: argsL).toArray q B ∧
      Steps p.tables e below (T.setTop g) ((B.U.setTop { g with stack := rest }).pushFrame (.throwing q))) := by
  subst hg
  have hpl : e.platform.magicAccessors = ({} : Platform).magicAccessors := by rw [X.admits.platform]
  obtain ⟨mk, methM, cM, kP, vm₁, hnamed, hmethM, hcodeM, -, hlocalsM, -, hkP, -, hW₁, hstep₁⟩ := Steps.initColdArgsNest (e := e) X.here hexec X.warmed hpl hown hy1 hy hlink hinst hcode (f := g) rfl hlen hstack hdg
  have X₁ := X.noted hW₁
  rcases hK g.method meth c ⟨T.setVm vm₁, locs, cells, slots⟩ { g with stack := rest } (.invokespecial index) mk (Value.ref a :: argsL).toArray X₁ rfl hsize hdg hW (X₁.named hnamed) (hpre vm₁ X₁.warmed) with ⟨v, B, X', hpost, hsteps⟩ | ⟨q, B, X', hpost, hsteps⟩
  · exact Or.inl ⟨v, vm₁, B, X₁.warmed, X', hpost, fun target h => hstep₁ _ fun acts => by rw [doInvoke_state]; exact hsteps.trans h⟩
  · exact Or.inr ⟨q, vm₁, B, X₁.warmed, X', hpost, hstep₁ _ fun acts => by rw [doInvoke_state]; exact hsteps⟩
end VXIC
section VXID
variable {p : Program} {l : Launch} {e : Env} {R : Room} {s : State} {m : MethodId} {args : Array Value} {below : List Frame} {meth : Method} {c : Code} {H : Heap} {locs : List Loc} {cells slots : Nat}
theorem vx_runIN {y : MethodName} {bytes cc : ByteArray} {maxL nL mc ms n index : Nat} {ws : List Cond} {rm : Room} {Pc : Array Value → State → Prop} {Qc : Array Value → State → Outcome → State → Prop} {XC : String → State → State → Prop} {free : Addr → Prop} {Ts : List Cond} {own host : String} {b : Addr} {As rest : List Value} {g : JFrame}
    (S : CallFix p m c cc nL s args Ts own) (hM : vx_Met l y ws rm Pc Qc XC mc ms free) (cw : va_CN R s args own index y host bytes maxL none ws rm mc ms n ∧ y.name = "<init>" ∧ (Cond.instanceMethod y).before args s = true) (hp : PreS s H Pc (.ref b :: As))
    (hg : g.method = m) (hn : As.length = n) (hsize : g.locals.size = nL) (hstack : g.stack = As.reverse ++ .ref b :: rest) (hW : 2 * g.monitorRoom + (rest.map fun v => v.category).sum ≤ 8) (hdg : decode cc g.pc = .ok (.invokespecial index, 3)) (hf : cells + mc ≤ R.cells ∧ slots + ms ≤ R.slots) :
    vx_Run p l e R s m args below meth c H locs cells slots mc ms g rest (Qc (Value.ref b :: As).toArray) XC free := by
  obtain ⟨⟨⟨hrc, hrs, hfr, hlo, hws, hcw⟩, hcode, hini, hy, hlen, hl⟩, hx1, hx2⟩ := cw
  have hK : vx_Back l R p e below s args y 3 8 (PreOf R mc ms Pc) (PostOf Qc mc ms free) (vx_Post XC mc ms free) := vx_back (bytes := bytes) (maxL := maxL) (ret := none) hM hp.1 hrc hrs hfr hlo hws hcw (fun a' U hW => word_at hW (Or.inl (by first | rfl | simp [Cond.onTables, Cond.keeps, Cond.steady])) hini)
  obtain ⟨hx, hb, hml, ho, -⟩ := S
  have hPc := hp.2
  intro T hT X
  rcases vx_callIN X hx (bytes := bytes) (maxL := maxL) ho hx1 hl hx2 hcode hy hK hg (hsize.trans hml.symm) (a := b) (argsL := As) (rest := rest) (fun sig h => hn.trans (hlen sig h)) hstack hW (by rw [hb]; exact hdg)
    (fun vm₁ hW₁ => ⟨hf.1, hf.2, hPc (T.setVm vm₁) hT hW₁⟩) with ⟨v, vm₁, ⟨U', l2, c2, s2⟩, hW₁, X', ⟨g', mk, t, L, e1, e2, hq, h1, hL, h2, h3⟩, st⟩ | ⟨q, vm₁, ⟨U', l2, c2, s2⟩, hW₁, X', ⟨g', mk, t, L, E, ce, e1, e2, hq, hce, hcv, hcl, h1, hL, h2, h3⟩, st⟩
  · dsimp only [Pt.U, Pt.locs, Pt.cells, Pt.slots] at X' e1 e2 h1 h2 h3 st
    subst h1; subst h2; subst h3
    exact Or.inl ⟨v, (T.setVm vm₁).calling g' mk (Value.ref b :: As).toArray, t, U', L, hT, X', hL, e1, e2, hq, st⟩
  · dsimp only [Pt.U, Pt.locs, Pt.cells, Pt.slots] at X' e1 e2 h1 h2 h3 st hcl
    subst h1; subst h2; subst h3
    exact Or.inr ⟨q, (T.setVm vm₁).calling g' mk (Value.ref b :: As).toArray, t, U', L, E, ce, hT, X', hL, e1, e2, hq, hce, hcv, vx_cls hW₁ hcl, st⟩
end VXID
/-! ===== END ===== -/
/-! ===== BEGIN a private method of a nest mate that may throw (follows va_callVN, va_callSN, va_runVN, va_runSN) ===== -/
section
variable {p : Program} {l : Launch} {e : Env} {R : Room} {s : State} {m : MethodId} {args : Array Value} {below : List Frame} {meth : Method} {c : Code} {H : Heap} {locs : List Loc} {cells slots : Nat}
variable {T : State}
theorem vx_callVN (X : Stand p l e R s m args below meth c T locs cells slots) (hexec : p.tables.exec = Jvm.exec) {own C : String} {index : Nat} {host : String} {y : MethodName} {bytes : ByteArray} {maxL : Nat} {ret : Option FieldType}
    (hown : s.vm.findClass own = some m.cls) (hlink : (Cond.methodLinkNest own index y host).before args s = true) (hinst : (Cond.instanceMethod y).before args s = true) (hsel : (Cond.selects C y y).before args s = true)
    (hcode : (Cond.code y bytes maxL ret).before args s = true) (hy : y.cls ≠ "java/lang/invoke/MethodHandle" ∧ y.cls ≠ "java/lang/invoke/VarHandle")
    {W : Nat} {Pre : Pt → Array Value → Prop} {Post : Pt → Array Value → Option Value → Pt → Prop} {PostX : Pt → Array Value → Addr → Pt → Prop} (hK : vx_Back l R p e below s args y 3 W Pre Post PostX)
    {b : Addr} {cellB : Cell} (hcell : T.heap[b]? = some cellB) (hobj : cellB.vm.isStatics = false) (hcls : s.vm.findClass C = some cellB.cls)
    {g : JFrame} (hg : g.method = m) (hsize : g.locals.size = c.maxLocals) {argsL rest : List Value} (hlen : ∀ sig, parseMethodDescriptor y.desc = some sig → argsL.length = sig.parameters.length)
    (hstack : g.stack = argsL.reverse ++ .ref b :: rest) (hW : 2 * g.monitorRoom + (rest.map fun v => v.category).sum ≤ W) (hdg : decode c.code g.pc = .ok (.invokevirtual index, 3))
    (hpre : ∀ vm₁, s.WarmedH vm₁ → Pre ⟨T.setVm vm₁, locs, cells, slots⟩ (Value.ref b :: argsL).toArray) :
    (∃ (v : Option Value) (vm₁ : Vm) (B : Pt), s.WarmedH vm₁ ∧ Stand p l e R s m args below meth c B.U B.locs B.cells B.slots ∧ Post ⟨T.setVm vm₁, locs, cells, slots⟩ (Value.ref b :: argsL).toArray v B ∧
      ∀ target, Steps p.tables e below (B.U.setTop { g with pc := g.pc + 3, stack := v.toList ++ rest }) target → Steps p.tables e below (T.setTop g) target) ∨
    (∃ (q : Addr) (vm₁ : Vm) (B : Pt), s.WarmedH vm₁ ∧ Stand p l e R s m args below meth c B.U B.locs B.cells B.slots ∧ PostX ⟨T.setVm vm₁, locs, cells, slots⟩ (Value.ref b :: argsL).toArray q B ∧
      Steps p.tables e below (T.setTop g) ((B.U.setTop { g with stack := rest }).pushFrame (.throwing q))) := by
  obtain ⟨mk, methM, hnamed, hmethM, hstM, habM⟩ := Cond.instanceMethod_spec hinst
  obtain ⟨methM', cM, hmethM', -, -, -, -, -, -, hsigM⟩ := Cond.code_spec hnamed hcode
  cases hmethM.symm.trans hmethM'
  obtain ⟨c2, r2, m2, q1, q2, q3, q4, kP, hkP, hkPi⟩ := Cond.selects_spec hsel
  cases hcls.symm.trans q1
  cases (State.methodFound?_of_named hnamed hy).symm.trans q2
  cases hnamed.symm.trans q3
  have hselP : selectMethod e.platform s.vm cellB.cls mk = .method mk := by rw [Launch.admits_selectMethod X.admits]; exact q4
  obtain ⟨vm₁, X₁, hstep₁⟩ := X.invokevirtualNest hexec hown hlink hnamed hmethM hstM hkP hkPi hy (a := b) (cell := cellB) hcell
    (fun z h => by rw [h] at hobj; cases hobj) hselP hmethM habM hkP hkPi (g := g) hg (argsL := argsL) (rest := rest) (hlen _ hsigM) hstack hdg
  rcases hK m meth c ⟨T.setVm vm₁, locs, cells, slots⟩ { g with stack := rest } (.invokevirtual index) mk (Value.ref b :: argsL).toArray X₁ hg hsize hdg hW (X₁.named hnamed) (hpre vm₁ X₁.warmed) with ⟨v, B, X', hpost, hsteps⟩ | ⟨q, B, X', hpost, hsteps⟩
  · exact Or.inl ⟨v, vm₁, B, X₁.warmed, X', hpost, fun target h => hstep₁ _ fun acts => by rw [doInvoke_state]; exact hsteps.trans h⟩
  · exact Or.inr ⟨q, vm₁, B, X₁.warmed, X', hpost, hstep₁ _ fun acts => by rw [doInvoke_state]; exact hsteps⟩
theorem vx_callSN (X : Stand p l e R s m args below meth c T locs cells slots) (hexec : p.tables.exec = Jvm.exec) {own : String} {index : Nat} {host : String} {y : MethodName} {bytes : ByteArray} {maxL : Nat} {ret : Option FieldType}
    (hown : s.vm.findClass own = some m.cls) (hlink : (Cond.methodLinkNest own index y host).before args s = true) (hstat : (Cond.static y).before args s = true) (hinit : (Cond.initialized y.cls).before args s = true)
    (hcode : (Cond.code y bytes maxL ret).before args s = true) (hy : y.cls ≠ "java/lang/invoke/MethodHandle" ∧ y.cls ≠ "java/lang/invoke/VarHandle")
    {W : Nat} {Pre : Pt → Array Value → Prop} {Post : Pt → Array Value → Option Value → Pt → Prop} {PostX : Pt → Array Value → Addr → Pt → Prop} (hK : vx_Back l R p e below s args y 3 W Pre Post PostX)
    {g : JFrame} (hg : g.method = m) (hsize : g.locals.size = c.maxLocals) {argsL rest : List Value} (hlen : ∀ sig, parseMethodDescriptor y.desc = some sig → argsL.length = sig.parameters.length)
    (hstack : g.stack = argsL.reverse ++ rest) (hW : 2 * g.monitorRoom + (rest.map fun v => v.category).sum ≤ W) (hdg : decode c.code g.pc = .ok (.invokestatic index, 3))
    (hpre : ∀ vm₁, s.WarmedH vm₁ → Pre ⟨T.setVm vm₁, locs, cells, slots⟩ argsL.toArray) :
    (∃ (v : Option Value) (vm₁ : Vm) (B : Pt), s.WarmedH vm₁ ∧ Stand p l e R s m args below meth c B.U B.locs B.cells B.slots ∧ Post ⟨T.setVm vm₁, locs, cells, slots⟩ argsL.toArray v B ∧
      ∀ target, Steps p.tables e below (B.U.setTop { g with pc := g.pc + 3, stack := v.toList ++ rest }) target → Steps p.tables e below (T.setTop g) target) ∨
    (∃ (q : Addr) (vm₁ : Vm) (B : Pt), s.WarmedH vm₁ ∧ Stand p l e R s m args below meth c B.U B.locs B.cells B.slots ∧ PostX ⟨T.setVm vm₁, locs, cells, slots⟩ argsL.toArray q B ∧
      Steps p.tables e below (T.setTop g) ((B.U.setTop { g with stack := rest }).pushFrame (.throwing q))) := by
  obtain ⟨mk, hnamed⟩ := Cond.code_named hcode
  obtain ⟨methM, cM, hmethM, -, -, -, -, -, -, hsigM⟩ := Cond.code_spec hnamed hcode
  have hstatic : methM.isStatic = true := Cond.static_spec hnamed hmethM hstat
  obtain ⟨kP, hkP, -⟩ := className_of_methodNamed hnamed
  have hinitP : kP.init = .initialized := Cond.initialized_spec (findClass_of_methodNamed hnamed) hkP hinit
  obtain ⟨vm₁, X₁, hstep₁⟩ := X.invokestaticNest hexec hown hlink hnamed hmethM hstatic hkP hinitP hy (g := g) hg (argsL := argsL) (rest := rest) (hlen _ hsigM) hstack hdg
  rcases hK m meth c ⟨T.setVm vm₁, locs, cells, slots⟩ { g with stack := rest } (.invokestatic index) mk argsL.toArray X₁ hg hsize hdg hW (X₁.named hnamed) (hpre vm₁ X₁.warmed) with ⟨v, B, X', hpost, hsteps⟩ | ⟨q, B, X', hpost, hsteps⟩
  · exact Or.inl ⟨v, vm₁, B, X₁.warmed, X', hpost, fun target h => hstep₁ _ fun acts => by rw [doInvoke_state]; exact hsteps.trans h⟩
  · exact Or.inr ⟨q, vm₁, B, X₁.warmed, X', hpost, hstep₁ _ fun acts => by rw [doInvoke_state]; exact hsteps⟩
theorem vx_runVN {y : MethodName} {bytes cc : ByteArray} {maxL nL mc ms n index : Nat} {ret : Option FieldType} {ws : List Cond} {rm : Room} {Pc : Array Value → State → Prop} {Qc : Array Value → State → Outcome → State → Prop} {XC : String → State → State → Prop} {free : Addr → Prop} {Ts : List Cond} {own C host : String} {b : Addr} {As rest : List Value} {g : JFrame}
    (S : CallFix p m c cc nL s args Ts own) (hM : vx_Met l y ws rm Pc Qc XC mc ms free) (cw : va_CN R s args own index y host bytes maxL ret ws rm mc ms n ∧ (Cond.instanceMethod y).before args s = true ∧ (Cond.selects C y y).before args s = true) (hp : PreV s H C b Pc As)
    (hg : g.method = m) (hn : As.length = n) (hsize : g.locals.size = nL) (hstack : g.stack = As.reverse ++ .ref b :: rest) (hW : 2 * g.monitorRoom + (rest.map fun v => v.category).sum ≤ 8) (hdg : decode cc g.pc = .ok (.invokevirtual index, 3)) (hf : cells + mc ≤ R.cells ∧ slots + ms ≤ R.slots) :
    vx_Run p l e R s m args below meth c H locs cells slots mc ms g rest (Qc (Value.ref b :: As).toArray) XC free := by
  obtain ⟨⟨⟨hrc, hrs, hfr, hlo, hws, hcw⟩, hcode, hini, hy, hlen, hl⟩, hx1, hx2⟩ := cw
  have hK : vx_Back l R p e below s args y 3 8 (PreOf R mc ms Pc) (PostOf Qc mc ms free) (vx_Post XC mc ms free) := vx_back (bytes := bytes) (maxL := maxL) (ret := ret) hM hp.1 hrc hrs hfr hlo hws hcw (fun a' U hW => word_at hW (Or.inl (by first | rfl | simp [Cond.onTables, Cond.keeps, Cond.steady])) hini)
  obtain ⟨hx, hb, hml, ho, -⟩ := S
  obtain ⟨-, ⟨cellB, hcB, hoB, hclB⟩, hPc⟩ := hp
  intro T hT X
  rcases vx_callVN X hx (C := C) (bytes := bytes) (maxL := maxL) (ret := ret) ho hl hx1 hx2 hcode hy hK (by rw [hT]; exact hcB) hoB hclB hg (hsize.trans hml.symm) (argsL := As) (rest := rest) (fun sig h => hn.trans (hlen sig h)) hstack hW (by rw [hb]; exact hdg)
    (fun vm₁ hW₁ => ⟨hf.1, hf.2, hPc (T.setVm vm₁) hT hW₁⟩) with ⟨v, vm₁, ⟨U', l2, c2, s2⟩, hW₁, X', ⟨g', mk, t, L, e1, e2, hq, h1, hL, h2, h3⟩, st⟩ | ⟨q, vm₁, ⟨U', l2, c2, s2⟩, hW₁, X', ⟨g', mk, t, L, E, ce, e1, e2, hq, hce, hcv, hcl, h1, hL, h2, h3⟩, st⟩
  · dsimp only [Pt.U, Pt.locs, Pt.cells, Pt.slots] at X' e1 e2 h1 h2 h3 st
    subst h1; subst h2; subst h3
    exact Or.inl ⟨v, (T.setVm vm₁).calling g' mk (Value.ref b :: As).toArray, t, U', L, hT, X', hL, e1, e2, hq, st⟩
  · dsimp only [Pt.U, Pt.locs, Pt.cells, Pt.slots] at X' e1 e2 h1 h2 h3 st hcl
    subst h1; subst h2; subst h3
    exact Or.inr ⟨q, (T.setVm vm₁).calling g' mk (Value.ref b :: As).toArray, t, U', L, E, ce, hT, X', hL, e1, e2, hq, hce, hcv, vx_cls hW₁ hcl, st⟩
theorem vx_runSN {y : MethodName} {bytes cc : ByteArray} {maxL nL mc ms n index : Nat} {ret : Option FieldType} {ws : List Cond} {rm : Room} {Pc : Array Value → State → Prop} {Qc : Array Value → State → Outcome → State → Prop} {XC : String → State → State → Prop} {free : Addr → Prop} {Ts : List Cond} {own host : String} {As rest : List Value} {g : JFrame}
    (S : CallFix p m c cc nL s args Ts own) (hM : vx_Met l y ws rm Pc Qc XC mc ms free) (cw : va_CN R s args own index y host bytes maxL ret ws rm mc ms n ∧ (Cond.static y).before args s = true ∧ True) (hp : PreS s H Pc As)
    (hg : g.method = m) (hn : As.length = n) (hsize : g.locals.size = nL) (hstack : g.stack = As.reverse ++ rest) (hW : 2 * g.monitorRoom + (rest.map fun v => v.category).sum ≤ 8) (hdg : decode cc g.pc = .ok (.invokestatic index, 3)) (hf : cells + mc ≤ R.cells ∧ slots + ms ≤ R.slots) :
    vx_Run p l e R s m args below meth c H locs cells slots mc ms g rest (Qc As.toArray) XC free := by
  obtain ⟨⟨⟨hrc, hrs, hfr, hlo, hws, hcw⟩, hcode, hini, hy, hlen, hl⟩, hx1, hx2⟩ := cw
  have hK : vx_Back l R p e below s args y 3 8 (PreOf R mc ms Pc) (PostOf Qc mc ms free) (vx_Post XC mc ms free) := vx_back (bytes := bytes) (maxL := maxL) (ret := ret) hM hp.1 hrc hrs hfr hlo hws hcw (fun a' U hW => word_at hW (Or.inl (by first | rfl | simp [Cond.onTables, Cond.keeps, Cond.steady])) hini)
  obtain ⟨hx, hb, hml, ho, -⟩ := S
  have hPc := hp.2
  intro T hT X
  rcases vx_callSN X hx (bytes := bytes) (maxL := maxL) (ret := ret) ho hl hx1 hini hcode hy hK hg (hsize.trans hml.symm) (argsL := As) (rest := rest) (fun sig h => hn.trans (hlen sig h)) hstack hW (by rw [hb]; exact hdg)
    (fun vm₁ hW₁ => ⟨hf.1, hf.2, hPc (T.setVm vm₁) hT hW₁⟩) with ⟨v, vm₁, ⟨U', l2, c2, s2⟩, hW₁, X', ⟨g', mk, t, L, e1, e2, hq, h1, hL, h2, h3⟩, st⟩ | ⟨q, vm₁, ⟨U', l2, c2, s2⟩, hW₁, X', ⟨g', mk, t, L, E, ce, e1, e2, hq, hce, hcv, hcl, h1, hL, h2, h3⟩, st⟩
  · dsimp only [Pt.U, Pt.locs, Pt.cells, Pt.slots] at X' e1 e2 h1 h2 h3 st
    subst h1; subst h2; subst h3
    exact Or.inl ⟨v, (T.setVm vm₁).calling g' mk As.toArray, t, U', L, hT, X', hL, e1, e2, hq, st⟩
  · dsimp only [Pt.U, Pt.locs, Pt.cells, Pt.slots] at X' e1 e2 h1 h2 h3 st hcl
    subst h1; subst h2; subst h3
    exact Or.inr ⟨q, (T.setVm vm₁).calling g' mk As.toArray, t, U', L, E, ce, hT, X', hL, e1, e2, hq, hce, hcv, vx_cls hW₁ hcl, st⟩
end
/-! ===== END ===== -/
end
section
/-! the judgement RW: a frame of a method over a whole world; its rows, one an instruction, over the kit's -/
abbrev gG : Type := (Launch × Nat) × (va_G × (Nat → ClassId)) × ((Nat → Nat) × Nat) × (Nat × Nat × (Nat → Int32))
abbrev gl (G : gG) : Launch := G.1.1
abbrev gb (G : gG) : Nat := G.1.2
abbrev gD (G : gG) : va_G := G.2.1.1
abbrev gcy (G : gG) : Nat → ClassId := G.2.1.2
abbrev gsa (G : gG) : Nat → Nat := G.2.2.1.1
abbrev gpa (G : gG) : Nat := G.2.2.1.2
abbrev gsb (G : gG) : Nat := G.2.2.2.1
abbrev gsL (G : gG) : Nat := G.2.2.2.2.1
abbrev gsx (G : gG) : Nat → Int32 := G.2.2.2.2.2
/-- a method: class, name, descriptor, locals, what it returns, its handlers -/
abbrev mT : Type := String × String × String × Nat × Option FieldType × List (Nat × Nat × Nat × Nat)
abbrev mO (M : mT) : String := M.1
abbrev mY (M : mT) : MethodName := ⟨M.1, M.2.1, M.2.2.1⟩
abbrev mN (M : mT) : Nat := M.2.2.2.1
abbrev mR (M : mT) : Option FieldType := M.2.2.2.2.1
abbrev mH (M : mT) : List (Nat × Nat × Nat × Nat) := M.2.2.2.2.2
def gA (G : gG) : Nat → Prop := fun q => gb G ≤ q
def gTys (G : gG) : List (ClassId × FieldType) := [(gcy G 0, .int), (gcy G 1, .boolean), (gcy G 2, .object RX2), (gcy G 3, .long)]
def gIsN : Cond → Bool
  | .fieldLinkNest .. => true
  | .methodLinkNest .. => true
  | .castable .. => true
  | .declares _ => true
  | _ => false
def gPairs : Nat → Value := fun j => .int (([0, 1, 2, 3, 0, 2, 1, 3, 0, 3, 1, 2] : List Int32).getD j 0)
def xIA : String := "java/lang/IllegalArgumentException"
def xIS : String := "java/lang/IllegalStateException"
def xIO : String := "java/lang/IndexOutOfBoundsException"
def xNS : String := "java/util/NoSuchElementException"
def ncL : List (String × String) := [(xIS, xIA), (xIS, xIO), (xIS, xNS), (xIA, xIO), (xNS, xIO), (xIO, xIA), (xIA, xIS), (xIO, xIS), (xNS, xIS), (xIO, xNS), (xNS, xIA), (xIA, xNS)]
def gSF (G : gG) (U : State) : Prop := (∀ w ∈ tables_1, gIsN w = true → va_Nw w U) ∧ va_K (gD G) vwCl (gTys G) U ∧ (∀ k tx, Cond.stringRef RX6 k tx ∈ tables_1 → vk_R RX6 k tx (gsa G k) U) ∧ (∀ q ∈ ncL, va_Nc q.1 q.2 U) ∧ va_AO RX2 U
def gSH (G : gG) (U : State) (H : Heap) : Prop := vx_Zq Bundle.tN "UNASSIGNED_STACK" Bundle.steD (gA G) U H ∧ vx_Zq Bundle.tN "SUPPRESSED_SENTINEL" Bundle.listD (gA G) U H ∧ va_Z RX6 "PAIRS" "[I" (.ref (gpa G)) (gA G) U H ∧ va_T .int (gpa G) 12 gPairs (gA G) U H ∧ va_X (gsb G) (gsL G) (gsx G) U H ∧ gsb G < H.size ∧ ¬ gA G (gsb G) ∧ gb G ≤ H.size
theorem gNw_warm {w : Cond} {s U : State} (hg : gIsN w = true) (hW : s.WarmedH U.vm) (h : va_Nw w s) : va_Nw w U := by
  cases w <;> first | exact absurd hg (by decide) | exact va_Nw.warmF hW h | exact va_Nw.warmM hW h | exact va_Nw.warmC hW h | exact va_Nw.warmD hW h | (simp [gIsN] at hg; done)
theorem gNw_tab {w : Cond} (hg : gIsN w = true) : w.onTables = true := by
  cases w <;> first | rfl | (simp [gIsN] at hg; done)
theorem gSF.warm {G : gG} {s U : State} (hW : s.WarmedH U.vm) (h : gSF G s) : gSF G U :=
  ⟨fun w hw hg => gNw_warm hg hW (h.1 w hw hg), va_K.moved hW.alike h.2.1, fun k tx hk => vk_R.warm hW (h.2.2.1 k tx hk), fun q hq => va_Nc.moved hW.alike (h.2.2.2.1 q hq), va_AO.moved hW.alike h.2.2.2.2⟩
theorem gSF.same {G : gG} {u U : State} (hv : U.vm = u.vm) (h : gSF G u) : gSF G U :=
  ⟨fun w hw hg => va_Nw.same (gNw_tab hg) hv.symm (h.1 w hw hg), va_K.moved (by rw [hv]; exact Vm.Alike.refl _) h.2.1, fun k tx hk => vk_R.same hv (h.2.2.1 k tx hk), fun q hq => va_Nc.moved (by rw [hv]; exact Vm.Alike.refl _) (h.2.2.2.1 q hq), va_AO.moved (by rw [hv]; exact Vm.Alike.refl _) h.2.2.2.2⟩
theorem gSH.moved {G : gG} {u U : State} {H : Heap} (hvm : u.vm.Alike U.vm) (h : gSH G u H) : gSH G U H := by
  obtain ⟨h1, h2, h3, h4, h5, h6, h7, h8⟩ := h
  exact ⟨vx_Zq.moved hvm h1, vx_Zq.moved hvm h2, va_Z.moved hvm h3, va_T.moved hvm h4, va_X.moved hvm h5, h6, h7, h8⟩
theorem gSH.kept {G : gG} {U : State} {H H1 : Heap} (h : gSH G U H) (hz : H.size ≤ H1.size) (hq : ∀ a : Nat, a < H.size → ¬ gA G a → H1[a]? = H[a]?) : gSH G U H1 := by
  obtain ⟨h1, h2, h3, h4, h5, h6, h7, h8⟩ := h
  exact ⟨vx_Zq.kept h1 hq, vx_Zq.kept h2 hq, va_Z.kept h3 hq, va_T.kept h4 hq, va_X.kept h5 (hq _ h6 h7), by omega, h7, by omega⟩
/-- a method's start: the tables' facts, the statics', the world -/
def gPre (G : gG) (ws : va_W) : State → Prop := fun U => gSF G U ∧ gSH G U U.heap ∧ va_P (gD G) vwCl ws U.heap ∧ va_D (gA G) ws
def gQ (G : gG) (post : Option Value → va_W → Prop) : Array Value → State → Outcome → State → Prop := fun _ st o t => (∃ (v : Option Value) (w : va_W), o = .returned v ∧ post v w ∧ va_P (gD G) vwCl w t.heap ∧ va_D (gA G) w) ∧ va_F (gA G) st t
def gX (G : gG) (px : String → va_W → Prop) : String → State → State → Prop := fun E st t => (∃ w : va_W, px E w ∧ va_P (gD G) vwCl w t.heap ∧ va_D (gA G) w) ∧ va_F (gA G) st t
def gWds : List Cond := lw_tbl.filter goodWord
def gHd (M : mT) (cc : ByteArray) : Cond := match mH M with
  | [] => .code (mY M) cc (mN M) (mR M)
  | _ :: _ => .codeWith (mY M) cc (mN M) (mR M) (mH M)
/-- a contract: from the world ws, with these arguments, it returns with post, or throws with px -/
def CT (G : gG) (M : mT) (cc : ByteArray) (rm : Room) (args : List Value) (ws : va_W) (post : Option Value → va_W → Prop) (px : String → va_W → Prop) : Prop :=
  vx_Met (gl G) (mY M) (gHd M cc :: gWds) rm (va_Pc args (gPre G ws)) (gQ G post) (gX G px) rm.cells rm.slots (gA G)
theorem gPre.blind {G : gG} {args : List Value} {ws : va_W} : FrameBlind (va_Pc args (gPre G ws)) := by
  intro a U g mk h
  obtain ⟨h0, h1, h2, h3, h4⟩ := h
  exact ⟨h0, gSF.same (u := U) (U := U.calling g mk a) rfl h1, gSH.moved (u := U) (U := U.calling g mk a) (Vm.Alike.refl U.vm) h2, h3, h4⟩
/-- the locals: those that are known, by their places -/
def gL (L : List (Option Value)) (nL : Nat) (ls : Array Slot) : Prop := ls.size = nL ∧ lv_wf ls ∧ ∀ (i : Nat) (v : Value), L[i]? = some (some v) → v.category = 1 ∧ ls[i]? = some (.val v)
def gAs (L : List (Option Value)) : List (Nat × Value) := (List.range L.length).filterMap (fun j => match L[j]? with
  | some (some v) => some (j, v)
  | _ => none)
theorem gAs_mem {L : List (Option Value)} {q : Nat × Value} : q ∈ gAs L ↔ L[q.1]? = some (some q.2) := by
  obtain ⟨j, v⟩ := q
  simp only [gAs, List.mem_filterMap, List.mem_range]
  constructor
  · rintro ⟨a, ha, h⟩
    split at h
    · rename_i w hw
      cases h
      exact hw
    · cases h
  · intro h
    have h' : L[j]? = some (some v) := h
    exact ⟨j, (List.getElem?_eq_some_iff.mp h').1, by rw [h']⟩
theorem gL.has {L : List (Option Value)} {nL : Nat} {ls : Array Slot} (h : gL L nL ls) : lv_has ls nL (gAs L) := ⟨h.1, h.2.1, fun q hq => (h.2.2 q.1 q.2 (gAs_mem.mp hq)).2⟩
theorem gL.st {L : List (Option Value)} {nL i : Nat} {v : Value} {ls ls' : Array Slot} (h : gL L nL ls) (hc : v.category = 1) (h' : lv_has ls' nL ((i, v) :: (gAs L).filter (fun q => !(q.1 == i) && !(q.1 + 1 == i && q.2.category == 2)))) : gL (L.set i (some v)) nL ls' := by
  refine ⟨h'.1, h'.2.1, fun j w hj => ?_⟩
  by_cases hji : j = i
  · subst hji
    have hl : j < L.length := by
      have h2 := (List.getElem?_eq_some_iff.mp hj).1
      rwa [List.length_set] at h2
    rw [List.getElem?_set_self hl] at hj
    cases hj
    exact ⟨hc, h'.2.2 (j, v) List.mem_cons_self⟩
  · rw [List.getElem?_set_ne (Ne.symm hji)] at hj
    have h1 := h.2.2 j w hj
    refine ⟨h1.1, h'.2.2 (j, w) (List.mem_cons_of_mem _ (List.mem_filter.mpr ⟨gAs_mem.mpr hj, ?_⟩))⟩
    have e1 : (j == i) = false := by simp [hji]
    have e2 : (w.category == 2) = false := by rw [h1.1]; rfl
    show (!(j == i) && !(j + 1 == i && w.category == 2)) = true
    rw [e1, e2]
    simp
def gFix (G : gG) (M : mT) (cc : ByteArray) (p : Program) (s : State) (m : MethodId) (args : Array Value) (meth : Method) (c : Code) : Prop :=
  p.tables.exec = Jvm.exec ∧ c.code = cc ∧ meth.sig.returnType = mR M ∧ c.maxLocals = mN M ∧ s.vm.findClass (mO M) = some m.cls ∧ (∀ w ∈ gWds, w.before args s = true) ∧ meth.locks = false ∧ c.exceptionTable.toList = tableOf (mH M) ∧ meth.name = M.2.1 ∧ gSF G s ∧ gSH G s s.heap
/-- the frame at pc with locals L and operands st, in the world ws, comes to QF -/
def RW (G : gG) (M : mT) (cc : ByteArray) (rm : Room) (QF : Array Value → State → List Frame → State → Prop) (pc : Nat) (L : List (Option Value)) (st : List Value) (ws : va_W) (cells slots : Nat) : Prop :=
  ∀ (p : Program) (e : Env) (s : State) (m : MethodId) (args : Array Value) (below : List Frame) (meth : Method) (c : Code) (H : Heap) (locs : List Loc) (ls : Array Slot),
    gFix G M cc p s m args meth c → va_P (gD G) vwCl ws H → va_D (gA G) ws → va_S (gA G) s.heap H locs → gL L (mN M) ls →
    W p (gl G) e rm s m args below meth c H locs cells slots (QF args s below) (F0 m pc ls st)
abbrev gQF (G : gG) (post : Option Value → va_W → Prop) (px : String → va_W → Prop) (rm : Room) : Array Value → State → List Frame → State → Prop :=
  fun args s below => vx_MQ below (gQ G post) (gX G px) args s rm.cells rm.slots (gA G)
theorem gWd {w : Cond} {args : Array Value} {s : State} (hts : ∀ w ∈ gWds, w.before args s = true) (hm : w ∈ lw_tbl) (hg : goodWord w = true) : w.before args s = true := hts w (List.mem_filter.mpr ⟨hm, hg⟩)
theorem gTb {w : Cond} (h : w ∈ tables_1) : w ∈ lw_tbl := List.mem_append_right _ h
theorem gSl {y : MethodName} {n : Nat} (h : (y, n) ∈ lw_privs) : Cond.selects y.cls y y ∈ lw_tbl := List.mem_append_left _ (List.mem_map.mpr ⟨(y, n), h, rfl⟩)
theorem gA_new {G : gG} {s : State} (h : gSH G s s.heap) : ∀ q, s.heap.size ≤ q → gA G q := fun _ hq => Nat.le_trans h.2.2.2.2.2.2.2 hq
section gRows
variable {G : gG} {M : mT} {cc : ByteArray} {rm : Room} {QF : Array Value → State → List Frame → State → Prop} {pc : Nat} {L : List (Option Value)} {st : List Value} {ws : va_W} {cells slots : Nat}
theorem RW.widen {k n : Nat} (h1 : cells ≤ k) (h2 : slots ≤ n) (kk : RW G M cc rm QF pc L st ws k n) : RW G M cc rm QF pc L st ws cells slots := by
  intro p e s m args below meth c H locs ls hF hP hD hS hL
  exact W.widen h1 h2 (kk p e s m args below meth c H locs ls hF hP hD hS hL)
theorem rIconst {n : Int} {v : Int32} (hd : decode cc pc = .ok (.iconst n, 1)) (hv : Int32.ofInt n = v) (k : RW G M cc rm QF (pc + 1) L (.int v :: st) ws cells slots) : RW G M cc rm QF pc L st ws cells slots := by
  intro p e s m args below meth c H locs ls hF hP hD hS hL
  exact lv_iconst hF.1 hF.2.1 hd hv (k p e s m args below meth c H locs ls hF hP hD hS hL)
theorem rBipush {n : Int} {v : Int32} (hd : decode cc pc = .ok (.bipush n, 2)) (hv : (Int8.ofInt n).toInt32 = v) (k : RW G M cc rm QF (pc + 2) L (.int v :: st) ws cells slots) : RW G M cc rm QF pc L st ws cells slots := by
  intro p e s m args below meth c H locs ls hF hP hD hS hL
  exact lv_bipush hF.1 hF.2.1 hd hv (k p e s m args below meth c H locs ls hF hP hD hS hL)
theorem rSipush {n : Int} {v : Int32} (hd : decode cc pc = .ok (.sipush n, 3)) (hv : (Int16.ofInt n).toInt32 = v) (k : RW G M cc rm QF (pc + 3) L (.int v :: st) ws cells slots) : RW G M cc rm QF pc L st ws cells slots := by
  intro p e s m args below meth c H locs ls hF hP hD hS hL
  exact lv_sipush hF.1 hF.2.1 hd hv (k p e s m args below meth c H locs ls hF hP hD hS hL)
theorem rLconst {n : Fin 2} {v : Int64} (hd : decode cc pc = .ok (.lconst n, 1)) (hv : Int64.ofNat (n : Nat) = v) (k : RW G M cc rm QF (pc + 1) L (.long v :: st) ws cells slots) : RW G M cc rm QF pc L st ws cells slots := by
  intro p e s m args below meth c H locs ls hF hP hD hS hL
  exact lv_lconst hF.1 hF.2.1 hd hv (k p e s m args below meth c H locs ls hF hP hD hS hL)
theorem rIload {i : Nat} {x : Int32} (hd : decode cc pc = .ok (.iload i, 2)) (hl : L[i]? = some (some (.int x))) (k : RW G M cc rm QF (pc + 2) L (.int x :: st) ws cells slots) : RW G M cc rm QF pc L st ws cells slots := by
  intro p e s m args below meth c H locs ls hF hP hD hS hL
  exact lv_iload hF.1 hF.2.1 hd (hL.2.2 i _ hl).2 (k p e s m args below meth c H locs ls hF hP hD hS hL)
theorem rIload_n {i : Fin 4} {x : Int32} (hd : decode cc pc = .ok (.iload_n i, 1)) (hl : L[i.1]? = some (some (.int x))) (k : RW G M cc rm QF (pc + 1) L (.int x :: st) ws cells slots) : RW G M cc rm QF pc L st ws cells slots := by
  intro p e s m args below meth c H locs ls hF hP hD hS hL
  exact lv_iload_n hF.1 hF.2.1 hd rfl (hL.2.2 i.1 _ hl).2 (k p e s m args below meth c H locs ls hF hP hD hS hL)
theorem rAload {i x : Nat} (hd : decode cc pc = .ok (.aload i, 2)) (hl : L[i]? = some (some (.ref x))) (k : RW G M cc rm QF (pc + 2) L (.ref x :: st) ws cells slots) : RW G M cc rm QF pc L st ws cells slots := by
  intro p e s m args below meth c H locs ls hF hP hD hS hL
  exact lv_aload hF.1 hF.2.1 hd (hL.2.2 i _ hl).2 (k p e s m args below meth c H locs ls hF hP hD hS hL)
theorem rAload_n {i : Fin 4} {x : Nat} (hd : decode cc pc = .ok (.aload_n i, 1)) (hl : L[i.1]? = some (some (.ref x))) (k : RW G M cc rm QF (pc + 1) L (.ref x :: st) ws cells slots) : RW G M cc rm QF pc L st ws cells slots := by
  intro p e s m args below meth c H locs ls hF hP hD hS hL
  exact lv_aload_n hF.1 hF.2.1 hd rfl (hL.2.2 i.1 _ hl).2 (k p e s m args below meth c H locs ls hF hP hD hS hL)
theorem rIstore {i : Nat} {x : Int32} (hd : decode cc pc = .ok (.istore i, 2)) (hi : i < mN M) (k : RW G M cc rm QF (pc + 2) (L.set i (some (.int x))) st ws cells slots) : RW G M cc rm QF pc L (.int x :: st) ws cells slots := by
  intro p e s m args below meth c H locs ls hF hP hD hS hL
  exact lv_istore hF.1 hF.2.1 hd hL.has hi rfl (fun ls' h' => k p e s m args below meth c H locs ls' hF hP hD hS (hL.st rfl h'))
theorem rIstore_n {i : Fin 4} {x : Int32} (hd : decode cc pc = .ok (.istore_n i, 1)) (hi : i.1 < mN M) (k : RW G M cc rm QF (pc + 1) (L.set i.1 (some (.int x))) st ws cells slots) : RW G M cc rm QF pc L (.int x :: st) ws cells slots := by
  intro p e s m args below meth c H locs ls hF hP hD hS hL
  exact lv_istore_n hF.1 hF.2.1 hd rfl hL.has hi rfl (fun ls' h' => k p e s m args below meth c H locs ls' hF hP hD hS (hL.st rfl h'))
theorem rAstore {i x : Nat} (hd : decode cc pc = .ok (.astore i, 2)) (hi : i < mN M) (k : RW G M cc rm QF (pc + 2) (L.set i (some (.ref x))) st ws cells slots) : RW G M cc rm QF pc L (.ref x :: st) ws cells slots := by
  intro p e s m args below meth c H locs ls hF hP hD hS hL
  exact lv_astore hF.1 hF.2.1 hd hL.has hi rfl (fun ls' h' => k p e s m args below meth c H locs ls' hF hP hD hS (hL.st rfl h'))
theorem rAstore_n {i : Fin 4} {x : Nat} (hd : decode cc pc = .ok (.astore_n i, 1)) (hi : i.1 < mN M) (k : RW G M cc rm QF (pc + 1) (L.set i.1 (some (.ref x))) st ws cells slots) : RW G M cc rm QF pc L (.ref x :: st) ws cells slots := by
  intro p e s m args below meth c H locs ls hF hP hD hS hL
  exact lv_astore_n hF.1 hF.2.1 hd rfl hL.has hi rfl (fun ls' h' => k p e s m args below meth c H locs ls' hF hP hD hS (hL.st rfl h'))
theorem rIinc {i : Nat} {n : Int} {x v : Int32} (hd : decode cc pc = .ok (.iinc i n, 3)) (hl : L[i]? = some (some (.int x))) (hv : x + Int32.ofInt n = v) (hi : i < mN M) (k : RW G M cc rm QF (pc + 3) (L.set i (some (.int v))) st ws cells slots) : RW G M cc rm QF pc L st ws cells slots := by
  intro p e s m args below meth c H locs ls hF hP hD hS hL
  obtain ⟨j, hj⟩ := List.getElem?_of_mem (gAs_mem (q := (i, Value.int x)).mpr hl)
  exact lv_iinc hF.1 hF.2.1 hd hL.has hj hv hi rfl (fun ls' h' => k p e s m args below meth c H locs ls' hF hP hD hS (hL.st rfl h'))
theorem rDup {v : Value} (hd : decode cc pc = .ok (.dup, 1)) (hc : v.category = 1) (k : RW G M cc rm QF (pc + 1) L (v :: v :: st) ws cells slots) : RW G M cc rm QF pc L (v :: st) ws cells slots := by
  intro p e s m args below meth c H locs ls hF hP hD hS hL
  exact lv_dup hF.1 hF.2.1 hd hc (k p e s m args below meth c H locs ls hF hP hD hS hL)
theorem rIadd {x y : Int32} (hd : decode cc pc = .ok (.iadd, 1)) (k : RW G M cc rm QF (pc + 1) L (.int (x + y) :: st) ws cells slots) : RW G M cc rm QF pc L (.int y :: .int x :: st) ws cells slots := by
  intro p e s m args below meth c H locs ls hF hP hD hS hL
  exact lv_iadd hF.1 hF.2.1 hd (k p e s m args below meth c H locs ls hF hP hD hS hL)
theorem rIsub {x y : Int32} (hd : decode cc pc = .ok (.isub, 1)) (k : RW G M cc rm QF (pc + 1) L (.int (x - y) :: st) ws cells slots) : RW G M cc rm QF pc L (.int y :: .int x :: st) ws cells slots := by
  intro p e s m args below meth c H locs ls hF hP hD hS hL
  exact lv_isub hF.1 hF.2.1 hd (k p e s m args below meth c H locs ls hF hP hD hS hL)
theorem rImul {x y : Int32} (hd : decode cc pc = .ok (.imul, 1)) (k : RW G M cc rm QF (pc + 1) L (.int (x * y) :: st) ws cells slots) : RW G M cc rm QF pc L (.int y :: .int x :: st) ws cells slots := by
  intro p e s m args below meth c H locs ls hF hP hD hS hL
  exact lv_imul hF.1 hF.2.1 hd (k p e s m args below meth c H locs ls hF hP hD hS hL)
theorem rIdiv {x y : Int32} (hd : decode cc pc = .ok (.idiv, 1)) (h0 : ¬ y = 0) (k : RW G M cc rm QF (pc + 1) L (.int (x / y) :: st) ws cells slots) : RW G M cc rm QF pc L (.int y :: .int x :: st) ws cells slots := by
  intro p e s m args below meth c H locs ls hF hP hD hS hL
  exact lv_idiv hF.1 hF.2.1 hd h0 (k p e s m args below meth c H locs ls hF hP hD hS hL)
theorem rIrem {x y : Int32} (hd : decode cc pc = .ok (.irem, 1)) (h0 : ¬ y = 0) (k : RW G M cc rm QF (pc + 1) L (.int (x - x / y * y) :: st) ws cells slots) : RW G M cc rm QF pc L (.int y :: .int x :: st) ws cells slots := by
  intro p e s m args below meth c H locs ls hF hP hD hS hL
  exact lv_irem hF.1 hF.2.1 hd h0 (k p e s m args below meth c H locs ls hF hP hD hS hL)
theorem rIneg {x : Int32} (hd : decode cc pc = .ok (.ineg, 1)) (k : RW G M cc rm QF (pc + 1) L (.int (-x) :: st) ws cells slots) : RW G M cc rm QF pc L (.int x :: st) ws cells slots := by
  intro p e s m args below meth c H locs ls hF hP hD hS hL
  exact lv_ineg hF.1 hF.2.1 hd (k p e s m args below meth c H locs ls hF hP hD hS hL)
theorem rIand {x y : Int32} (hd : decode cc pc = .ok (.iand, 1)) (k : RW G M cc rm QF (pc + 1) L (.int (x &&& y) :: st) ws cells slots) : RW G M cc rm QF pc L (.int y :: .int x :: st) ws cells slots := by
  intro p e s m args below meth c H locs ls hF hP hD hS hL
  exact lv_iand hF.1 hF.2.1 hd (k p e s m args below meth c H locs ls hF hP hD hS hL)
theorem rI2l {x : Int32} (hd : decode cc pc = .ok (.i2l, 1)) (k : RW G M cc rm QF (pc + 1) L (.long x.toInt64 :: st) ws cells slots) : RW G M cc rm QF pc L (.int x :: st) ws cells slots := by
  intro p e s m args below meth c H locs ls hF hP hD hS hL
  exact lv_i2l hF.1 hF.2.1 hd rfl (k p e s m args below meth c H locs ls hF hP hD hS hL)
theorem rLcmp {x y : Int64} (hd : decode cc pc = .ok (.lcmp, 1)) (k : RW G M cc rm QF (pc + 1) L (.int (lg_cmp x y) :: st) ws cells slots) : RW G M cc rm QF pc L (.long y :: .long x :: st) ws cells slots := by
  intro p e s m args below meth c H locs ls hF hP hD hS hL
  exact W.lcmp hF.1 hF.2.1 hd (k p e s m args below meth c H locs ls hF hP hD hS hL)
theorem rGoto {off : Int} {tgt : Nat} (hd : decode cc pc = .ok (.goto off, 3)) (ht : (pc : Int) + off = (tgt : Int)) (k : RW G M cc rm QF tgt L st ws cells slots) : RW G M cc rm QF pc L st ws cells slots := by
  intro p e s m args below meth c H locs ls hF hP hD hS hL
  exact lv_goto hF.1 hF.2.1 hd ht (k p e s m args below meth c H locs ls hF hP hD hS hL)
end gRows
section gBranches
variable {G : gG} {M : mT} {cc : ByteArray} {rm : Room} {QF : Array Value → State → List Frame → State → Prop} {pc : Nat} {L : List (Option Value)} {st : List Value} {ws : va_W} {cells slots : Nat}
theorem r_if_eq {x : Int32} {off : Int} {tgt : Nat} (hd : decode cc pc = .ok (.ifCond .eq off, 3)) (ht : (pc : Int) + off = (tgt : Int)) (kt : x = 0 → RW G M cc rm QF tgt L st ws cells slots) (kf : ¬ x = 0 → RW G M cc rm QF (pc + 3) L st ws cells slots) : RW G M cc rm QF pc L (.int x :: st) ws cells slots := by
  intro p e s m args below meth c H locs ls hF hP hD hS hL
  exact lv_if_eq hF.1 hF.2.1 hd ht (fun h => kt h p e s m args below meth c H locs ls hF hP hD hS hL) (fun h => kf h p e s m args below meth c H locs ls hF hP hD hS hL)
theorem r_icmp_eq {x y : Int32} {off : Int} {tgt : Nat} (hd : decode cc pc = .ok (.if_icmp .eq off, 3)) (ht : (pc : Int) + off = (tgt : Int)) (kt : x = y → RW G M cc rm QF tgt L st ws cells slots) (kf : ¬ x = y → RW G M cc rm QF (pc + 3) L st ws cells slots) : RW G M cc rm QF pc L (.int y :: .int x :: st) ws cells slots := by
  intro p e s m args below meth c H locs ls hF hP hD hS hL
  exact lv_icmp_eq hF.1 hF.2.1 hd ht (fun h => kt h p e s m args below meth c H locs ls hF hP hD hS hL) (fun h => kf h p e s m args below meth c H locs ls hF hP hD hS hL)
theorem r_if_ne {x : Int32} {off : Int} {tgt : Nat} (hd : decode cc pc = .ok (.ifCond .ne off, 3)) (ht : (pc : Int) + off = (tgt : Int)) (kt : ¬ x = 0 → RW G M cc rm QF tgt L st ws cells slots) (kf : x = 0 → RW G M cc rm QF (pc + 3) L st ws cells slots) : RW G M cc rm QF pc L (.int x :: st) ws cells slots := by
  intro p e s m args below meth c H locs ls hF hP hD hS hL
  exact lv_if_ne hF.1 hF.2.1 hd ht (fun h => kt h p e s m args below meth c H locs ls hF hP hD hS hL) (fun h => kf h p e s m args below meth c H locs ls hF hP hD hS hL)
theorem r_icmp_ne {x y : Int32} {off : Int} {tgt : Nat} (hd : decode cc pc = .ok (.if_icmp .ne off, 3)) (ht : (pc : Int) + off = (tgt : Int)) (kt : ¬ x = y → RW G M cc rm QF tgt L st ws cells slots) (kf : x = y → RW G M cc rm QF (pc + 3) L st ws cells slots) : RW G M cc rm QF pc L (.int y :: .int x :: st) ws cells slots := by
  intro p e s m args below meth c H locs ls hF hP hD hS hL
  exact lv_icmp_ne hF.1 hF.2.1 hd ht (fun h => kt h p e s m args below meth c H locs ls hF hP hD hS hL) (fun h => kf h p e s m args below meth c H locs ls hF hP hD hS hL)
theorem r_if_lt {x : Int32} {off : Int} {tgt : Nat} (hd : decode cc pc = .ok (.ifCond .lt off, 3)) (ht : (pc : Int) + off = (tgt : Int)) (kt : x < 0 → RW G M cc rm QF tgt L st ws cells slots) (kf : ¬ x < 0 → RW G M cc rm QF (pc + 3) L st ws cells slots) : RW G M cc rm QF pc L (.int x :: st) ws cells slots := by
  intro p e s m args below meth c H locs ls hF hP hD hS hL
  exact lv_if_lt hF.1 hF.2.1 hd ht (fun h => kt h p e s m args below meth c H locs ls hF hP hD hS hL) (fun h => kf h p e s m args below meth c H locs ls hF hP hD hS hL)
theorem r_icmp_lt {x y : Int32} {off : Int} {tgt : Nat} (hd : decode cc pc = .ok (.if_icmp .lt off, 3)) (ht : (pc : Int) + off = (tgt : Int)) (kt : x < y → RW G M cc rm QF tgt L st ws cells slots) (kf : ¬ x < y → RW G M cc rm QF (pc + 3) L st ws cells slots) : RW G M cc rm QF pc L (.int y :: .int x :: st) ws cells slots := by
  intro p e s m args below meth c H locs ls hF hP hD hS hL
  exact lv_icmp_lt hF.1 hF.2.1 hd ht (fun h => kt h p e s m args below meth c H locs ls hF hP hD hS hL) (fun h => kf h p e s m args below meth c H locs ls hF hP hD hS hL)
theorem r_if_ge {x : Int32} {off : Int} {tgt : Nat} (hd : decode cc pc = .ok (.ifCond .ge off, 3)) (ht : (pc : Int) + off = (tgt : Int)) (kt : 0 ≤ x → RW G M cc rm QF tgt L st ws cells slots) (kf : ¬ 0 ≤ x → RW G M cc rm QF (pc + 3) L st ws cells slots) : RW G M cc rm QF pc L (.int x :: st) ws cells slots := by
  intro p e s m args below meth c H locs ls hF hP hD hS hL
  exact lv_if_ge hF.1 hF.2.1 hd ht (fun h => kt h p e s m args below meth c H locs ls hF hP hD hS hL) (fun h => kf h p e s m args below meth c H locs ls hF hP hD hS hL)
theorem r_icmp_ge {x y : Int32} {off : Int} {tgt : Nat} (hd : decode cc pc = .ok (.if_icmp .ge off, 3)) (ht : (pc : Int) + off = (tgt : Int)) (kt : y ≤ x → RW G M cc rm QF tgt L st ws cells slots) (kf : ¬ y ≤ x → RW G M cc rm QF (pc + 3) L st ws cells slots) : RW G M cc rm QF pc L (.int y :: .int x :: st) ws cells slots := by
  intro p e s m args below meth c H locs ls hF hP hD hS hL
  exact lv_icmp_ge hF.1 hF.2.1 hd ht (fun h => kt h p e s m args below meth c H locs ls hF hP hD hS hL) (fun h => kf h p e s m args below meth c H locs ls hF hP hD hS hL)
theorem r_if_gt {x : Int32} {off : Int} {tgt : Nat} (hd : decode cc pc = .ok (.ifCond .gt off, 3)) (ht : (pc : Int) + off = (tgt : Int)) (kt : 0 < x → RW G M cc rm QF tgt L st ws cells slots) (kf : ¬ 0 < x → RW G M cc rm QF (pc + 3) L st ws cells slots) : RW G M cc rm QF pc L (.int x :: st) ws cells slots := by
  intro p e s m args below meth c H locs ls hF hP hD hS hL
  exact lv_if_gt hF.1 hF.2.1 hd ht (fun h => kt h p e s m args below meth c H locs ls hF hP hD hS hL) (fun h => kf h p e s m args below meth c H locs ls hF hP hD hS hL)
theorem r_icmp_gt {x y : Int32} {off : Int} {tgt : Nat} (hd : decode cc pc = .ok (.if_icmp .gt off, 3)) (ht : (pc : Int) + off = (tgt : Int)) (kt : y < x → RW G M cc rm QF tgt L st ws cells slots) (kf : ¬ y < x → RW G M cc rm QF (pc + 3) L st ws cells slots) : RW G M cc rm QF pc L (.int y :: .int x :: st) ws cells slots := by
  intro p e s m args below meth c H locs ls hF hP hD hS hL
  exact lv_icmp_gt hF.1 hF.2.1 hd ht (fun h => kt h p e s m args below meth c H locs ls hF hP hD hS hL) (fun h => kf h p e s m args below meth c H locs ls hF hP hD hS hL)
theorem r_if_le {x : Int32} {off : Int} {tgt : Nat} (hd : decode cc pc = .ok (.ifCond .le off, 3)) (ht : (pc : Int) + off = (tgt : Int)) (kt : x ≤ 0 → RW G M cc rm QF tgt L st ws cells slots) (kf : ¬ x ≤ 0 → RW G M cc rm QF (pc + 3) L st ws cells slots) : RW G M cc rm QF pc L (.int x :: st) ws cells slots := by
  intro p e s m args below meth c H locs ls hF hP hD hS hL
  exact lv_if_le hF.1 hF.2.1 hd ht (fun h => kt h p e s m args below meth c H locs ls hF hP hD hS hL) (fun h => kf h p e s m args below meth c H locs ls hF hP hD hS hL)
theorem r_icmp_le {x y : Int32} {off : Int} {tgt : Nat} (hd : decode cc pc = .ok (.if_icmp .le off, 3)) (ht : (pc : Int) + off = (tgt : Int)) (kt : x ≤ y → RW G M cc rm QF tgt L st ws cells slots) (kf : ¬ x ≤ y → RW G M cc rm QF (pc + 3) L st ws cells slots) : RW G M cc rm QF pc L (.int y :: .int x :: st) ws cells slots := by
  intro p e s m args below meth c H locs ls hF hP hD hS hL
  exact lv_icmp_le hF.1 hF.2.1 hd ht (fun h => kt h p e s m args below meth c H locs ls hF hP hD hS hL) (fun h => kf h p e s m args below meth c H locs ls hF hP hD hS hL)
theorem rDup2 {a b : Value} (hd : decode cc pc = .ok (.dup2, 1)) (ha : a.category = 1) (hb : b.category = 1) (k : RW G M cc rm QF (pc + 1) L (a :: b :: a :: b :: st) ws cells slots) : RW G M cc rm QF pc L (a :: b :: st) ws cells slots := by
  intro p e s m args below meth c H locs ls hF hP hD hS hL
  exact lv_dup2_11 hF.1 hF.2.1 hd ha hb (k p e s m args below meth c H locs ls hF hP hD hS hL)
theorem rTabOut {dflt lo hi : Int} {offs : Array Int} {len : Nat} {x : Int32} {tgt : Nat} (hd : decode cc pc = .ok (.tableswitch dflt lo hi offs, len)) (h : x.toInt < lo ∨ hi < x.toInt) (ht : (pc : Int) + dflt = (tgt : Int)) (k : RW G M cc rm QF tgt L st ws cells slots) : RW G M cc rm QF pc L (.int x :: st) ws cells slots := by
  intro p e s m args below meth c H locs ls hF hP hD hS hL
  exact lv_tableOut hF.1 hF.2.1 hd h ht (k p e s m args below meth c H locs ls hF hP hD hS hL)
theorem rTabIn {dflt lo hi : Int} {offs : Array Int} {len : Nat} {x : Int32} {off : Int} {tgt : Nat} (hd : decode cc pc = .ok (.tableswitch dflt lo hi offs, len)) (h1 : ¬ x.toInt < lo) (h2 : ¬ hi < x.toInt) (ho : offs[(x.toInt - lo).toNat]? = some off) (ht : (pc : Int) + off = (tgt : Int)) (k : RW G M cc rm QF tgt L st ws cells slots) : RW G M cc rm QF pc L (.int x :: st) ws cells slots := by
  intro p e s m args below meth c H locs ls hF hP hD hS hL
  exact lv_tableIn hF.1 hF.2.1 hd h1 h2 ho ht (k p e s m args below meth c H locs ls hF hP hD hS hL)
end gBranches
/-- a field's entry in the class own's pool: the k-th field of the class of number ci -/
def fLk (own : String) (idx ci k : Nat) (C : String) (T : u_T) (N : Nat) : Prop := vwCl[ci]? = some (C, T, N) ∧ k < N ∧ (∀ w ∈ u_ws C T N, w ∈ gWds) ∧ (Cond.fieldLink own idx (T k).1 (T k).2.1 (T k).2.2.1 ∈ gWds ∨ ∃ host : String, Cond.fieldLinkNest own idx (T k).1 (T k).2.1 (T k).2.2.1 host ∈ tables_1)
/-- a class's fields: their types, their names apart -/
def fTy (C : String) (T : u_T) (N : Nat) (ty : Nat → FieldType) : Prop := (∀ k, k < N → parseFieldDescriptor (T k).2.2.1 = some (ty k)) ∧ (∀ a, a < N → ∀ b, b < N → a ≠ b → (T a).2.1 ≠ (T b).2.1)
section gHeap
variable {G : gG} {M : mT} {cc : ByteArray} {rm : Room} {QF : Array Value → State → List Frame → State → Prop} {pc : Nat} {L : List (Option Value)} {st : List Value} {ws : va_W} {cells slots : Nat} {a : Nat}
theorem rGet {idx ci k N : Nat} {C : String} {T : u_T} {fs : List Value} {v : Value} (hd : decode cc pc = .ok (.getfield idx, 3)) (hf : fLk (mO M) idx ci k C T N) (q : Nat) (he : ws[q]? = some (a, .inr (ci, fs))) (hv : fs[k]? = some v) (kk : RW G M cc rm QF (pc + 3) L (v :: st) ws cells slots) : RW G M cc rm QF pc L (.ref a :: st) ws cells slots := by
  intro p e s m args below meth c H locs ls hF hP hD hS hL
  obtain ⟨h1, h2, h3, h4, h5, h6, h7, h8, h9, hsf, hsh⟩ := id hF
  obtain ⟨f1, f2, f3, f4⟩ := hf
  rcases f4 with f4 | ⟨host, f4⟩
  · exact va_get h1 h2 (Ts := gWds) h6 f3 h5 hsf.2.1 hP q he f1 k f2 (h6 _ f4) (fun _ h => h) hv hd (kk p e s m args below meth c H locs ls hF hP hD hS hL)
  · exact va_getN h1 h2 (Ts := gWds) h6 f3 h5 hsf.2.1 hP q he f1 k f2 (va_Nw.use rfl (hsf.1 _ f4 rfl)) (fun _ h => h) hv hd (kk p e s m args below meth c H locs ls hF hP hD hS hL)
theorem rPut {idx ci k N : Nat} {C : String} {T : u_T} {ty : Nat → FieldType} {fs : List Value} {v : Value} (hd : decode cc pc = .ok (.putfield idx, 3)) (hf : fLk (mO M) idx ci k C T N) (ht : fTy C T N ty) (hfin : (T k).2.2.2 = false) (q : Nat) (he : ws[q]? = some (a, .inr (ci, fs))) (hn : narrow (ty k) v = v) (hfit : fits (ty k) v = true) (hl : k < fs.length) (kk : RW G M cc rm QF (pc + 3) L st (ws.set q (a, .inr (ci, fs.set k v))) cells slots) : RW G M cc rm QF pc L (v :: .ref a :: st) ws cells slots := by
  intro p e s m args below meth c H locs ls hF hP hD hS hL
  obtain ⟨h1, h2, h3, h4, h5, h6, h7, h8, h9, hsf, hsh⟩ := id hF
  obtain ⟨f1, f2, f3, f4⟩ := hf
  rcases f4 with f4 | ⟨host, f4⟩
  · exact va_put h1 h2 (Ts := gWds) h6 f3 ty ht.1 ht.2 h5 hsf.2.1 hP hD hS q he f1 k f2 (h6 _ f4) (fun _ h => h) hfin (ht.1 k f2) hn hfit hl hd (fun H1 locs1 hP1 hD1 hS1 => kk p e s m args below meth c H1 locs1 ls hF hP1 hD1 hS1 hL)
  · exact va_putN h1 h2 (Ts := gWds) h6 f3 ty ht.1 ht.2 h5 hsf.2.1 hP hD hS q he f1 k f2 (va_Nw.use rfl (hsf.1 _ f4 rfl)) (fun _ h => h) hfin (ht.1 k f2) hn hfit hl hd (fun H1 locs1 hP1 hD1 hS1 => kk p e s m args below meth c H1 locs1 ls hF hP1 hD1 hS1 hL)
theorem rPutF {idx ci k N : Nat} {C : String} {T : u_T} {ty : Nat → FieldType} {fs : List Value} {v : Value} (hd : decode cc pc = .ok (.putfield idx, 3)) (hf : fLk (mO M) idx ci k C T N) (hg : Cond.fieldLink (mO M) idx (T k).1 (T k).2.1 (T k).2.2.1 ∈ gWds) (ht : fTy C T N ty) (hfin : (T k).2.2.2 = true) (hnm : M.2.1 = "<init>") (hdc : (T k).1 = mO M) (q : Nat) (he : ws[q]? = some (a, .inr (ci, fs))) (hn : narrow (ty k) v = v) (hfit : fits (ty k) v = true) (hl : k < fs.length) (kk : RW G M cc rm QF (pc + 3) L st (ws.set q (a, .inr (ci, fs.set k v))) cells slots) : RW G M cc rm QF pc L (v :: .ref a :: st) ws cells slots := by
  intro p e s m args below meth c H locs ls hF hP hD hS hL
  obtain ⟨h1, h2, h3, h4, h5, h6, h7, h8, h9, hsf, hsh⟩ := id hF
  obtain ⟨f1, f2, f3, f4⟩ := hf
  exact va_putF h1 h2 (Ts := gWds) h6 f3 ty ht.1 ht.2 h5 hsf.2.1 hP hD hS q he f1 k f2 (h6 _ hg) (fun _ h => h) hfin (h9.trans hnm) hdc (ht.1 k f2) hn hfit hl hd (fun H1 locs1 hP1 hD1 hS1 => kk p e s m args below meth c H1 locs1 ls hF hP1 hD1 hS1 hL)
theorem rIald {n : Nat} {f : Nat → Int32} {i : Int32} (hd : decode cc pc = .ok (.iaload, 1)) (q : Nat) (he : ws[q]? = some (a, .inl (gcy G 0, n, .inl f))) (hi : vp_in i n) (kk : RW G M cc rm QF (pc + 1) L (.int (f i.toNatClampNeg) :: st) ws cells slots) : RW G M cc rm QF pc L (.int i :: .ref a :: st) ws cells slots := by
  intro p e s m args below meth c H locs ls hF hP hD hS hL
  exact va_iald hF.1 hF.2.1 hF.2.2.2.2.2.2.2.2.2.1.2.1 hP q 0 he rfl hi hd (kk p e s m args below meth c H locs ls hF hP hD hS hL)
theorem rZald {n : Nat} {f : Nat → Int32} {i : Int32} (hd : decode cc pc = .ok (.baload, 1)) (q : Nat) (he : ws[q]? = some (a, .inl (gcy G 1, n, .inl f))) (hi : vp_in i n) (kk : RW G M cc rm QF (pc + 1) L (.int (f i.toNatClampNeg) :: st) ws cells slots) : RW G M cc rm QF pc L (.int i :: .ref a :: st) ws cells slots := by
  intro p e s m args below meth c H locs ls hF hP hD hS hL
  exact va_zald hF.1 hF.2.1 hF.2.2.2.2.2.2.2.2.2.1.2.1 hP q 1 he rfl hi hd (kk p e s m args below meth c H locs ls hF hP hD hS hL)
theorem rAald {n : Nat} {f : Nat → Option Nat} {i : Int32} (hd : decode cc pc = .ok (.aaload, 1)) (q : Nat) (he : ws[q]? = some (a, .inl (gcy G 2, n, .inr (.inr (.inr (.inr f)))))) (hi : vp_in i n) (kk : RW G M cc rm QF (pc + 1) L (va_rf (f i.toNatClampNeg) :: st) ws cells slots) : RW G M cc rm QF pc L (.int i :: .ref a :: st) ws cells slots := by
  intro p e s m args below meth c H locs ls hF hP hD hS hL
  exact va_aldq hF.1 hF.2.1 hF.2.2.2.2.2.2.2.2.2.1.2.1 hP q 2 he rfl hi hd (kk p e s m args below meth c H locs ls hF hP hD hS hL)
theorem rLald {n : Nat} {f : Nat → Int64} {i : Int32} (hd : decode cc pc = .ok (.laload, 1)) (q : Nat) (he : ws[q]? = some (a, .inl (gcy G 3, n, .inr (.inl f)))) (hi : vp_in i n) (kk : RW G M cc rm QF (pc + 1) L (.long (f i.toNatClampNeg) :: st) ws cells slots) : RW G M cc rm QF pc L (.int i :: .ref a :: st) ws cells slots := by
  intro p e s m args below meth c H locs ls hF hP hD hS hL
  exact va_lald hF.1 hF.2.1 hF.2.2.2.2.2.2.2.2.2.1.2.1 hP q 3 he rfl hi hd (kk p e s m args below meth c H locs ls hF hP hD hS hL)
theorem rIast {n : Nat} {f : Nat → Int32} {i x : Int32} (hd : decode cc pc = .ok (.iastore, 1)) (q : Nat) (he : ws[q]? = some (a, .inl (gcy G 0, n, .inl f))) (hi : vp_in i n) (kk : RW G M cc rm QF (pc + 1) L st (ws.set q (a, .inl (gcy G 0, n, .inl (upd f i.toNatClampNeg x)))) cells slots) : RW G M cc rm QF pc L (.int x :: .int i :: .ref a :: st) ws cells slots := by
  intro p e s m args below meth c H locs ls hF hP hD hS hL
  exact va_iast hF.1 hF.2.1 hF.2.2.2.2.2.2.2.2.2.1.2.1 hP hD hS q 0 he rfl hi hd (fun H1 locs1 hP1 hD1 hS1 => kk p e s m args below meth c H1 locs1 ls hF hP1 hD1 hS1 hL)
theorem rZast {n : Nat} {f : Nat → Int32} {i x : Int32} (hd : decode cc pc = .ok (.bastore, 1)) (q : Nat) (he : ws[q]? = some (a, .inl (gcy G 1, n, .inl f))) (hi : vp_in i n) (kk : RW G M cc rm QF (pc + 1) L st (ws.set q (a, .inl (gcy G 1, n, .inl (upd f i.toNatClampNeg (vp_nar .boolean x))))) cells slots) : RW G M cc rm QF pc L (.int x :: .int i :: .ref a :: st) ws cells slots := by
  intro p e s m args below meth c H locs ls hF hP hD hS hL
  exact va_zast hF.1 hF.2.1 hF.2.2.2.2.2.2.2.2.2.1.2.1 hP hD hS q 1 he rfl hi hd (fun H1 locs1 hP1 hD1 hS1 => kk p e s m args below meth c H1 locs1 ls hF hP1 hD1 hS1 hL)
theorem rLast {n : Nat} {f : Nat → Int64} {i : Int32} {x : Int64} (hd : decode cc pc = .ok (.lastore, 1)) (q : Nat) (he : ws[q]? = some (a, .inl (gcy G 3, n, .inr (.inl f)))) (hi : vp_in i n) (kk : RW G M cc rm QF (pc + 1) L st (ws.set q (a, .inl (gcy G 3, n, .inr (.inl (vp_updL f i.toNatClampNeg x))))) cells slots) : RW G M cc rm QF pc L (.long x :: .int i :: .ref a :: st) ws cells slots := by
  intro p e s m args below meth c H locs ls hF hP hD hS hL
  exact va_last hF.1 hF.2.1 hF.2.2.2.2.2.2.2.2.2.1.2.1 hP hD hS q 3 he rfl hi hd (fun H1 locs1 hP1 hD1 hS1 => kk p e s m args below meth c H1 locs1 ls hF hP1 hD1 hS1 hL)
theorem rAast {n ci b : Nat} {f : Nat → Option Nat} {i : Int32} {fs : List Value} {T : u_T} {N : Nat} (hd : decode cc pc = .ok (.aastore, 1)) (q qk : Nat) (he : ws[q]? = some (a, .inl (gcy G 2, n, .inr (.inr (.inr (.inr f)))))) (hv : ws[qk]? = some (b, .inr (ci, fs))) (hc : vwCl[ci]? = some (RX2, T, N)) (hi : vp_in i n) (kk : RW G M cc rm QF (pc + 1) L st (ws.set q (a, .inl (gcy G 2, n, .inr (.inr (.inr (.inr (va_up f i.toNatClampNeg (some b)))))))) cells slots) : RW G M cc rm QF pc L (.ref b :: .int i :: .ref a :: st) ws cells slots := by
  intro p e s m args below meth c H locs ls hF hP hD hS hL
  exact va_astq hF.1 hF.2.1 hF.2.2.2.2.2.2.2.2.2.1.2.1 hP hD hS q 2 qk ci he rfl hv hc hi hd (fun H1 locs1 hP1 hD1 hS1 => kk p e s m args below meth c H1 locs1 ls hF hP1 hD1 hS1 hL)
theorem rAlenI {n : Nat} {f : Nat → Int32} {v : Int32} (hd : decode cc pc = .ok (.arraylength, 1)) (q : Nat) (he : ws[q]? = some (a, .inl (gcy G 0, n, .inl f))) (hv : Int32.ofNat n = v) (kk : RW G M cc rm QF (pc + 1) L (.int v :: st) ws cells slots) : RW G M cc rm QF pc L (.ref a :: st) ws cells slots := by
  intro p e s m args below meth c H locs ls hF hP hD hS hL
  exact va_alen hF.1 hF.2.1 hF.2.2.2.2.2.2.2.2.2.1.2.1 hP q 0 he (ty := .int) rfl hv hd (kk p e s m args below meth c H locs ls hF hP hD hS hL)
theorem rNew {idx ci N : Nat} {C : String} {T : u_T} {ty : Nat → FieldType} {fs : List Value} (hd : decode cc pc = .ok (.new idx, 3)) (hc : vwCl[ci]? = some (C, T, N)) (hin : ∀ w ∈ u_ws C T N, w ∈ gWds) (hcl : Cond.classLink (mO M) idx C ∈ gWds) (hins : Cond.instantiable C N ∈ gWds) (hini : Cond.initialized C ∈ gWds) (ht : fTy C T N ty) (hfs : ∀ j, j < N → defaultValue (ty j) = vp_V fs j) (hcs : cells + 1 ≤ rm.cells) (hsl : slots + N ≤ rm.slots) (kk : ∀ q : Nat, RW G M cc rm QF (pc + 3) L (.ref q :: st) (ws ++ [(q, .inr (ci, fs))]) (cells + 1) (slots + N)) : RW G M cc rm QF pc L st ws cells slots := by
  intro p e s m args below meth c H locs ls hF hP hD hS hL
  obtain ⟨h1, h2, h3, h4, h5, h6, h7, h8, h9, hsf, hsh⟩ := id hF
  exact va_new h1 h2 (Ts := gWds) h6 hin ty ht.1 h5 (h6 _ hcl) (h6 _ hins) (h6 _ hini) hsf.2.1 hP hD hS (gA_new hsh) hc hfs hcs hsl hd (fun q H1 hP1 hD1 hS1 => kk q p e s m args below meth c H1 locs ls hF hP1 hD1 hS1 hL)
theorem gArr1 {G : gG} {s : State} {ws : va_W} {D : va_G} {cl : List vw_C} {cA : ClassId} {ty : FieldType} (t0 : Nat) (h : va_K D cl (gTys G) s) {cB : ClassId} (ht : (gTys G)[t0]? = some (cB, ty)) (h2 : va_K D cl (gTys G ++ [(cA, ty)]) s) : cA = cB := by
  have e1 := (h.2 t0 _ ht).2
  have e2 := (h2.2 4 (cA, ty) rfl).2
  cases ty with
  | object C =>
    obtain ⟨kA, comp, a1, a2, a3, a4⟩ := e1
    obtain ⟨kB, comp2, b1, b2, b3, b4⟩ := e2
    exact Option.some.inj (b4.symm.trans a4)
  | _ => exact Option.some.inj (Eq.trans (Eq.symm e2) e1)
theorem rNewI {n : Int32} {N : Nat} (hd : decode cc pc = .ok (.newarray .int, 2)) (hw : Cond.arrayClass .int ∈ gWds) (hn : ¬ n < 0) (hN : n.toNatClampNeg = N) (hb : N * 4 ≤ 536870912) (hcs : cells + 1 ≤ rm.cells) (hsl : slots + N ≤ rm.slots) (kk : ∀ q : Nat, RW G M cc rm QF (pc + 2) L (.ref q :: st) (ws ++ [(q, .inl (gcy G 0, N, .inl (fun _ => 0)))]) (cells + 1) (slots + N)) : RW G M cc rm QF pc L (.int n :: st) ws cells slots := by
  intro p e s m args below meth c H locs ls hF hP hD hS hL
  obtain ⟨h1, h2, h3, h4, h5, h6, h7, h8, h9, hsf, hsh⟩ := id hF
  refine va_newa (atype := .int) (ty := .int) (a0 := (N, .inl (fun _ => 0))) h1 h2 (h6 _ hw) rfl hsf.2.1 hP hD hS (gA_new hsh) (fun cA => rfl) hn hN hb hcs hsl hd (fun q cA H1 hK1 hP1 hD1 hS1 => ?_)
  have eA : cA = gcy G 0 := gArr1 (ws := ws) 0 hsf.2.1 rfl hK1
  subst eA
  exact kk q p e s m args below meth c H1 locs ls hF hP1 hD1 hS1 hL
theorem rNewZ {n : Int32} {N : Nat} (hd : decode cc pc = .ok (.newarray .boolean, 2)) (hw : Cond.arrayClass .boolean ∈ gWds) (hn : ¬ n < 0) (hN : n.toNatClampNeg = N) (hb : N * 1 ≤ 536870912) (hcs : cells + 1 ≤ rm.cells) (hsl : slots + N ≤ rm.slots) (kk : ∀ q : Nat, RW G M cc rm QF (pc + 2) L (.ref q :: st) (ws ++ [(q, .inl (gcy G 1, N, .inl (fun _ => 0)))]) (cells + 1) (slots + N)) : RW G M cc rm QF pc L (.int n :: st) ws cells slots := by
  intro p e s m args below meth c H locs ls hF hP hD hS hL
  obtain ⟨h1, h2, h3, h4, h5, h6, h7, h8, h9, hsf, hsh⟩ := id hF
  refine va_newa (atype := .boolean) (ty := .boolean) (a0 := (N, .inl (fun _ => 0))) h1 h2 (h6 _ hw) rfl hsf.2.1 hP hD hS (gA_new hsh) (fun cA => rfl) hn hN hb hcs hsl hd (fun q cA H1 hK1 hP1 hD1 hS1 => ?_)
  have eA : cA = gcy G 1 := gArr1 (ws := ws) 1 hsf.2.1 rfl hK1
  subst eA
  exact kk q p e s m args below meth c H1 locs ls hF hP1 hD1 hS1 hL
theorem rNewJ {n : Int32} {N : Nat} (hd : decode cc pc = .ok (.newarray .long, 2)) (hw : Cond.arrayClass .long ∈ gWds) (hn : ¬ n < 0) (hN : n.toNatClampNeg = N) (hb : N * 8 ≤ 536870912) (hcs : cells + 1 ≤ rm.cells) (hsl : slots + N ≤ rm.slots) (kk : ∀ q : Nat, RW G M cc rm QF (pc + 2) L (.ref q :: st) (ws ++ [(q, .inl (gcy G 3, N, .inr (.inl (fun _ => 0))))]) (cells + 1) (slots + N)) : RW G M cc rm QF pc L (.int n :: st) ws cells slots := by
  intro p e s m args below meth c H locs ls hF hP hD hS hL
  obtain ⟨h1, h2, h3, h4, h5, h6, h7, h8, h9, hsf, hsh⟩ := id hF
  refine va_newa (atype := .long) (ty := .long) (a0 := (N, .inr (.inl (fun _ => 0)))) h1 h2 (h6 _ hw) rfl hsf.2.1 hP hD hS (gA_new hsh) (fun cA => rfl) hn hN hb hcs hsl hd (fun q cA H1 hK1 hP1 hD1 hS1 => ?_)
  have eA : cA = gcy G 3 := gArr1 (ws := ws) 3 hsf.2.1 rfl hK1
  subst eA
  exact kk q p e s m args below meth c H1 locs ls hF hP1 hD1 hS1 hL
theorem rNewP {idx : Nat} {n : Int32} {N : Nat} (hd : decode cc pc = .ok (.anewarray idx, 3)) (hcl : Cond.classLink (mO M) idx RX2 ∈ gWds) (hn : ¬ n < 0) (hN : n.toNatClampNeg = N) (hb : N * 4 ≤ 536870912) (hcs : cells + 1 ≤ rm.cells) (hsl : slots + N ≤ rm.slots) (kk : ∀ q : Nat, RW G M cc rm QF (pc + 3) L (.ref q :: st) (ws ++ [(q, .inl (gcy G 2, N, .inr (.inr (.inr (.inr (fun _ => none))))))]) (cells + 1) (slots + N)) : RW G M cc rm QF pc L (.int n :: st) ws cells slots := by
  intro p e s m args below meth c H locs ls hF hP hD hS hL
  obtain ⟨h1, h2, h3, h4, h5, h6, h7, h8, h9, hsf, hsh⟩ := id hF
  refine va_newq h1 h2 h5 (h6 _ hcl) hsf.2.2.2.2 hsf.2.1 hP hD hS (gA_new hsh) hn hN hb hcs hsl hd (fun q cA H1 hK1 hP1 hD1 hS1 => ?_)
  have eA : cA = gcy G 2 := gArr1 (ws := ws) 2 hsf.2.1 rfl hK1
  subst eA
  exact kk q p e s m args below meth c H1 locs ls hF hP1 hD1 hS1 hL
theorem rGets {idx : Nat} (hd : decode cc pc = .ok (.getstatic idx, 3)) (hlk : Cond.fieldLink (mO M) idx RX6 "PAIRS" "[I" ∈ gWds) (kk : RW G M cc rm QF (pc + 3) L (.ref (gpa G) :: st) ws cells slots) : RW G M cc rm QF pc L st ws cells slots := by
  intro p e s m args below meth c H locs ls hF hP hD hS hL
  obtain ⟨h1, h2, h3, h4, h5, h6, h7, h8, h9, hsf, hsh⟩ := id hF
  exact va_gets h1 h2 hsh.2.2.1 hS h5 (h6 _ hlk) (fun _ h => h) hd (kk p e s m args below meth c H locs ls hF hP hD hS hL)
theorem rTald {i : Int32} {x : Int32} (hd : decode cc pc = .ok (.iaload, 1)) (hi : vp_in i 12) (hv : gPairs i.toNatClampNeg = .int x) (kk : RW G M cc rm QF (pc + 1) L (.int x :: st) ws cells slots) : RW G M cc rm QF pc L (.int i :: .ref (gpa G) :: st) ws cells slots := by
  intro p e s m args below meth c H locs ls hF hP hD hS hL
  obtain ⟨h1, h2, h3, h4, h5, h6, h7, h8, h9, hsf, hsh⟩ := id hF
  exact va_ti h1 h2 hsh.2.2.2.1 hS hi hv hd (kk p e s m args below meth c H locs ls hF hP hD hS hL)
theorem rSld {i : Int32} (hd : decode cc pc = .ok (.iaload, 1)) (hi : vp_in i (gsL G)) (kk : RW G M cc rm QF (pc + 1) L (.int (gsx G i.toNatClampNeg) :: st) ws cells slots) : RW G M cc rm QF pc L (.int i :: .ref (gsb G) :: st) ws cells slots := by
  intro p e s m args below meth c H locs ls hF hP hD hS hL
  obtain ⟨h1, h2, h3, h4, h5, h6, h7, h8, h9, hsf, hsh⟩ := id hF
  exact va_sld h1 h2 hsh.2.2.2.2.1 hsh.2.2.2.2.2.1 hsh.2.2.2.2.2.2.1 hS hi hd (kk p e s m args below meth c H locs ls hF hP hD hS hL)
theorem rSlen (hd : decode cc pc = .ok (.arraylength, 1)) (kk : RW G M cc rm QF (pc + 1) L (.int (Int32.ofNat (gsL G)) :: st) ws cells slots) : RW G M cc rm QF pc L (.ref (gsb G) :: st) ws cells slots := by
  intro p e s m args below meth c H locs ls hF hP hD hS hL
  obtain ⟨h1, h2, h3, h4, h5, h6, h7, h8, h9, hsf, hsh⟩ := id hF
  exact va_slen h1 h2 hsh.2.2.2.2.1 hsh.2.2.2.2.2.1 hsh.2.2.2.2.2.2.1 hS hd (kk p e s m args below meth c H locs ls hF hP hD hS hL)
end gHeap
end
section
/-- a method's own facts: its code word, its class, its parameters -/
def mOK (M : mT) (cc : ByteArray) (n : Nat) : Prop := gHd M cc ∈ gWds ∧ Cond.initialized (mO M) ∈ gWds ∧ (mO M ≠ "java/lang/invoke/MethodHandle" ∧ mO M ≠ "java/lang/invoke/VarHandle") ∧ (parseMethodDescriptor M.2.2.1).map (fun d => d.parameters.length) = some n ∧ plainName (mO M) = true
def mInst (M : mT) : Prop := Cond.instanceMethod (mY M) ∈ gWds ∧ Cond.selects (mO M) (mY M) (mY M) ∈ gWds
/-- a method's entry in the pool of the class own -/
def lLk (own : String) (idx : Nat) (M : mT) : Prop := Cond.methodLink own idx (mY M) ∈ gWds ∨ ∃ host : String, Cond.methodLinkNest own idx (mY M) host ∈ tables_1
def rmOk (rm rm' : Room) (nL : Nat) : Prop := rm'.frames + 1 ≤ rm.frames ∧ 8 + (nL + 11) + rm'.locals ≤ rm.locals
theorem gWds_good {w : Cond} (h : w ∈ gWds) : (w.onTables && w.keeps) = true ∨ ∃ ty, w = .arrayClass ty := good_of_word (List.mem_filter.mp h).2
theorem gWds_in {M : mT} {cc : ByteArray} (h : gHd M cc ∈ gWds) : GoodIn gWds (gHd M cc :: gWds) := by
  intro w hw
  rcases List.mem_cons.mp hw with e | hw
  · rw [e]; exact ⟨h, gWds_good h⟩
  · exact ⟨hw, gWds_good hw⟩
theorem gHd_nil {M : mT} {cc : ByteArray} (h : mH M = []) : gHd M cc = .code (mY M) cc (mN M) (mR M) := by unfold gHd; rw [h]
theorem gHd_cons {M : mT} {cc : ByteArray} (h : mH M ≠ []) : gHd M cc = .codeWith (mY M) cc (mN M) (mR M) (mH M) := by
  unfold gHd
  cases hh : mH M with
  | nil => exact absurd hh h
  | cons a b => rfl
theorem gPreU {G : gG} {ws : va_W} {s : State} {H : Heap} {locs : List Loc} (hsf : gSF G s) (hsh : gSH G s s.heap) (hP : va_P (gD G) vwCl ws H) (hD : va_D (gA G) ws) (hS : va_S (gA G) s.heap H locs) : ∀ U : State, U.heap = H → s.WarmedH U.vm → gPre G ws U := by
  intro U hU hW
  refine ⟨gSF.warm hW hsf, ?_, by rw [hU]; exact hP, hD⟩
  rw [hU]
  exact gSH.moved hW.alike (hsh.kept hS.1 hS.2.1)
/-- a call that runs: what it comes to, as the kit says it -/
def gRun (G : gG) (M : mT) (cc : ByteArray) (rm : Room) (pc : Nat) (L : List (Option Value)) (st rest : List Value) (ws : va_W) (cells slots mc ms : Nat) (post : Option Value → va_W → Prop) (px : String → va_W → Prop) : Prop :=
  ∀ (p : Program) (e : Env) (s : State) (m : MethodId) (args : Array Value) (below : List Frame) (meth : Method) (c : Code) (H : Heap) (locs : List Loc) (ls : Array Slot),
    gFix G M cc p s m args meth c → va_P (gD G) vwCl ws H → va_D (gA G) ws → va_S (gA G) s.heap H locs → gL L (mN M) ls →
    vx_Run p (gl G) e rm s m args below meth c H locs cells slots mc ms (F0 m pc ls st) rest (fun st0 o t => gQ G post #[] st0 o t) (gX G px) (gA G)
theorem gCat {rest : List Value} (h : (rest.map fun v => v.category).sum ≤ 8) {m : MethodId} {pc : Nat} {ls : Array Slot} {st : List Value} : 2 * (F0 m pc ls st).monitorRoom + (rest.map fun v => v.category).sum ≤ 8 := by
  have e : (F0 m pc ls st).monitorRoom = 0 := rfl
  rw [e]; omega
section gCalls
variable {G : gG} {M : mT} {cc : ByteArray} {rm : Room} {QF : Array Value → State → List Frame → State → Prop} {pc : Nat} {L : List (Option Value)} {st rest : List Value} {ws : va_W} {cells slots : Nat} {a : Nat}
variable {M' : mT} {cc' : ByteArray} {rm' : Room} {As : List Value} {post : Option Value → va_W → Prop} {px : String → va_W → Prop} {idx n ci : Nat} {C : String} {T : u_T} {N : Nat} {fs : List Value}
theorem rRunV (hd : decode cc pc = .ok (.invokevirtual idx, 3)) (hh : mH M' = []) (hk : mOK M' cc' n) (hi : mInst M') (hlk : lLk (mO M) idx M') (hrm : rmOk rm rm' (mN M')) (q : Nat) (he : ws[q]? = some (a, .inr (ci, fs))) (hc : vwCl[ci]? = some (mO M', T, N)) (hn : As.length = n) (hrest : (rest.map fun v => v.category).sum ≤ 8) (hcs : cells + rm'.cells ≤ rm.cells) (hsl : slots + rm'.slots ≤ rm.slots)
    (hM : CT G M' cc' rm' (.ref a :: As) ws post px) : gRun G M cc rm pc L (As.reverse ++ .ref a :: rest) rest ws cells slots rm'.cells rm'.slots post px := by
  intro p e s m args below meth c H locs ls hF hP hD hS hL
  obtain ⟨h1, h2, h3, h4, h5, h6, h7, h8, h9, hsf, hsh⟩ := id hF
  obtain ⟨k1, k2, k3, k4, k5⟩ := hk
  have hcw := gHd_nil (cc := cc') hh
  have hpre : PreV s H (mO M') a (va_Pc (.ref a :: As) (gPre G ws)) As := ⟨gPre.blind, va_recv hsf.2.1 hP hc he, fun U hU hW => ⟨rfl, gPreU hsf hsh hP hD hS U hU hW⟩⟩
  rcases hlk with hlk | ⟨host, hlk⟩
  · exact vx_runV (own := mO M) (C := mO M') (index := idx) (bytes := cc') (maxL := mN M') (ret := mR M') (n := n) (Ts := gWds) ⟨h1, h2, h4, h5, h6⟩ hM ⟨callB_of n h6 (gWds_in k1) (by rw [hcw]) rfl rfl (h6 _ k2) (h6 _ hlk) ⟨k3.1, k3.2, k4⟩ hrm, h6 _ hi.1, h6 _ hi.2⟩ hpre rfl hn hL.1 rfl (gCat hrest) hd ⟨hcs, hsl⟩
  · exact vx_runVN (own := mO M) (C := mO M') (index := idx) (host := host) (bytes := cc') (maxL := mN M') (ret := mR M') (n := n) (Ts := gWds) ⟨h1, h2, h4, h5, h6⟩ hM ⟨va_cnB n h6 (gWds_in k1) (by rw [hcw]) rfl rfl (hsf.1 _ hlk rfl) (h6 _ k2) ⟨k3.1, k3.2, k4⟩ hrm, h6 _ hi.1, h6 _ hi.2⟩ hpre rfl hn hL.1 rfl (gCat hrest) hd ⟨hcs, hsl⟩
theorem rRunS (hd : decode cc pc = .ok (.invokestatic idx, 3)) (hh : mH M' = []) (hk : mOK M' cc' n) (hi : Cond.static (mY M') ∈ gWds) (hlk : lLk (mO M) idx M') (hrm : rmOk rm rm' (mN M')) (hn : As.length = n) (hrest : (rest.map fun v => v.category).sum ≤ 8) (hcs : cells + rm'.cells ≤ rm.cells) (hsl : slots + rm'.slots ≤ rm.slots)
    (hM : CT G M' cc' rm' As ws post px) : gRun G M cc rm pc L (As.reverse ++ rest) rest ws cells slots rm'.cells rm'.slots post px := by
  intro p e s m args below meth c H locs ls hF hP hD hS hL
  obtain ⟨h1, h2, h3, h4, h5, h6, h7, h8, h9, hsf, hsh⟩ := id hF
  obtain ⟨k1, k2, k3, k4, k5⟩ := hk
  have hcw := gHd_nil (cc := cc') hh
  have hpre : PreS s H (va_Pc As (gPre G ws)) As := ⟨gPre.blind, fun U hU hW => ⟨rfl, gPreU hsf hsh hP hD hS U hU hW⟩⟩
  rcases hlk with hlk | ⟨host, hlk⟩
  · exact vx_runS (As := As) (rest := rest) (own := mO M) (index := idx) (bytes := cc') (maxL := mN M') (ret := mR M') (n := n) (Ts := gWds) ⟨h1, h2, h4, h5, h6⟩ hM ⟨callB_of n h6 (gWds_in k1) (by rw [hcw]) rfl rfl (h6 _ k2) (h6 _ hlk) ⟨k3.1, k3.2, k4⟩ hrm, h6 _ hi⟩ hpre rfl hn hL.1 rfl (gCat hrest) hd ⟨hcs, hsl⟩
  · exact vx_runSN (As := As) (rest := rest) (own := mO M) (index := idx) (host := host) (bytes := cc') (maxL := mN M') (ret := mR M') (n := n) (Ts := gWds) ⟨h1, h2, h4, h5, h6⟩ hM ⟨va_cnB n h6 (gWds_in k1) (by rw [hcw]) rfl rfl (hsf.1 _ hlk rfl) (h6 _ k2) ⟨k3.1, k3.2, k4⟩ hrm, h6 _ hi, trivial⟩ hpre rfl hn hL.1 rfl (gCat hrest) hd ⟨hcs, hsl⟩
theorem rRunSW (hd : decode cc pc = .ok (.invokestatic idx, 3)) (hh : mH M' ≠ []) (hk : mOK M' cc' n) (hi : Cond.static (mY M') ∈ gWds) (hlk : Cond.methodLink (mO M) idx (mY M') ∈ gWds) (hrm : rmOk rm rm' (mN M')) (hn : As.length = n) (hrest : (rest.map fun v => v.category).sum ≤ 8) (hcs : cells + rm'.cells ≤ rm.cells) (hsl : slots + rm'.slots ≤ rm.slots)
    (hM : CT G M' cc' rm' As ws post px) : gRun G M cc rm pc L (As.reverse ++ rest) rest ws cells slots rm'.cells rm'.slots post px := by
  intro p e s m args below meth c H locs ls hF hP hD hS hL
  obtain ⟨h1, h2, h3, h4, h5, h6, h7, h8, h9, hsf, hsh⟩ := id hF
  obtain ⟨k1, k2, k3, k4, k5⟩ := hk
  have hcw := gHd_cons (cc := cc') hh
  have hpre : PreS s H (va_Pc As (gPre G ws)) As := ⟨gPre.blind, fun U hU hW => ⟨rfl, gPreU hsf hsh hP hD hS U hU hW⟩⟩
  have hG : GoodIn gWds (va_wsS (mO M) idx (mY M') (gHd M' cc' :: gWds)) := by
    intro w hw
    rcases List.mem_append.mp hw with hw | hw
    · rcases List.mem_cons.mp hw with e9 | hw
      · rw [e9]; exact ⟨hlk, gWds_good hlk⟩
      · rcases List.mem_cons.mp hw with e9 | hw
        · rw [e9]; exact ⟨hi, gWds_good hi⟩
        · rcases List.mem_cons.mp hw with e9 | hw
          · rw [e9]; exact ⟨k2, gWds_good k2⟩
          · cases hw
    · exact gWds_in k1 w hw
  exact vx_runSX (As := As) (rest := rest) (own := mO M) (index := idx) (bytes := cc') (maxL := mN M') (ret := mR M') (hh := mH M') (n := n) (Ts := gWds) ⟨h1, h2, h4, h5, h6⟩ hM (vx_cwSW n h6 hG (by rw [hcw]) rfl rfl ⟨k3.1, k3.2, k4⟩ hrm) hpre rfl hn hL.1 rfl (gCat hrest) hd ⟨hcs, hsl⟩
theorem rRunI (hd : decode cc pc = .ok (.invokespecial idx, 3)) (hh : mH M' = []) (hnm : M'.2.1 = "<init>") (hrt : mR M' = none) (hk : mOK M' cc' n) (hi : Cond.instanceMethod (mY M') ∈ gWds) (hlk : lLk (mO M) idx M') (hrm : rmOk rm rm' (mN M')) (hn : As.length = n) (hrest : (rest.map fun v => v.category).sum ≤ 8) (hcs : cells + rm'.cells ≤ rm.cells) (hsl : slots + rm'.slots ≤ rm.slots)
    (hM : CT G M' cc' rm' (.ref a :: As) ws post px) : gRun G M cc rm pc L (As.reverse ++ .ref a :: rest) rest ws cells slots rm'.cells rm'.slots post px := by
  intro p e s m args below meth c H locs ls hF hP hD hS hL
  obtain ⟨h1, h2, h3, h4, h5, h6, h7, h8, h9, hsf, hsh⟩ := id hF
  obtain ⟨k1, k2, k3, k4, k5⟩ := hk
  have hcw := gHd_nil (cc := cc') hh
  rw [hrt] at hcw
  have hpre : PreS s H (va_Pc (.ref a :: As) (gPre G ws)) (.ref a :: As) := ⟨gPre.blind, fun U hU hW => ⟨rfl, gPreU hsf hsh hP hD hS U hU hW⟩⟩
  rcases hlk with hlk | ⟨host, hlk⟩
  · exact vx_runI (own := mO M) (index := idx) (bytes := cc') (maxL := mN M') (n := n) (Ts := gWds) ⟨h1, h2, h4, h5, h6⟩ hM ⟨callB_of n h6 (gWds_in k1) (by rw [hcw]) rfl rfl (h6 _ k2) (h6 _ hlk) ⟨k3.1, k3.2, k4⟩ hrm, hnm, h6 _ hi⟩ hpre rfl hn hL.1 rfl (gCat hrest) hd ⟨hcs, hsl⟩
  · exact vx_runIN (own := mO M) (index := idx) (host := host) (bytes := cc') (maxL := mN M') (n := n) (Ts := gWds) ⟨h1, h2, h4, h5, h6⟩ hM ⟨va_cnB n h6 (gWds_in k1) (by rw [hcw]) rfl rfl (hsf.1 _ hlk rfl) (h6 _ k2) ⟨k3.1, k3.2, k4⟩ hrm, hnm, h6 _ hi⟩ hpre rfl hn hL.1 rfl (gCat hrest) hd ⟨hcs, hsl⟩
/-- behind a call that throws nothing -/
theorem rCall {mc ms : Nat} (hr : gRun G M cc rm pc L st rest ws cells slots mc ms post (fun _ _ => False)) (kk : ∀ (v : Option Value) (w : va_W), post v w → RW G M cc rm QF (pc + 3) L (v.toList ++ rest) w (cells + mc) (slots + ms)) : RW G M cc rm QF pc L st ws cells slots := by
  intro p e s m args below meth c H locs ls hF hP hD hS hL T hT X
  rcases hr p e s m args below meth c H locs ls hF hP hD hS hL T hT X with ⟨v, st₀, t, T', L9, h0, X', hL9, e1, e2, ⟨⟨v', w, hv, hp, hP1, hD1⟩, hFr⟩, stp⟩ | ⟨q, st₀, t, T', L9, E, ce, h0, X', hL9, e1, e2, ⟨⟨w, hw, -⟩, -⟩, -⟩
  · cases hv
    obtain ⟨k1, k2, k3⟩ := vx_keep h0 e1 hS (fun _ _ h => h) (fun _ h => h) hL9 hFr
    obtain ⟨t2, a1, b1⟩ := kk v w hp p e s m args below meth c T'.heap (locs ++ L9) ls hF (by rw [e1]; exact hP1) hD1 k3 hL T' rfl X'
    exact ⟨t2, stp t2 a1, b1⟩
  · exact hw.elim
/-- behind a call that may throw: what is thrown goes on to this method's caller -/
theorem rCallX {mc ms : Nat} {post' : Option Value → va_W → Prop} {px' : String → va_W → Prop} (hh : mH M = []) (hr : gRun G M cc rm pc L st rest ws cells slots mc ms post px) (hcs : cells + mc ≤ rm.cells) (hsl : slots + ms ≤ rm.slots) (hx : ∀ (E : String) (w : va_W), px E w → px' E w) (kk : ∀ (v : Option Value) (w : va_W), post v w → RW G M cc rm (gQF G post' px' rm) (pc + 3) L (v.toList ++ rest) w (cells + mc) (slots + ms)) : RW G M cc rm (gQF G post' px' rm) pc L st ws cells slots := by
  intro p e s m args below meth c H locs ls hF hP hD hS hL T hT X
  have hF' := hF
  obtain ⟨h1, h2, h3, h4, h5, h6, h7, h8, h9, hsf, hsh⟩ := hF'
  rcases hr p e s m args below meth c H locs ls hF hP hD hS hL T hT X with ⟨v, st₀, t, T', L9, h0, X', hL9, e1, e2, ⟨⟨v', w, hv, hp, hP1, hD1⟩, hFr⟩, stp⟩ | ⟨q, st₀, t, T', L9, E, ce, h0, X', hL9, e1, e2, ⟨⟨w, hw, hP1, hD1⟩, hFr⟩, hce, hcv, hcl, stp⟩
  · cases hv
    obtain ⟨k1, k2, k3⟩ := vx_keep h0 e1 hS (fun _ _ h => h) (fun _ h => h) hL9 hFr
    obtain ⟨t2, a1, b1⟩ := kk v w hp p e s m args below meth c T'.heap (locs ++ L9) ls hF (by rw [e1]; exact hP1) hD1 k3 hL T' rfl X'
    exact ⟨t2, stp t2 a1, b1⟩
  · obtain ⟨k1, k2, k3⟩ := vx_keep h0 e1 hS (fun _ _ h => h) (fun _ h => h) hL9 hFr
    have hout : ∀ x ∈ c.exceptionTable.toList, covers x pc = false := by
      intro x hxm
      rw [h8, hh] at hxm
      cases hxm
    have hXC : ∀ t9 : State, t9.heap = T'.heap → s.vm.Alike t9.vm → gX G px' E s t9 := by
      intro t9 ht9 _
      exact ⟨⟨w, hx E w hw, by rw [ht9, e1]; exact hP1, hD1⟩, va_S.F k3 ht9⟩
    obtain ⟨t2, a1, b1⟩ := vx_out (Qc := gQ G post') (XC := gX G px') (free := gA G) (mc := rm.cells) (ms := rm.slots) (ls := ls) (rest := rest) (pc := pc) hout h7 (by rw [e1]; exact hce) hcv hcl hXC (fun z hz => k3.2.2 z hz) hcs hsl T' rfl X'
    exact ⟨t2, stp.trans a1, b1⟩
/-- behind a call whose throws this method catches, by the row x of its table -/
theorem rCallC {mc ms : Nat} (hr : gRun G M cc rm pc L st rest ws cells slots mc ms post px)
    (hx : ∀ (E : String) (w : va_W), px E w → ∃ (pre suf : List (Nat × Nat × Nat × Nat)) (x : Nat × Nat × Nat × Nat) (nm : String), mH M = pre ++ x :: suf ∧ (∀ z ∈ pre, z.2.2.2 ≠ 0 ∧ ∃ nz : String, Cond.classLink (mO M) z.2.2.2 nz ∈ gWds ∧ (E, nz) ∈ ncL) ∧ (x.1 ≤ pc ∧ pc < x.2.1) ∧ x.2.2.2 ≠ 0 ∧ Cond.classLink (mO M) x.2.2.2 nm ∈ gWds ∧ Cond.castable E nm ∈ tables_1 ∧ ∀ q : Nat, RW G M cc rm QF x.2.2.1 L [.ref q] w (cells + mc) (slots + ms))
    (kk : ∀ (v : Option Value) (w : va_W), post v w → RW G M cc rm QF (pc + 3) L (v.toList ++ rest) w (cells + mc) (slots + ms)) : RW G M cc rm QF pc L st ws cells slots := by
  intro p e s m args below meth c H locs ls hF hP hD hS hL T hT X
  have hF' := hF
  obtain ⟨h1, h2, h3, h4, h5, h6, h7, h8, h9, hsf, hsh⟩ := hF'
  rcases hr p e s m args below meth c H locs ls hF hP hD hS hL T hT X with ⟨v, st₀, t, T', L9, h0, X', hL9, e1, e2, ⟨⟨v', w, hv, hp, hP1, hD1⟩, hFr⟩, stp⟩ | ⟨q, st₀, t, T', L9, E, ce, h0, X', hL9, e1, e2, ⟨⟨w, hw, hP1, hD1⟩, hFr⟩, hce, hcv, hcl, stp⟩
  · cases hv
    obtain ⟨k1, k2, k3⟩ := vx_keep h0 e1 hS (fun _ _ h => h) (fun _ h => h) hL9 hFr
    obtain ⟨t2, a1, b1⟩ := kk v w hp p e s m args below meth c T'.heap (locs ++ L9) ls hF (by rw [e1]; exact hP1) hD1 k3 hL T' rfl X'
    exact ⟨t2, stp t2 a1, b1⟩
  · obtain ⟨k1, k2, k3⟩ := vx_keep h0 e1 hS (fun _ _ h => h) (fun _ h => h) hL9 hFr
    obtain ⟨pre, suf, x, nm, r1, r2, r3, r4, r5, r6, r7⟩ := hx E w hw
    have hsplit : c.exceptionTable.toList = tableOf pre ++ ⟨x.1, x.2.1, x.2.2.1, x.2.2.2⟩ :: tableOf suf := by
      rw [h8, r1]
      simp [tableOf]
    have hpass : ∀ z ∈ tableOf pre, covers z pc = false ∨ (z.catchType ≠ 0 ∧ ∃ nz : String, (Cond.classLink (mO M) z.catchType nz).before args s = true ∧ va_Nc E nz s) := by
      intro z hz
      obtain ⟨y, hy, rfl⟩ := List.mem_map.mp hz
      obtain ⟨y1, nz, y2, y3⟩ := r2 y hy
      exact Or.inr ⟨y1, nz, h6 _ y2, hsf.2.2.2.1 _ y3⟩
    obtain ⟨t2, a1, b1⟩ := vx_catch (own := mO M) (name := nm) (ls := ls) (rest := rest) (pc := pc) (p := p) (e := e) (R := rm) (below := below) (locs := locs ++ L9) (cells := cells + mc) (slots := slots + ms) (Q := QF args s below) h5 (tableOf pre) ⟨x.1, x.2.1, x.2.2.1, x.2.2.2⟩ (tableOf suf) hsplit hpass (by simp [covers]; omega) r4 (h6 _ r5) (va_Nw.use rfl (hsf.1 _ r6 rfl)) (H := T'.heap) (by rw [e1]; exact hce) hcv hcl
      (r7 q p e s m args below meth c T'.heap (locs ++ L9) ls hF (by rw [e1]; exact hP1) hD1 k3 hL) T' rfl X'
    exact ⟨t2, stp.trans a1, b1⟩
theorem rObjInit (hd : decode cc pc = .ok (.invokespecial idx, 3)) (hlk : Cond.methodLink (mO M) idx objectInit ∈ gWds) (hin : Cond.instanceMethod objectInit ∈ gWds) (hco : Cond.code objectInit ⟨#[0xb1]⟩ 1 none ∈ gWds) (hf : 1 ≤ rm.frames) (hl : (st.map fun v => v.category).sum + 12 ≤ rm.locals) (kk : RW G M cc rm QF (pc + 3) L st ws cells slots) : RW G M cc rm QF pc L (.ref a :: st) ws cells slots := by
  intro p e s m args below meth c H locs ls hF hP hD hS hL
  obtain ⟨h1, h2, h3, h4, h5, h6, h7, h8, h9, hsf, hsh⟩ := id hF
  refine W.objInit (g := F0 m pc ls (.ref a :: st)) h1 h2 h5 (h6 _ hlk) (h6 _ hin) (h6 _ hco) rfl (by rw [h4]; exact hL.1) rfl hd hf ?_ (kk p e s m args below meth c H locs ls hF hP hD hS hL)
  have e0 : (F0 m pc ls (.ref a :: st)).monitorRoom = 0 := rfl
  rw [e0]; omega
theorem rMin {x y : Int32} (hd : decode cc pc = .ok (.invokestatic idx, 3)) (hlk : Cond.methodLink (mO M) idx Lib.Math.min.name ∈ gWds) (hst : Cond.static Lib.Math.min.name ∈ gWds) (hini : Cond.initialized "java/lang/Math" ∈ gWds) (hco : Cond.code Lib.Math.min.name Lib.Math.min.code 2 (some .int) ∈ gWds) (hf : 1 ≤ rm.frames) (hl : (st.map fun v => v.category).sum + 13 ≤ rm.locals) (hcs : cells ≤ rm.cells) (hsl : slots ≤ rm.slots) (kk : RW G M cc rm QF (pc + 3) L (.int (if y < x then y else x) :: st) ws cells slots) : RW G M cc rm QF pc L (.int y :: .int x :: st) ws cells slots := by
  intro p e s m args below meth c H locs ls hF hP hD hS hL
  obtain ⟨h1, h2, h3, h4, h5, h6, h7, h8, h9, hsf, hsh⟩ := id hF
  exact va_mmin h1 h2 (by rw [h4]; exact hL.1.symm) h5 (h6 _ hlk) (h6 _ hst) (h6 _ hini) (h6 _ hco) hf hl hcs hsl hd (kk p e s m args below meth c H locs ls hF hP hD hS hL)
end gCalls
section gEnds
variable {G : gG} {M : mT} {cc : ByteArray} {rm : Room} {pc : Nat} {L : List (Option Value)} {ws : va_W} {cells slots : Nat} {post : Option Value → va_W → Prop} {px : String → va_W → Prop}
theorem rIret {v : Int32} {ty : FieldType} (hd : decode cc pc = .ok (.ireturn, 1)) (hr : mR M = some ty) (hn : narrow ty (.int v) = .int v) (hcs : cells ≤ rm.cells) (hsl : slots ≤ rm.slots) (hp : post (some (.int v)) ws) : RW G M cc rm (gQF G post px rm) pc L [.int v] ws cells slots := by
  intro p e s m args below meth c H locs ls hF hP hD hS hL
  obtain ⟨h1, h2, h3, h4, h5, h6, h7, h8, h9, hsf, hsh⟩ := id hF
  refine W.widen hcs hsl (vx_ret ?_)
  exact W.zret (Qc := gQ G post) h1 h2 (h3.trans hr) hn (fun t ht _ => ⟨⟨_, ws, rfl, hp, by rw [ht]; exact hP, hD⟩, va_S.F hS ht⟩) (fun q hq => hS.2.2 q hq) hd h7
theorem rVret (hd : decode cc pc = .ok (.return_, 1)) (hr : mR M = none) (hcs : cells ≤ rm.cells) (hsl : slots ≤ rm.slots) (hp : post none ws) : RW G M cc rm (gQF G post px rm) pc L [] ws cells slots := by
  intro p e s m args below meth c H locs ls hF hP hD hS hL
  obtain ⟨h1, h2, h3, h4, h5, h6, h7, h8, h9, hsf, hsh⟩ := id hF
  refine W.widen hcs hsl (vx_ret ?_)
  exact W.vret (Qc := gQ G post) h1 h2 (h3.trans hr) (fun t ht _ => ⟨⟨_, ws, rfl, hp, by rw [ht]; exact hP, hD⟩, va_S.F hS ht⟩) (fun q hq => hS.2.2 q hq) hd h7
theorem rAret {a : Nat} {C : String} (hd : decode cc pc = .ok (.areturn, 1)) (hr : mR M = some (.object C)) (hcs : cells ≤ rm.cells) (hsl : slots ≤ rm.slots) (hp : post (some (.ref a)) ws) : RW G M cc rm (gQF G post px rm) pc L [.ref a] ws cells slots := by
  intro p e s m args below meth c H locs ls hF hP hD hS hL
  obtain ⟨h1, h2, h3, h4, h5, h6, h7, h8, h9, hsf, hsh⟩ := id hF
  refine W.widen hcs hsl (vx_ret ?_)
  exact W.aret (Qc := gQ G post) h1 h2 (h3.trans hr) (Or.inl ⟨C, rfl⟩) (Or.inr ⟨a, rfl⟩) (fun t ht _ => ⟨⟨_, ws, rfl, hp, by rw [ht]; exact hP, hD⟩, va_S.F hS ht⟩) (fun q hq => hS.2.2 q hq) hd h7
/-- what a 'throw new X(text)' needs of the tables -/
def xLk (own : String) (ik is ic : Nat) (cls text : String) : Prop := Bundle.fit cls = true ∧ Cond.classLink own ik cls ∈ gWds ∧ Cond.initialized cls ∈ gWds ∧ own = RX6 ∧ Cond.stringRef RX6 is text ∈ tables_1 ∧ (∀ w ∈ (vx_atS own ic cls ["java/lang/RuntimeException", "java/lang/Exception"]).filter goodWord, w ∈ gWds) ∧ (∀ w ∈ (vx_atS own ic cls ["java/lang/RuntimeException", "java/lang/Exception"]).filter (fun w => !goodWord w), w ∈ tables_1 ∧ gIsN w = true) ∧ (∀ w ∈ Cond.classLink own ik cls :: Cond.initialized cls :: vx_atS own ic cls ["java/lang/RuntimeException", "java/lang/Exception"], vx_ot w = true)
theorem rThrow {ik is ic : Nat} {cls text : String} {rest : List Value} (hfl : (gl G).stackTraces = false) (hh : mH M = []) (hx : xLk (mO M) ik is ic cls text) (d0 : decode cc pc = .ok (.new ik, 3)) (d3 : decode cc (pc + 3) = .ok (.dup, 1)) (d4 : decode cc (pc + 4) = .ok (.ldc is, 2)) (d6 : decode cc (pc + 6) = .ok (.invokespecial ic, 3)) (d9 : decode cc (pc + 9) = .ok (.athrow, 1)) (hf : 5 < rm.frames) (hl : (rest.map fun v => v.category).sum + 82 ≤ rm.locals) (hcs : cells + 1 ≤ rm.cells) (hsl : slots + 6 ≤ rm.slots) (hp : px cls ws) : RW G M cc rm (gQF G post px rm) pc L rest ws cells slots := by
  intro p e s m args below meth c H locs ls hF hP hD hS hL
  obtain ⟨h1, h2, h3, h4, h5, h6, h7, h8, h9, hsf, hsh⟩ := id hF
  obtain ⟨x1, x2, x3, x4, x5, x6, x7, x8⟩ := hx
  have hat : ∀ w ∈ vx_atS (mO M) ic cls ["java/lang/RuntimeException", "java/lang/Exception"], w.before args s = true := by
    refine vx_hat (B := (vx_atS (mO M) ic cls ["java/lang/RuntimeException", "java/lang/Exception"]).filter (fun w => !goodWord w)) (fun w hw => h6 _ (x6 w hw)) (fun w hw => hw) (fun w hw => ?_)
    obtain ⟨y1, y2⟩ := x7 w hw
    exact va_Nw.use (gNw_tab y2) (hsf.1 _ y1 y2)
  have hstr : vk_R (mO M) is text (gsa G is) s := by rw [x4]; exact hsf.2.2.1 is text x5
  have hout : ∀ x ∈ c.exceptionTable.toList, covers x (pc + 9) = false := by
    intro x hxm
    rw [h8, hh] at hxm
    cases hxm
  exact vx_throwS (own := mO M) (cls := cls) (text := text) (names := ["java/lang/RuntimeException", "java/lang/Exception"]) (A := gA G) h1 h2 hfl h5 x1 (by decide +kernel) (h6 _ x2) (h6 _ x3) hstr hat x8 hsh.1 hsh.2.1 hS (by rw [h4]; exact hL.1) d0 d3 d4 d6 d9 hout hf (by simpa using hl) hcs hsl h7
    (fun t _ hz hk => ⟨⟨ws, hp, va_P.kept hP (fun k q hq => hk q.1 (hP k q hq).lt), hD⟩, ⟨Nat.le_trans hS.1 hz, fun q h1' h2' => by rw [hk q (Nat.lt_of_lt_of_le h1' hS.1)]; exact hS.2.1 q h1' h2'⟩⟩) (fun q hq => hS.2.2 q hq) hcs hsl
end gEnds
/-- the locals at a method's entry -/
def gEnt (vs : List Value) (n : Nat) : List (Option Value) := vs.map some ++ List.replicate (n - vs.length) none
theorem gEnt_has {vs : List Value} {n : Nat} (h1 : ∀ v ∈ vs, v.category = 1) (hn : vs.length ≤ n) : gL (gEnt vs n) n ((lg_sl vs ++ List.replicate (n - (lg_sl vs).length) Slot.unset).toArray) := by
  have e1 : ∀ vs : List Value, (∀ v ∈ vs, v.category = 1) → lg_sl vs = vs.map Slot.val := by
    intro vs
    induction vs with
    | nil => intro _; rfl
    | cons v vs ih =>
      intro h
      have hv : v.category = 1 := h v List.mem_cons_self
      have ih' := ih (fun w hw => h w (List.mem_cons_of_mem _ hw))
      show (v :: vs).flatMap _ = _
      rw [List.flatMap_cons]
      have : vs.flatMap (fun v => if v.category = 2 then [Slot.val v, Slot.second] else [Slot.val v]) = vs.map Slot.val := ih'
      rw [this, hv]
      rfl
  have hlen : (lg_sl vs).length = vs.length := by rw [e1 vs h1]; simp
  have hh := lv_entry vs (n := n) (by rw [hlen]; exact hn)
  refine ⟨hh.1, hh.2.1, fun i v hi => ?_⟩
  have hiv : vs[i]? = some v := by
    unfold gEnt at hi
    by_cases hl : i < vs.length
    · rw [List.getElem?_append_left (by simpa using hl), List.getElem?_map] at hi
      cases hq : vs[i]? with
      | none => rw [hq] at hi; cases hi
      | some w => rw [hq] at hi; cases hi; rfl
    · rw [List.getElem?_append_right (by simpa using hl)] at hi
      have := List.eq_of_mem_replicate (List.mem_of_getElem? hi)
      cases this
  refine ⟨h1 v (List.mem_of_getElem? hiv), ?_⟩
  rw [e1 vs h1]
  simp only [List.getElem?_toArray]
  rw [List.getElem?_append_left (by simpa using (List.getElem?_eq_some_iff.mp hiv).1), List.getElem?_map, hiv]
  rfl
/-- a contract out of the walk of a body without handlers -/
theorem CT.of {G : gG} {M : mT} {cc : ByteArray} {rm : Room} {vs : List Value} {ws : va_W} {post : Option Value → va_W → Prop} {px : String → va_W → Prop} (hh : mH M = []) (hpl : plainName (mO M) = true) (h1 : ∀ v ∈ vs, v.category = 1) (hn : vs.length ≤ mN M)
    (k : RW G M cc rm (gQF G post px rm) 0 (gEnt vs (mN M)) [] ws 0 0) : CT G M cc rm vs ws post px := by
  refine vx_ofW (y := mY M) (cc := cc) (maxL := mN M) (ret := mR M) (ws' := gWds) hpl (by rw [gHd_nil hh]) ?_
  intro p e s m args below meth c s₁ B hml hex hv
  obtain ⟨hargs, hsf, hsh, hP, hD⟩ := hv
  subst hargs
  rw [lg_entry_eq]
  have hts := atoms_spec (ws := gHd M cc :: gWds) B.pre
  have hown : s.vm.findClass (mO M) = some m.cls := findClass_of_methodNamed B.named
  exact k p e s m vs.toArray below meth c s.heap [] _ ⟨B.exec, B.bytes, B.returns, hml, hown, fun w hw => hts w (List.mem_cons_of_mem _ hw), B.notSynchronized, by
    rw [hh]
    exact List.eq_nil_iff_forall_not_mem.mpr (fun x hx => hex x hx), (name_of_methodNamed B.named B.method).1, hsf, hsh⟩ hP hD va_S.rf (gEnt_has h1 hn)
/-- .. of a body with handlers -/
theorem CT.ofH {G : gG} {M : mT} {cc : ByteArray} {rm : Room} {vs : List Value} {ws : va_W} {post : Option Value → va_W → Prop} {px : String → va_W → Prop} (hh : mH M ≠ []) (hpl : plainName (mO M) = true) (h1 : ∀ v ∈ vs, v.category = 1) (hn : vs.length ≤ mN M)
    (k : RW G M cc rm (gQF G post px rm) 0 (gEnt vs (mN M)) [] ws 0 0) : CT G M cc rm vs ws post px := by
  refine vx_ofWH (y := mY M) (cc := cc) (maxL := mN M) (ret := mR M) (hh := mH M) (ws' := gWds) hpl (by rw [gHd_cons hh]) ?_
  intro p e s m args below meth c s₁ B hml hv
  obtain ⟨hargs, hsf, hsh, hP, hD⟩ := hv
  subst hargs
  rw [lg_entry_eq]
  have hts := atoms_spec (ws := gHd M cc :: gWds) B.pre
  have hown : s.vm.findClass (mO M) = some m.cls := findClass_of_methodNamed B.named
  exact k p e s m vs.toArray below meth c s.heap [] _ ⟨B.exec, B.bytes, B.returns, hml, hown, fun w hw => hts w (List.mem_cons_of_mem _ hw), B.notSynchronized, vx_table (x := mY M) (y := mY M) B (by rw [← gHd_cons hh]; exact hts _ List.mem_cons_self), (name_of_methodNamed B.named B.method).1, hsf, hsh⟩ hP hD va_S.rf (gEnt_has h1 hn)
end
section
/-! the fixed world: its cells' shapes don't change, its numbers do: s k j is what the cell k holds at j -/
abbrev sgT : Type := Nat → Nat → Int32
abbrev shT : Type := Nat × Nat × List (Option Nat)
abbrev wV : Type := (Nat → shT) × Nat × (Nat → Nat)
abbrev ad (V : wV) (k : Nat) : Nat := V.2.2 k
abbrev vr (V : wV) (k : Nat) : Value := .ref (V.2.2 k)
/-- the cell k lies in the world and is of this shape: kind, length, fields or elements that refer -/
def shAt (V : wV) (k : Nat) (x : shT) : Prop := k < V.2.1 ∧ V.1 k = x
def fsV (V : wV) (s : sgT) (k j : Nat) : Option Nat → Value
  | some b => .ref (ad V b)
  | none => .int (s k j)
def fsO (V : wV) (s : sgT) (k : Nat) (fl : List (Option Nat)) : List Value := fl.mapIdx (fun j o => fsV V s k j o)
def cel (G : gG) (V : wV) (s : sgT) (lo : Nat → Int64) (k : Nat) : va_E := match (V.1 k).1 with
  | 8 => .inl (gcy G 0, (V.1 k).2.1, .inl (s k))
  | 9 => .inl (gcy G 1, (V.1 k).2.1, .inl (s k))
  | 10 => .inl (gcy G 2, (V.1 k).2.1, .inr (.inr (.inr (.inr (fun i => ((V.1 k).2.2.getD i none).map (ad V))))))
  | 11 => .inl (gcy G 3, (V.1 k).2.1, .inr (.inl lo))
  | ci => .inr (ci, fsO V s k (V.1 k).2.2)
def wS (G : gG) (V : wV) (s : sgT) (lo : Nat → Int64) : va_W := (List.range V.2.1).map (fun k => (ad V k, cel G V s lo k))
theorem wS_at {G : gG} {V : wV} {s : sgT} {lo : Nat → Int64} {k : Nat} {x : shT} (h : shAt V k x) : (wS G V s lo)[k]? = some (ad V k, cel G V s lo k) := by
  unfold wS
  rw [List.getElem?_map, List.getElem?_range h.1]
  rfl
/-- the number j of the cell k is now x -/
def sw (s : sgT) (k j : Nat) (x : Int32) : sgT := va_up s k (upd (s k) j x)
theorem sw_s {s : sgT} {k j : Nat} {x : Int32} : sw s k j x k j = x := by simp [sw, va_up, upd]
theorem sw_a {s : sgT} {k j b : Nat} {x : Int32} (h : b ≠ k) : sw s k j x b = s b := by simp [sw, va_up, h]
theorem sw_i {s : sgT} {k j i : Nat} {x : Int32} (h : i ≠ j) : sw s k j x k i = s k i := by simp [sw, va_up, upd, h]
theorem wS_ext {G : gG} {V : wV} {s s' : sgT} {lo lo' : Nat → Int64} {k : Nat} {e : va_E} (hk : k < V.2.1) (h1 : cel G V s' lo' k = e) (h2 : ∀ b, b ≠ k → cel G V s' lo' b = cel G V s lo b) : (wS G V s lo).set k (ad V k, e) = wS G V s' lo' := by
  apply List.ext_getElem?
  intro i
  unfold wS
  by_cases hi : i = k
  · subst hi
    rw [List.getElem?_set_self (by simpa using hk), List.getElem?_map, List.getElem?_range hk]
    simp [h1]
  · rw [List.getElem?_set_ne (Ne.symm hi), List.getElem?_map, List.getElem?_map]
    by_cases hl : i < V.2.1
    · rw [List.getElem?_range hl]
      simp [h2 i hi]
    · rw [List.getElem?_eq_none (by simpa using hl)]
      rfl
theorem cel_sw {G : gG} {V : wV} {s : sgT} {lo : Nat → Int64} {k j : Nat} {x : Int32} {b : Nat} (h : b ≠ k) : cel G V (sw s k j x) lo b = cel G V s lo b := by
  have e : sw s k j x b = s b := sw_a h
  have e3 : ∀ fl, fsO V (sw s k j x) b fl = fsO V s b fl := by
    intro fl
    unfold fsO
    congr 1
    funext i o
    cases o with
    | none =>
      show Value.int (sw s k j x b i) = Value.int (s b i)
      rw [e]
    | some c => rfl
  unfold cel
  rw [e, e3]
theorem cel_O {G : gG} {V : wV} {s : sgT} {lo : Nat → Int64} {k ci len : Nat} {fl : List (Option Nat)} (h : shAt V k (ci, len, fl)) (hc : ci < 8) : cel G V s lo k = .inr (ci, fsO V s k fl) := by
  unfold cel
  rw [h.2]
  match ci, hc with
  | 0, _ => rfl
  | 1, _ => rfl
  | 2, _ => rfl
  | 3, _ => rfl
  | 4, _ => rfl
  | 5, _ => rfl
  | 6, _ => rfl
  | 7, _ => rfl
  | n + 8, hc => exact absurd hc (by omega)
theorem cel_I {G : gG} {V : wV} {s : sgT} {lo : Nat → Int64} {k n : Nat} {fl : List (Option Nat)} (h : shAt V k (8, n, fl)) : cel G V s lo k = .inl (gcy G 0, n, .inl (s k)) := by
  unfold cel
  rw [h.2]
  rfl
theorem cel_Z {G : gG} {V : wV} {s : sgT} {lo : Nat → Int64} {k n : Nat} {fl : List (Option Nat)} (h : shAt V k (9, n, fl)) : cel G V s lo k = .inl (gcy G 1, n, .inl (s k)) := by
  unfold cel
  rw [h.2]
  rfl
theorem cel_P {G : gG} {V : wV} {s : sgT} {lo : Nat → Int64} {k n : Nat} {fl : List (Option Nat)} (h : shAt V k (10, n, fl)) : cel G V s lo k = .inl (gcy G 2, n, .inr (.inr (.inr (.inr (fun i => (fl.getD i none).map (ad V)))))) := by
  unfold cel
  rw [h.2]
  rfl
theorem cel_J {G : gG} {V : wV} {s : sgT} {lo : Nat → Int64} {k n : Nat} {fl : List (Option Nat)} (h : shAt V k (11, n, fl)) : cel G V s lo k = .inl (gcy G 3, n, .inr (.inl lo)) := by
  unfold cel
  rw [h.2]
  rfl
theorem fsO_get {V : wV} {s : sgT} {k j : Nat} {fl : List (Option Nat)} {o : Option Nat} (h : fl[j]? = some o) : (fsO V s k fl)[j]? = some (fsV V s k j o) := by
  unfold fsO
  rw [List.getElem?_mapIdx, h]
  rfl
theorem fsO_set {V : wV} {s : sgT} {k j : Nat} {x : Int32} {fl : List (Option Nat)} (h : fl[j]? = some none) : (fsO V s k fl).set j (.int x) = fsO V (sw s k j x) k fl := by
  apply List.ext_getElem?
  intro i
  have hl : j < fl.length := (List.getElem?_eq_some_iff.mp h).1
  unfold fsO
  by_cases hi : i = j
  · subst hi
    rw [List.getElem?_set_self (by simpa using hl), List.getElem?_mapIdx, h]
    simp [fsV, sw, va_up, upd]
  · rw [List.getElem?_set_ne (Ne.symm hi), List.getElem?_mapIdx, List.getElem?_mapIdx]
    congr 1
    funext o
    cases o with
    | none => simp [fsV, sw, va_up, upd, hi]
    | some b => rfl
/-- the judgement over the fixed world -/
abbrev RS (G : gG) (V : wV) (M : mT) (cc : ByteArray) (rm : Room) (QF : Array Value → State → List Frame → State → Prop) (pc : Nat) (L : List (Option Value)) (st : List Value) (s : sgT) (lo : Nat → Int64) (cells slots : Nat) : Prop := RW G M cc rm QF pc L st (wS G V s lo) cells slots
section gS
variable {G : gG} {V : wV} {M : mT} {cc : ByteArray} {rm : Room} {QF : Array Value → State → List Frame → State → Prop} {pc : Nat} {L : List (Option Value)} {st : List Value} {s : sgT} {lo : Nat → Int64} {cells slots : Nat} {a idx ci j N len b n : Nat} {C : String} {T : u_T} {fl : List (Option Nat)}
theorem sGetI {x : Int32} (hd : decode cc pc = .ok (.getfield idx, 3)) (hf : fLk (mO M) idx ci j C T N) (ha : shAt V a (ci, len, fl)) (hc : ci < 8) (hj : fl[j]? = some none) (hv : s a j = x) (kk : RW G M cc rm QF (pc + 3) L (.int x :: st) (wS G V s lo) cells slots) : RW G M cc rm QF pc L (.ref (ad V a) :: st) (wS G V s lo) cells slots := by
  subst hv
  exact rGet hd hf a (by rw [wS_at ha, cel_O ha hc]) (fsO_get hj) kk
theorem sGetR (hd : decode cc pc = .ok (.getfield idx, 3)) (hf : fLk (mO M) idx ci j C T N) (ha : shAt V a (ci, len, fl)) (hc : ci < 8) (hj : fl[j]? = some (some b)) (kk : RW G M cc rm QF (pc + 3) L (.ref (ad V b) :: st) (wS G V s lo) cells slots) : RW G M cc rm QF pc L (.ref (ad V a) :: st) (wS G V s lo) cells slots :=
  rGet hd hf a (by rw [wS_at ha, cel_O ha hc]) (fsO_get hj) kk
theorem sPutI {x : Int32} {ty : Nat → FieldType} (hd : decode cc pc = .ok (.putfield idx, 3)) (hf : fLk (mO M) idx ci j C T N) (ht : fTy C T N ty) (hfin : (T j).2.2.2 = false) (ha : shAt V a (ci, len, fl)) (hc : ci < 8) (hj : fl[j]? = some none) (hn : narrow (ty j) (.int x) = .int x) (hfit : fits (ty j) (.int x) = true) (kk : RW G M cc rm QF (pc + 3) L st (wS G V (sw s a j x) lo) cells slots) : RW G M cc rm QF pc L (.int x :: .ref (ad V a) :: st) (wS G V s lo) cells slots := by
  refine rPut hd hf ht hfin a (by rw [wS_at ha, cel_O ha hc]) hn hfit (by unfold fsO; rw [List.length_mapIdx]; exact (List.getElem?_eq_some_iff.mp hj).1) ?_
  rw [fsO_set hj, wS_ext ha.1 (cel_O (s := sw s a j x) ha hc) (fun b hb => cel_sw hb)]
  exact kk
theorem sIald {i x : Int32} (hd : decode cc pc = .ok (.iaload, 1)) (ha : shAt V a (8, n, fl)) (hi : vp_in i n) (hv : s a i.toNatClampNeg = x) (kk : RW G M cc rm QF (pc + 1) L (.int x :: st) (wS G V s lo) cells slots) : RW G M cc rm QF pc L (.int i :: .ref (ad V a) :: st) (wS G V s lo) cells slots := by
  subst hv
  exact rIald hd a (by rw [wS_at ha, cel_I ha]) hi kk
theorem sZald {i x : Int32} (hd : decode cc pc = .ok (.baload, 1)) (ha : shAt V a (9, n, fl)) (hi : vp_in i n) (hv : s a i.toNatClampNeg = x) (kk : RW G M cc rm QF (pc + 1) L (.int x :: st) (wS G V s lo) cells slots) : RW G M cc rm QF pc L (.int i :: .ref (ad V a) :: st) (wS G V s lo) cells slots := by
  subst hv
  exact rZald hd a (by rw [wS_at ha, cel_Z ha]) hi kk
theorem sAald {i : Int32} (hd : decode cc pc = .ok (.aaload, 1)) (ha : shAt V a (10, n, fl)) (hi : vp_in i n) (hv : fl.getD i.toNatClampNeg none = some b) (kk : RW G M cc rm QF (pc + 1) L (.ref (ad V b) :: st) (wS G V s lo) cells slots) : RW G M cc rm QF pc L (.int i :: .ref (ad V a) :: st) (wS G V s lo) cells slots := by
  refine rAald hd a (by rw [wS_at ha, cel_P ha]) hi ?_
  rw [hv]
  exact kk
theorem sLald {i : Int32} (hd : decode cc pc = .ok (.laload, 1)) (ha : shAt V a (11, n, fl)) (hi : vp_in i n) (kk : RW G M cc rm QF (pc + 1) L (.long (lo i.toNatClampNeg) :: st) (wS G V s lo) cells slots) : RW G M cc rm QF pc L (.int i :: .ref (ad V a) :: st) (wS G V s lo) cells slots :=
  rLald hd a (by rw [wS_at ha, cel_J ha]) hi kk
theorem sIast {i x : Int32} (hd : decode cc pc = .ok (.iastore, 1)) (ha : shAt V a (8, n, fl)) (hi : vp_in i n) (kk : RW G M cc rm QF (pc + 1) L st (wS G V (sw s a i.toNatClampNeg x) lo) cells slots) : RW G M cc rm QF pc L (.int x :: .int i :: .ref (ad V a) :: st) (wS G V s lo) cells slots := by
  refine rIast hd a (by rw [wS_at ha, cel_I ha]) hi ?_
  rw [wS_ext ha.1 (s' := sw s a i.toNatClampNeg x) (lo' := lo) (by rw [cel_I ha]; simp [sw, va_up]) (fun b hb => cel_sw hb)]
  exact kk
theorem sZast {i x : Int32} (hd : decode cc pc = .ok (.bastore, 1)) (ha : shAt V a (9, n, fl)) (hi : vp_in i n) (hx : vp_nar .boolean x = x) (kk : RW G M cc rm QF (pc + 1) L st (wS G V (sw s a i.toNatClampNeg x) lo) cells slots) : RW G M cc rm QF pc L (.int x :: .int i :: .ref (ad V a) :: st) (wS G V s lo) cells slots := by
  refine rZast hd a (by rw [wS_at ha, cel_Z ha]) hi ?_
  rw [hx, wS_ext ha.1 (s' := sw s a i.toNatClampNeg x) (lo' := lo) (by rw [cel_Z ha]; simp [sw, va_up]) (fun b hb => cel_sw hb)]
  exact kk
/-- long arrays: there is one alone -/
theorem sLast {i : Int32} {x : Int64} (hd : decode cc pc = .ok (.lastore, 1)) (ha : shAt V a (11, n, fl)) (h1 : ∀ k, (V.1 k).1 = 11 → k = a) (hi : vp_in i n) (kk : RW G M cc rm QF (pc + 1) L st (wS G V s (vp_updL lo i.toNatClampNeg x)) cells slots) : RW G M cc rm QF pc L (.long x :: .int i :: .ref (ad V a) :: st) (wS G V s lo) cells slots := by
  refine rLast hd a (by rw [wS_at ha, cel_J ha]) hi ?_
  rw [wS_ext ha.1 (s' := s) (lo' := vp_updL lo i.toNatClampNeg x) (by rw [cel_J ha]) (fun b hb => ?_)]
  · exact kk
  · unfold cel
    split
    · rfl
    · rfl
    · rfl
    · rename_i h9
      exact absurd (h1 b h9) hb
    · rfl
theorem sAlenI {v : Int32} (hd : decode cc pc = .ok (.arraylength, 1)) (ha : shAt V a (8, n, fl)) (hv : Int32.ofNat n = v) (kk : RW G M cc rm QF (pc + 1) L (.int v :: st) (wS G V s lo) cells slots) : RW G M cc rm QF pc L (.ref (ad V a) :: st) (wS G V s lo) cells slots :=
  rAlenI hd a (by rw [wS_at ha, cel_I ha]) hv kk
end gS
/-- a contract over the fixed world: it answers v and leaves s' with f v s'; or throws E with g E and leaves all as it was -/
def CS (G : gG) (V : wV) (M : mT) (cc : ByteArray) (rm : Room) (args : List Value) (s : sgT) (lo : Nat → Int64) (f : Option Value → sgT → Prop) (g : String → Prop) : Prop :=
  CT G M cc rm args (wS G V s lo) (fun v w => ∃ s' : sgT, w = wS G V s' lo ∧ f v s') (fun E w => w = wS G V s lo ∧ g E)
abbrev QS (G : gG) (V : wV) (s : sgT) (lo : Nat → Int64) (f : Option Value → sgT → Prop) (g : String → Prop) (rm : Room) : Array Value → State → List Frame → State → Prop :=
  gQF G (fun v w => ∃ s' : sgT, w = wS G V s' lo ∧ f v s') (fun E w => w = wS G V s lo ∧ g E) rm
theorem CS.of {G : gG} {V : wV} {M : mT} {cc : ByteArray} {rm : Room} {vs : List Value} {s : sgT} {lo : Nat → Int64} {f : Option Value → sgT → Prop} {g : String → Prop} (hh : mH M = []) (hpl : plainName (mO M) = true) (h1 : ∀ v ∈ vs, v.category = 1) (hn : vs.length ≤ mN M)
    (k : RW G M cc rm (QS G V s lo f g rm) 0 (gEnt vs (mN M)) [] (wS G V s lo) 0 0) : CS G V M cc rm vs s lo f g := CT.of hh hpl h1 hn k
section gSC
variable {G : gG} {V : wV} {M M' : mT} {cc cc' : ByteArray} {rm rm' : Room} {QF : Array Value → State → List Frame → State → Prop} {pc : Nat} {L : List (Option Value)} {st rest : List Value} {s s0 : sgT} {lo : Nat → Int64} {cells slots : Nat} {a idx ci n len N : Nat} {T : u_T} {fl : List (Option Nat)} {As : List Value} {f f0 : Option Value → sgT → Prop} {g g0 : String → Prop}
/-- a call of a method on the object a, that throws nothing -/
theorem sCallV (hd : decode cc pc = .ok (.invokevirtual idx, 3)) (hh : mH M' = []) (hk : mOK M' cc' n) (hi : mInst M') (hlk : lLk (mO M) idx M') (hrm : rmOk rm rm' (mN M')) (ha : shAt V a (ci, len, fl)) (hc8 : ci < 8) (hc : vwCl[ci]? = some (mO M', T, N)) (hn : As.length = n) (hcs : cells + rm'.cells ≤ rm.cells) (hsl : slots + rm'.slots ≤ rm.slots)
    (hM : CS G V M' cc' rm' (.ref (ad V a) :: As) s lo f (fun _ => False)) (hst : st = As.reverse ++ .ref (ad V a) :: rest) (hrest : (rest.map fun v => v.category).sum ≤ 8)
    (kk : ∀ (v : Option Value) (s' : sgT), f v s' → RW G M cc rm QF (pc + 3) L (v.toList ++ rest) (wS G V s' lo) (cells + rm'.cells) (slots + rm'.slots)) : RW G M cc rm QF pc L st (wS G V s lo) cells slots := by
  subst hst
  refine rCall (mc := rm'.cells) (ms := rm'.slots) (rest := rest) (post := fun v w => ∃ s' : sgT, w = wS G V s' lo ∧ f v s') ?_ (fun v w h => ?_)
  · refine rRunV hd hh hk hi hlk hrm a (by rw [wS_at ha, cel_O ha hc8]) hc hn hrest hcs hsl ?_
    have e : (fun (E : String) (w : va_W) => w = wS G V s lo ∧ (fun _ : String => False) E) = fun _ _ => False := by
      funext E w
      simp
    have h9 := hM
    unfold CS at h9
    rw [e] at h9
    exact h9
  · obtain ⟨s', rfl, h⟩ := h
    exact kk v s' h
/-- .. that may throw -/
theorem sCallVX (hh0 : mH M = []) (hd : decode cc pc = .ok (.invokevirtual idx, 3)) (hh : mH M' = []) (hk : mOK M' cc' n) (hi : mInst M') (hlk : lLk (mO M) idx M') (hrm : rmOk rm rm' (mN M')) (ha : shAt V a (ci, len, fl)) (hc8 : ci < 8) (hc : vwCl[ci]? = some (mO M', T, N)) (hn : As.length = n) (hcs : cells + rm'.cells ≤ rm.cells) (hsl : slots + rm'.slots ≤ rm.slots)
    (hM : CS G V M' cc' rm' (.ref (ad V a) :: As) s lo f g) (hst : st = As.reverse ++ .ref (ad V a) :: rest) (hrest : (rest.map fun v => v.category).sum ≤ 8) (hs0 : s = s0) (hx : ∀ E, g E → g0 E)
    (kk : ∀ (v : Option Value) (s' : sgT), f v s' → RW G M cc rm (QS G V s0 lo f0 g0 rm) (pc + 3) L (v.toList ++ rest) (wS G V s' lo) (cells + rm'.cells) (slots + rm'.slots)) : RW G M cc rm (QS G V s0 lo f0 g0 rm) pc L st (wS G V s lo) cells slots := by
  subst hst
  subst hs0
  refine rCallX hh0 (rRunV hd hh hk hi hlk hrm a (by rw [wS_at ha, cel_O ha hc8]) hc hn hrest hcs hsl hM) hcs hsl (fun E w h => ⟨h.1, hx E h.2⟩) (fun v w h => ?_)
  obtain ⟨s', rfl, h⟩ := h
  exact kk v s' h
theorem sCallS (hd : decode cc pc = .ok (.invokestatic idx, 3)) (hh : mH M' = []) (hk : mOK M' cc' n) (hi : Cond.static (mY M') ∈ gWds) (hlk : lLk (mO M) idx M') (hrm : rmOk rm rm' (mN M')) (hn : As.length = n) (hcs : cells + rm'.cells ≤ rm.cells) (hsl : slots + rm'.slots ≤ rm.slots)
    (hM : CS G V M' cc' rm' As s lo f (fun _ => False)) (hst : st = As.reverse ++ rest) (hrest : (rest.map fun v => v.category).sum ≤ 8)
    (kk : ∀ (v : Option Value) (s' : sgT), f v s' → RW G M cc rm QF (pc + 3) L (v.toList ++ rest) (wS G V s' lo) (cells + rm'.cells) (slots + rm'.slots)) : RW G M cc rm QF pc L st (wS G V s lo) cells slots := by
  subst hst
  refine rCall (mc := rm'.cells) (ms := rm'.slots) (rest := rest) (post := fun v w => ∃ s' : sgT, w = wS G V s' lo ∧ f v s') ?_ (fun v w h => ?_)
  · refine rRunS hd hh hk hi hlk hrm hn hrest hcs hsl ?_
    have e : (fun (E : String) (w : va_W) => w = wS G V s lo ∧ (fun _ : String => False) E) = fun _ _ => False := by
      funext E w
      simp
    have h9 := hM
    unfold CS at h9
    rw [e] at h9
    exact h9
  · obtain ⟨s', rfl, h⟩ := h
    exact kk v s' h
theorem sCallSX (hh0 : mH M = []) (hd : decode cc pc = .ok (.invokestatic idx, 3)) (hh : mH M' = []) (hk : mOK M' cc' n) (hi : Cond.static (mY M') ∈ gWds) (hlk : lLk (mO M) idx M') (hrm : rmOk rm rm' (mN M')) (hn : As.length = n) (hcs : cells + rm'.cells ≤ rm.cells) (hsl : slots + rm'.slots ≤ rm.slots)
    (hM : CS G V M' cc' rm' As s lo f g) (hst : st = As.reverse ++ rest) (hrest : (rest.map fun v => v.category).sum ≤ 8) (hs0 : s = s0) (hx : ∀ E, g E → g0 E)
    (kk : ∀ (v : Option Value) (s' : sgT), f v s' → RW G M cc rm (QS G V s0 lo f0 g0 rm) (pc + 3) L (v.toList ++ rest) (wS G V s' lo) (cells + rm'.cells) (slots + rm'.slots)) : RW G M cc rm (QS G V s0 lo f0 g0 rm) pc L st (wS G V s lo) cells slots := by
  subst hst
  subst hs0
  refine rCallX hh0 (rRunS hd hh hk hi hlk hrm hn hrest hcs hsl hM) hcs hsl (fun E w h => ⟨h.1, hx E h.2⟩) (fun v w h => ?_)
  obtain ⟨s', rfl, h⟩ := h
  exact kk v s' h
theorem sIret {v : Int32} {ty : FieldType} (hd : decode cc pc = .ok (.ireturn, 1)) (hr : mR M = some ty) (hn : narrow ty (.int v) = .int v) (hcs : cells ≤ rm.cells) (hsl : slots ≤ rm.slots) (hp : f (some (.int v)) s) : RW G M cc rm (QS G V s0 lo f g rm) pc L [.int v] (wS G V s lo) cells slots := rIret hd hr hn hcs hsl ⟨s, rfl, hp⟩
theorem sVret (hd : decode cc pc = .ok (.return_, 1)) (hr : mR M = none) (hcs : cells ≤ rm.cells) (hsl : slots ≤ rm.slots) (hp : f none s) : RW G M cc rm (QS G V s0 lo f g rm) pc L [] (wS G V s lo) cells slots := rVret hd hr hcs hsl ⟨s, rfl, hp⟩
theorem sAret {C : String} (hd : decode cc pc = .ok (.areturn, 1)) (hr : mR M = some (.object C)) (hcs : cells ≤ rm.cells) (hsl : slots ≤ rm.slots) (hp : f (some (.ref (ad V a))) s) : RW G M cc rm (QS G V s0 lo f g rm) pc L [.ref (ad V a)] (wS G V s lo) cells slots := rAret hd hr hcs hsl ⟨s, rfl, hp⟩
theorem sThrow {ik is ic : Nat} {cls text : String} (hfl : (gl G).stackTraces = false) (hh : mH M = []) (hx : xLk (mO M) ik is ic cls text) (d0 : decode cc pc = .ok (.new ik, 3)) (d3 : decode cc (pc + 3) = .ok (.dup, 1)) (d4 : decode cc (pc + 4) = .ok (.ldc is, 2)) (d6 : decode cc (pc + 6) = .ok (.invokespecial ic, 3)) (d9 : decode cc (pc + 9) = .ok (.athrow, 1)) (hf : 5 < rm.frames) (hl : (rest.map fun v => v.category).sum + 82 ≤ rm.locals) (hcs : cells + 1 ≤ rm.cells) (hsl : slots + 6 ≤ rm.slots) (hs0 : s = s0) (hp : g cls) : RW G M cc rm (QS G V s0 lo f g rm) pc L rest (wS G V s lo) cells slots := by
  subst hs0
  exact rThrow hfl hh hx d0 d3 d4 d6 d9 hf hl hcs hsl ⟨rfl, hp⟩
end gSC
end
section
/-! the words that the walks use: by program out of the claim's own tables (facts.py) -/
theorem gMem {w : Cond} {i : Nat} (h : tables_1[i]? = some w) (g : goodWord w = true) : w ∈ gWds := List.mem_filter.mpr ⟨gTb (List.mem_of_getElem? h), g⟩
theorem gSel {y : MethodName} {i : Nat} {n : Nat} (h : lw_privs[i]? = some (y, n)) : Cond.selects y.cls y y ∈ gWds := List.mem_filter.mpr ⟨gSl (List.mem_of_getElem? h), rfl⟩
theorem gFl {L : List Cond} (h : ∀ w ∈ L.filter goodWord, w ∈ lw_tbl) : ∀ w ∈ L.filter goodWord, w ∈ gWds := fun w hw => List.mem_filter.mpr ⟨h w hw, (List.mem_filter.mp hw).2⟩
theorem gIn {C : String} {T : u_T} {N : Nat} (h : ∀ k, k < N → u_lay C T k ∈ gWds) : ∀ w ∈ u_ws C T N, w ∈ gWds := by
  intro w hw
  obtain ⟨k, hk, rfl⟩ := List.mem_map.mp hw
  exact h k (List.mem_range.mp hk)
theorem in_X0 : ∀ w ∈ u_ws RX0 TX0 5, w ∈ gWds := gIn (fun k hk => match k, hk with
  | 0, _ => gMem (i := 88) (by decide +kernel) (by rfl)
  | 1, _ => gMem (i := 90) (by decide +kernel) (by rfl)
  | 2, _ => gMem (i := 92) (by decide +kernel) (by rfl)
  | 3, _ => gMem (i := 94) (by decide +kernel) (by rfl)
  | 4, _ => gMem (i := 96) (by decide +kernel) (by rfl)
  | n + 5, hk => absurd hk (by omega))
theorem ft_X0 : fTy RX0 TX0 5 tyX0 := ⟨tyX0_ok, nmX0⟩
theorem in_X1 : ∀ w ∈ u_ws RX1 TX1 3, w ∈ gWds := gIn (fun k hk => match k, hk with
  | 0, _ => gMem (i := 49) (by decide +kernel) (by rfl)
  | 1, _ => gMem (i := 51) (by decide +kernel) (by rfl)
  | 2, _ => gMem (i := 53) (by decide +kernel) (by rfl)
  | n + 3, hk => absurd hk (by omega))
theorem ft_X1 : fTy RX1 TX1 3 tyX1 := ⟨tyX1_ok, nmX1⟩
theorem in_X2 : ∀ w ∈ u_ws RX2 TX2 8, w ∈ gWds := gIn (fun k hk => match k, hk with
  | 0, _ => gMem (i := 140) (by decide +kernel) (by rfl)
  | 1, _ => gMem (i := 142) (by decide +kernel) (by rfl)
  | 2, _ => gMem (i := 144) (by decide +kernel) (by rfl)
  | 3, _ => gMem (i := 146) (by decide +kernel) (by rfl)
  | 4, _ => gMem (i := 148) (by decide +kernel) (by rfl)
  | 5, _ => gMem (i := 150) (by decide +kernel) (by rfl)
  | 6, _ => gMem (i := 152) (by decide +kernel) (by rfl)
  | 7, _ => gMem (i := 154) (by decide +kernel) (by rfl)
  | n + 8, hk => absurd hk (by omega))
theorem ft_X2 : fTy RX2 TX2 8 tyX2 := ⟨tyX2_ok, nmX2⟩
theorem in_X3 : ∀ w ∈ u_ws RX3 TX3 1, w ∈ gWds := gIn (fun k hk => match k, hk with
  | 0, _ => gMem (i := 35) (by decide +kernel) (by rfl)
  | n + 1, hk => absurd hk (by omega))
theorem ft_X3 : fTy RX3 TX3 1 tyX3 := ⟨tyX3_ok, nmX3⟩
theorem in_X4 : ∀ w ∈ u_ws RX4 TX4 4, w ∈ gWds := gIn (fun k hk => match k, hk with
  | 0, _ => gMem (i := 74) (by decide +kernel) (by rfl)
  | 1, _ => gMem (i := 76) (by decide +kernel) (by rfl)
  | 2, _ => gMem (i := 78) (by decide +kernel) (by rfl)
  | 3, _ => gMem (i := 80) (by decide +kernel) (by rfl)
  | n + 4, hk => absurd hk (by omega))
theorem ft_X4 : fTy RX4 TX4 4 tyX4 := ⟨tyX4_ok, nmX4⟩
theorem in_X5 : ∀ w ∈ u_ws RX5 TX5 3, w ∈ gWds := gIn (fun k hk => match k, hk with
  | 0, _ => gMem (i := 118) (by decide +kernel) (by rfl)
  | 1, _ => gMem (i := 120) (by decide +kernel) (by rfl)
  | 2, _ => gMem (i := 122) (by decide +kernel) (by rfl)
  | n + 3, hk => absurd hk (by omega))
theorem ft_X5 : fTy RX5 TX5 3 tyX5 := ⟨tyX5_ok, nmX5⟩
theorem in_X6 : ∀ w ∈ u_ws RX6 TX6 5, w ∈ gWds := gIn (fun k hk => match k, hk with
  | 0, _ => gMem (i := 162) (by decide +kernel) (by rfl)
  | 1, _ => gMem (i := 164) (by decide +kernel) (by rfl)
  | 2, _ => gMem (i := 166) (by decide +kernel) (by rfl)
  | 3, _ => gMem (i := 168) (by decide +kernel) (by rfl)
  | 4, _ => gMem (i := 170) (by decide +kernel) (by rfl)
  | n + 5, hk => absurd hk (by omega))
theorem ft_X6 : fTy RX6 TX6 5 tyX6 := ⟨tyX6_ok, nmX6⟩
theorem in_X7 : ∀ w ∈ u_ws RX7 TX7 19, w ∈ gWds := gIn (fun k hk => match k, hk with
  | 0, _ => gMem (i := 655) (by decide +kernel) (by rfl)
  | 1, _ => gMem (i := 657) (by decide +kernel) (by rfl)
  | 2, _ => gMem (i := 659) (by decide +kernel) (by rfl)
  | 3, _ => gMem (i := 661) (by decide +kernel) (by rfl)
  | 4, _ => gMem (i := 663) (by decide +kernel) (by rfl)
  | 5, _ => gMem (i := 665) (by decide +kernel) (by rfl)
  | 6, _ => gMem (i := 667) (by decide +kernel) (by rfl)
  | 7, _ => gMem (i := 669) (by decide +kernel) (by rfl)
  | 8, _ => gMem (i := 671) (by decide +kernel) (by rfl)
  | 9, _ => gMem (i := 673) (by decide +kernel) (by rfl)
  | 10, _ => gMem (i := 675) (by decide +kernel) (by rfl)
  | 11, _ => gMem (i := 677) (by decide +kernel) (by rfl)
  | 12, _ => gMem (i := 679) (by decide +kernel) (by rfl)
  | 13, _ => gMem (i := 681) (by decide +kernel) (by rfl)
  | 14, _ => gMem (i := 683) (by decide +kernel) (by rfl)
  | 15, _ => gMem (i := 685) (by decide +kernel) (by rfl)
  | 16, _ => gMem (i := 687) (by decide +kernel) (by rfl)
  | 17, _ => gMem (i := 689) (by decide +kernel) (by rfl)
  | 18, _ => gMem (i := 691) (by decide +kernel) (by rfl)
  | n + 19, hk => absurd hk (by omega))
theorem ft_X7 : fTy RX7 TX7 19 tyX7 := ⟨tyX7_ok, nmX7⟩
abbrev mL_benchAt : mT := (RL, "benchAt", "(LGladehall;II[J)I", 5, some .int, [(0, 10, 13, 20)])
theorem mk_L_benchAt : mOK mL_benchAt cL_benchAt 4 := ⟨gMem (i := 577) (by decide +kernel) (by rfl), gMem (i := 0) (by decide +kernel) (by rfl), by decide +kernel, by decide +kernel, by decide +kernel⟩
theorem ms_L_benchAt : Cond.static (mY mL_benchAt) ∈ gWds := gMem (i := 576) (by decide +kernel) (by rfl)
abbrev mL_blow : mT := (RL, "blow", "(LGladehall;II[J)I", 5, some .int, [(0, 10, 13, 20)])
theorem mk_L_blow : mOK mL_blow cL_blow 4 := ⟨gMem (i := 597) (by decide +kernel) (by rfl), gMem (i := 0) (by decide +kernel) (by rfl), by decide +kernel, by decide +kernel, by decide +kernel⟩
theorem ms_L_blow : Cond.static (mY mL_blow) ∈ gWds := gMem (i := 596) (by decide +kernel) (by rfl)
abbrev mL_boardAt : mT := (RL, "boardAt", "(LGladehall;II[J)I", 5, some .int, [(0, 10, 13, 20)])
theorem mk_L_boardAt : mOK mL_boardAt cL_boardAt 4 := ⟨gMem (i := 589) (by decide +kernel) (by rfl), gMem (i := 0) (by decide +kernel) (by rfl), by decide +kernel, by decide +kernel, by decide +kernel⟩
theorem ms_L_boardAt : Cond.static (mY mL_boardAt) ∈ gWds := gMem (i := 588) (by decide +kernel) (by rfl)
abbrev mL_buy : mT := (RL, "buy", "(LGladehall;II[J)I", 5, some .int, [(0, 10, 13, 20), (0, 10, 17, 33), (0, 10, 21, 15)])
theorem mk_L_buy : mOK mL_buy cL_buy 4 := ⟨gMem (i := 345) (by decide +kernel) (by rfl), gMem (i := 0) (by decide +kernel) (by rfl), by decide +kernel, by decide +kernel, by decide +kernel⟩
theorem ms_L_buy : Cond.static (mY mL_buy) ∈ gWds := gMem (i := 344) (by decide +kernel) (by rfl)
abbrev mL_buyLevel : mT := (RL, "buyLevel", "(LGladehall;I[J)I", 4, some .int, [(0, 9, 12, 20), (0, 9, 15, 15)])
theorem mk_L_buyLevel : mOK mL_buyLevel cL_buyLevel 3 := ⟨gMem (i := 336) (by decide +kernel) (by rfl), gMem (i := 0) (by decide +kernel) (by rfl), by decide +kernel, by decide +kernel, by decide +kernel⟩
theorem ms_L_buyLevel : Cond.static (mY mL_buyLevel) ∈ gWds := gMem (i := 335) (by decide +kernel) (by rfl)
abbrev mL_fight : mT := (RL, "fight", "(LGladehall;II[J)I", 5, some .int, [(0, 10, 13, 20), (0, 10, 17, 13)])
theorem mk_L_fight : mOK mL_fight cL_fight 4 := ⟨gMem (i := 531) (by decide +kernel) (by rfl), gMem (i := 0) (by decide +kernel) (by rfl), by decide +kernel, by decide +kernel, by decide +kernel⟩
theorem ms_L_fight : Cond.static (mY mL_fight) ∈ gWds := gMem (i := 530) (by decide +kernel) (by rfl)
abbrev mL_fightByRecord : mT := (RL, "fightByRecord", "(LGladehall;II[J)I", 5, some .int, [(0, 10, 13, 20), (0, 10, 17, 13)])
theorem mk_L_fightByRecord : mOK mL_fightByRecord cL_fightByRecord 4 := ⟨gMem (i := 538) (by decide +kernel) (by rfl), gMem (i := 0) (by decide +kernel) (by rfl), by decide +kernel, by decide +kernel, by decide +kernel⟩
theorem ms_L_fightByRecord : Cond.static (mY mL_fightByRecord) ∈ gWds := gMem (i := 537) (by decide +kernel) (by rfl)
abbrev mL_gold : mT := (RL, "gold", "(LGladehall;I[J)I", 4, some .int, [(0, 9, 12, 20)])
theorem mk_L_gold : mOK mL_gold cL_gold 3 := ⟨gMem (i := 549) (by decide +kernel) (by rfl), gMem (i := 0) (by decide +kernel) (by rfl), by decide +kernel, by decide +kernel, by decide +kernel⟩
theorem ms_L_gold : Cond.static (mY mL_gold) ∈ gWds := gMem (i := 548) (by decide +kernel) (by rfl)
abbrev mL_health : mT := (RL, "health", "(LGladehall;I[J)I", 4, some .int, [(0, 9, 12, 20)])
theorem mk_L_health : mOK mL_health cL_health 3 := ⟨gMem (i := 556) (by decide +kernel) (by rfl), gMem (i := 0) (by decide +kernel) (by rfl), by decide +kernel, by decide +kernel, by decide +kernel⟩
theorem ms_L_health : Cond.static (mY mL_health) ∈ gWds := gMem (i := 555) (by decide +kernel) (by rfl)
abbrev mL_law : mT := (RL, "law", "([I)Z", 7, some .boolean, [])
abbrev mL_out : mT := (RL, "out", "(LGladehall;I[J)I", 4, some .int, [(0, 9, 12, 20)])
theorem mk_L_out : mOK mL_out cL_out 3 := ⟨gMem (i := 616) (by decide +kernel) (by rfl), gMem (i := 0) (by decide +kernel) (by rfl), by decide +kernel, by decide +kernel, by decide +kernel⟩
theorem ms_L_out : Cond.static (mY mL_out) ∈ gWds := gMem (i := 615) (by decide +kernel) (by rfl)
abbrev mL_pool : mT := (RL, "pool", "(LGladehall;I[J)I", 4, some .int, [(0, 9, 12, 20)])
theorem mk_L_pool : mOK mL_pool cL_pool 3 := ⟨gMem (i := 605) (by decide +kernel) (by rfl), gMem (i := 0) (by decide +kernel) (by rfl), by decide +kernel, by decide +kernel, by decide +kernel⟩
theorem ms_L_pool : Cond.static (mY mL_pool) ∈ gWds := gMem (i := 604) (by decide +kernel) (by rfl)
abbrev mL_roll : mT := (RL, "roll", "(LGladehall;I[J)I", 4, some .int, [(0, 9, 12, 20), (0, 9, 15, 15)])
theorem mk_L_roll : mOK mL_roll cL_roll 3 := ⟨gMem (i := 277) (by decide +kernel) (by rfl), gMem (i := 0) (by decide +kernel) (by rfl), by decide +kernel, by decide +kernel, by decide +kernel⟩
theorem ms_L_roll : Cond.static (mY mL_roll) ∈ gWds := gMem (i := 276) (by decide +kernel) (by rfl)
abbrev mL_round : mT := (RL, "round", "(LGladehall;[J)I", 3, some .int, [(0, 8, 11, 15)])
theorem mk_L_round : mOK mL_round cL_round 2 := ⟨gMem (i := 449) (by decide +kernel) (by rfl), gMem (i := 0) (by decide +kernel) (by rfl), by decide +kernel, by decide +kernel, by decide +kernel⟩
theorem ms_L_round : Cond.static (mY mL_round) ∈ gWds := gMem (i := 448) (by decide +kernel) (by rfl)
abbrev mL_sell : mT := (RL, "sell", "(LGladehall;II[J)I", 5, some .int, [(0, 10, 13, 20)])
theorem mk_L_sell : mOK mL_sell cL_sell 4 := ⟨gMem (i := 411) (by decide +kernel) (by rfl), gMem (i := 0) (by decide +kernel) (by rfl), by decide +kernel, by decide +kernel, by decide +kernel⟩
theorem ms_L_sell : Cond.static (mY mL_sell) ∈ gWds := gMem (i := 410) (by decide +kernel) (by rfl)
abbrev mL_shopAt : mT := (RL, "shopAt", "(LGladehall;II[J)I", 5, some .int, [(0, 10, 13, 20)])
theorem mk_L_shopAt : mOK mL_shopAt cL_shopAt 4 := ⟨gMem (i := 570) (by decide +kernel) (by rfl), gMem (i := 0) (by decide +kernel) (by rfl), by decide +kernel, by decide +kernel, by decide +kernel⟩
theorem ms_L_shopAt : Cond.static (mY mL_shopAt) ∈ gWds := gMem (i := 569) (by decide +kernel) (by rfl)
abbrev mL_streak : mT := (RL, "streak", "(LGladehall;I[J)I", 4, some .int, [(0, 9, 12, 20)])
theorem mk_L_streak : mOK mL_streak cL_streak 3 := ⟨gMem (i := 563) (by decide +kernel) (by rfl), gMem (i := 0) (by decide +kernel) (by rfl), by decide +kernel, by decide +kernel, by decide +kernel⟩
theorem ms_L_streak : Cond.static (mY mL_streak) ∈ gWds := gMem (i := 562) (by decide +kernel) (by rfl)
abbrev mL_tell : mT := (RL, "tell", "(LGladehall;I[J)I", 4, some .int, [(0, 9, 12, 13), (0, 9, 15, 15)])
theorem mk_L_tell : mOK mL_tell cL_tell 3 := ⟨gMem (i := 179) (by decide +kernel) (by rfl), gMem (i := 0) (by decide +kernel) (by rfl), by decide +kernel, by decide +kernel, by decide +kernel⟩
theorem ms_L_tell : Cond.static (mY mL_tell) ∈ gWds := gMem (i := 178) (by decide +kernel) (by rfl)
abbrev mL_toBench : mT := (RL, "toBench", "(LGladehall;II[J)I", 5, some .int, [(0, 10, 13, 20), (0, 10, 17, 15)])
theorem mk_L_toBench : mOK mL_toBench cL_toBench 4 := ⟨gMem (i := 442) (by decide +kernel) (by rfl), gMem (i := 0) (by decide +kernel) (by rfl), by decide +kernel, by decide +kernel, by decide +kernel⟩
theorem ms_L_toBench : Cond.static (mY mL_toBench) ∈ gWds := gMem (i := 441) (by decide +kernel) (by rfl)
abbrev mL_toBoard : mT := (RL, "toBoard", "(LGladehall;II[J)I", 5, some .int, [(0, 10, 13, 20), (0, 10, 17, 15)])
theorem mk_L_toBoard : mOK mL_toBoard cL_toBoard 4 := ⟨gMem (i := 434) (by decide +kernel) (by rfl), gMem (i := 0) (by decide +kernel) (by rfl), by decide +kernel, by decide +kernel, by decide +kernel⟩
theorem ms_L_toBoard : Cond.static (mY mL_toBoard) ∈ gWds := gMem (i := 433) (by decide +kernel) (by rfl)
abbrev mL_toggleLock : mT := (RL, "toggleLock", "(LGladehall;I[J)I", 4, some .int, [(0, 16, 19, 20)])
theorem mk_L_toggleLock : mOK mL_toggleLock cL_toggleLock 3 := ⟨gMem (i := 329) (by decide +kernel) (by rfl), gMem (i := 0) (by decide +kernel) (by rfl), by decide +kernel, by decide +kernel, by decide +kernel⟩
theorem ms_L_toggleLock : Cond.static (mY mL_toggleLock) ∈ gWds := gMem (i := 328) (by decide +kernel) (by rfl)
abbrev mX0_fightOut : mT := (RX0, "fightOut", "()V", 6, none, [])
theorem mk_X0_fightOut : mOK mX0_fightOut cX0_fightOut 0 := ⟨gMem (i := 491) (by decide +kernel) (by rfl), gMem (i := 4) (by decide +kernel) (by rfl), by decide +kernel, by decide +kernel, by decide +kernel⟩
theorem mi_X0_fightOut : mInst mX0_fightOut := ⟨gMem (i := 490) (by decide +kernel) (by rfl), gSel (y := mY mX0_fightOut) (i := 25) (n := 5) (by decide +kernel)⟩
abbrev mX0_init : mT := (RX0, "<init>", "()V", 1, none, [])
theorem mk_X0_init : mOK mX0_init cX0_init 0 := ⟨gMem (i := 60) (by decide +kernel) (by rfl), gMem (i := 4) (by decide +kernel) (by rfl), by decide +kernel, by decide +kernel, by decide +kernel⟩
theorem mi_X0_init : Cond.instanceMethod (mY mX0_init) ∈ gWds := gMem (i := 59) (by decide +kernel) (by rfl)
abbrev mX0_muster : mT := (RX0, "muster", "(LGladehall$UnitRow;LGladehall$UnitRow;)V", 3, none, [])
theorem mk_X0_muster : mOK mX0_muster cX0_muster 2 := ⟨gMem (i := 469) (by decide +kernel) (by rfl), gMem (i := 4) (by decide +kernel) (by rfl), by decide +kernel, by decide +kernel, by decide +kernel⟩
theorem mi_X0_muster : mInst mX0_muster := ⟨gMem (i := 468) (by decide +kernel) (by rfl), gSel (y := mY mX0_muster) (i := 20) (n := 5) (by decide +kernel)⟩
abbrev mX0_redo : mT := (RX0, "redo", "()V", 3, none, [])
theorem mk_X0_redo : mOK mX0_redo cX0_redo 0 := ⟨gMem (i := 546) (by decide +kernel) (by rfl), gMem (i := 4) (by decide +kernel) (by rfl), by decide +kernel, by decide +kernel, by decide +kernel⟩
theorem mi_X0_redo : mInst mX0_redo := ⟨gMem (i := 545) (by decide +kernel) (by rfl), gSel (y := mY mX0_redo) (i := 35) (n := 5) (by decide +kernel)⟩
abbrev mX0_result : mT := (RX0, "result", "()I", 1, some .int, [])
theorem mk_X0_result : mOK mX0_result cX0_result 0 := ⟨gMem (i := 503) (by decide +kernel) (by rfl), gMem (i := 4) (by decide +kernel) (by rfl), by decide +kernel, by decide +kernel, by decide +kernel⟩
theorem mi_X0_result : mInst mX0_result := ⟨gMem (i := 502) (by decide +kernel) (by rfl), gSel (y := mY mX0_result) (i := 28) (n := 5) (by decide +kernel)⟩
abbrev mX1_append : mT := (RX1, "append", "(I)Z", 2, some .boolean, [])
theorem mk_X1_append : mOK mX1_append cX1_append 1 := ⟨gMem (i := 258) (by decide +kernel) (by rfl), gMem (i := 3) (by decide +kernel) (by rfl), by decide +kernel, by decide +kernel, by decide +kernel⟩
theorem mi_X1_append : mInst mX1_append := ⟨gMem (i := 257) (by decide +kernel) (by rfl), gSel (y := mY mX1_append) (i := 1) (n := 3) (by decide +kernel)⟩
abbrev mX1_init : mT := (RX1, "<init>", "()V", 1, none, [])
theorem mk_X1_init : mOK mX1_init cX1_init 0 := ⟨gMem (i := 43) (by decide +kernel) (by rfl), gMem (i := 3) (by decide +kernel) (by rfl), by decide +kernel, by decide +kernel, by decide +kernel⟩
theorem mi_X1_init : Cond.instanceMethod (mY mX1_init) ∈ gWds := gMem (i := 42) (by decide +kernel) (by rfl)
abbrev mX1_take : mT := (RX1, "take", "()I", 2, some .int, [])
theorem mk_X1_take : mOK mX1_take cX1_take 0 := ⟨gMem (i := 315) (by decide +kernel) (by rfl), gMem (i := 3) (by decide +kernel) (by rfl), by decide +kernel, by decide +kernel, by decide +kernel⟩
theorem mi_X1_take : mInst mX1_take := ⟨gMem (i := 314) (by decide +kernel) (by rfl), gSel (y := mY mX1_take) (i := 5) (n := 3) (by decide +kernel)⟩
abbrev mX2_addGold : mT := (RX2, "addGold", "(I)V", 2, none, [])
theorem mk_X2_addGold : mOK mX2_addGold cX2_addGold 1 := ⟨gMem (i := 428) (by decide +kernel) (by rfl), gMem (i := 6) (by decide +kernel) (by rfl), by decide +kernel, by decide +kernel, by decide +kernel⟩
theorem mi_X2_addGold : mInst mX2_addGold := ⟨gMem (i := 427) (by decide +kernel) (by rfl), gSel (y := mY mX2_addGold) (i := 17) (n := 8) (by decide +kernel)⟩
abbrev mX2_earn : mT := (RX2, "earn", "()V", 3, none, [])
theorem mk_X2_earn : mOK mX2_earn cX2_earn 0 := ⟨gMem (i := 519) (by decide +kernel) (by rfl), gMem (i := 6) (by decide +kernel) (by rfl), by decide +kernel, by decide +kernel, by decide +kernel⟩
theorem mi_X2_earn : mInst mX2_earn := ⟨gMem (i := 518) (by decide +kernel) (by rfl), gSel (y := mY mX2_earn) (i := 32) (n := 8) (by decide +kernel)⟩
abbrev mX2_init : mT := (RX2, "<init>", "()V", 2, none, [])
theorem mk_X2_init : mOK mX2_init cX2_init 0 := ⟨gMem (i := 102) (by decide +kernel) (by rfl), gMem (i := 6) (by decide +kernel) (by rfl), by decide +kernel, by decide +kernel, by decide +kernel⟩
theorem mi_X2_init : Cond.instanceMethod (mY mX2_init) ∈ gWds := gMem (i := 101) (by decide +kernel) (by rfl)
abbrev mX2_lose : mT := (RX2, "lose", "(I)V", 2, none, [])
theorem mk_X2_lose : mOK mX2_lose cX2_lose 1 := ⟨gMem (i := 515) (by decide +kernel) (by rfl), gMem (i := 6) (by decide +kernel) (by rfl), by decide +kernel, by decide +kernel, by decide +kernel⟩
theorem mi_X2_lose : mInst mX2_lose := ⟨gMem (i := 514) (by decide +kernel) (by rfl), gSel (y := mY mX2_lose) (i := 31) (n := 8) (by decide +kernel)⟩
abbrev mX2_mergeFirstThree : mT := (RX2, "mergeFirstThree", "()Z", 3, some .boolean, [])
theorem mk_X2_mergeFirstThree : mOK mX2_mergeFirstThree cX2_mergeFirstThree 0 := ⟨gMem (i := 384) (by decide +kernel) (by rfl), gMem (i := 6) (by decide +kernel) (by rfl), by decide +kernel, by decide +kernel, by decide +kernel⟩
theorem mi_X2_mergeFirstThree : mInst mX2_mergeFirstThree := ⟨gMem (i := 383) (by decide +kernel) (by rfl), gSel (y := mY mX2_mergeFirstThree) (i := 10) (n := 8) (by decide +kernel)⟩
abbrev mX2_mergeThree : mT := (RX2, "mergeThree", "(II)V", 7, none, [])
theorem mk_X2_mergeThree : mOK mX2_mergeThree cX2_mergeThree 2 := ⟨gMem (i := 392) (by decide +kernel) (by rfl), gMem (i := 6) (by decide +kernel) (by rfl), by decide +kernel, by decide +kernel, by decide +kernel⟩
theorem mi_X2_mergeThree : mInst mX2_mergeThree := ⟨gMem (i := 391) (by decide +kernel) (by rfl), gSel (y := mY mX2_mergeThree) (i := 12) (n := 8) (by decide +kernel)⟩
abbrev mX2_mergeThrees : mT := (RX2, "mergeThrees", "()V", 2, none, [])
theorem mk_X2_mergeThrees : mOK mX2_mergeThrees cX2_mergeThrees 0 := ⟨gMem (i := 380) (by decide +kernel) (by rfl), gMem (i := 6) (by decide +kernel) (by rfl), by decide +kernel, by decide +kernel, by decide +kernel⟩
theorem mi_X2_mergeThrees : mInst mX2_mergeThrees := ⟨gMem (i := 379) (by decide +kernel) (by rfl), gSel (y := mY mX2_mergeThrees) (i := 9) (n := 8) (by decide +kernel)⟩
abbrev mX2_rowOfFirst : mT := (RX2, "rowOfFirst", "(II)LGladehall$UnitRow;", 3, some (.object "Gladehall$UnitRow"), [])
theorem mk_X2_rowOfFirst : mOK mX2_rowOfFirst cX2_rowOfFirst 2 := ⟨gMem (i := 396) (by decide +kernel) (by rfl), gMem (i := 6) (by decide +kernel) (by rfl), by decide +kernel, by decide +kernel, by decide +kernel⟩
theorem mi_X2_rowOfFirst : mInst mX2_rowOfFirst := ⟨gMem (i := 395) (by decide +kernel) (by rfl), gSel (y := mY mX2_rowOfFirst) (i := 13) (n := 8) (by decide +kernel)⟩
abbrev mX2_unitsHeld : mT := (RX2, "unitsHeld", "(I)I", 4, some .int, [])
theorem mk_X2_unitsHeld : mOK mX2_unitsHeld cX2_unitsHeld 1 := ⟨gMem (i := 624) (by decide +kernel) (by rfl), gMem (i := 6) (by decide +kernel) (by rfl), by decide +kernel, by decide +kernel, by decide +kernel⟩
theorem mi_X2_unitsHeld : mInst mX2_unitsHeld := ⟨gMem (i := 623) (by decide +kernel) (by rfl), gSel (y := mY mX2_unitsHeld) (i := 37) (n := 8) (by decide +kernel)⟩
abbrev mX2_win : mT := (RX2, "win", "()V", 1, none, [])
theorem mk_X2_win : mOK mX2_win cX2_win 0 := ⟨gMem (i := 511) (by decide +kernel) (by rfl), gMem (i := 6) (by decide +kernel) (by rfl), by decide +kernel, by decide +kernel, by decide +kernel⟩
theorem mi_X2_win : mInst mX2_win := ⟨gMem (i := 510) (by decide +kernel) (by rfl), gSel (y := mY mX2_win) (i := 30) (n := 8) (by decide +kernel)⟩
abbrev mX3_draw : mT := (RX3, "draw", "(II)I", 6, some .int, [])
theorem mk_X3_draw : mOK mX3_draw cX3_draw 2 := ⟨gMem (i := 319) (by decide +kernel) (by rfl), gMem (i := 2) (by decide +kernel) (by rfl), by decide +kernel, by decide +kernel, by decide +kernel⟩
theorem mi_X3_draw : mInst mX3_draw := ⟨gMem (i := 318) (by decide +kernel) (by rfl), gSel (y := mY mX3_draw) (i := 6) (n := 1) (by decide +kernel)⟩
abbrev mX3_init : mT := (RX3, "<init>", "()V", 2, none, [])
theorem mk_X3_init : mOK mX3_init cX3_init 0 := ⟨gMem (i := 31) (by decide +kernel) (by rfl), gMem (i := 2) (by decide +kernel) (by rfl), by decide +kernel, by decide +kernel, by decide +kernel⟩
theorem mi_X3_init : Cond.instanceMethod (mY mX3_init) ∈ gWds := gMem (i := 30) (by decide +kernel) (by rfl)
abbrev mX3_putBack : mT := (RX3, "putBack", "(II)V", 3, none, [])
theorem mk_X3_putBack : mOK mX3_putBack cX3_putBack 2 := ⟨gMem (i := 311) (by decide +kernel) (by rfl), gMem (i := 2) (by decide +kernel) (by rfl), by decide +kernel, by decide +kernel, by decide +kernel⟩
theorem mi_X3_putBack : mInst mX3_putBack := ⟨gMem (i := 310) (by decide +kernel) (by rfl), gSel (y := mY mX3_putBack) (i := 4) (n := 1) (by decide +kernel)⟩
abbrev mX3_unitsUpTo : mT := (RX3, "unitsUpTo", "(I)I", 4, some .int, [])
theorem mk_X3_unitsUpTo : mOK mX3_unitsUpTo cX3_unitsUpTo 1 := ⟨gMem (i := 323) (by decide +kernel) (by rfl), gMem (i := 2) (by decide +kernel) (by rfl), by decide +kernel, by decide +kernel, by decide +kernel⟩
theorem mi_X3_unitsUpTo : mInst mX3_unitsUpTo := ⟨gMem (i := 322) (by decide +kernel) (by rfl), gSel (y := mY mX3_unitsUpTo) (i := 7) (n := 1) (by decide +kernel)⟩
abbrev mX4_firstLiving : mT := (RX4, "firstLiving", "()I", 2, some .int, [])
theorem mk_X4_firstLiving : mOK mX4_firstLiving cX4_firstLiving 0 := ⟨gMem (i := 499) (by decide +kernel) (by rfl), gMem (i := 5) (by decide +kernel) (by rfl), by decide +kernel, by decide +kernel, by decide +kernel⟩
theorem mi_X4_firstLiving : mInst mX4_firstLiving := ⟨gMem (i := 498) (by decide +kernel) (by rfl), gSel (y := mY mX4_firstLiving) (i := 27) (n := 4) (by decide +kernel)⟩
abbrev mX4_init : mT := (RX4, "<init>", "()V", 1, none, [])
theorem mk_X4_init : mOK mX4_init cX4_init 0 := ⟨gMem (i := 66) (by decide +kernel) (by rfl), gMem (i := 5) (by decide +kernel) (by rfl), by decide +kernel, by decide +kernel, by decide +kernel⟩
theorem mi_X4_init : Cond.instanceMethod (mY mX4_init) ∈ gWds := gMem (i := 65) (by decide +kernel) (by rfl)
abbrev mX4_living : mT := (RX4, "living", "()I", 3, some .int, [])
theorem mk_X4_living : mOK mX4_living cX4_living 0 := ⟨gMem (i := 507) (by decide +kernel) (by rfl), gMem (i := 5) (by decide +kernel) (by rfl), by decide +kernel, by decide +kernel, by decide +kernel⟩
theorem mi_X4_living : mInst mX4_living := ⟨gMem (i := 506) (by decide +kernel) (by rfl), gSel (y := mY mX4_living) (i := 29) (n := 4) (by decide +kernel)⟩
abbrev mX4_muster : mT := (RX4, "muster", "(LGladehall$UnitRow;)V", 3, none, [])
theorem mk_X4_muster : mOK mX4_muster cX4_muster 1 := ⟨gMem (i := 473) (by decide +kernel) (by rfl), gMem (i := 5) (by decide +kernel) (by rfl), by decide +kernel, by decide +kernel, by decide +kernel⟩
theorem mi_X4_muster : mInst mX4_muster := ⟨gMem (i := 472) (by decide +kernel) (by rfl), gSel (y := mY mX4_muster) (i := 21) (n := 4) (by decide +kernel)⟩
abbrev mX4_takeTurn : mT := (RX4, "takeTurn", "()I", 3, some .int, [])
theorem mk_X4_takeTurn : mOK mX4_takeTurn cX4_takeTurn 0 := ⟨gMem (i := 495) (by decide +kernel) (by rfl), gMem (i := 5) (by decide +kernel) (by rfl), by decide +kernel, by decide +kernel, by decide +kernel⟩
theorem mi_X4_takeTurn : mInst mX4_takeTurn := ⟨gMem (i := 494) (by decide +kernel) (by rfl), gSel (y := mY mX4_takeTurn) (i := 26) (n := 4) (by decide +kernel)⟩
abbrev mX5_append : mT := (RX5, "append", "(II)Z", 3, some .boolean, [])
theorem mk_X5_append : mOK mX5_append cX5_append 2 := ⟨gMem (i := 375) (by decide +kernel) (by rfl), gMem (i := 7) (by decide +kernel) (by rfl), by decide +kernel, by decide +kernel, by decide +kernel⟩
theorem mi_X5_append : mInst mX5_append := ⟨gMem (i := 374) (by decide +kernel) (by rfl), gSel (y := mY mX5_append) (i := 8) (n := 3) (by decide +kernel)⟩
abbrev mX5_countOf : mT := (RX5, "countOf", "(II)I", 5, some .int, [])
theorem mk_X5_countOf : mOK mX5_countOf cX5_countOf 2 := ⟨gMem (i := 388) (by decide +kernel) (by rfl), gMem (i := 7) (by decide +kernel) (by rfl), by decide +kernel, by decide +kernel, by decide +kernel⟩
theorem mi_X5_countOf : mInst mX5_countOf := ⟨gMem (i := 387) (by decide +kernel) (by rfl), gSel (y := mY mX5_countOf) (i := 11) (n := 3) (by decide +kernel)⟩
abbrev mX5_find : mT := (RX5, "find", "(II)I", 4, some .int, [])
theorem mk_X5_find : mOK mX5_find cX5_find 2 := ⟨gMem (i := 400) (by decide +kernel) (by rfl), gMem (i := 7) (by decide +kernel) (by rfl), by decide +kernel, by decide +kernel, by decide +kernel⟩
theorem mi_X5_find : mInst mX5_find := ⟨gMem (i := 399) (by decide +kernel) (by rfl), gSel (y := mY mX5_find) (i := 14) (n := 3) (by decide +kernel)⟩
abbrev mX5_has : mT := (RX5, "has", "(I)Z", 2, some .boolean, [])
theorem mk_X5_has : mOK mX5_has cX5_has 1 := ⟨gMem (i := 408) (by decide +kernel) (by rfl), gMem (i := 7) (by decide +kernel) (by rfl), by decide +kernel, by decide +kernel, by decide +kernel⟩
theorem mi_X5_has : mInst mX5_has := ⟨gMem (i := 407) (by decide +kernel) (by rfl), gSel (y := mY mX5_has) (i := 16) (n := 3) (by decide +kernel)⟩
abbrev mX5_hasKind : mT := (RX5, "hasKind", "(I)Z", 3, some .boolean, [])
theorem mk_X5_hasKind : mOK mX5_hasKind cX5_hasKind 1 := ⟨gMem (i := 487) (by decide +kernel) (by rfl), gMem (i := 7) (by decide +kernel) (by rfl), by decide +kernel, by decide +kernel, by decide +kernel⟩
theorem mi_X5_hasKind : mInst mX5_hasKind := ⟨gMem (i := 486) (by decide +kernel) (by rfl), gSel (y := mY mX5_hasKind) (i := 24) (n := 3) (by decide +kernel)⟩
abbrev mX5_healthAt : mT := (RX5, "healthAt", "(I)I", 2, some .int, [])
theorem mk_X5_healthAt : mOK mX5_healthAt cX5_healthAt 1 := ⟨gMem (i := 478) (by decide +kernel) (by rfl), gMem (i := 7) (by decide +kernel) (by rfl), by decide +kernel, by decide +kernel, by decide +kernel⟩
theorem mi_X5_healthAt : mInst mX5_healthAt := ⟨gMem (i := 477) (by decide +kernel) (by rfl), gSel (y := mY mX5_healthAt) (i := 22) (n := 3) (by decide +kernel)⟩
abbrev mX5_init : mT := (RX5, "<init>", "(I)V", 2, none, [])
theorem mk_X5_init : mOK mX5_init cX5_init 1 := ⟨gMem (i := 108) (by decide +kernel) (by rfl), gMem (i := 7) (by decide +kernel) (by rfl), by decide +kernel, by decide +kernel, by decide +kernel⟩
theorem mi_X5_init : Cond.instanceMethod (mY mX5_init) ∈ gWds := gMem (i := 107) (by decide +kernel) (by rfl)
abbrev mX5_removeAt : mT := (RX5, "removeAt", "(I)V", 3, none, [])
theorem mk_X5_removeAt : mOK mX5_removeAt cX5_removeAt 1 := ⟨gMem (i := 404) (by decide +kernel) (by rfl), gMem (i := 7) (by decide +kernel) (by rfl), by decide +kernel, by decide +kernel, by decide +kernel⟩
theorem mi_X5_removeAt : mInst mX5_removeAt := ⟨gMem (i := 403) (by decide +kernel) (by rfl), gSel (y := mY mX5_removeAt) (i := 15) (n := 3) (by decide +kernel)⟩
abbrev mX5_strengthAt : mT := (RX5, "strengthAt", "(I)I", 5, some .int, [])
theorem mk_X5_strengthAt : mOK mX5_strengthAt cX5_strengthAt 1 := ⟨gMem (i := 483) (by decide +kernel) (by rfl), gMem (i := 7) (by decide +kernel) (by rfl), by decide +kernel, by decide +kernel, by decide +kernel⟩
theorem mi_X5_strengthAt : mInst mX5_strengthAt := ⟨gMem (i := 482) (by decide +kernel) (by rfl), gSel (y := mY mX5_strengthAt) (i := 23) (n := 3) (by decide +kernel)⟩
abbrev mX5_unitAt : mT := (RX5, "unitAt", "(I)I", 2, some .int, [])
theorem mk_X5_unitAt : mOK mX5_unitAt cX5_unitAt 1 := ⟨gMem (i := 586) (by decide +kernel) (by rfl), gMem (i := 7) (by decide +kernel) (by rfl), by decide +kernel, by decide +kernel, by decide +kernel⟩
theorem mi_X5_unitAt : mInst mX5_unitAt := ⟨gMem (i := 585) (by decide +kernel) (by rfl), gSel (y := mY mX5_unitAt) (i := 36) (n := 3) (by decide +kernel)⟩
abbrev mX5_unitsHeld : mT := (RX5, "unitsHeld", "(I)I", 4, some .int, [])
theorem mk_X5_unitsHeld : mOK mX5_unitsHeld cX5_unitsHeld 1 := ⟨gMem (i := 628) (by decide +kernel) (by rfl), gMem (i := 7) (by decide +kernel) (by rfl), by decide +kernel, by decide +kernel, by decide +kernel⟩
theorem mi_X5_unitsHeld : mInst mX5_unitsHeld := ⟨gMem (i := 627) (by decide +kernel) (by rfl), gSel (y := mY mX5_unitsHeld) (i := 38) (n := 3) (by decide +kernel)⟩
abbrev mX6_benchAt : mT := (RX6, "benchAt", "(II)I", 4, some .int, [])
theorem mk_X6_benchAt : mOK mX6_benchAt cX6_benchAt 2 := ⟨gMem (i := 581) (by decide +kernel) (by rfl), gMem (i := 1) (by decide +kernel) (by rfl), by decide +kernel, by decide +kernel, by decide +kernel⟩
theorem mi_X6_benchAt : mInst mX6_benchAt := ⟨gMem (i := 579) (by decide +kernel) (by rfl), gMem (i := 580) (by decide +kernel) (by rfl)⟩
abbrev mX6_blow : mT := (RX6, "blow", "(II)I", 4, some .int, [])
theorem mk_X6_blow : mOK mX6_blow cX6_blow 2 := ⟨gMem (i := 601) (by decide +kernel) (by rfl), gMem (i := 1) (by decide +kernel) (by rfl), by decide +kernel, by decide +kernel, by decide +kernel⟩
theorem mi_X6_blow : mInst mX6_blow := ⟨gMem (i := 599) (by decide +kernel) (by rfl), gMem (i := 600) (by decide +kernel) (by rfl)⟩
abbrev mX6_boardAt : mT := (RX6, "boardAt", "(II)I", 4, some .int, [])
theorem mk_X6_boardAt : mOK mX6_boardAt cX6_boardAt 2 := ⟨gMem (i := 593) (by decide +kernel) (by rfl), gMem (i := 1) (by decide +kernel) (by rfl), by decide +kernel, by decide +kernel, by decide +kernel⟩
theorem mi_X6_boardAt : mInst mX6_boardAt := ⟨gMem (i := 591) (by decide +kernel) (by rfl), gMem (i := 592) (by decide +kernel) (by rfl)⟩
abbrev mX6_buy : mT := (RX6, "buy", "(II)I", 5, some .int, [])
theorem mk_X6_buy : mOK mX6_buy cX6_buy 2 := ⟨gMem (i := 350) (by decide +kernel) (by rfl), gMem (i := 1) (by decide +kernel) (by rfl), by decide +kernel, by decide +kernel, by decide +kernel⟩
theorem mi_X6_buy : mInst mX6_buy := ⟨gMem (i := 348) (by decide +kernel) (by rfl), gMem (i := 349) (by decide +kernel) (by rfl)⟩
abbrev mX6_buyLevel : mT := (RX6, "buyLevel", "(I)I", 3, some .int, [])
theorem mk_X6_buyLevel : mOK mX6_buyLevel cX6_buyLevel 1 := ⟨gMem (i := 340) (by decide +kernel) (by rfl), gMem (i := 1) (by decide +kernel) (by rfl), by decide +kernel, by decide +kernel, by decide +kernel⟩
theorem mi_X6_buyLevel : mInst mX6_buyLevel := ⟨gMem (i := 338) (by decide +kernel) (by rfl), gMem (i := 339) (by decide +kernel) (by rfl)⟩
abbrev mX6_costOf : mT := (RX6, "costOf", "(I)I", 1, some .int, [])
theorem mk_X6_costOf : mOK mX6_costOf cX6_costOf 1 := ⟨gMem (i := 326) (by decide +kernel) (by rfl), gMem (i := 1) (by decide +kernel) (by rfl), by decide +kernel, by decide +kernel, by decide +kernel⟩
theorem ms_X6_costOf : Cond.static (mY mX6_costOf) ∈ gWds := gMem (i := 325) (by decide +kernel) (by rfl)
abbrev mX6_fight : mT := (RX6, "fight", "(II)I", 3, some .int, [])
theorem mk_X6_fight : mOK mX6_fight cX6_fight 2 := ⟨gMem (i := 535) (by decide +kernel) (by rfl), gMem (i := 1) (by decide +kernel) (by rfl), by decide +kernel, by decide +kernel, by decide +kernel⟩
theorem mi_X6_fight : mInst mX6_fight := ⟨gMem (i := 533) (by decide +kernel) (by rfl), gMem (i := 534) (by decide +kernel) (by rfl)⟩
abbrev mX6_fightByRecord : mT := (RX6, "fightByRecord", "(II)I", 3, some .int, [])
theorem mk_X6_fightByRecord : mOK mX6_fightByRecord cX6_fightByRecord 2 := ⟨gMem (i := 542) (by decide +kernel) (by rfl), gMem (i := 1) (by decide +kernel) (by rfl), by decide +kernel, by decide +kernel, by decide +kernel⟩
theorem mi_X6_fightByRecord : mInst mX6_fightByRecord := ⟨gMem (i := 540) (by decide +kernel) (by rfl), gMem (i := 541) (by decide +kernel) (by rfl)⟩
abbrev mX6_fightPair : mT := (RX6, "fightPair", "(II)V", 4, none, [])
theorem mk_X6_fightPair : mOK mX6_fightPair cX6_fightPair 2 := ⟨gMem (i := 460) (by decide +kernel) (by rfl), gMem (i := 1) (by decide +kernel) (by rfl), by decide +kernel, by decide +kernel, by decide +kernel⟩
theorem mi_X6_fightPair : mInst mX6_fightPair := ⟨gMem (i := 459) (by decide +kernel) (by rfl), gSel (y := mY mX6_fightPair) (i := 18) (n := 5) (by decide +kernel)⟩
abbrev mX6_fillShop : mT := (RX6, "fillShop", "(LGladehall$Player;)V", 3, none, [])
theorem mk_X6_fillShop : mOK mX6_fillShop cX6_fillShop 1 := ⟨gMem (i := 307) (by decide +kernel) (by rfl), gMem (i := 1) (by decide +kernel) (by rfl), by decide +kernel, by decide +kernel, by decide +kernel⟩
theorem mi_X6_fillShop : mInst mX6_fillShop := ⟨gMem (i := 306) (by decide +kernel) (by rfl), gSel (y := mY mX6_fillShop) (i := 3) (n := 5) (by decide +kernel)⟩
abbrev mX6_fillUnlockedShops : mT := (RX6, "fillUnlockedShops", "()V", 3, none, [])
theorem mk_X6_fillUnlockedShops : mOK mX6_fillUnlockedShops cX6_fillUnlockedShops 0 := ⟨gMem (i := 524) (by decide +kernel) (by rfl), gMem (i := 1) (by decide +kernel) (by rfl), by decide +kernel, by decide +kernel, by decide +kernel⟩
theorem mi_X6_fillUnlockedShops : mInst mX6_fillUnlockedShops := ⟨gMem (i := 523) (by decide +kernel) (by rfl), gSel (y := mY mX6_fillUnlockedShops) (i := 33) (n := 5) (by decide +kernel)⟩
abbrev mX6_gold : mT := (RX6, "gold", "(I)I", 2, some .int, [])
theorem mk_X6_gold : mOK mX6_gold cX6_gold 1 := ⟨gMem (i := 553) (by decide +kernel) (by rfl), gMem (i := 1) (by decide +kernel) (by rfl), by decide +kernel, by decide +kernel, by decide +kernel⟩
theorem mi_X6_gold : mInst mX6_gold := ⟨gMem (i := 551) (by decide +kernel) (by rfl), gMem (i := 552) (by decide +kernel) (by rfl)⟩
abbrev mX6_health : mT := (RX6, "health", "(I)I", 2, some .int, [])
theorem mk_X6_health : mOK mX6_health cX6_health 1 := ⟨gMem (i := 560) (by decide +kernel) (by rfl), gMem (i := 1) (by decide +kernel) (by rfl), by decide +kernel, by decide +kernel, by decide +kernel⟩
theorem mi_X6_health : mInst mX6_health := ⟨gMem (i := 558) (by decide +kernel) (by rfl), gMem (i := 559) (by decide +kernel) (by rfl)⟩
abbrev mX6_init : mT := (RX6, "<init>", "()V", 2, none, [])
theorem mk_X6_init : mOK mX6_init cX6_init 0 := ⟨gMem (i := 21) (by decide +kernel) (by rfl), gMem (i := 1) (by decide +kernel) (by rfl), by decide +kernel, by decide +kernel, by decide +kernel⟩
theorem mi_X6_init : Cond.instanceMethod (mY mX6_init) ∈ gWds := gMem (i := 20) (by decide +kernel) (by rfl)
abbrev mX6_musterSides : mT := (RX6, "musterSides", "(II)V", 5, none, [])
theorem mk_X6_musterSides : mOK mX6_musterSides cX6_musterSides 2 := ⟨gMem (i := 464) (by decide +kernel) (by rfl), gMem (i := 1) (by decide +kernel) (by rfl), by decide +kernel, by decide +kernel, by decide +kernel⟩
theorem mi_X6_musterSides : mInst mX6_musterSides := ⟨gMem (i := 463) (by decide +kernel) (by rfl), gSel (y := mY mX6_musterSides) (i := 19) (n := 5) (by decide +kernel)⟩
abbrev mX6_out : mT := (RX6, "out", "(I)I", 4, some .int, [])
theorem mk_X6_out : mOK mX6_out cX6_out 1 := ⟨gMem (i := 620) (by decide +kernel) (by rfl), gMem (i := 1) (by decide +kernel) (by rfl), by decide +kernel, by decide +kernel, by decide +kernel⟩
theorem mi_X6_out : mInst mX6_out := ⟨gMem (i := 618) (by decide +kernel) (by rfl), gMem (i := 619) (by decide +kernel) (by rfl)⟩
abbrev mX6_playerOf : mT := (RX6, "playerOf", "(I)LGladehall$Player;", 2, some (.object "Gladehall$Player"), [])
theorem mk_X6_playerOf : mOK mX6_playerOf cX6_playerOf 1 := ⟨gMem (i := 286) (by decide +kernel) (by rfl), gMem (i := 1) (by decide +kernel) (by rfl), by decide +kernel, by decide +kernel, by decide +kernel⟩
theorem mi_X6_playerOf : mInst mX6_playerOf := ⟨gMem (i := 285) (by decide +kernel) (by rfl), gSel (y := mY mX6_playerOf) (i := 2) (n := 5) (by decide +kernel)⟩
abbrev mX6_playersWithHealth : mT := (RX6, "playersWithHealth", "()I", 3, some .int, [])
theorem mk_X6_playersWithHealth : mOK mX6_playersWithHealth cX6_playersWithHealth 0 := ⟨gMem (i := 528) (by decide +kernel) (by rfl), gMem (i := 1) (by decide +kernel) (by rfl), by decide +kernel, by decide +kernel, by decide +kernel⟩
theorem mi_X6_playersWithHealth : mInst mX6_playersWithHealth := ⟨gMem (i := 527) (by decide +kernel) (by rfl), gSel (y := mY mX6_playersWithHealth) (i := 34) (n := 5) (by decide +kernel)⟩
abbrev mX6_pool : mT := (RX6, "pool", "(I)I", 2, some .int, [])
theorem mk_X6_pool : mOK mX6_pool cX6_pool 1 := ⟨gMem (i := 609) (by decide +kernel) (by rfl), gMem (i := 1) (by decide +kernel) (by rfl), by decide +kernel, by decide +kernel, by decide +kernel⟩
theorem mi_X6_pool : mInst mX6_pool := ⟨gMem (i := 607) (by decide +kernel) (by rfl), gMem (i := 608) (by decide +kernel) (by rfl)⟩
abbrev mX6_requireKind : mT := (RX6, "requireKind", "(I)V", 1, none, [])
theorem mk_X6_requireKind : mOK mX6_requireKind cX6_requireKind 1 := ⟨gMem (i := 612) (by decide +kernel) (by rfl), gMem (i := 1) (by decide +kernel) (by rfl), by decide +kernel, by decide +kernel, by decide +kernel⟩
theorem ms_X6_requireKind : Cond.static (mY mX6_requireKind) ∈ gWds := gMem (i := 611) (by decide +kernel) (by rfl)
abbrev mX6_requireSlot : mT := (RX6, "requireSlot", "(I)V", 1, none, [])
theorem mk_X6_requireSlot : mOK mX6_requireSlot cX6_requireSlot 1 := ⟨gMem (i := 353) (by decide +kernel) (by rfl), gMem (i := 1) (by decide +kernel) (by rfl), by decide +kernel, by decide +kernel, by decide +kernel⟩
theorem ms_X6_requireSlot : Cond.static (mY mX6_requireSlot) ∈ gWds := gMem (i := 352) (by decide +kernel) (by rfl)
abbrev mX6_requireUnit : mT := (RX6, "requireUnit", "(LGladehall$UnitRow;I)V", 2, none, [])
theorem mk_X6_requireUnit : mOK mX6_requireUnit cX6_requireUnit 2 := ⟨gMem (i := 418) (by decide +kernel) (by rfl), gMem (i := 1) (by decide +kernel) (by rfl), by decide +kernel, by decide +kernel, by decide +kernel⟩
theorem ms_X6_requireUnit : Cond.static (mY mX6_requireUnit) ∈ gWds := gMem (i := 417) (by decide +kernel) (by rfl)
abbrev mX6_roll : mT := (RX6, "roll", "(I)I", 3, some .int, [])
theorem mk_X6_roll : mOK mX6_roll cX6_roll 1 := ⟨gMem (i := 282) (by decide +kernel) (by rfl), gMem (i := 1) (by decide +kernel) (by rfl), by decide +kernel, by decide +kernel, by decide +kernel⟩
theorem mi_X6_roll : mInst mX6_roll := ⟨gMem (i := 280) (by decide +kernel) (by rfl), gMem (i := 281) (by decide +kernel) (by rfl)⟩
abbrev mX6_round : mT := (RX6, "round", "()I", 3, some .int, [])
theorem mk_X6_round : mOK mX6_round cX6_round 0 := ⟨gMem (i := 453) (by decide +kernel) (by rfl), gMem (i := 1) (by decide +kernel) (by rfl), by decide +kernel, by decide +kernel, by decide +kernel⟩
theorem mi_X6_round : mInst mX6_round := ⟨gMem (i := 451) (by decide +kernel) (by rfl), gMem (i := 452) (by decide +kernel) (by rfl)⟩
abbrev mX6_rounds : mT := (RX6, "rounds", "()I", 1, some .int, [])
theorem mk_X6_rounds : mOK mX6_rounds cX6_rounds 0 := ⟨gMem (i := 176) (by decide +kernel) (by rfl), gMem (i := 1) (by decide +kernel) (by rfl), by decide +kernel, by decide +kernel, by decide +kernel⟩
theorem mi_X6_rounds : mInst mX6_rounds := ⟨gMem (i := 174) (by decide +kernel) (by rfl), gMem (i := 175) (by decide +kernel) (by rfl)⟩
abbrev mX6_sell : mT := (RX6, "sell", "(II)I", 6, some .int, [])
theorem mk_X6_sell : mOK mX6_sell cX6_sell 2 := ⟨gMem (i := 415) (by decide +kernel) (by rfl), gMem (i := 1) (by decide +kernel) (by rfl), by decide +kernel, by decide +kernel, by decide +kernel⟩
theorem mi_X6_sell : mInst mX6_sell := ⟨gMem (i := 413) (by decide +kernel) (by rfl), gMem (i := 414) (by decide +kernel) (by rfl)⟩
abbrev mX6_shopAt : mT := (RX6, "shopAt", "(II)I", 4, some .int, [])
theorem mk_X6_shopAt : mOK mX6_shopAt cX6_shopAt 2 := ⟨gMem (i := 574) (by decide +kernel) (by rfl), gMem (i := 1) (by decide +kernel) (by rfl), by decide +kernel, by decide +kernel, by decide +kernel⟩
theorem mi_X6_shopAt : mInst mX6_shopAt := ⟨gMem (i := 572) (by decide +kernel) (by rfl), gMem (i := 573) (by decide +kernel) (by rfl)⟩
abbrev mX6_streak : mT := (RX6, "streak", "(I)I", 2, some .int, [])
theorem mk_X6_streak : mOK mX6_streak cX6_streak 1 := ⟨gMem (i := 567) (by decide +kernel) (by rfl), gMem (i := 1) (by decide +kernel) (by rfl), by decide +kernel, by decide +kernel, by decide +kernel⟩
theorem mi_X6_streak : mInst mX6_streak := ⟨gMem (i := 565) (by decide +kernel) (by rfl), gMem (i := 566) (by decide +kernel) (by rfl)⟩
abbrev mX6_tell : mT := (RX6, "tell", "(I)I", 2, some .int, [])
theorem mk_X6_tell : mOK mX6_tell cX6_tell 1 := ⟨gMem (i := 185) (by decide +kernel) (by rfl), gMem (i := 1) (by decide +kernel) (by rfl), by decide +kernel, by decide +kernel, by decide +kernel⟩
theorem mi_X6_tell : mInst mX6_tell := ⟨gMem (i := 183) (by decide +kernel) (by rfl), gMem (i := 184) (by decide +kernel) (by rfl)⟩
abbrev mX6_toBench : mT := (RX6, "toBench", "(II)I", 4, some .int, [])
theorem mk_X6_toBench : mOK mX6_toBench cX6_toBench 2 := ⟨gMem (i := 446) (by decide +kernel) (by rfl), gMem (i := 1) (by decide +kernel) (by rfl), by decide +kernel, by decide +kernel, by decide +kernel⟩
theorem mi_X6_toBench : mInst mX6_toBench := ⟨gMem (i := 444) (by decide +kernel) (by rfl), gMem (i := 445) (by decide +kernel) (by rfl)⟩
abbrev mX6_toBoard : mT := (RX6, "toBoard", "(II)I", 4, some .int, [])
theorem mk_X6_toBoard : mOK mX6_toBoard cX6_toBoard 2 := ⟨gMem (i := 438) (by decide +kernel) (by rfl), gMem (i := 1) (by decide +kernel) (by rfl), by decide +kernel, by decide +kernel, by decide +kernel⟩
theorem mi_X6_toBoard : mInst mX6_toBoard := ⟨gMem (i := 436) (by decide +kernel) (by rfl), gMem (i := 437) (by decide +kernel) (by rfl)⟩
abbrev mX6_toggleLock : mT := (RX6, "toggleLock", "(I)Z", 3, some .boolean, [])
theorem mk_X6_toggleLock : mOK mX6_toggleLock cX6_toggleLock 1 := ⟨gMem (i := 333) (by decide +kernel) (by rfl), gMem (i := 1) (by decide +kernel) (by rfl), by decide +kernel, by decide +kernel, by decide +kernel⟩
theorem mi_X6_toggleLock : mInst mX6_toggleLock := ⟨gMem (i := 331) (by decide +kernel) (by rfl), gMem (i := 332) (by decide +kernel) (by rfl)⟩
abbrev mX6_unitsFor : mT := (RX6, "unitsFor", "(I)I", 1, some .int, [])
theorem mk_X6_unitsFor : mOK mX6_unitsFor cX6_unitsFor 1 := ⟨gMem (i := 423) (by decide +kernel) (by rfl), gMem (i := 1) (by decide +kernel) (by rfl), by decide +kernel, by decide +kernel, by decide +kernel⟩
theorem ms_X6_unitsFor : Cond.static (mY mX6_unitsFor) ∈ gWds := gMem (i := 422) (by decide +kernel) (by rfl)
abbrev mX7_alike : mT := (RX7, "alike", "(II)I", 5, some .int, [])
theorem mk_X7_alike : mOK mX7_alike cX7_alike 2 := ⟨gMem (i := 758) (by decide +kernel) (by rfl), gMem (i := 8) (by decide +kernel) (by rfl), by decide +kernel, by decide +kernel, by decide +kernel⟩
theorem mi_X7_alike : mInst mX7_alike := ⟨gMem (i := 757) (by decide +kernel) (by rfl), gSel (y := mY mX7_alike) (i := 45) (n := 19) (by decide +kernel)⟩
abbrev mX7_benchAt : mT := (RX7, "benchAt", "(II)I", 3, some .int, [])
theorem mk_X7_benchAt : mOK mX7_benchAt cX7_benchAt 2 := ⟨gMem (i := 875) (by decide +kernel) (by rfl), gMem (i := 8) (by decide +kernel) (by rfl), by decide +kernel, by decide +kernel, by decide +kernel⟩
theorem mi_X7_benchAt : mInst mX7_benchAt := ⟨gMem (i := 873) (by decide +kernel) (by rfl), gMem (i := 874) (by decide +kernel) (by rfl)⟩
abbrev mX7_blow : mT := (RX7, "blow", "(II)I", 3, some .int, [])
theorem mk_X7_blow : mOK mX7_blow cX7_blow 2 := ⟨gMem (i := 883) (by decide +kernel) (by rfl), gMem (i := 8) (by decide +kernel) (by rfl), by decide +kernel, by decide +kernel, by decide +kernel⟩
theorem mi_X7_blow : mInst mX7_blow := ⟨gMem (i := 881) (by decide +kernel) (by rfl), gMem (i := 882) (by decide +kernel) (by rfl)⟩
abbrev mX7_blowOf : mT := (RX7, "blowOf", "(II)I", 8, some .int, [])
theorem mk_X7_blowOf : mOK mX7_blowOf cX7_blowOf 2 := ⟨gMem (i := 832) (by decide +kernel) (by rfl), gMem (i := 8) (by decide +kernel) (by rfl), by decide +kernel, by decide +kernel, by decide +kernel⟩
theorem mi_X7_blowOf : mInst mX7_blowOf := ⟨gMem (i := 831) (by decide +kernel) (by rfl), gSel (y := mY mX7_blowOf) (i := 58) (n := 19) (by decide +kernel)⟩
abbrev mX7_blows : mT := (RX7, "blows", "(II)V", 4, none, [])
theorem mk_X7_blows : mOK mX7_blows cX7_blows 2 := ⟨gMem (i := 828) (by decide +kernel) (by rfl), gMem (i := 8) (by decide +kernel) (by rfl), by decide +kernel, by decide +kernel, by decide +kernel⟩
theorem mi_X7_blows : mInst mX7_blows := ⟨gMem (i := 827) (by decide +kernel) (by rfl), gSel (y := mY mX7_blows) (i := 57) (n := 19) (by decide +kernel)⟩
abbrev mX7_boardAt : mT := (RX7, "boardAt", "(II)I", 3, some .int, [])
theorem mk_X7_boardAt : mOK mX7_boardAt cX7_boardAt 2 := ⟨gMem (i := 879) (by decide +kernel) (by rfl), gMem (i := 8) (by decide +kernel) (by rfl), by decide +kernel, by decide +kernel, by decide +kernel⟩
theorem mi_X7_boardAt : mInst mX7_boardAt := ⟨gMem (i := 877) (by decide +kernel) (by rfl), gMem (i := 878) (by decide +kernel) (by rfl)⟩
abbrev mX7_buy : mT := (RX7, "buy", "(II)I", 4, some .int, [])
theorem mk_X7_buy : mOK mX7_buy cX7_buy 2 := ⟨gMem (i := 743) (by decide +kernel) (by rfl), gMem (i := 8) (by decide +kernel) (by rfl), by decide +kernel, by decide +kernel, by decide +kernel⟩
theorem mi_X7_buy : mInst mX7_buy := ⟨gMem (i := 741) (by decide +kernel) (by rfl), gMem (i := 742) (by decide +kernel) (by rfl)⟩
abbrev mX7_buyLevel : mT := (RX7, "buyLevel", "(I)I", 2, some .int, [])
theorem mk_X7_buyLevel : mOK mX7_buyLevel cX7_buyLevel 1 := ⟨gMem (i := 739) (by decide +kernel) (by rfl), gMem (i := 8) (by decide +kernel) (by rfl), by decide +kernel, by decide +kernel, by decide +kernel⟩
theorem mi_X7_buyLevel : mInst mX7_buyLevel := ⟨gMem (i := 737) (by decide +kernel) (by rfl), gMem (i := 738) (by decide +kernel) (by rfl)⟩
abbrev mX7_cost : mT := (RX7, "cost", "(I)I", 1, some .int, [])
theorem mk_X7_cost : mOK mX7_cost cX7_cost 1 := ⟨gMem (i := 731) (by decide +kernel) (by rfl), gMem (i := 8) (by decide +kernel) (by rfl), by decide +kernel, by decide +kernel, by decide +kernel⟩
theorem ms_X7_cost : Cond.static (mY mX7_cost) ∈ gWds := gMem (i := 730) (by decide +kernel) (by rfl)
abbrev mX7_errorOfBuy : mT := (RX7, "errorOfBuy", "(II)I", 4, some .int, [])
theorem mk_X7_errorOfBuy : mOK mX7_errorOfBuy cX7_errorOfBuy 2 := ⟨gMem (i := 747) (by decide +kernel) (by rfl), gMem (i := 8) (by decide +kernel) (by rfl), by decide +kernel, by decide +kernel, by decide +kernel⟩
theorem mi_X7_errorOfBuy : mInst mX7_errorOfBuy := ⟨gMem (i := 746) (by decide +kernel) (by rfl), gSel (y := mY mX7_errorOfBuy) (i := 43) (n := 19) (by decide +kernel)⟩
abbrev mX7_fight : mT := (RX7, "fight", "(II)I", 3, some .int, [])
theorem mk_X7_fight : mOK mX7_fight cX7_fight 2 := ⟨gMem (i := 847) (by decide +kernel) (by rfl), gMem (i := 8) (by decide +kernel) (by rfl), by decide +kernel, by decide +kernel, by decide +kernel⟩
theorem mi_X7_fight : mInst mX7_fight := ⟨gMem (i := 845) (by decide +kernel) (by rfl), gMem (i := 846) (by decide +kernel) (by rfl)⟩
abbrev mX7_fightByRecord : mT := (RX7, "fightByRecord", "(II)I", 3, some .int, [])
theorem mk_X7_fightByRecord : mOK mX7_fightByRecord cX7_fightByRecord 2 := ⟨gMem (i := 855) (by decide +kernel) (by rfl), gMem (i := 8) (by decide +kernel) (by rfl), by decide +kernel, by decide +kernel, by decide +kernel⟩
theorem mi_X7_fightByRecord : mInst mX7_fightByRecord := ⟨gMem (i := 853) (by decide +kernel) (by rfl), gMem (i := 854) (by decide +kernel) (by rfl)⟩
abbrev mX7_fills : mT := (RX7, "fills", "(I)V", 4, none, [])
theorem mk_X7_fills : mOK mX7_fills cX7_fills 1 := ⟨gMem (i := 720) (by decide +kernel) (by rfl), gMem (i := 8) (by decide +kernel) (by rfl), by decide +kernel, by decide +kernel, by decide +kernel⟩
theorem mi_X7_fills : mInst mX7_fills := ⟨gMem (i := 719) (by decide +kernel) (by rfl), gSel (y := mY mX7_fills) (i := 40) (n := 19) (by decide +kernel)⟩
abbrev mX7_fillsSlot : mT := (RX7, "fillsSlot", "(II)V", 7, none, [])
theorem mk_X7_fillsSlot : mOK mX7_fillsSlot cX7_fillsSlot 2 := ⟨gMem (i := 724) (by decide +kernel) (by rfl), gMem (i := 8) (by decide +kernel) (by rfl), by decide +kernel, by decide +kernel, by decide +kernel⟩
theorem mi_X7_fillsSlot : mInst mX7_fillsSlot := ⟨gMem (i := 723) (by decide +kernel) (by rfl), gSel (y := mY mX7_fillsSlot) (i := 41) (n := 19) (by decide +kernel)⟩
abbrev mX7_fought : mT := (RX7, "fought", "(II)I", 4, some .int, [])
theorem mk_X7_fought : mOK mX7_fought cX7_fought 2 := ⟨gMem (i := 816) (by decide +kernel) (by rfl), gMem (i := 8) (by decide +kernel) (by rfl), by decide +kernel, by decide +kernel, by decide +kernel⟩
theorem mi_X7_fought : mInst mX7_fought := ⟨gMem (i := 815) (by decide +kernel) (by rfl), gSel (y := mY mX7_fought) (i := 54) (n := 19) (by decide +kernel)⟩
abbrev mX7_gold : mT := (RX7, "gold", "(I)I", 2, some .int, [])
theorem mk_X7_gold : mOK mX7_gold cX7_gold 1 := ⟨gMem (i := 859) (by decide +kernel) (by rfl), gMem (i := 8) (by decide +kernel) (by rfl), by decide +kernel, by decide +kernel, by decide +kernel⟩
theorem mi_X7_gold : mInst mX7_gold := ⟨gMem (i := 857) (by decide +kernel) (by rfl), gMem (i := 858) (by decide +kernel) (by rfl)⟩
abbrev mX7_health : mT := (RX7, "health", "(I)I", 2, some .int, [])
theorem mk_X7_health : mOK mX7_health cX7_health 1 := ⟨gMem (i := 863) (by decide +kernel) (by rfl), gMem (i := 8) (by decide +kernel) (by rfl), by decide +kernel, by decide +kernel, by decide +kernel⟩
theorem mi_X7_health : mInst mX7_health := ⟨gMem (i := 861) (by decide +kernel) (by rfl), gMem (i := 862) (by decide +kernel) (by rfl)⟩
abbrev mX7_holds : mT := (RX7, "holds", "(I)Z", 2, some .boolean, [])
theorem mk_X7_holds : mOK mX7_holds cX7_holds 1 := ⟨gMem (i := 709) (by decide +kernel) (by rfl), gMem (i := 8) (by decide +kernel) (by rfl), by decide +kernel, by decide +kernel, by decide +kernel⟩
theorem mi_X7_holds : mInst mX7_holds := ⟨gMem (i := 708) (by decide +kernel) (by rfl), gSel (y := mY mX7_holds) (i := 39) (n := 19) (by decide +kernel)⟩
abbrev mX7_in : mT := (RX7, "in", "(III)Z", 3, some .boolean, [])
theorem mk_X7_in : mOK mX7_in cX7_in 3 := ⟨gMem (i := 705) (by decide +kernel) (by rfl), gMem (i := 8) (by decide +kernel) (by rfl), by decide +kernel, by decide +kernel, by decide +kernel⟩
theorem ms_X7_in : Cond.static (mY mX7_in) ∈ gWds := gMem (i := 704) (by decide +kernel) (by rfl)
abbrev mX7_init : mT := (RX7, "<init>", "()V", 2, none, [])
theorem mk_X7_init : mOK mX7_init cX7_init 0 := ⟨gMem (i := 634) (by decide +kernel) (by rfl), gMem (i := 8) (by decide +kernel) (by rfl), by decide +kernel, by decide +kernel, by decide +kernel⟩
theorem mi_X7_init : Cond.instanceMethod (mY mX7_init) ∈ gWds := gMem (i := 633) (by decide +kernel) (by rfl)
abbrev mX7_isKind : mT := (RX7, "isKind", "(I)Z", 1, some .boolean, [])
theorem mk_X7_isKind : mOK mX7_isKind cX7_isKind 1 := ⟨gMem (i := 890) (by decide +kernel) (by rfl), gMem (i := 8) (by decide +kernel) (by rfl), by decide +kernel, by decide +kernel, by decide +kernel⟩
theorem ms_X7_isKind : Cond.static (mY mX7_isKind) ∈ gWds := gMem (i := 889) (by decide +kernel) (by rfl)
abbrev mX7_isOnBench : mT := (RX7, "isOnBench", "(II)Z", 3, some .boolean, [])
theorem mk_X7_isOnBench : mOK mX7_isOnBench cX7_isOnBench 2 := ⟨gMem (i := 786) (by decide +kernel) (by rfl), gMem (i := 8) (by decide +kernel) (by rfl), by decide +kernel, by decide +kernel, by decide +kernel⟩
theorem mi_X7_isOnBench : mInst mX7_isOnBench := ⟨gMem (i := 785) (by decide +kernel) (by rfl), gSel (y := mY mX7_isOnBench) (i := 51) (n := 19) (by decide +kernel)⟩
abbrev mX7_isOnBoard : mT := (RX7, "isOnBoard", "(II)Z", 3, some .boolean, [])
theorem mk_X7_isOnBoard : mOK mX7_isOnBoard cX7_isOnBoard 2 := ⟨gMem (i := 804) (by decide +kernel) (by rfl), gMem (i := 8) (by decide +kernel) (by rfl), by decide +kernel, by decide +kernel, by decide +kernel⟩
theorem mi_X7_isOnBoard : mInst mX7_isOnBoard := ⟨gMem (i := 803) (by decide +kernel) (by rfl), gSel (y := mY mX7_isOnBoard) (i := 52) (n := 19) (by decide +kernel)⟩
abbrev mX7_isPlayer : mT := (RX7, "isPlayer", "(I)Z", 1, some .boolean, [])
theorem mk_X7_isPlayer : mOK mX7_isPlayer cX7_isPlayer 1 := ⟨gMem (i := 716) (by decide +kernel) (by rfl), gMem (i := 8) (by decide +kernel) (by rfl), by decide +kernel, by decide +kernel, by decide +kernel⟩
theorem ms_X7_isPlayer : Cond.static (mY mX7_isPlayer) ∈ gWds := gMem (i := 715) (by decide +kernel) (by rfl)
abbrev mX7_isSlot : mT := (RX7, "isSlot", "(II)Z", 2, some .boolean, [])
theorem mk_X7_isSlot : mOK mX7_isSlot cX7_isSlot 2 := ⟨gMem (i := 750) (by decide +kernel) (by rfl), gMem (i := 8) (by decide +kernel) (by rfl), by decide +kernel, by decide +kernel, by decide +kernel⟩
theorem ms_X7_isSlot : Cond.static (mY mX7_isSlot) ∈ gWds := gMem (i := 749) (by decide +kernel) (by rfl)
abbrev mX7_least : mT := (RX7, "least", "(II)I", 2, some .int, [])
theorem mk_X7_least : mOK mX7_least cX7_least 2 := ⟨gMem (i := 792) (by decide +kernel) (by rfl), gMem (i := 8) (by decide +kernel) (by rfl), by decide +kernel, by decide +kernel, by decide +kernel⟩
theorem ms_X7_least : Cond.static (mY mX7_least) ∈ gWds := gMem (i := 791) (by decide +kernel) (by rfl)
abbrev mX7_living : mT := (RX7, "living", "(I)I", 4, some .int, [])
theorem mk_X7_living : mOK mX7_living cX7_living 1 := ⟨gMem (i := 824) (by decide +kernel) (by rfl), gMem (i := 8) (by decide +kernel) (by rfl), by decide +kernel, by decide +kernel, by decide +kernel⟩
theorem mi_X7_living : mInst mX7_living := ⟨gMem (i := 823) (by decide +kernel) (by rfl), gSel (y := mY mX7_living) (i := 56) (n := 19) (by decide +kernel)⟩
abbrev mX7_mayFight : mT := (RX7, "mayFight", "(II)Z", 3, some .boolean, [])
theorem mk_X7_mayFight : mOK mX7_mayFight cX7_mayFight 2 := ⟨gMem (i := 851) (by decide +kernel) (by rfl), gMem (i := 8) (by decide +kernel) (by rfl), by decide +kernel, by decide +kernel, by decide +kernel⟩
theorem mi_X7_mayFight : mInst mX7_mayFight := ⟨gMem (i := 850) (by decide +kernel) (by rfl), gSel (y := mY mX7_mayFight) (i := 60) (n := 19) (by decide +kernel)⟩
abbrev mX7_merge : mT := (RX7, "merge", "(II)V", 4, none, [])
theorem mk_X7_merge : mOK mX7_merge cX7_merge 2 := ⟨gMem (i := 762) (by decide +kernel) (by rfl), gMem (i := 8) (by decide +kernel) (by rfl), by decide +kernel, by decide +kernel, by decide +kernel⟩
theorem mi_X7_merge : mInst mX7_merge := ⟨gMem (i := 761) (by decide +kernel) (by rfl), gSel (y := mY mX7_merge) (i := 46) (n := 19) (by decide +kernel)⟩
abbrev mX7_merges : mT := (RX7, "merges", "(I)V", 5, none, [])
theorem mk_X7_merges : mOK mX7_merges cX7_merges 1 := ⟨gMem (i := 754) (by decide +kernel) (by rfl), gMem (i := 8) (by decide +kernel) (by rfl), by decide +kernel, by decide +kernel, by decide +kernel⟩
theorem mi_X7_merges : mInst mX7_merges := ⟨gMem (i := 753) (by decide +kernel) (by rfl), gSel (y := mY mX7_merges) (i := 44) (n := 19) (by decide +kernel)⟩
abbrev mX7_next : mT := (RX7, "next", "()I", 2, some .int, [])
theorem mk_X7_next : mOK mX7_next cX7_next 0 := ⟨gMem (i := 728) (by decide +kernel) (by rfl), gMem (i := 8) (by decide +kernel) (by rfl), by decide +kernel, by decide +kernel, by decide +kernel⟩
theorem mi_X7_next : mInst mX7_next := ⟨gMem (i := 727) (by decide +kernel) (by rfl), gSel (y := mY mX7_next) (i := 42) (n := 19) (by decide +kernel)⟩
abbrev mX7_out : mT := (RX7, "out", "(I)I", 5, some .int, [])
theorem mk_X7_out : mOK mX7_out cX7_out 1 := ⟨gMem (i := 894) (by decide +kernel) (by rfl), gMem (i := 8) (by decide +kernel) (by rfl), by decide +kernel, by decide +kernel, by decide +kernel⟩
theorem mi_X7_out : mInst mX7_out := ⟨gMem (i := 892) (by decide +kernel) (by rfl), gMem (i := 893) (by decide +kernel) (by rfl)⟩
abbrev mX7_pairs : mT := (RX7, "pairs", "(II)V", 4, none, [])
theorem mk_X7_pairs : mOK mX7_pairs cX7_pairs 2 := ⟨gMem (i := 812) (by decide +kernel) (by rfl), gMem (i := 8) (by decide +kernel) (by rfl), by decide +kernel, by decide +kernel, by decide +kernel⟩
theorem mi_X7_pairs : mInst mX7_pairs := ⟨gMem (i := 811) (by decide +kernel) (by rfl), gSel (y := mY mX7_pairs) (i := 53) (n := 19) (by decide +kernel)⟩
abbrev mX7_placeOf : mT := (RX7, "placeOf", "(III)I", 6, some .int, [])
theorem mk_X7_placeOf : mOK mX7_placeOf cX7_placeOf 3 := ⟨gMem (i := 766) (by decide +kernel) (by rfl), gMem (i := 8) (by decide +kernel) (by rfl), by decide +kernel, by decide +kernel, by decide +kernel⟩
theorem mi_X7_placeOf : mInst mX7_placeOf := ⟨gMem (i := 765) (by decide +kernel) (by rfl), gSel (y := mY mX7_placeOf) (i := 47) (n := 19) (by decide +kernel)⟩
abbrev mX7_pool : mT := (RX7, "pool", "(I)I", 2, some .int, [])
theorem mk_X7_pool : mOK mX7_pool cX7_pool 1 := ⟨gMem (i := 887) (by decide +kernel) (by rfl), gMem (i := 8) (by decide +kernel) (by rfl), by decide +kernel, by decide +kernel, by decide +kernel⟩
theorem mi_X7_pool : mInst mX7_pool := ⟨gMem (i := 885) (by decide +kernel) (by rfl), gMem (i := 886) (by decide +kernel) (by rfl)⟩
abbrev mX7_roll : mT := (RX7, "roll", "(I)I", 2, some .int, [])
theorem mk_X7_roll : mOK mX7_roll cX7_roll 1 := ⟨gMem (i := 713) (by decide +kernel) (by rfl), gMem (i := 8) (by decide +kernel) (by rfl), by decide +kernel, by decide +kernel, by decide +kernel⟩
theorem mi_X7_roll : mInst mX7_roll := ⟨gMem (i := 711) (by decide +kernel) (by rfl), gMem (i := 712) (by decide +kernel) (by rfl)⟩
abbrev mX7_round : mT := (RX7, "round", "()I", 5, some .int, [])
theorem mk_X7_round : mOK mX7_round cX7_round 0 := ⟨gMem (i := 808) (by decide +kernel) (by rfl), gMem (i := 8) (by decide +kernel) (by rfl), by decide +kernel, by decide +kernel, by decide +kernel⟩
theorem mi_X7_round : mInst mX7_round := ⟨gMem (i := 806) (by decide +kernel) (by rfl), gMem (i := 807) (by decide +kernel) (by rfl)⟩
abbrev mX7_rounds : mT := (RX7, "rounds", "()I", 1, some .int, [])
theorem mk_X7_rounds : mOK mX7_rounds cX7_rounds 0 := ⟨gMem (i := 843) (by decide +kernel) (by rfl), gMem (i := 8) (by decide +kernel) (by rfl), by decide +kernel, by decide +kernel, by decide +kernel⟩
theorem mi_X7_rounds : mInst mX7_rounds := ⟨gMem (i := 841) (by decide +kernel) (by rfl), gMem (i := 842) (by decide +kernel) (by rfl)⟩
abbrev mX7_sell : mT := (RX7, "sell", "(II)I", 5, some .int, [])
theorem mk_X7_sell : mOK mX7_sell cX7_sell 2 := ⟨gMem (i := 782) (by decide +kernel) (by rfl), gMem (i := 8) (by decide +kernel) (by rfl), by decide +kernel, by decide +kernel, by decide +kernel⟩
theorem mi_X7_sell : mInst mX7_sell := ⟨gMem (i := 780) (by decide +kernel) (by rfl), gMem (i := 781) (by decide +kernel) (by rfl)⟩
abbrev mX7_shopAt : mT := (RX7, "shopAt", "(II)I", 3, some .int, [])
theorem mk_X7_shopAt : mOK mX7_shopAt cX7_shopAt 2 := ⟨gMem (i := 871) (by decide +kernel) (by rfl), gMem (i := 8) (by decide +kernel) (by rfl), by decide +kernel, by decide +kernel, by decide +kernel⟩
theorem mi_X7_shopAt : mInst mX7_shopAt := ⟨gMem (i := 869) (by decide +kernel) (by rfl), gMem (i := 870) (by decide +kernel) (by rfl)⟩
abbrev mX7_stands : mT := (RX7, "stands", "(II)V", 5, none, [])
theorem mk_X7_stands : mOK mX7_stands cX7_stands 2 := ⟨gMem (i := 820) (by decide +kernel) (by rfl), gMem (i := 8) (by decide +kernel) (by rfl), by decide +kernel, by decide +kernel, by decide +kernel⟩
theorem mi_X7_stands : mInst mX7_stands := ⟨gMem (i := 819) (by decide +kernel) (by rfl), gSel (y := mY mX7_stands) (i := 55) (n := 19) (by decide +kernel)⟩
abbrev mX7_streak : mT := (RX7, "streak", "(I)I", 2, some .int, [])
theorem mk_X7_streak : mOK mX7_streak cX7_streak 1 := ⟨gMem (i := 867) (by decide +kernel) (by rfl), gMem (i := 8) (by decide +kernel) (by rfl), by decide +kernel, by decide +kernel, by decide +kernel⟩
theorem mi_X7_streak : mInst mX7_streak := ⟨gMem (i := 865) (by decide +kernel) (by rfl), gMem (i := 866) (by decide +kernel) (by rfl)⟩
abbrev mX7_takes : mT := (RX7, "takes", "(II)V", 3, none, [])
theorem mk_X7_takes : mOK mX7_takes cX7_takes 2 := ⟨gMem (i := 770) (by decide +kernel) (by rfl), gMem (i := 8) (by decide +kernel) (by rfl), by decide +kernel, by decide +kernel, by decide +kernel⟩
theorem mi_X7_takes : mInst mX7_takes := ⟨gMem (i := 769) (by decide +kernel) (by rfl), gSel (y := mY mX7_takes) (i := 48) (n := 19) (by decide +kernel)⟩
abbrev mX7_takesOffBench : mT := (RX7, "takesOffBench", "(II)V", 4, none, [])
theorem mk_X7_takesOffBench : mOK mX7_takesOffBench cX7_takesOffBench 2 := ⟨gMem (i := 778) (by decide +kernel) (by rfl), gMem (i := 8) (by decide +kernel) (by rfl), by decide +kernel, by decide +kernel, by decide +kernel⟩
theorem mi_X7_takesOffBench : mInst mX7_takesOffBench := ⟨gMem (i := 777) (by decide +kernel) (by rfl), gSel (y := mY mX7_takesOffBench) (i := 50) (n := 19) (by decide +kernel)⟩
abbrev mX7_takesOffBoard : mT := (RX7, "takesOffBoard", "(II)V", 4, none, [])
theorem mk_X7_takesOffBoard : mOK mX7_takesOffBoard cX7_takesOffBoard 2 := ⟨gMem (i := 774) (by decide +kernel) (by rfl), gMem (i := 8) (by decide +kernel) (by rfl), by decide +kernel, by decide +kernel, by decide +kernel⟩
theorem mi_X7_takesOffBoard : mInst mX7_takesOffBoard := ⟨gMem (i := 773) (by decide +kernel) (by rfl), gSel (y := mY mX7_takesOffBoard) (i := 49) (n := 19) (by decide +kernel)⟩
abbrev mX7_tell : mT := (RX7, "tell", "(I)I", 2, some .int, [])
theorem mk_X7_tell : mOK mX7_tell cX7_tell 1 := ⟨gMem (i := 702) (by decide +kernel) (by rfl), gMem (i := 8) (by decide +kernel) (by rfl), by decide +kernel, by decide +kernel, by decide +kernel⟩
theorem mi_X7_tell : mInst mX7_tell := ⟨gMem (i := 700) (by decide +kernel) (by rfl), gMem (i := 701) (by decide +kernel) (by rfl)⟩
abbrev mX7_third : mT := (RX7, "third", "(I)I", 1, some .int, [])
theorem mk_X7_third : mOK mX7_third cX7_third 1 := ⟨gMem (i := 839) (by decide +kernel) (by rfl), gMem (i := 8) (by decide +kernel) (by rfl), by decide +kernel, by decide +kernel, by decide +kernel⟩
theorem ms_X7_third : Cond.static (mY mX7_third) ∈ gWds := gMem (i := 838) (by decide +kernel) (by rfl)
abbrev mX7_thrown : mT := (RX7, "thrown", "()I", 1, some .int, [])
theorem mk_X7_thrown : mOK mX7_thrown cX7_thrown 0 := ⟨gMem (i := 698) (by decide +kernel) (by rfl), gMem (i := 8) (by decide +kernel) (by rfl), by decide +kernel, by decide +kernel, by decide +kernel⟩
theorem mi_X7_thrown : mInst mX7_thrown := ⟨gMem (i := 696) (by decide +kernel) (by rfl), gMem (i := 697) (by decide +kernel) (by rfl)⟩
abbrev mX7_toBench : mT := (RX7, "toBench", "(II)I", 5, some .int, [])
theorem mk_X7_toBench : mOK mX7_toBench cX7_toBench 2 := ⟨gMem (i := 800) (by decide +kernel) (by rfl), gMem (i := 8) (by decide +kernel) (by rfl), by decide +kernel, by decide +kernel, by decide +kernel⟩
theorem mi_X7_toBench : mInst mX7_toBench := ⟨gMem (i := 798) (by decide +kernel) (by rfl), gMem (i := 799) (by decide +kernel) (by rfl)⟩
abbrev mX7_toBoard : mT := (RX7, "toBoard", "(II)I", 5, some .int, [])
theorem mk_X7_toBoard : mOK mX7_toBoard cX7_toBoard 2 := ⟨gMem (i := 796) (by decide +kernel) (by rfl), gMem (i := 8) (by decide +kernel) (by rfl), by decide +kernel, by decide +kernel, by decide +kernel⟩
theorem mi_X7_toBoard : mInst mX7_toBoard := ⟨gMem (i := 794) (by decide +kernel) (by rfl), gMem (i := 795) (by decide +kernel) (by rfl)⟩
abbrev mX7_toggleLock : mT := (RX7, "toggleLock", "(I)Z", 2, some .boolean, [])
theorem mk_X7_toggleLock : mOK mX7_toggleLock cX7_toggleLock 1 := ⟨gMem (i := 735) (by decide +kernel) (by rfl), gMem (i := 8) (by decide +kernel) (by rfl), by decide +kernel, by decide +kernel, by decide +kernel⟩
theorem mi_X7_toggleLock : mInst mX7_toggleLock := ⟨gMem (i := 733) (by decide +kernel) (by rfl), gMem (i := 734) (by decide +kernel) (by rfl)⟩
abbrev mX7_wins : mT := (RX7, "wins", "(III)V", 4, none, [])
theorem mk_X7_wins : mOK mX7_wins cX7_wins 3 := ⟨gMem (i := 836) (by decide +kernel) (by rfl), gMem (i := 8) (by decide +kernel) (by rfl), by decide +kernel, by decide +kernel, by decide +kernel⟩
theorem mi_X7_wins : mInst mX7_wins := ⟨gMem (i := 835) (by decide +kernel) (by rfl), gSel (y := mY mX7_wins) (i := 59) (n := 19) (by decide +kernel)⟩
abbrev mX7_worth : mT := (RX7, "worth", "(I)I", 1, some .int, [])
theorem mk_X7_worth : mOK mX7_worth cX7_worth 1 := ⟨gMem (i := 789) (by decide +kernel) (by rfl), gMem (i := 8) (by decide +kernel) (by rfl), by decide +kernel, by decide +kernel, by decide +kernel⟩
theorem ms_X7_worth : Cond.static (mY mX7_worth) ∈ gWds := gMem (i := 788) (by decide +kernel) (by rfl)
theorem ll_L_66 : lLk RL 66 mX6_benchAt := Or.inl (gMem (i := 578) (by decide +kernel) (by rfl))
theorem ll_L_72 : lLk RL 72 mX6_blow := Or.inl (gMem (i := 598) (by decide +kernel) (by rfl))
theorem ll_L_69 : lLk RL 69 mX6_boardAt := Or.inl (gMem (i := 590) (by decide +kernel) (by rfl))
theorem ll_L_29 : lLk RL 29 mX6_buy := Or.inl (gMem (i := 347) (by decide +kernel) (by rfl))
theorem ll_L_26 : lLk RL 26 mX6_buyLevel := Or.inl (gMem (i := 337) (by decide +kernel) (by rfl))
theorem ll_L_48 : lLk RL 48 mX6_fight := Or.inl (gMem (i := 532) (by decide +kernel) (by rfl))
theorem ll_L_51 : lLk RL 51 mX6_fightByRecord := Or.inl (gMem (i := 539) (by decide +kernel) (by rfl))
theorem ll_L_54 : lLk RL 54 mX6_gold := Or.inl (gMem (i := 550) (by decide +kernel) (by rfl))
theorem ll_L_57 : lLk RL 57 mX6_health := Or.inl (gMem (i := 557) (by decide +kernel) (by rfl))
theorem ll_L_81 : lLk RL 81 mX6_init := Or.inl (gMem (i := 19) (by decide +kernel) (by rfl))
theorem ll_L_84 : lLk RL 84 mX7_init := Or.inl (gMem (i := 632) (by decide +kernel) (by rfl))
theorem lw_L_85 : Cond.methodLink RL 85 (mY mL_tell) ∈ gWds := gMem (i := 177) (by decide +kernel) (by rfl)
theorem ll_L_85 : lLk RL 85 mL_tell := Or.inl (gMem (i := 177) (by decide +kernel) (by rfl))
theorem ll_L_90 : lLk RL 90 mX7_tell := Or.inl (gMem (i := 699) (by decide +kernel) (by rfl))
theorem ll_L_91 : lLk RL 91 mX7_thrown := Or.inl (gMem (i := 695) (by decide +kernel) (by rfl))
theorem lw_L_94 : Cond.methodLink RL 94 (mY mL_roll) ∈ gWds := gMem (i := 275) (by decide +kernel) (by rfl)
theorem ll_L_94 : lLk RL 94 mL_roll := Or.inl (gMem (i := 275) (by decide +kernel) (by rfl))
theorem ll_L_96 : lLk RL 96 mX7_roll := Or.inl (gMem (i := 710) (by decide +kernel) (by rfl))
theorem lw_L_97 : Cond.methodLink RL 97 (mY mL_toggleLock) ∈ gWds := gMem (i := 327) (by decide +kernel) (by rfl)
theorem ll_L_97 : lLk RL 97 mL_toggleLock := Or.inl (gMem (i := 327) (by decide +kernel) (by rfl))
theorem ll_L_99 : lLk RL 99 mX7_toggleLock := Or.inl (gMem (i := 732) (by decide +kernel) (by rfl))
theorem lw_L_100 : Cond.methodLink RL 100 (mY mL_buyLevel) ∈ gWds := gMem (i := 334) (by decide +kernel) (by rfl)
theorem ll_L_100 : lLk RL 100 mL_buyLevel := Or.inl (gMem (i := 334) (by decide +kernel) (by rfl))
theorem ll_L_102 : lLk RL 102 mX7_buyLevel := Or.inl (gMem (i := 736) (by decide +kernel) (by rfl))
theorem lw_L_103 : Cond.methodLink RL 103 (mY mL_buy) ∈ gWds := gMem (i := 343) (by decide +kernel) (by rfl)
theorem ll_L_103 : lLk RL 103 mL_buy := Or.inl (gMem (i := 343) (by decide +kernel) (by rfl))
theorem ll_L_106 : lLk RL 106 mX7_buy := Or.inl (gMem (i := 740) (by decide +kernel) (by rfl))
theorem lw_L_107 : Cond.methodLink RL 107 (mY mL_sell) ∈ gWds := gMem (i := 409) (by decide +kernel) (by rfl)
theorem ll_L_107 : lLk RL 107 mL_sell := Or.inl (gMem (i := 409) (by decide +kernel) (by rfl))
theorem ll_L_109 : lLk RL 109 mX7_sell := Or.inl (gMem (i := 779) (by decide +kernel) (by rfl))
theorem lw_L_110 : Cond.methodLink RL 110 (mY mL_toBoard) ∈ gWds := gMem (i := 432) (by decide +kernel) (by rfl)
theorem ll_L_110 : lLk RL 110 mL_toBoard := Or.inl (gMem (i := 432) (by decide +kernel) (by rfl))
theorem ll_L_112 : lLk RL 112 mX7_toBoard := Or.inl (gMem (i := 793) (by decide +kernel) (by rfl))
theorem lw_L_113 : Cond.methodLink RL 113 (mY mL_toBench) ∈ gWds := gMem (i := 440) (by decide +kernel) (by rfl)
theorem ll_L_113 : lLk RL 113 mL_toBench := Or.inl (gMem (i := 440) (by decide +kernel) (by rfl))
theorem ll_L_115 : lLk RL 115 mX7_toBench := Or.inl (gMem (i := 797) (by decide +kernel) (by rfl))
theorem lw_L_116 : Cond.methodLink RL 116 (mY mL_round) ∈ gWds := gMem (i := 447) (by decide +kernel) (by rfl)
theorem ll_L_116 : lLk RL 116 mL_round := Or.inl (gMem (i := 447) (by decide +kernel) (by rfl))
theorem ll_L_119 : lLk RL 119 mX7_round := Or.inl (gMem (i := 805) (by decide +kernel) (by rfl))
theorem ll_L_120 : lLk RL 120 mX6_rounds := Or.inl (gMem (i := 173) (by decide +kernel) (by rfl))
theorem ll_L_123 : lLk RL 123 mX7_rounds := Or.inl (gMem (i := 840) (by decide +kernel) (by rfl))
theorem lw_L_124 : Cond.methodLink RL 124 (mY mL_fight) ∈ gWds := gMem (i := 529) (by decide +kernel) (by rfl)
theorem ll_L_124 : lLk RL 124 mL_fight := Or.inl (gMem (i := 529) (by decide +kernel) (by rfl))
theorem ll_L_126 : lLk RL 126 mX7_fight := Or.inl (gMem (i := 844) (by decide +kernel) (by rfl))
theorem lw_L_127 : Cond.methodLink RL 127 (mY mL_fightByRecord) ∈ gWds := gMem (i := 536) (by decide +kernel) (by rfl)
theorem ll_L_127 : lLk RL 127 mL_fightByRecord := Or.inl (gMem (i := 536) (by decide +kernel) (by rfl))
theorem ll_L_129 : lLk RL 129 mX7_fightByRecord := Or.inl (gMem (i := 852) (by decide +kernel) (by rfl))
theorem lw_L_130 : Cond.methodLink RL 130 (mY mL_gold) ∈ gWds := gMem (i := 547) (by decide +kernel) (by rfl)
theorem ll_L_130 : lLk RL 130 mL_gold := Or.inl (gMem (i := 547) (by decide +kernel) (by rfl))
theorem ll_L_132 : lLk RL 132 mX7_gold := Or.inl (gMem (i := 856) (by decide +kernel) (by rfl))
theorem lw_L_133 : Cond.methodLink RL 133 (mY mL_health) ∈ gWds := gMem (i := 554) (by decide +kernel) (by rfl)
theorem ll_L_133 : lLk RL 133 mL_health := Or.inl (gMem (i := 554) (by decide +kernel) (by rfl))
theorem ll_L_135 : lLk RL 135 mX7_health := Or.inl (gMem (i := 860) (by decide +kernel) (by rfl))
theorem lw_L_136 : Cond.methodLink RL 136 (mY mL_streak) ∈ gWds := gMem (i := 561) (by decide +kernel) (by rfl)
theorem ll_L_136 : lLk RL 136 mL_streak := Or.inl (gMem (i := 561) (by decide +kernel) (by rfl))
theorem ll_L_138 : lLk RL 138 mX7_streak := Or.inl (gMem (i := 864) (by decide +kernel) (by rfl))
theorem lw_L_139 : Cond.methodLink RL 139 (mY mL_shopAt) ∈ gWds := gMem (i := 568) (by decide +kernel) (by rfl)
theorem ll_L_139 : lLk RL 139 mL_shopAt := Or.inl (gMem (i := 568) (by decide +kernel) (by rfl))
theorem ll_L_141 : lLk RL 141 mX7_shopAt := Or.inl (gMem (i := 868) (by decide +kernel) (by rfl))
theorem lw_L_142 : Cond.methodLink RL 142 (mY mL_benchAt) ∈ gWds := gMem (i := 575) (by decide +kernel) (by rfl)
theorem ll_L_142 : lLk RL 142 mL_benchAt := Or.inl (gMem (i := 575) (by decide +kernel) (by rfl))
theorem ll_L_144 : lLk RL 144 mX7_benchAt := Or.inl (gMem (i := 872) (by decide +kernel) (by rfl))
theorem lw_L_145 : Cond.methodLink RL 145 (mY mL_boardAt) ∈ gWds := gMem (i := 587) (by decide +kernel) (by rfl)
theorem ll_L_145 : lLk RL 145 mL_boardAt := Or.inl (gMem (i := 587) (by decide +kernel) (by rfl))
theorem ll_L_147 : lLk RL 147 mX7_boardAt := Or.inl (gMem (i := 876) (by decide +kernel) (by rfl))
theorem lw_L_148 : Cond.methodLink RL 148 (mY mL_blow) ∈ gWds := gMem (i := 595) (by decide +kernel) (by rfl)
theorem ll_L_148 : lLk RL 148 mL_blow := Or.inl (gMem (i := 595) (by decide +kernel) (by rfl))
theorem ll_L_150 : lLk RL 150 mX7_blow := Or.inl (gMem (i := 880) (by decide +kernel) (by rfl))
theorem lw_L_151 : Cond.methodLink RL 151 (mY mL_pool) ∈ gWds := gMem (i := 603) (by decide +kernel) (by rfl)
theorem ll_L_151 : lLk RL 151 mL_pool := Or.inl (gMem (i := 603) (by decide +kernel) (by rfl))
theorem ll_L_153 : lLk RL 153 mX7_pool := Or.inl (gMem (i := 884) (by decide +kernel) (by rfl))
theorem lw_L_154 : Cond.methodLink RL 154 (mY mL_out) ∈ gWds := gMem (i := 614) (by decide +kernel) (by rfl)
theorem ll_L_154 : lLk RL 154 mL_out := Or.inl (gMem (i := 614) (by decide +kernel) (by rfl))
theorem ll_L_156 : lLk RL 156 mX7_out := Or.inl (gMem (i := 891) (by decide +kernel) (by rfl))
theorem ll_L_78 : lLk RL 78 mX6_out := Or.inl (gMem (i := 617) (by decide +kernel) (by rfl))
theorem ll_L_75 : lLk RL 75 mX6_pool := Or.inl (gMem (i := 606) (by decide +kernel) (by rfl))
theorem ll_L_17 : lLk RL 17 mX6_roll := Or.inl (gMem (i := 279) (by decide +kernel) (by rfl))
theorem ll_L_44 : lLk RL 44 mX6_round := Or.inl (gMem (i := 450) (by decide +kernel) (by rfl))
theorem ll_L_35 : lLk RL 35 mX6_sell := Or.inl (gMem (i := 412) (by decide +kernel) (by rfl))
theorem ll_L_63 : lLk RL 63 mX6_shopAt := Or.inl (gMem (i := 571) (by decide +kernel) (by rfl))
theorem ll_L_60 : lLk RL 60 mX6_streak := Or.inl (gMem (i := 564) (by decide +kernel) (by rfl))
theorem ll_L_7 : lLk RL 7 mX6_tell := Or.inl (gMem (i := 182) (by decide +kernel) (by rfl))
theorem ll_L_41 : lLk RL 41 mX6_toBench := Or.inl (gMem (i := 443) (by decide +kernel) (by rfl))
theorem ll_L_38 : lLk RL 38 mX6_toBoard := Or.inl (gMem (i := 435) (by decide +kernel) (by rfl))
theorem ll_L_22 : lLk RL 22 mX6_toggleLock := Or.inl (gMem (i := 330) (by decide +kernel) (by rfl))
theorem fl_X0_32 : fLk RX0 32 0 4 RX0 TX0 5 := ⟨rfl, by decide, in_X0, Or.inl (gMem (i := 87) (by decide +kernel) (by rfl))⟩
theorem fl_X0_12 : fLk RX0 12 0 0 RX0 TX0 5 := ⟨rfl, by decide, in_X0, Or.inl (gMem (i := 83) (by decide +kernel) (by rfl))⟩
theorem fl_X0_18 : fLk RX0 18 0 1 RX0 TX0 5 := ⟨rfl, by decide, in_X0, Or.inl (gMem (i := 84) (by decide +kernel) (by rfl))⟩
theorem ll_X0_36 : lLk RX0 36 mX4_takeTurn := Or.inr ⟨"Gladehall", List.mem_of_getElem? (i := 492) (by decide +kernel)⟩
theorem ll_X0_40 : lLk RX0 40 mX4_firstLiving := Or.inr ⟨"Gladehall", List.mem_of_getElem? (i := 496) (by decide +kernel)⟩
theorem fl_X0_43 : fLk RX0 43 4 0 RX4 TX4 4 := ⟨rfl, by decide, in_X4, Or.inr ⟨"Gladehall", List.mem_of_getElem? (i := 69) (by decide +kernel)⟩⟩
theorem fl_X0_46 : fLk RX0 46 4 1 RX4 TX4 4 := ⟨rfl, by decide, in_X4, Or.inr ⟨"Gladehall", List.mem_of_getElem? (i := 71) (by decide +kernel)⟩⟩
theorem fl_X0_21 : fLk RX0 21 0 2 RX0 TX0 5 := ⟨rfl, by decide, in_X0, Or.inl (gMem (i := 85) (by decide +kernel) (by rfl))⟩
theorem fl_X0_25 : fLk RX0 25 0 3 RX0 TX0 5 := ⟨rfl, by decide, in_X0, Or.inl (gMem (i := 86) (by decide +kernel) (by rfl))⟩
theorem lo_X0_3 : Cond.methodLink RX0 3 objectInit ∈ gWds := gMem (i := 61) (by decide +kernel) (by rfl)
theorem ll_X0_11 : lLk RX0 11 mX4_init := Or.inr ⟨"Gladehall", List.mem_of_getElem? (i := 64) (by decide +kernel)⟩
theorem ll_X0_28 : lLk RX0 28 mX4_muster := Or.inr ⟨"Gladehall", List.mem_of_getElem? (i := 470) (by decide +kernel)⟩
theorem ll_X0_49 : lLk RX0 49 mX4_living := Or.inr ⟨"Gladehall", List.mem_of_getElem? (i := 504) (by decide +kernel)⟩
theorem fl_X1_15 : fLk RX1 15 1 2 RX1 TX1 3 := ⟨rfl, by decide, in_X1, Or.inl (gMem (i := 47) (by decide +kernel) (by rfl))⟩
theorem fl_X1_9 : fLk RX1 9 1 0 RX1 TX1 3 := ⟨rfl, by decide, in_X1, Or.inl (gMem (i := 45) (by decide +kernel) (by rfl))⟩
theorem fl_X1_19 : fLk RX1 19 1 1 RX1 TX1 3 := ⟨rfl, by decide, in_X1, Or.inl (gMem (i := 46) (by decide +kernel) (by rfl))⟩
theorem lo_X1_3 : Cond.methodLink RX1 3 objectInit ∈ gWds := gMem (i := 44) (by decide +kernel) (by rfl)
theorem fl_X2_9 : fLk RX2 9 2 0 RX2 TX2 8 := ⟨rfl, by decide, in_X2, Or.inl (gMem (i := 125) (by decide +kernel) (by rfl))⟩
theorem lm_X2_37 : Cond.methodLink RX2 37 Lib.Math.min.name ∈ gWds := gMem (i := 429) (by decide +kernel) (by rfl)
theorem fl_X2_43 : fLk RX2 43 2 3 RX2 TX2 8 := ⟨rfl, by decide, in_X2, Or.inl (gMem (i := 131) (by decide +kernel) (by rfl))⟩
theorem ll_X2_46 : lLk RX2 46 mX2_addGold := Or.inl (gMem (i := 520) (by decide +kernel) (by rfl))
theorem lo_X2_3 : Cond.methodLink RX2 3 objectInit ∈ gWds := gMem (i := 103) (by decide +kernel) (by rfl)
theorem fl_X2_15 : fLk RX2 15 2 1 RX2 TX2 8 := ⟨rfl, by decide, in_X2, Or.inl (gMem (i := 127) (by decide +kernel) (by rfl))⟩
theorem fl_X2_18 : fLk RX2 18 2 2 RX2 TX2 8 := ⟨rfl, by decide, in_X2, Or.inl (gMem (i := 129) (by decide +kernel) (by rfl))⟩
theorem fl_X2_21 : fLk RX2 21 2 5 RX2 TX2 8 := ⟨rfl, by decide, in_X2, Or.inl (gMem (i := 134) (by decide +kernel) (by rfl))⟩
theorem fg_X2_21 : Cond.fieldLink RX2 21 (TX2 5).1 (TX2 5).2.1 (TX2 5).2.2.1 ∈ gWds := gMem (i := 134) (by decide +kernel) (by rfl)
theorem ll_X2_27 : lLk RX2 27 mX5_init := Or.inr ⟨"Gladehall", List.mem_of_getElem? (i := 106) (by decide +kernel)⟩
theorem fl_X2_30 : fLk RX2 30 2 6 RX2 TX2 8 := ⟨rfl, by decide, in_X2, Or.inl (gMem (i := 136) (by decide +kernel) (by rfl))⟩
theorem fg_X2_30 : Cond.fieldLink RX2 30 (TX2 6).1 (TX2 6).2.1 (TX2 6).2.2.1 ∈ gWds := gMem (i := 136) (by decide +kernel) (by rfl)
theorem fl_X2_34 : fLk RX2 34 2 7 RX2 TX2 8 := ⟨rfl, by decide, in_X2, Or.inl (gMem (i := 138) (by decide +kernel) (by rfl))⟩
theorem fg_X2_34 : Cond.fieldLink RX2 34 (TX2 7).1 (TX2 7).2.1 (TX2 7).2.2.1 ∈ gWds := gMem (i := 138) (by decide +kernel) (by rfl)
theorem ll_X2_57 : lLk RX2 57 mX5_countOf := Or.inr ⟨"Gladehall", List.mem_of_getElem? (i := 385) (by decide +kernel)⟩
theorem ll_X2_60 : lLk RX2 60 mX2_mergeThree := Or.inl (gMem (i := 389) (by decide +kernel) (by rfl))
theorem ll_X2_64 : lLk RX2 64 mX2_rowOfFirst := Or.inl (gMem (i := 393) (by decide +kernel) (by rfl))
theorem ll_X2_68 : lLk RX2 68 mX5_find := Or.inr ⟨"Gladehall", List.mem_of_getElem? (i := 397) (by decide +kernel)⟩
theorem fl_X2_71 : fLk RX2 71 5 1 RX5 TX5 3 := ⟨rfl, by decide, in_X5, Or.inr ⟨"Gladehall", List.mem_of_getElem? (i := 114) (by decide +kernel)⟩⟩
theorem ll_X2_74 : lLk RX2 74 mX5_removeAt := Or.inr ⟨"Gladehall", List.mem_of_getElem? (i := 401) (by decide +kernel)⟩
theorem ll_X2_53 : lLk RX2 53 mX2_mergeFirstThree := Or.inl (gMem (i := 381) (by decide +kernel) (by rfl))
theorem ll_X2_49 : lLk RX2 49 mX5_unitsHeld := Or.inr ⟨"Gladehall", List.mem_of_getElem? (i := 625) (by decide +kernel)⟩
theorem ll_X3_19 : lLk RX3 19 mX3_unitsUpTo := Or.inl (gMem (i := 320) (by decide +kernel) (by rfl))
theorem fl_X3_9 : fLk RX3 9 3 0 RX3 TX3 1 := ⟨rfl, by decide, in_X3, Or.inl (gMem (i := 33) (by decide +kernel) (by rfl))⟩
theorem lo_X3_3 : Cond.methodLink RX3 3 objectInit ∈ gWds := gMem (i := 32) (by decide +kernel) (by rfl)
theorem ll_X3_15 : lLk RX3 15 mX6_costOf := Or.inr ⟨"Gladehall", List.mem_of_getElem? (i := 324) (by decide +kernel)⟩
theorem fl_X4_30 : fLk RX4 30 4 2 RX4 TX4 4 := ⟨rfl, by decide, in_X4, Or.inl (gMem (i := 72) (by decide +kernel) (by rfl))⟩
theorem fl_X4_9 : fLk RX4 9 4 0 RX4 TX4 4 := ⟨rfl, by decide, in_X4, Or.inl (gMem (i := 68) (by decide +kernel) (by rfl))⟩
theorem lo_X4_3 : Cond.methodLink RX4 3 objectInit ∈ gWds := gMem (i := 67) (by decide +kernel) (by rfl)
theorem fl_X4_15 : fLk RX4 15 4 1 RX4 TX4 4 := ⟨rfl, by decide, in_X4, Or.inl (gMem (i := 70) (by decide +kernel) (by rfl))⟩
theorem fg_X4_15 : Cond.fieldLink RX4 15 (TX4 1).1 (TX4 1).2.1 (TX4 1).2.2.1 ∈ gWds := gMem (i := 70) (by decide +kernel) (by rfl)
theorem fl_X4_18 : fLk RX4 18 5 2 RX5 TX5 3 := ⟨rfl, by decide, in_X5, Or.inr ⟨"Gladehall", List.mem_of_getElem? (i := 115) (by decide +kernel)⟩⟩
theorem lm_X4_24 : Cond.methodLink RX4 24 Lib.Math.min.name ∈ gWds := gMem (i := 474) (by decide +kernel) (by rfl)
theorem fl_X4_31 : fLk RX4 31 4 3 RX4 TX4 4 := ⟨rfl, by decide, in_X4, Or.inl (gMem (i := 73) (by decide +kernel) (by rfl))⟩
theorem ll_X4_34 : lLk RX4 34 mX5_healthAt := Or.inr ⟨"Gladehall", List.mem_of_getElem? (i := 475) (by decide +kernel)⟩
theorem ll_X4_38 : lLk RX4 38 mX5_strengthAt := Or.inr ⟨"Gladehall", List.mem_of_getElem? (i := 480) (by decide +kernel)⟩
theorem fl_X5_18 : fLk RX5 18 5 2 RX5 TX5 3 := ⟨rfl, by decide, in_X5, Or.inl (gMem (i := 116) (by decide +kernel) (by rfl))⟩
theorem fl_X5_9 : fLk RX5 9 5 0 RX5 TX5 3 := ⟨rfl, by decide, in_X5, Or.inl (gMem (i := 110) (by decide +kernel) (by rfl))⟩
theorem fl_X5_15 : fLk RX5 15 5 1 RX5 TX5 3 := ⟨rfl, by decide, in_X5, Or.inl (gMem (i := 112) (by decide +kernel) (by rfl))⟩
theorem ll_X5_22 : lLk RX5 22 mX5_has := Or.inl (gMem (i := 405) (by decide +kernel) (by rfl))
theorem ll_X5_30 : lLk RX5 30 mX6_costOf := Or.inr ⟨"Gladehall", List.mem_of_getElem? (i := 479) (by decide +kernel)⟩
theorem lo_X5_3 : Cond.methodLink RX5 3 objectInit ∈ gWds := gMem (i := 109) (by decide +kernel) (by rfl)
theorem ll_X5_33 : lLk RX5 33 mX5_hasKind := Or.inl (gMem (i := 484) (by decide +kernel) (by rfl))
theorem ll_X5_26 : lLk RX5 26 mX6_unitsFor := Or.inr ⟨"Gladehall", List.mem_of_getElem? (i := 629) (by decide +kernel)⟩
theorem ll_X6_57 : lLk RX6 57 mX6_playerOf := Or.inl (gMem (i := 283) (by decide +kernel) (by rfl))
theorem xa_X6_186 : ∀ w ∈ (vx_atS RX6 186 "java/lang/IndexOutOfBoundsException" ["java/lang/RuntimeException", "java/lang/Exception"]).filter goodWord, w ∈ gWds := gFl (by decide +kernel)
theorem xb_X6_186 : ∀ w ∈ (vx_atS RX6 186 "java/lang/IndexOutOfBoundsException" ["java/lang/RuntimeException", "java/lang/Exception"]).filter (fun w => !goodWord w), w ∈ tables_1 ∧ gIsN w = true := by decide +kernel
theorem xa_X6_52 : ∀ w ∈ (vx_atS RX6 52 "java/lang/IllegalStateException" ["java/lang/RuntimeException", "java/lang/Exception"]).filter goodWord, w ∈ gWds := gFl (by decide +kernel)
theorem xb_X6_52 : ∀ w ∈ (vx_atS RX6 52 "java/lang/IllegalStateException" ["java/lang/RuntimeException", "java/lang/Exception"]).filter (fun w => !goodWord w), w ∈ tables_1 ∧ gIsN w = true := by decide +kernel
theorem xa_X6_41 : ∀ w ∈ (vx_atS RX6 41 "java/lang/IllegalArgumentException" ["java/lang/RuntimeException", "java/lang/Exception"]).filter goodWord, w ∈ gWds := gFl (by decide +kernel)
theorem xb_X6_41 : ∀ w ∈ (vx_atS RX6 41 "java/lang/IllegalArgumentException" ["java/lang/RuntimeException", "java/lang/Exception"]).filter (fun w => !goodWord w), w ∈ tables_1 ∧ gIsN w = true := by decide +kernel
theorem xl_X6_184 : xLk RX6 182 184 186 xIO "a bench has no such place" := ⟨by decide +kernel, gMem (i := 287) (by decide +kernel) (by rfl), gMem (i := 14) (by decide +kernel) (by rfl), by decide, List.mem_of_getElem? (i := 582) (by decide +kernel), xa_X6_186, xb_X6_186, by decide +kernel⟩
theorem fl_X6_98 : fLk RX6 98 2 6 RX2 TX2 8 := ⟨rfl, by decide, in_X2, Or.inr ⟨"Gladehall", List.mem_of_getElem? (i := 137) (by decide +kernel)⟩⟩
theorem ll_X6_187 : lLk RX6 187 mX5_unitAt := Or.inr ⟨"Gladehall", List.mem_of_getElem? (i := 583) (by decide +kernel)⟩
theorem fl_X6_135 : fLk RX6 135 2 7 RX2 TX2 8 := ⟨rfl, by decide, in_X2, Or.inr ⟨"Gladehall", List.mem_of_getElem? (i := 139) (by decide +kernel)⟩⟩
theorem ll_X6_112 : lLk RX6 112 mX6_requireUnit := Or.inl (gMem (i := 416) (by decide +kernel) (by rfl))
theorem ll_X6_192 : lLk RX6 192 mX5_strengthAt := Or.inr ⟨"Gladehall", List.mem_of_getElem? (i := 602) (by decide +kernel)⟩
theorem xl_X6_190 : xLk RX6 182 190 186 xIO "a board has no such place" := ⟨by decide +kernel, gMem (i := 287) (by decide +kernel) (by rfl), gMem (i := 14) (by decide +kernel) (by rfl), by decide, List.mem_of_getElem? (i := 594) (by decide +kernel), xa_X6_186, xb_X6_186, by decide +kernel⟩
theorem ll_X6_81 : lLk RX6 81 mX6_requireSlot := Or.inl (gMem (i := 351) (by decide +kernel) (by rfl))
theorem fl_X6_85 : fLk RX6 85 2 5 RX2 TX2 8 := ⟨rfl, by decide, in_X2, Or.inr ⟨"Gladehall", List.mem_of_getElem? (i := 135) (by decide +kernel)⟩⟩
theorem fl_X6_61 : fLk RX6 61 2 0 RX2 TX2 8 := ⟨rfl, by decide, in_X2, Or.inr ⟨"Gladehall", List.mem_of_getElem? (i := 126) (by decide +kernel)⟩⟩
theorem ll_X6_94 : lLk RX6 94 mX6_costOf := Or.inl (gMem (i := 371) (by decide +kernel) (by rfl))
theorem xl_X6_74 : xLk RX6 48 74 52 xIS "the player has too little gold" := ⟨by decide +kernel, gMem (i := 259) (by decide +kernel) (by rfl), gMem (i := 13) (by decide +kernel) (by rfl), by decide, List.mem_of_getElem? (i := 341) (by decide +kernel), xa_X6_52, xb_X6_52, by decide +kernel⟩
theorem ll_X6_102 : lLk RX6 102 mX5_append := Or.inr ⟨"Gladehall", List.mem_of_getElem? (i := 372) (by decide +kernel)⟩
theorem xl_X6_107 : xLk RX6 48 107 52 xIS "the bench has 6 units" := ⟨by decide +kernel, gMem (i := 259) (by decide +kernel) (by rfl), gMem (i := 13) (by decide +kernel) (by rfl), by decide, List.mem_of_getElem? (i := 376) (by decide +kernel), xa_X6_52, xb_X6_52, by decide +kernel⟩
theorem ll_X6_109 : lLk RX6 109 mX2_mergeThrees := Or.inr ⟨"Gladehall", List.mem_of_getElem? (i := 377) (by decide +kernel)⟩
theorem fl_X6_76 : fLk RX6 76 2 1 RX2 TX2 8 := ⟨rfl, by decide, in_X2, Or.inr ⟨"Gladehall", List.mem_of_getElem? (i := 128) (by decide +kernel)⟩⟩
theorem xl_X6_79 : xLk RX6 48 79 52 xIS "the player has the highest level" := ⟨by decide +kernel, gMem (i := 259) (by decide +kernel) (by rfl), gMem (i := 13) (by decide +kernel) (by rfl), by decide, List.mem_of_getElem? (i := 342) (by decide +kernel), xa_X6_52, xb_X6_52, by decide +kernel⟩
theorem ll_X6_164 : lLk RX6 164 mX6_musterSides := Or.inl (gMem (i := 461) (by decide +kernel) (by rfl))
theorem fl_X6_32 : fLk RX6 32 6 3 RX6 TX6 5 := ⟨rfl, by decide, in_X6, Or.inl (gMem (i := 160) (by decide +kernel) (by rfl))⟩
theorem ll_X6_167 : lLk RX6 167 mX0_fightOut := Or.inr ⟨"Gladehall", List.mem_of_getElem? (i := 488) (by decide +kernel)⟩
theorem ll_X6_170 : lLk RX6 170 mX0_result := Or.inr ⟨"Gladehall", List.mem_of_getElem? (i := 500) (by decide +kernel)⟩
theorem ll_X6_173 : lLk RX6 173 mX0_redo := Or.inr ⟨"Gladehall", List.mem_of_getElem? (i := 543) (by decide +kernel)⟩
theorem fl_X6_11 : fLk RX6 11 6 0 RX6 TX6 5 := ⟨rfl, by decide, in_X6, Or.inl (gMem (i := 157) (by decide +kernel) (by rfl))⟩
theorem ll_X6_221 : lLk RX6 221 mX2_win := Or.inr ⟨"Gladehall", List.mem_of_getElem? (i := 508) (by decide +kernel)⟩
theorem ll_X6_224 : lLk RX6 224 mX2_lose := Or.inr ⟨"Gladehall", List.mem_of_getElem? (i := 512) (by decide +kernel)⟩
theorem fl_X6_179 : fLk RX6 179 2 3 RX2 TX2 8 := ⟨rfl, by decide, in_X2, Or.inr ⟨"Gladehall", List.mem_of_getElem? (i := 132) (by decide +kernel)⟩⟩
theorem fl_X6_18 : fLk RX6 18 6 1 RX6 TX6 5 := ⟨rfl, by decide, in_X6, Or.inl (gMem (i := 158) (by decide +kernel) (by rfl))⟩
theorem ll_X6_128 : lLk RX6 128 mX3_putBack := Or.inr ⟨"Gladehall", List.mem_of_getElem? (i := 308) (by decide +kernel)⟩
theorem fl_X6_25 : fLk RX6 25 6 2 RX6 TX6 5 := ⟨rfl, by decide, in_X6, Or.inl (gMem (i := 159) (by decide +kernel) (by rfl))⟩
theorem ll_X6_227 : lLk RX6 227 mX1_take := Or.inr ⟨"Gladehall", List.mem_of_getElem? (i := 312) (by decide +kernel)⟩
theorem ll_X6_230 : lLk RX6 230 mX3_draw := Or.inr ⟨"Gladehall", List.mem_of_getElem? (i := 316) (by decide +kernel)⟩
theorem fl_X6_70 : fLk RX6 70 2 4 RX2 TX2 8 := ⟨rfl, by decide, in_X2, Or.inr ⟨"Gladehall", List.mem_of_getElem? (i := 133) (by decide +kernel)⟩⟩
theorem ll_X6_66 : lLk RX6 66 mX6_fillShop := Or.inl (gMem (i := 304) (by decide +kernel) (by rfl))
theorem fl_X6_176 : fLk RX6 176 2 2 RX2 TX2 8 := ⟨rfl, by decide, in_X2, Or.inr ⟨"Gladehall", List.mem_of_getElem? (i := 130) (by decide +kernel)⟩⟩
theorem lo_X6_1 : Cond.methodLink RX6 1 objectInit ∈ gWds := gMem (i := 22) (by decide +kernel) (by rfl)
theorem ll_X6_17 : lLk RX6 17 mX3_init := Or.inr ⟨"Gladehall", List.mem_of_getElem? (i := 29) (by decide +kernel)⟩
theorem ll_X6_24 : lLk RX6 24 mX1_init := Or.inr ⟨"Gladehall", List.mem_of_getElem? (i := 41) (by decide +kernel)⟩
theorem ll_X6_31 : lLk RX6 31 mX0_init := Or.inr ⟨"Gladehall", List.mem_of_getElem? (i := 58) (by decide +kernel)⟩
theorem ll_X6_36 : lLk RX6 36 mX2_init := Or.inr ⟨"Gladehall", List.mem_of_getElem? (i := 100) (by decide +kernel)⟩
theorem xl_X6_215 : xLk RX6 37 215 41 xIA "a player does not fight itself" := ⟨by decide +kernel, gMem (i := 186) (by decide +kernel) (by rfl), gMem (i := 12) (by decide +kernel) (by rfl), by decide, List.mem_of_getElem? (i := 465) (by decide +kernel), xa_X6_41, xb_X6_41, by decide +kernel⟩
theorem ll_X6_217 : lLk RX6 217 mX0_muster := Or.inr ⟨"Gladehall", List.mem_of_getElem? (i := 466) (by decide +kernel)⟩
theorem ll_X6_195 : lLk RX6 195 mX6_requireKind := Or.inl (gMem (i := 610) (by decide +kernel) (by rfl))
theorem ll_X6_201 : lLk RX6 201 mX2_unitsHeld := Or.inr ⟨"Gladehall", List.mem_of_getElem? (i := 621) (by decide +kernel)⟩
theorem xl_X6_204 : xLk RX6 182 204 186 xIO "there is no such player" := ⟨by decide +kernel, gMem (i := 287) (by decide +kernel) (by rfl), gMem (i := 14) (by decide +kernel) (by rfl), by decide, List.mem_of_getElem? (i := 296) (by decide +kernel), xa_X6_186, xb_X6_186, by decide +kernel⟩
theorem fl_X6_198 : fLk RX6 198 3 0 RX3 TX3 1 := ⟨rfl, by decide, in_X3, Or.inr ⟨"Gladehall", List.mem_of_getElem? (i := 34) (by decide +kernel)⟩⟩
theorem xl_X6_206 : xLk RX6 182 206 186 xIO "there is no such kind" := ⟨by decide +kernel, gMem (i := 287) (by decide +kernel) (by rfl), gMem (i := 14) (by decide +kernel) (by rfl), by decide, List.mem_of_getElem? (i := 613) (by decide +kernel), xa_X6_186, xb_X6_186, by decide +kernel⟩
theorem xl_X6_208 : xLk RX6 182 208 186 xIO "there is no such slot" := ⟨by decide +kernel, gMem (i := 287) (by decide +kernel) (by rfl), gMem (i := 14) (by decide +kernel) (by rfl), by decide, List.mem_of_getElem? (i := 354) (by decide +kernel), xa_X6_186, xb_X6_186, by decide +kernel⟩
theorem ll_X6_210 : lLk RX6 210 mX5_has := Or.inr ⟨"Gladehall", List.mem_of_getElem? (i := 419) (by decide +kernel)⟩
theorem xl_X6_213 : xLk RX6 182 213 186 xIO "there is no unit at this place" := ⟨by decide +kernel, gMem (i := 287) (by decide +kernel) (by rfl), gMem (i := 14) (by decide +kernel) (by rfl), by decide, List.mem_of_getElem? (i := 420) (by decide +kernel), xa_X6_186, xb_X6_186, by decide +kernel⟩
theorem xl_X6_64 : xLk RX6 48 64 52 xIS "the player has no gold" := ⟨by decide +kernel, gMem (i := 259) (by decide +kernel) (by rfl), gMem (i := 13) (by decide +kernel) (by rfl), by decide, List.mem_of_getElem? (i := 303) (by decide +kernel), xa_X6_52, xb_X6_52, by decide +kernel⟩
theorem fl_X6_143 : fLk RX6 143 6 4 RX6 TX6 5 := ⟨rfl, by decide, in_X6, Or.inl (gMem (i := 161) (by decide +kernel) (by rfl))⟩
theorem xl_X6_146 : xLk RX6 48 146 52 xIS "200 rounds were played" := ⟨by decide +kernel, gMem (i := 259) (by decide +kernel) (by rfl), gMem (i := 13) (by decide +kernel) (by rfl), by decide, List.mem_of_getElem? (i := 454) (by decide +kernel), xa_X6_52, xb_X6_52, by decide +kernel⟩
theorem ll_X6_151 : lLk RX6 151 mX6_fightPair := Or.inl (gMem (i := 457) (by decide +kernel) (by rfl))
theorem ll_X6_154 : lLk RX6 154 mX2_earn := Or.inr ⟨"Gladehall", List.mem_of_getElem? (i := 516) (by decide +kernel)⟩
theorem ll_X6_157 : lLk RX6 157 mX6_fillUnlockedShops := Or.inl (gMem (i := 521) (by decide +kernel) (by rfl))
theorem ll_X6_160 : lLk RX6 160 mX6_playersWithHealth := Or.inl (gMem (i := 525) (by decide +kernel) (by rfl))
theorem fl_X6_116 : fLk RX6 116 5 0 RX5 TX5 3 := ⟨rfl, by decide, in_X5, Or.inr ⟨"Gladehall", List.mem_of_getElem? (i := 111) (by decide +kernel)⟩⟩
theorem fl_X6_119 : fLk RX6 119 5 1 RX5 TX5 3 := ⟨rfl, by decide, in_X5, Or.inr ⟨"Gladehall", List.mem_of_getElem? (i := 113) (by decide +kernel)⟩⟩
theorem ll_X6_122 : lLk RX6 122 mX6_unitsFor := Or.inl (gMem (i := 421) (by decide +kernel) (by rfl))
theorem ll_X6_125 : lLk RX6 125 mX5_removeAt := Or.inr ⟨"Gladehall", List.mem_of_getElem? (i := 424) (by decide +kernel)⟩
theorem ll_X6_132 : lLk RX6 132 mX2_addGold := Or.inr ⟨"Gladehall", List.mem_of_getElem? (i := 425) (by decide +kernel)⟩
theorem xl_X6_39 : xLk RX6 37 39 41 xIA "the number is not from 0 to 1000" := ⟨by decide +kernel, gMem (i := 186) (by decide +kernel) (by rfl), gMem (i := 12) (by decide +kernel) (by rfl), by decide, List.mem_of_getElem? (i := 228) (by decide +kernel), xa_X6_41, xb_X6_41, by decide +kernel⟩
theorem ll_X6_44 : lLk RX6 44 mX1_append := Or.inr ⟨"Gladehall", List.mem_of_getElem? (i := 255) (by decide +kernel)⟩
theorem xl_X6_50 : xLk RX6 48 50 52 xIS "100 numbers are left" := ⟨by decide +kernel, gMem (i := 259) (by decide +kernel) (by rfl), gMem (i := 13) (by decide +kernel) (by rfl), by decide, List.mem_of_getElem? (i := 268) (by decide +kernel), xa_X6_52, xb_X6_52, by decide +kernel⟩
theorem fl_X6_53 : fLk RX6 53 1 2 RX1 TX1 3 := ⟨rfl, by decide, in_X1, Or.inr ⟨"Gladehall", List.mem_of_getElem? (i := 48) (by decide +kernel)⟩⟩
theorem fl_X6_138 : fLk RX6 138 5 2 RX5 TX5 3 := ⟨rfl, by decide, in_X5, Or.inr ⟨"Gladehall", List.mem_of_getElem? (i := 117) (by decide +kernel)⟩⟩
theorem xl_X6_141 : xLk RX6 48 141 52 xIS "the board has as many units as the level" := ⟨by decide +kernel, gMem (i := 259) (by decide +kernel) (by rfl), gMem (i := 13) (by decide +kernel) (by rfl), by decide, List.mem_of_getElem? (i := 439) (by decide +kernel), xa_X6_52, xb_X6_52, by decide +kernel⟩
theorem fl_X7_41 : fLk RX7 41 7 14 RX7 TX7 19 := ⟨rfl, by decide, in_X7, Or.inl (gMem (i := 650) (by decide +kernel) (by rfl))⟩
theorem fl_X7_44 : fLk RX7 44 7 15 RX7 TX7 19 := ⟨rfl, by decide, in_X7, Or.inl (gMem (i := 651) (by decide +kernel) (by rfl))⟩
theorem fl_X7_35 : fLk RX7 35 7 12 RX7 TX7 19 := ⟨rfl, by decide, in_X7, Or.inl (gMem (i := 648) (by decide +kernel) (by rfl))⟩
theorem fl_X7_38 : fLk RX7 38 7 13 RX7 TX7 19 := ⟨rfl, by decide, in_X7, Or.inl (gMem (i := 649) (by decide +kernel) (by rfl))⟩
theorem ll_X7_64 : lLk RX7 64 mX7_isPlayer := Or.inl (gMem (i := 714) (by decide +kernel) (by rfl))
theorem ll_X7_60 : lLk RX7 60 mX7_in := Or.inl (gMem (i := 703) (by decide +kernel) (by rfl))
theorem ll_X7_71 : lLk RX7 71 mX7_holds := Or.inl (gMem (i := 706) (by decide +kernel) (by rfl))
theorem ll_X7_132 : lLk RX7 132 mX7_isOnBoard := Or.inl (gMem (i := 801) (by decide +kernel) (by rfl))
theorem ll_X7_135 : lLk RX7 135 mX7_blowOf := Or.inl (gMem (i := 829) (by decide +kernel) (by rfl))
theorem ll_X7_81 : lLk RX7 81 mX7_cost := Or.inl (gMem (i := 729) (by decide +kernel) (by rfl))
theorem fl_X7_53 : fLk RX7 53 7 18 RX7 TX7 19 := ⟨rfl, by decide, in_X7, Or.inl (gMem (i := 654) (by decide +kernel) (by rfl))⟩
theorem fl_X7_50 : fLk RX7 50 7 17 RX7 TX7 19 := ⟨rfl, by decide, in_X7, Or.inl (gMem (i := 653) (by decide +kernel) (by rfl))⟩
theorem fl_X7_47 : fLk RX7 47 7 16 RX7 TX7 19 := ⟨rfl, by decide, in_X7, Or.inl (gMem (i := 652) (by decide +kernel) (by rfl))⟩
theorem ll_X7_117 : lLk RX7 117 mX7_errorOfBuy := Or.inl (gMem (i := 744) (by decide +kernel) (by rfl))
theorem fl_X7_28 : fLk RX7 28 7 10 RX7 TX7 19 := ⟨rfl, by decide, in_X7, Or.inl (gMem (i := 646) (by decide +kernel) (by rfl))⟩
theorem fl_X7_16 : fLk RX7 16 7 6 RX7 TX7 19 := ⟨rfl, by decide, in_X7, Or.inl (gMem (i := 642) (by decide +kernel) (by rfl))⟩
theorem ll_X7_120 : lLk RX7 120 mX7_merges := Or.inl (gMem (i := 751) (by decide +kernel) (by rfl))
theorem fl_X7_19 : fLk RX7 19 7 7 RX7 TX7 19 := ⟨rfl, by decide, in_X7, Or.inl (gMem (i := 643) (by decide +kernel) (by rfl))⟩
theorem ll_X7_113 : lLk RX7 113 mX7_isSlot := Or.inl (gMem (i := 748) (by decide +kernel) (by rfl))
theorem ll_X7_163 : lLk RX7 163 mX7_mayFight := Or.inl (gMem (i := 848) (by decide +kernel) (by rfl))
theorem ll_X7_147 : lLk RX7 147 mX7_fought := Or.inl (gMem (i := 813) (by decide +kernel) (by rfl))
theorem fl_X7_13 : fLk RX7 13 7 5 RX7 TX7 19 := ⟨rfl, by decide, in_X7, Or.inl (gMem (i := 641) (by decide +kernel) (by rfl))⟩
theorem ll_X7_85 : lLk RX7 85 mX7_fillsSlot := Or.inl (gMem (i := 721) (by decide +kernel) (by rfl))
theorem fl_X7_31 : fLk RX7 31 7 11 RX7 TX7 19 := ⟨rfl, by decide, in_X7, Or.inl (gMem (i := 647) (by decide +kernel) (by rfl))⟩
theorem ll_X7_77 : lLk RX7 77 mX7_next := Or.inl (gMem (i := 725) (by decide +kernel) (by rfl))
theorem ll_X7_138 : lLk RX7 138 mX7_stands := Or.inl (gMem (i := 817) (by decide +kernel) (by rfl))
theorem ll_X7_141 : lLk RX7 141 mX7_living := Or.inl (gMem (i := 821) (by decide +kernel) (by rfl))
theorem ll_X7_144 : lLk RX7 144 mX7_blows := Or.inl (gMem (i := 825) (by decide +kernel) (by rfl))
theorem fl_X7_22 : fLk RX7 22 7 8 RX7 TX7 19 := ⟨rfl, by decide, in_X7, Or.inl (gMem (i := 644) (by decide +kernel) (by rfl))⟩
theorem fl_X7_56 : fLk RX7 56 7 0 RX7 TX7 19 := ⟨rfl, by decide, in_X7, Or.inl (gMem (i := 636) (by decide +kernel) (by rfl))⟩
theorem lo_X7_1 : Cond.methodLink RX7 1 objectInit ∈ gWds := gMem (i := 635) (by decide +kernel) (by rfl)
theorem fl_X7_7 : fLk RX7 7 7 4 RX7 TX7 19 := ⟨rfl, by decide, in_X7, Or.inl (gMem (i := 640) (by decide +kernel) (by rfl))⟩
theorem fg_X7_7 : Cond.fieldLink RX7 7 (TX7 4).1 (TX7 4).2.1 (TX7 4).2.2.1 ∈ gWds := gMem (i := 640) (by decide +kernel) (by rfl)
theorem fl_X7_25 : fLk RX7 25 7 9 RX7 TX7 19 := ⟨rfl, by decide, in_X7, Or.inl (gMem (i := 645) (by decide +kernel) (by rfl))⟩
theorem fg_X7_25 : Cond.fieldLink RX7 25 (TX7 9).1 (TX7 9).2.1 (TX7 9).2.2.1 ∈ gWds := gMem (i := 645) (by decide +kernel) (by rfl)
theorem ll_X7_99 : lLk RX7 99 mX7_placeOf := Or.inl (gMem (i := 763) (by decide +kernel) (by rfl))
theorem ll_X7_103 : lLk RX7 103 mX7_takes := Or.inl (gMem (i := 767) (by decide +kernel) (by rfl))
theorem ll_X7_106 : lLk RX7 106 mX7_alike := Or.inl (gMem (i := 755) (by decide +kernel) (by rfl))
theorem ll_X7_110 : lLk RX7 110 mX7_merge := Or.inl (gMem (i := 759) (by decide +kernel) (by rfl))
theorem fl_X7_68 : fLk RX7 68 7 3 RX7 TX7 19 := ⟨rfl, by decide, in_X7, Or.inl (gMem (i := 639) (by decide +kernel) (by rfl))⟩
theorem fl_X7_74 : fLk RX7 74 7 2 RX7 TX7 19 := ⟨rfl, by decide, in_X7, Or.inl (gMem (i := 638) (by decide +kernel) (by rfl))⟩
theorem ll_X7_166 : lLk RX7 166 mX7_isKind := Or.inl (gMem (i := 888) (by decide +kernel) (by rfl))
theorem ll_X7_126 : lLk RX7 126 mX7_worth := Or.inl (gMem (i := 787) (by decide +kernel) (by rfl))
theorem ll_X7_150 : lLk RX7 150 mX7_wins := Or.inl (gMem (i := 833) (by decide +kernel) (by rfl))
theorem ll_X7_89 : lLk RX7 89 mX7_fills := Or.inl (gMem (i := 717) (by decide +kernel) (by rfl))
theorem fl_X7_154 : fLk RX7 154 7 1 RX7 TX7 19 := ⟨rfl, by decide, in_X7, Or.inl (gMem (i := 637) (by decide +kernel) (by rfl))⟩
theorem ll_X7_157 : lLk RX7 157 mX7_pairs := Or.inl (gMem (i := 809) (by decide +kernel) (by rfl))
theorem ll_X7_160 : lLk RX7 160 mX7_third := Or.inl (gMem (i := 837) (by decide +kernel) (by rfl))
theorem ll_X7_129 : lLk RX7 129 mX7_least := Or.inl (gMem (i := 790) (by decide +kernel) (by rfl))
theorem ll_X7_123 : lLk RX7 123 mX7_isOnBench := Or.inl (gMem (i := 783) (by decide +kernel) (by rfl))
theorem ll_X7_96 : lLk RX7 96 mX7_takesOffBench := Or.inl (gMem (i := 775) (by decide +kernel) (by rfl))
theorem ll_X7_93 : lLk RX7 93 mX7_takesOffBoard := Or.inl (gMem (i := 771) (by decide +kernel) (by rfl))
theorem wd_oi : Cond.instanceMethod objectInit ∈ gWds := gMem (i := 23) (by decide +kernel) (by rfl)
theorem wd_oc : Cond.code objectInit ⟨#[0xb1]⟩ 1 none ∈ gWds := gMem (i := 24) (by decide +kernel) (by rfl)
theorem wd_ms : Cond.static Lib.Math.min.name ∈ gWds := gMem (i := 430) (by decide +kernel) (by rfl)
theorem wd_mi : Cond.initialized "java/lang/Math" ∈ gWds := gMem (i := 16) (by decide +kernel) (by rfl)
theorem wd_mc : Cond.code Lib.Math.min.name Lib.Math.min.code 2 (some .int) ∈ gWds := gMem (i := 431) (by decide +kernel) (by rfl)
theorem wd_aint : Cond.arrayClass .int ∈ gWds := gMem (i := 38) (by decide +kernel) (by rfl)
theorem wd_aboolean : Cond.arrayClass .boolean ∈ gWds := gMem (i := 694) (by decide +kernel) (by rfl)
theorem wd_along : Cond.arrayClass .long ∈ gWds := gMem (i := 895) (by decide +kernel) (by rfl)
end
section
/-! rows over numbers that are known to be natural; rooms by depth; loops -/
def rmD (d k n : Nat) : Room := { frames := d, cells := k, slots := n, locals := 26 * d + 100 }
section gN
variable {G : gG} {V : wV} {M : mT} {cc : ByteArray} {rm : Room} {QF : Array Value → State → List Frame → State → Prop} {pc : Nat} {L : List (Option Value)} {st : List Value} {ws : va_W} {s : sgT} {lo : Nat → Int64} {cells slots : Nat} {a x y e n : Nat} {fl : List (Option Nat)}
theorem nIadd (hd : decode cc pc = .ok (.iadd, 1)) (k : RW G M cc rm QF (pc + 1) L (.int (nI (x + y)) :: st) ws cells slots) : RW G M cc rm QF pc L (.int (nI y) :: .int (nI x) :: st) ws cells slots := by
  refine rIadd hd ?_
  rw [nI_add]
  exact k
theorem nIsub (hd : decode cc pc = .ok (.isub, 1)) (h : y ≤ x) (k : RW G M cc rm QF (pc + 1) L (.int (nI (x - y)) :: st) ws cells slots) : RW G M cc rm QF pc L (.int (nI y) :: .int (nI x) :: st) ws cells slots := by
  refine rIsub hd ?_
  rw [pk_sub h]
  exact k
theorem nImul (hd : decode cc pc = .ok (.imul, 1)) (k : RW G M cc rm QF (pc + 1) L (.int (nI (x * y)) :: st) ws cells slots) : RW G M cc rm QF pc L (.int (nI y) :: .int (nI x) :: st) ws cells slots := by
  refine rImul hd ?_
  rw [pk_mul]
  exact k
theorem nIdiv (hd : decode cc pc = .ok (.idiv, 1)) (hx : x < 2 ^ 31) (h0 : 0 < y) (hy : y < 2 ^ 31) (k : RW G M cc rm QF (pc + 1) L (.int (nI (x / y)) :: st) ws cells slots) : RW G M cc rm QF pc L (.int (nI y) :: .int (nI x) :: st) ws cells slots := by
  refine rIdiv hd (nI_ne0 h0 hy) ?_
  rw [pk_div hx h0 hy]
  exact k
theorem nIrem (hd : decode cc pc = .ok (.irem, 1)) (hx : x < 2 ^ 31) (h0 : 0 < y) (hy : y < 2 ^ 31) (k : RW G M cc rm QF (pc + 1) L (.int (nI (x % y)) :: st) ws cells slots) : RW G M cc rm QF pc L (.int (nI y) :: .int (nI x) :: st) ws cells slots := by
  refine rIrem hd (nI_ne0 h0 hy) ?_
  rw [pk_rem hx h0 hy]
  exact k
theorem nIald {v : Int32} (hd : decode cc pc = .ok (.iaload, 1)) (ha : shAt V a (8, n, fl)) (hi : e < n) (hn : n < 2 ^ 31) (hv : s a e = v) (kk : RW G M cc rm QF (pc + 1) L (.int v :: st) (wS G V s lo) cells slots) : RW G M cc rm QF pc L (.int (nI e) :: .ref (ad V a) :: st) (wS G V s lo) cells slots :=
  sIald hd ha (vp_in_nI hi hn) (by rw [nI_clamp (by omega)]; exact hv) kk
theorem nZald {v : Int32} (hd : decode cc pc = .ok (.baload, 1)) (ha : shAt V a (9, n, fl)) (hi : e < n) (hn : n < 2 ^ 31) (hv : s a e = v) (kk : RW G M cc rm QF (pc + 1) L (.int v :: st) (wS G V s lo) cells slots) : RW G M cc rm QF pc L (.int (nI e) :: .ref (ad V a) :: st) (wS G V s lo) cells slots :=
  sZald hd ha (vp_in_nI hi hn) (by rw [nI_clamp (by omega)]; exact hv) kk
theorem nIast {v : Int32} (hd : decode cc pc = .ok (.iastore, 1)) (ha : shAt V a (8, n, fl)) (hi : e < n) (hn : n < 2 ^ 31) (kk : RW G M cc rm QF (pc + 1) L st (wS G V (sw s a e v) lo) cells slots) : RW G M cc rm QF pc L (.int v :: .int (nI e) :: .ref (ad V a) :: st) (wS G V s lo) cells slots := by
  refine sIast hd ha (vp_in_nI hi hn) ?_
  rw [nI_clamp (by omega)]
  exact kk
theorem nZast {v : Int32} (hd : decode cc pc = .ok (.bastore, 1)) (ha : shAt V a (9, n, fl)) (hi : e < n) (hn : n < 2 ^ 31) (hx : vp_nar .boolean v = v) (kk : RW G M cc rm QF (pc + 1) L st (wS G V (sw s a e v) lo) cells slots) : RW G M cc rm QF pc L (.int v :: .int (nI e) :: .ref (ad V a) :: st) (wS G V s lo) cells slots := by
  refine sZast hd ha (vp_in_nI hi hn) hx ?_
  rw [nI_clamp (by omega)]
  exact kk
theorem nAald {b : Nat} (hd : decode cc pc = .ok (.aaload, 1)) (ha : shAt V a (10, n, fl)) (hi : e < n) (hn : n < 2 ^ 31) (hv : fl.getD e none = some b) (kk : RW G M cc rm QF (pc + 1) L (.ref (ad V b) :: st) (wS G V s lo) cells slots) : RW G M cc rm QF pc L (.int (nI e) :: .ref (ad V a) :: st) (wS G V s lo) cells slots :=
  sAald hd ha (vp_in_nI hi hn) (by rw [nI_clamp (by omega)]; exact hv) kk
/-- the value on top under another name -/
theorem tTop {v w : Int32} (h : v = w) (kk : RW G M cc rm QF pc L (.int w :: st) ws cells slots) : RW G M cc rm QF pc L (.int v :: st) ws cells slots := h ▸ kk
/-- the state under another name -/
theorem tS {s' : sgT} (h : s = s') (kk : RW G M cc rm QF pc L st (wS G V s' lo) cells slots) : RW G M cc rm QF pc L st (wS G V s lo) cells slots := h ▸ kk
end gN
/-- a loop that counts up: P i behind P (i + 1) -/
theorem loopUp {P : Nat → Prop} (e : Nat) (h : ∀ i, i ≤ e → (i < e → P (i + 1)) → P i) : ∀ i, i ≤ e → P i := by
  have key : ∀ m i, i + m = e → P i := by
    intro m
    induction m with
    | zero => intro i hi; exact h i (by omega) (fun hl => absurd hl (by omega))
    | succ m ih => intro i hi; exact h i (by omega) (fun _ => ih (i + 1) (by omega))
  intro i hi
  exact key (e - i) i (by omega)
/-- a row of units: object, kinds, stars -/
def rowAt (V : wV) (r n : Nat) : Prop := shAt V r (5, 0, [some (r + 1), some (r + 2), none]) ∧ shAt V (r + 1) (8, n, []) ∧ shAt V (r + 2) (8, n, [])
/-- a player: object, shop, bench, board -/
def plAt (V : wV) (P : Nat) : Prop := shAt V P (2, 0, [none, none, none, none, none, some (P + 1), some (P + 2), some (P + 5)]) ∧ shAt V (P + 1) (8, 3, []) ∧ rowAt V (P + 2) 6 ∧ rowAt V (P + 5) 5
def sideAt (V : wV) (d : Nat) : Prop := shAt V d (4, 0, [some (d + 1), some (d + 2), none, none]) ∧ shAt V (d + 1) (8, 5, []) ∧ shAt V (d + 2) (8, 5, [])
/-- a battle: the object, its two sides, its record -/
def batAt (V : wV) (B : Nat) : Prop := shAt V B (0, 0, [some (B + 1), some (B + 4), some (B + 7), some (B + 8), none]) ∧ sideAt V (B + 1) ∧ sideAt V (B + 4) ∧ shAt V (B + 7) (8, 60, []) ∧ shAt V (B + 8) (8, 60, [])
/-- a hall: the object and all that it refers to -/
def hallAt (V : wV) (o : Nat) : Prop :=
  shAt V o (6, 0, [some (o + 1), some (o + 2), some (o + 4), some (o + 6), none]) ∧
  shAt V (o + 1) (10, 4, [some (o + 15 + 8 * 0), some (o + 15 + 8 * 1), some (o + 15 + 8 * 2), some (o + 15 + 8 * 3)]) ∧
  shAt V (o + 2) (3, 0, [some (o + 2 + 1)]) ∧ shAt V (o + 2 + 1) (8, 9, []) ∧
  shAt V (o + 4) (1, 0, [some (o + 4 + 1), none, none]) ∧ shAt V (o + 4 + 1) (8, 100, []) ∧
  batAt V (o + 6) ∧
  ∀ p, p < 4 → plAt V (o + 15 + 8 * p)
theorem hall_pl {o p : Nat} (hp : p < 4) : ([some (o + 15 + 8 * 0), some (o + 15 + 8 * 1), some (o + 15 + 8 * 2), some (o + 15 + 8 * 3)] : List (Option Nat)).getD p none = some (o + 15 + 8 * p) := by
  match p, hp with
  | 0, _ => rfl
  | 1, _ => rfl
  | 2, _ => rfl
  | 3, _ => rfl
  | n + 4, hp => exact absurd hp (by omega)
/-- the reference: the object, its fifteen rows -/
def modAt (V : wV) (m : Nat) : Prop :=
  shAt V m (7, 0, [none, none, none, none, some (m + 1), some (m + 2), some (m + 3), some (m + 4), some (m + 5), some (m + 6), some (m + 7), some (m + 8), some (m + 9), some (m + 10), some (m + 11), some (m + 12), some (m + 13), some (m + 14), some (m + 15)]) ∧
  shAt V (m + 1) (8, 100, []) ∧ shAt V (m + 2) (8, 9, []) ∧ shAt V (m + 3) (8, 4, []) ∧ shAt V (m + 4) (8, 4, []) ∧ shAt V (m + 5) (8, 4, []) ∧ shAt V (m + 6) (8, 4, []) ∧ shAt V (m + 7) (8, 12, []) ∧ shAt V (m + 8) (9, 4, []) ∧ shAt V (m + 9) (8, 4, []) ∧ shAt V (m + 10) (8, 24, []) ∧ shAt V (m + 11) (8, 4, []) ∧ shAt V (m + 12) (8, 20, []) ∧ shAt V (m + 13) (8, 2, []) ∧ shAt V (m + 14) (8, 2, []) ∧ shAt V (m + 15) (8, 10, [])
/-- a row holds these units: 10 times the kind and the stars -/
def rowIs (s : sgT) (r : Nat) (l : List Nat) : Prop := s r 2 = nI l.length ∧ ∀ i, i < l.length → s (r + 1) i = nI (l.getD i 0 / 10) ∧ s (r + 2) i = nI (l.getD i 0 % 10)
/-- a unit: kind 0 to 8, stars 1 to 3 -/
def okU (u : Nat) : Prop := u / 10 < 9 ∧ 1 ≤ u % 10 ∧ u % 10 ≤ 3
def okR (l : List Nat) : Prop := ∀ i, i < l.length → okU (l.getD i 0)
theorem rowIs_keep {s s' : sgT} {r : Nat} {l : List Nat} (h : rowIs s r l) (h0 : s' r = s r) (h1 : s' (r + 1) = s (r + 1)) (h2 : s' (r + 2) = s (r + 2)) : rowIs s' r l := by
  unfold rowIs at h ⊢
  rw [h0, h1, h2]
  exact h
end
section
/-! contracts by what is answered, and the rows of their calls -/
def CSi (G : gG) (V : wV) (M : mT) (cc : ByteArray) (rm : Room) (args : List Value) (s : sgT) (lo : Nat → Int64) (F : Int32 → sgT → Prop) (g : String → Prop) : Prop := CS G V M cc rm args s lo (fun v s' => ∃ r : Int32, v = some (.int r) ∧ F r s') g
theorem CSi.of {G : gG} {V : wV} {M : mT} {cc : ByteArray} {rm : Room} {vs : List Value} {s : sgT} {lo : Nat → Int64} {F : Int32 → sgT → Prop} {g : String → Prop} {L : List (Option Value)} (hh : mH M = []) (hpl : plainName (mO M) = true) (h1 : vs.all (fun v => v.category == 1) = true) (hn : vs.length ≤ mN M) (hL : gEnt vs (mN M) = L) (k : RW G M cc rm (QS G V s lo (fun v s' => ∃ r : Int32, v = some (.int r) ∧ F r s') g rm) 0 L [] (wS G V s lo) 0 0) : CSi G V M cc rm vs s lo F g := by
  subst hL
  exact CS.of hh hpl (fun v hv => by simpa using (List.all_eq_true.mp h1 v hv)) hn k
def CSv (G : gG) (V : wV) (M : mT) (cc : ByteArray) (rm : Room) (args : List Value) (s : sgT) (lo : Nat → Int64) (F : sgT → Prop) (g : String → Prop) : Prop := CS G V M cc rm args s lo (fun v s' => v = none ∧ F s') g
theorem CSv.of {G : gG} {V : wV} {M : mT} {cc : ByteArray} {rm : Room} {vs : List Value} {s : sgT} {lo : Nat → Int64} {F : sgT → Prop} {g : String → Prop} {L : List (Option Value)} (hh : mH M = []) (hpl : plainName (mO M) = true) (h1 : vs.all (fun v => v.category == 1) = true) (hn : vs.length ≤ mN M) (hL : gEnt vs (mN M) = L) (k : RW G M cc rm (QS G V s lo (fun v s' => v = none ∧ F s') g rm) 0 L [] (wS G V s lo) 0 0) : CSv G V M cc rm vs s lo F g := by
  subst hL
  exact CS.of hh hpl (fun v hv => by simpa using (List.all_eq_true.mp h1 v hv)) hn k
def CSp (G : gG) (V : wV) (M : mT) (cc : ByteArray) (rm : Room) (args : List Value) (s : sgT) (lo : Nat → Int64) (F : Int32 → Prop) (g : String → Prop) : Prop := CS G V M cc rm args s lo (fun v s' => ∃ r : Int32, v = some (.int r) ∧ s' = s ∧ F r) g
theorem CSp.of {G : gG} {V : wV} {M : mT} {cc : ByteArray} {rm : Room} {vs : List Value} {s : sgT} {lo : Nat → Int64} {F : Int32 → Prop} {g : String → Prop} {L : List (Option Value)} (hh : mH M = []) (hpl : plainName (mO M) = true) (h1 : vs.all (fun v => v.category == 1) = true) (hn : vs.length ≤ mN M) (hL : gEnt vs (mN M) = L) (k : RW G M cc rm (QS G V s lo (fun v s' => ∃ r : Int32, v = some (.int r) ∧ s' = s ∧ F r) g rm) 0 L [] (wS G V s lo) 0 0) : CSp G V M cc rm vs s lo F g := by
  subst hL
  exact CS.of hh hpl (fun v hv => by simpa using (List.all_eq_true.mp h1 v hv)) hn k
def CSq (G : gG) (V : wV) (M : mT) (cc : ByteArray) (rm : Room) (args : List Value) (s : sgT) (lo : Nat → Int64) (F : Nat → Prop) (g : String → Prop) : Prop := CS G V M cc rm args s lo (fun v s' => ∃ b : Nat, v = some (.ref (ad V b)) ∧ s' = s ∧ F b) g
theorem CSq.of {G : gG} {V : wV} {M : mT} {cc : ByteArray} {rm : Room} {vs : List Value} {s : sgT} {lo : Nat → Int64} {F : Nat → Prop} {g : String → Prop} {L : List (Option Value)} (hh : mH M = []) (hpl : plainName (mO M) = true) (h1 : vs.all (fun v => v.category == 1) = true) (hn : vs.length ≤ mN M) (hL : gEnt vs (mN M) = L) (k : RW G M cc rm (QS G V s lo (fun v s' => ∃ b : Nat, v = some (.ref (ad V b)) ∧ s' = s ∧ F b) g rm) 0 L [] (wS G V s lo) 0 0) : CSq G V M cc rm vs s lo F g := by
  subst hL
  exact CS.of hh hpl (fun v hv => by simpa using (List.all_eq_true.mp h1 v hv)) hn k
def CSu (G : gG) (V : wV) (M : mT) (cc : ByteArray) (rm : Room) (args : List Value) (s : sgT) (lo : Nat → Int64) (F : Prop) (g : String → Prop) : Prop := CS G V M cc rm args s lo (fun v s' => v = none ∧ s' = s ∧ F) g
theorem CSu.of {G : gG} {V : wV} {M : mT} {cc : ByteArray} {rm : Room} {vs : List Value} {s : sgT} {lo : Nat → Int64} {F : Prop} {g : String → Prop} {L : List (Option Value)} (hh : mH M = []) (hpl : plainName (mO M) = true) (h1 : vs.all (fun v => v.category == 1) = true) (hn : vs.length ≤ mN M) (hL : gEnt vs (mN M) = L) (k : RW G M cc rm (QS G V s lo (fun v s' => v = none ∧ s' = s ∧ F) g rm) 0 L [] (wS G V s lo) 0 0) : CSu G V M cc rm vs s lo F g := by
  subst hL
  exact CS.of hh hpl (fun v hv => by simpa using (List.all_eq_true.mp h1 v hv)) hn k
def CSr (G : gG) (V : wV) (M : mT) (cc : ByteArray) (rm : Room) (args : List Value) (s : sgT) (lo : Nat → Int64) (F : Nat → sgT → Prop) (g : String → Prop) : Prop := CS G V M cc rm args s lo (fun v s' => ∃ b : Nat, v = some (.ref (ad V b)) ∧ F b s') g
theorem CSr.of {G : gG} {V : wV} {M : mT} {cc : ByteArray} {rm : Room} {vs : List Value} {s : sgT} {lo : Nat → Int64} {F : Nat → sgT → Prop} {g : String → Prop} {L : List (Option Value)} (hh : mH M = []) (hpl : plainName (mO M) = true) (h1 : vs.all (fun v => v.category == 1) = true) (hn : vs.length ≤ mN M) (hL : gEnt vs (mN M) = L) (k : RW G M cc rm (QS G V s lo (fun v s' => ∃ b : Nat, v = some (.ref (ad V b)) ∧ F b s') g rm) 0 L [] (wS G V s lo) 0 0) : CSr G V M cc rm vs s lo F g := by
  subst hL
  exact CS.of hh hpl (fun v hv => by simpa using (List.all_eq_true.mp h1 v hv)) hn k
section gC2
variable {G : gG} {V : wV} {M M' : mT} {cc cc' : ByteArray} {rm rm' : Room} {QF : Array Value → State → List Frame → State → Prop} {pc : Nat} {L : List (Option Value)} {st rest : List Value} {s s0 : sgT} {lo : Nat → Int64} {cells slots : Nat} {a idx ci n len N : Nat} {T : u_T} {fl : List (Option Nat)} {As : List Value} {f0 : Option Value → sgT → Prop} {g g0 : String → Prop}
theorem sCallVi {F : Int32 → sgT → Prop} (hd : decode cc pc = .ok (.invokevirtual idx, 3)) (hh : mH M' = []) (hk : mOK M' cc' n) (hi : mInst M') (hlk : lLk (mO M) idx M') (hrm : rmOk rm rm' (mN M')) (ha : shAt V a (ci, len, fl)) (hc8 : ci < 8) (hc : vwCl[ci]? = some (mO M', T, N)) (hn : As.length = n) (hcs : cells + rm'.cells ≤ rm.cells) (hsl : slots + rm'.slots ≤ rm.slots)
    (hM : CSi G V M' cc' rm' (.ref (ad V a) :: As) s lo F (fun _ => False)) (hst : st = As.reverse ++ .ref (ad V a) :: rest) (hrest : (rest.map fun v => v.category).sum ≤ 8)
    (kk : ∀ (r : Int32) (s' : sgT), F r s' → RW G M cc rm QF (pc + 3) L (.int r :: rest) (wS G V s' lo) (cells + rm'.cells) (slots + rm'.slots)) : RW G M cc rm QF pc L st (wS G V s lo) cells slots := by
  refine sCallV hd hh hk hi hlk hrm ha hc8 hc hn hcs hsl hM hst hrest (fun v s' h => ?_)
  obtain ⟨r, rfl, h⟩ := h
  exact kk r s' h
theorem sCallVXi {F : Int32 → sgT → Prop} (hh0 : mH M = []) (hd : decode cc pc = .ok (.invokevirtual idx, 3)) (hh : mH M' = []) (hk : mOK M' cc' n) (hi : mInst M') (hlk : lLk (mO M) idx M') (hrm : rmOk rm rm' (mN M')) (ha : shAt V a (ci, len, fl)) (hc8 : ci < 8) (hc : vwCl[ci]? = some (mO M', T, N)) (hn : As.length = n) (hcs : cells + rm'.cells ≤ rm.cells) (hsl : slots + rm'.slots ≤ rm.slots)
    (hM : CSi G V M' cc' rm' (.ref (ad V a) :: As) s lo F g) (hst : st = As.reverse ++ .ref (ad V a) :: rest) (hrest : (rest.map fun v => v.category).sum ≤ 8) (hs0 : s = s0) (hx : ∀ E, g E → g0 E)
    (kk : ∀ (r : Int32) (s' : sgT), F r s' → RW G M cc rm (QS G V s0 lo f0 g0 rm) (pc + 3) L (.int r :: rest) (wS G V s' lo) (cells + rm'.cells) (slots + rm'.slots)) : RW G M cc rm (QS G V s0 lo f0 g0 rm) pc L st (wS G V s lo) cells slots := by
  refine sCallVX hh0 hd hh hk hi hlk hrm ha hc8 hc hn hcs hsl hM hst hrest hs0 hx (fun v s' h => ?_)
  obtain ⟨r, rfl, h⟩ := h
  exact kk r s' h
theorem sCallSi {F : Int32 → sgT → Prop} (hd : decode cc pc = .ok (.invokestatic idx, 3)) (hh : mH M' = []) (hk : mOK M' cc' n) (hi : Cond.static (mY M') ∈ gWds) (hlk : lLk (mO M) idx M') (hrm : rmOk rm rm' (mN M')) (hn : As.length = n) (hcs : cells + rm'.cells ≤ rm.cells) (hsl : slots + rm'.slots ≤ rm.slots)
    (hM : CSi G V M' cc' rm' As s lo F (fun _ => False)) (hst : st = As.reverse ++ rest) (hrest : (rest.map fun v => v.category).sum ≤ 8)
    (kk : ∀ (r : Int32) (s' : sgT), F r s' → RW G M cc rm QF (pc + 3) L (.int r :: rest) (wS G V s' lo) (cells + rm'.cells) (slots + rm'.slots)) : RW G M cc rm QF pc L st (wS G V s lo) cells slots := by
  refine sCallS hd hh hk hi hlk hrm hn hcs hsl hM hst hrest (fun v s' h => ?_)
  obtain ⟨r, rfl, h⟩ := h
  exact kk r s' h
theorem sCallSXi {F : Int32 → sgT → Prop} (hh0 : mH M = []) (hd : decode cc pc = .ok (.invokestatic idx, 3)) (hh : mH M' = []) (hk : mOK M' cc' n) (hi : Cond.static (mY M') ∈ gWds) (hlk : lLk (mO M) idx M') (hrm : rmOk rm rm' (mN M')) (hn : As.length = n) (hcs : cells + rm'.cells ≤ rm.cells) (hsl : slots + rm'.slots ≤ rm.slots)
    (hM : CSi G V M' cc' rm' As s lo F g) (hst : st = As.reverse ++ rest) (hrest : (rest.map fun v => v.category).sum ≤ 8) (hs0 : s = s0) (hx : ∀ E, g E → g0 E)
    (kk : ∀ (r : Int32) (s' : sgT), F r s' → RW G M cc rm (QS G V s0 lo f0 g0 rm) (pc + 3) L (.int r :: rest) (wS G V s' lo) (cells + rm'.cells) (slots + rm'.slots)) : RW G M cc rm (QS G V s0 lo f0 g0 rm) pc L st (wS G V s lo) cells slots := by
  refine sCallSX hh0 hd hh hk hi hlk hrm hn hcs hsl hM hst hrest hs0 hx (fun v s' h => ?_)
  obtain ⟨r, rfl, h⟩ := h
  exact kk r s' h
theorem sCallVv {F : sgT → Prop} (hd : decode cc pc = .ok (.invokevirtual idx, 3)) (hh : mH M' = []) (hk : mOK M' cc' n) (hi : mInst M') (hlk : lLk (mO M) idx M') (hrm : rmOk rm rm' (mN M')) (ha : shAt V a (ci, len, fl)) (hc8 : ci < 8) (hc : vwCl[ci]? = some (mO M', T, N)) (hn : As.length = n) (hcs : cells + rm'.cells ≤ rm.cells) (hsl : slots + rm'.slots ≤ rm.slots)
    (hM : CSv G V M' cc' rm' (.ref (ad V a) :: As) s lo F (fun _ => False)) (hst : st = As.reverse ++ .ref (ad V a) :: rest) (hrest : (rest.map fun v => v.category).sum ≤ 8)
    (kk : ∀ s' : sgT, F s' → RW G M cc rm QF (pc + 3) L rest (wS G V s' lo) (cells + rm'.cells) (slots + rm'.slots)) : RW G M cc rm QF pc L st (wS G V s lo) cells slots := by
  refine sCallV hd hh hk hi hlk hrm ha hc8 hc hn hcs hsl hM hst hrest (fun v s' h => ?_)
  obtain ⟨rfl, h⟩ := h
  exact kk s' h
theorem sCallVXv {F : sgT → Prop} (hh0 : mH M = []) (hd : decode cc pc = .ok (.invokevirtual idx, 3)) (hh : mH M' = []) (hk : mOK M' cc' n) (hi : mInst M') (hlk : lLk (mO M) idx M') (hrm : rmOk rm rm' (mN M')) (ha : shAt V a (ci, len, fl)) (hc8 : ci < 8) (hc : vwCl[ci]? = some (mO M', T, N)) (hn : As.length = n) (hcs : cells + rm'.cells ≤ rm.cells) (hsl : slots + rm'.slots ≤ rm.slots)
    (hM : CSv G V M' cc' rm' (.ref (ad V a) :: As) s lo F g) (hst : st = As.reverse ++ .ref (ad V a) :: rest) (hrest : (rest.map fun v => v.category).sum ≤ 8) (hs0 : s = s0) (hx : ∀ E, g E → g0 E)
    (kk : ∀ s' : sgT, F s' → RW G M cc rm (QS G V s0 lo f0 g0 rm) (pc + 3) L rest (wS G V s' lo) (cells + rm'.cells) (slots + rm'.slots)) : RW G M cc rm (QS G V s0 lo f0 g0 rm) pc L st (wS G V s lo) cells slots := by
  refine sCallVX hh0 hd hh hk hi hlk hrm ha hc8 hc hn hcs hsl hM hst hrest hs0 hx (fun v s' h => ?_)
  obtain ⟨rfl, h⟩ := h
  exact kk s' h
theorem sCallSv {F : sgT → Prop} (hd : decode cc pc = .ok (.invokestatic idx, 3)) (hh : mH M' = []) (hk : mOK M' cc' n) (hi : Cond.static (mY M') ∈ gWds) (hlk : lLk (mO M) idx M') (hrm : rmOk rm rm' (mN M')) (hn : As.length = n) (hcs : cells + rm'.cells ≤ rm.cells) (hsl : slots + rm'.slots ≤ rm.slots)
    (hM : CSv G V M' cc' rm' As s lo F (fun _ => False)) (hst : st = As.reverse ++ rest) (hrest : (rest.map fun v => v.category).sum ≤ 8)
    (kk : ∀ s' : sgT, F s' → RW G M cc rm QF (pc + 3) L rest (wS G V s' lo) (cells + rm'.cells) (slots + rm'.slots)) : RW G M cc rm QF pc L st (wS G V s lo) cells slots := by
  refine sCallS hd hh hk hi hlk hrm hn hcs hsl hM hst hrest (fun v s' h => ?_)
  obtain ⟨rfl, h⟩ := h
  exact kk s' h
theorem sCallSXv {F : sgT → Prop} (hh0 : mH M = []) (hd : decode cc pc = .ok (.invokestatic idx, 3)) (hh : mH M' = []) (hk : mOK M' cc' n) (hi : Cond.static (mY M') ∈ gWds) (hlk : lLk (mO M) idx M') (hrm : rmOk rm rm' (mN M')) (hn : As.length = n) (hcs : cells + rm'.cells ≤ rm.cells) (hsl : slots + rm'.slots ≤ rm.slots)
    (hM : CSv G V M' cc' rm' As s lo F g) (hst : st = As.reverse ++ rest) (hrest : (rest.map fun v => v.category).sum ≤ 8) (hs0 : s = s0) (hx : ∀ E, g E → g0 E)
    (kk : ∀ s' : sgT, F s' → RW G M cc rm (QS G V s0 lo f0 g0 rm) (pc + 3) L rest (wS G V s' lo) (cells + rm'.cells) (slots + rm'.slots)) : RW G M cc rm (QS G V s0 lo f0 g0 rm) pc L st (wS G V s lo) cells slots := by
  refine sCallSX hh0 hd hh hk hi hlk hrm hn hcs hsl hM hst hrest hs0 hx (fun v s' h => ?_)
  obtain ⟨rfl, h⟩ := h
  exact kk s' h
theorem sCallVp {F : Int32 → Prop} (hd : decode cc pc = .ok (.invokevirtual idx, 3)) (hh : mH M' = []) (hk : mOK M' cc' n) (hi : mInst M') (hlk : lLk (mO M) idx M') (hrm : rmOk rm rm' (mN M')) (ha : shAt V a (ci, len, fl)) (hc8 : ci < 8) (hc : vwCl[ci]? = some (mO M', T, N)) (hn : As.length = n) (hcs : cells + rm'.cells ≤ rm.cells) (hsl : slots + rm'.slots ≤ rm.slots)
    (hM : CSp G V M' cc' rm' (.ref (ad V a) :: As) s lo F (fun _ => False)) (hst : st = As.reverse ++ .ref (ad V a) :: rest) (hrest : (rest.map fun v => v.category).sum ≤ 8)
    (kk : ∀ (r : Int32), F r → RW G M cc rm QF (pc + 3) L (.int r :: rest) (wS G V s lo) (cells + rm'.cells) (slots + rm'.slots)) : RW G M cc rm QF pc L st (wS G V s lo) cells slots := by
  refine sCallV hd hh hk hi hlk hrm ha hc8 hc hn hcs hsl hM hst hrest (fun v s' h => ?_)
  obtain ⟨r, rfl, rfl, h⟩ := h
  exact kk r h
theorem sCallVXp {F : Int32 → Prop} (hh0 : mH M = []) (hd : decode cc pc = .ok (.invokevirtual idx, 3)) (hh : mH M' = []) (hk : mOK M' cc' n) (hi : mInst M') (hlk : lLk (mO M) idx M') (hrm : rmOk rm rm' (mN M')) (ha : shAt V a (ci, len, fl)) (hc8 : ci < 8) (hc : vwCl[ci]? = some (mO M', T, N)) (hn : As.length = n) (hcs : cells + rm'.cells ≤ rm.cells) (hsl : slots + rm'.slots ≤ rm.slots)
    (hM : CSp G V M' cc' rm' (.ref (ad V a) :: As) s lo F g) (hst : st = As.reverse ++ .ref (ad V a) :: rest) (hrest : (rest.map fun v => v.category).sum ≤ 8) (hs0 : s = s0) (hx : ∀ E, g E → g0 E)
    (kk : ∀ (r : Int32), F r → RW G M cc rm (QS G V s0 lo f0 g0 rm) (pc + 3) L (.int r :: rest) (wS G V s lo) (cells + rm'.cells) (slots + rm'.slots)) : RW G M cc rm (QS G V s0 lo f0 g0 rm) pc L st (wS G V s lo) cells slots := by
  refine sCallVX hh0 hd hh hk hi hlk hrm ha hc8 hc hn hcs hsl hM hst hrest hs0 hx (fun v s' h => ?_)
  obtain ⟨r, rfl, rfl, h⟩ := h
  exact kk r h
theorem sCallSp {F : Int32 → Prop} (hd : decode cc pc = .ok (.invokestatic idx, 3)) (hh : mH M' = []) (hk : mOK M' cc' n) (hi : Cond.static (mY M') ∈ gWds) (hlk : lLk (mO M) idx M') (hrm : rmOk rm rm' (mN M')) (hn : As.length = n) (hcs : cells + rm'.cells ≤ rm.cells) (hsl : slots + rm'.slots ≤ rm.slots)
    (hM : CSp G V M' cc' rm' As s lo F (fun _ => False)) (hst : st = As.reverse ++ rest) (hrest : (rest.map fun v => v.category).sum ≤ 8)
    (kk : ∀ (r : Int32), F r → RW G M cc rm QF (pc + 3) L (.int r :: rest) (wS G V s lo) (cells + rm'.cells) (slots + rm'.slots)) : RW G M cc rm QF pc L st (wS G V s lo) cells slots := by
  refine sCallS hd hh hk hi hlk hrm hn hcs hsl hM hst hrest (fun v s' h => ?_)
  obtain ⟨r, rfl, rfl, h⟩ := h
  exact kk r h
theorem sCallSXp {F : Int32 → Prop} (hh0 : mH M = []) (hd : decode cc pc = .ok (.invokestatic idx, 3)) (hh : mH M' = []) (hk : mOK M' cc' n) (hi : Cond.static (mY M') ∈ gWds) (hlk : lLk (mO M) idx M') (hrm : rmOk rm rm' (mN M')) (hn : As.length = n) (hcs : cells + rm'.cells ≤ rm.cells) (hsl : slots + rm'.slots ≤ rm.slots)
    (hM : CSp G V M' cc' rm' As s lo F g) (hst : st = As.reverse ++ rest) (hrest : (rest.map fun v => v.category).sum ≤ 8) (hs0 : s = s0) (hx : ∀ E, g E → g0 E)
    (kk : ∀ (r : Int32), F r → RW G M cc rm (QS G V s0 lo f0 g0 rm) (pc + 3) L (.int r :: rest) (wS G V s lo) (cells + rm'.cells) (slots + rm'.slots)) : RW G M cc rm (QS G V s0 lo f0 g0 rm) pc L st (wS G V s lo) cells slots := by
  refine sCallSX hh0 hd hh hk hi hlk hrm hn hcs hsl hM hst hrest hs0 hx (fun v s' h => ?_)
  obtain ⟨r, rfl, rfl, h⟩ := h
  exact kk r h
theorem sCallVq {F : Nat → Prop} (hd : decode cc pc = .ok (.invokevirtual idx, 3)) (hh : mH M' = []) (hk : mOK M' cc' n) (hi : mInst M') (hlk : lLk (mO M) idx M') (hrm : rmOk rm rm' (mN M')) (ha : shAt V a (ci, len, fl)) (hc8 : ci < 8) (hc : vwCl[ci]? = some (mO M', T, N)) (hn : As.length = n) (hcs : cells + rm'.cells ≤ rm.cells) (hsl : slots + rm'.slots ≤ rm.slots)
    (hM : CSq G V M' cc' rm' (.ref (ad V a) :: As) s lo F (fun _ => False)) (hst : st = As.reverse ++ .ref (ad V a) :: rest) (hrest : (rest.map fun v => v.category).sum ≤ 8)
    (kk : ∀ (b : Nat), F b → RW G M cc rm QF (pc + 3) L (.ref (ad V b) :: rest) (wS G V s lo) (cells + rm'.cells) (slots + rm'.slots)) : RW G M cc rm QF pc L st (wS G V s lo) cells slots := by
  refine sCallV hd hh hk hi hlk hrm ha hc8 hc hn hcs hsl hM hst hrest (fun v s' h => ?_)
  obtain ⟨b, rfl, rfl, h⟩ := h
  exact kk b h
theorem sCallVXq {F : Nat → Prop} (hh0 : mH M = []) (hd : decode cc pc = .ok (.invokevirtual idx, 3)) (hh : mH M' = []) (hk : mOK M' cc' n) (hi : mInst M') (hlk : lLk (mO M) idx M') (hrm : rmOk rm rm' (mN M')) (ha : shAt V a (ci, len, fl)) (hc8 : ci < 8) (hc : vwCl[ci]? = some (mO M', T, N)) (hn : As.length = n) (hcs : cells + rm'.cells ≤ rm.cells) (hsl : slots + rm'.slots ≤ rm.slots)
    (hM : CSq G V M' cc' rm' (.ref (ad V a) :: As) s lo F g) (hst : st = As.reverse ++ .ref (ad V a) :: rest) (hrest : (rest.map fun v => v.category).sum ≤ 8) (hs0 : s = s0) (hx : ∀ E, g E → g0 E)
    (kk : ∀ (b : Nat), F b → RW G M cc rm (QS G V s0 lo f0 g0 rm) (pc + 3) L (.ref (ad V b) :: rest) (wS G V s lo) (cells + rm'.cells) (slots + rm'.slots)) : RW G M cc rm (QS G V s0 lo f0 g0 rm) pc L st (wS G V s lo) cells slots := by
  refine sCallVX hh0 hd hh hk hi hlk hrm ha hc8 hc hn hcs hsl hM hst hrest hs0 hx (fun v s' h => ?_)
  obtain ⟨b, rfl, rfl, h⟩ := h
  exact kk b h
theorem sCallSq {F : Nat → Prop} (hd : decode cc pc = .ok (.invokestatic idx, 3)) (hh : mH M' = []) (hk : mOK M' cc' n) (hi : Cond.static (mY M') ∈ gWds) (hlk : lLk (mO M) idx M') (hrm : rmOk rm rm' (mN M')) (hn : As.length = n) (hcs : cells + rm'.cells ≤ rm.cells) (hsl : slots + rm'.slots ≤ rm.slots)
    (hM : CSq G V M' cc' rm' As s lo F (fun _ => False)) (hst : st = As.reverse ++ rest) (hrest : (rest.map fun v => v.category).sum ≤ 8)
    (kk : ∀ (b : Nat), F b → RW G M cc rm QF (pc + 3) L (.ref (ad V b) :: rest) (wS G V s lo) (cells + rm'.cells) (slots + rm'.slots)) : RW G M cc rm QF pc L st (wS G V s lo) cells slots := by
  refine sCallS hd hh hk hi hlk hrm hn hcs hsl hM hst hrest (fun v s' h => ?_)
  obtain ⟨b, rfl, rfl, h⟩ := h
  exact kk b h
theorem sCallSXq {F : Nat → Prop} (hh0 : mH M = []) (hd : decode cc pc = .ok (.invokestatic idx, 3)) (hh : mH M' = []) (hk : mOK M' cc' n) (hi : Cond.static (mY M') ∈ gWds) (hlk : lLk (mO M) idx M') (hrm : rmOk rm rm' (mN M')) (hn : As.length = n) (hcs : cells + rm'.cells ≤ rm.cells) (hsl : slots + rm'.slots ≤ rm.slots)
    (hM : CSq G V M' cc' rm' As s lo F g) (hst : st = As.reverse ++ rest) (hrest : (rest.map fun v => v.category).sum ≤ 8) (hs0 : s = s0) (hx : ∀ E, g E → g0 E)
    (kk : ∀ (b : Nat), F b → RW G M cc rm (QS G V s0 lo f0 g0 rm) (pc + 3) L (.ref (ad V b) :: rest) (wS G V s lo) (cells + rm'.cells) (slots + rm'.slots)) : RW G M cc rm (QS G V s0 lo f0 g0 rm) pc L st (wS G V s lo) cells slots := by
  refine sCallSX hh0 hd hh hk hi hlk hrm hn hcs hsl hM hst hrest hs0 hx (fun v s' h => ?_)
  obtain ⟨b, rfl, rfl, h⟩ := h
  exact kk b h
theorem sCallVu {F : Prop} (hd : decode cc pc = .ok (.invokevirtual idx, 3)) (hh : mH M' = []) (hk : mOK M' cc' n) (hi : mInst M') (hlk : lLk (mO M) idx M') (hrm : rmOk rm rm' (mN M')) (ha : shAt V a (ci, len, fl)) (hc8 : ci < 8) (hc : vwCl[ci]? = some (mO M', T, N)) (hn : As.length = n) (hcs : cells + rm'.cells ≤ rm.cells) (hsl : slots + rm'.slots ≤ rm.slots)
    (hM : CSu G V M' cc' rm' (.ref (ad V a) :: As) s lo F (fun _ => False)) (hst : st = As.reverse ++ .ref (ad V a) :: rest) (hrest : (rest.map fun v => v.category).sum ≤ 8)
    (kk : F → RW G M cc rm QF (pc + 3) L rest (wS G V s lo) (cells + rm'.cells) (slots + rm'.slots)) : RW G M cc rm QF pc L st (wS G V s lo) cells slots := by
  refine sCallV hd hh hk hi hlk hrm ha hc8 hc hn hcs hsl hM hst hrest (fun v s' h => ?_)
  obtain ⟨rfl, rfl, h⟩ := h
  exact kk h
theorem sCallVXu {F : Prop} (hh0 : mH M = []) (hd : decode cc pc = .ok (.invokevirtual idx, 3)) (hh : mH M' = []) (hk : mOK M' cc' n) (hi : mInst M') (hlk : lLk (mO M) idx M') (hrm : rmOk rm rm' (mN M')) (ha : shAt V a (ci, len, fl)) (hc8 : ci < 8) (hc : vwCl[ci]? = some (mO M', T, N)) (hn : As.length = n) (hcs : cells + rm'.cells ≤ rm.cells) (hsl : slots + rm'.slots ≤ rm.slots)
    (hM : CSu G V M' cc' rm' (.ref (ad V a) :: As) s lo F g) (hst : st = As.reverse ++ .ref (ad V a) :: rest) (hrest : (rest.map fun v => v.category).sum ≤ 8) (hs0 : s = s0) (hx : ∀ E, g E → g0 E)
    (kk : F → RW G M cc rm (QS G V s0 lo f0 g0 rm) (pc + 3) L rest (wS G V s lo) (cells + rm'.cells) (slots + rm'.slots)) : RW G M cc rm (QS G V s0 lo f0 g0 rm) pc L st (wS G V s lo) cells slots := by
  refine sCallVX hh0 hd hh hk hi hlk hrm ha hc8 hc hn hcs hsl hM hst hrest hs0 hx (fun v s' h => ?_)
  obtain ⟨rfl, rfl, h⟩ := h
  exact kk h
theorem sCallSu {F : Prop} (hd : decode cc pc = .ok (.invokestatic idx, 3)) (hh : mH M' = []) (hk : mOK M' cc' n) (hi : Cond.static (mY M') ∈ gWds) (hlk : lLk (mO M) idx M') (hrm : rmOk rm rm' (mN M')) (hn : As.length = n) (hcs : cells + rm'.cells ≤ rm.cells) (hsl : slots + rm'.slots ≤ rm.slots)
    (hM : CSu G V M' cc' rm' As s lo F (fun _ => False)) (hst : st = As.reverse ++ rest) (hrest : (rest.map fun v => v.category).sum ≤ 8)
    (kk : F → RW G M cc rm QF (pc + 3) L rest (wS G V s lo) (cells + rm'.cells) (slots + rm'.slots)) : RW G M cc rm QF pc L st (wS G V s lo) cells slots := by
  refine sCallS hd hh hk hi hlk hrm hn hcs hsl hM hst hrest (fun v s' h => ?_)
  obtain ⟨rfl, rfl, h⟩ := h
  exact kk h
theorem sCallSXu {F : Prop} (hh0 : mH M = []) (hd : decode cc pc = .ok (.invokestatic idx, 3)) (hh : mH M' = []) (hk : mOK M' cc' n) (hi : Cond.static (mY M') ∈ gWds) (hlk : lLk (mO M) idx M') (hrm : rmOk rm rm' (mN M')) (hn : As.length = n) (hcs : cells + rm'.cells ≤ rm.cells) (hsl : slots + rm'.slots ≤ rm.slots)
    (hM : CSu G V M' cc' rm' As s lo F g) (hst : st = As.reverse ++ rest) (hrest : (rest.map fun v => v.category).sum ≤ 8) (hs0 : s = s0) (hx : ∀ E, g E → g0 E)
    (kk : F → RW G M cc rm (QS G V s0 lo f0 g0 rm) (pc + 3) L rest (wS G V s lo) (cells + rm'.cells) (slots + rm'.slots)) : RW G M cc rm (QS G V s0 lo f0 g0 rm) pc L st (wS G V s lo) cells slots := by
  refine sCallSX hh0 hd hh hk hi hlk hrm hn hcs hsl hM hst hrest hs0 hx (fun v s' h => ?_)
  obtain ⟨rfl, rfl, h⟩ := h
  exact kk h
theorem sCallVr {F : Nat → sgT → Prop} (hd : decode cc pc = .ok (.invokevirtual idx, 3)) (hh : mH M' = []) (hk : mOK M' cc' n) (hi : mInst M') (hlk : lLk (mO M) idx M') (hrm : rmOk rm rm' (mN M')) (ha : shAt V a (ci, len, fl)) (hc8 : ci < 8) (hc : vwCl[ci]? = some (mO M', T, N)) (hn : As.length = n) (hcs : cells + rm'.cells ≤ rm.cells) (hsl : slots + rm'.slots ≤ rm.slots)
    (hM : CSr G V M' cc' rm' (.ref (ad V a) :: As) s lo F (fun _ => False)) (hst : st = As.reverse ++ .ref (ad V a) :: rest) (hrest : (rest.map fun v => v.category).sum ≤ 8)
    (kk : ∀ (b : Nat) (s' : sgT), F b s' → RW G M cc rm QF (pc + 3) L (.ref (ad V b) :: rest) (wS G V s' lo) (cells + rm'.cells) (slots + rm'.slots)) : RW G M cc rm QF pc L st (wS G V s lo) cells slots := by
  refine sCallV hd hh hk hi hlk hrm ha hc8 hc hn hcs hsl hM hst hrest (fun v s' h => ?_)
  obtain ⟨b, rfl, h⟩ := h
  exact kk b s' h
theorem sCallVXr {F : Nat → sgT → Prop} (hh0 : mH M = []) (hd : decode cc pc = .ok (.invokevirtual idx, 3)) (hh : mH M' = []) (hk : mOK M' cc' n) (hi : mInst M') (hlk : lLk (mO M) idx M') (hrm : rmOk rm rm' (mN M')) (ha : shAt V a (ci, len, fl)) (hc8 : ci < 8) (hc : vwCl[ci]? = some (mO M', T, N)) (hn : As.length = n) (hcs : cells + rm'.cells ≤ rm.cells) (hsl : slots + rm'.slots ≤ rm.slots)
    (hM : CSr G V M' cc' rm' (.ref (ad V a) :: As) s lo F g) (hst : st = As.reverse ++ .ref (ad V a) :: rest) (hrest : (rest.map fun v => v.category).sum ≤ 8) (hs0 : s = s0) (hx : ∀ E, g E → g0 E)
    (kk : ∀ (b : Nat) (s' : sgT), F b s' → RW G M cc rm (QS G V s0 lo f0 g0 rm) (pc + 3) L (.ref (ad V b) :: rest) (wS G V s' lo) (cells + rm'.cells) (slots + rm'.slots)) : RW G M cc rm (QS G V s0 lo f0 g0 rm) pc L st (wS G V s lo) cells slots := by
  refine sCallVX hh0 hd hh hk hi hlk hrm ha hc8 hc hn hcs hsl hM hst hrest hs0 hx (fun v s' h => ?_)
  obtain ⟨b, rfl, h⟩ := h
  exact kk b s' h
theorem sCallSr {F : Nat → sgT → Prop} (hd : decode cc pc = .ok (.invokestatic idx, 3)) (hh : mH M' = []) (hk : mOK M' cc' n) (hi : Cond.static (mY M') ∈ gWds) (hlk : lLk (mO M) idx M') (hrm : rmOk rm rm' (mN M')) (hn : As.length = n) (hcs : cells + rm'.cells ≤ rm.cells) (hsl : slots + rm'.slots ≤ rm.slots)
    (hM : CSr G V M' cc' rm' As s lo F (fun _ => False)) (hst : st = As.reverse ++ rest) (hrest : (rest.map fun v => v.category).sum ≤ 8)
    (kk : ∀ (b : Nat) (s' : sgT), F b s' → RW G M cc rm QF (pc + 3) L (.ref (ad V b) :: rest) (wS G V s' lo) (cells + rm'.cells) (slots + rm'.slots)) : RW G M cc rm QF pc L st (wS G V s lo) cells slots := by
  refine sCallS hd hh hk hi hlk hrm hn hcs hsl hM hst hrest (fun v s' h => ?_)
  obtain ⟨b, rfl, h⟩ := h
  exact kk b s' h
theorem sCallSXr {F : Nat → sgT → Prop} (hh0 : mH M = []) (hd : decode cc pc = .ok (.invokestatic idx, 3)) (hh : mH M' = []) (hk : mOK M' cc' n) (hi : Cond.static (mY M') ∈ gWds) (hlk : lLk (mO M) idx M') (hrm : rmOk rm rm' (mN M')) (hn : As.length = n) (hcs : cells + rm'.cells ≤ rm.cells) (hsl : slots + rm'.slots ≤ rm.slots)
    (hM : CSr G V M' cc' rm' As s lo F g) (hst : st = As.reverse ++ rest) (hrest : (rest.map fun v => v.category).sum ≤ 8) (hs0 : s = s0) (hx : ∀ E, g E → g0 E)
    (kk : ∀ (b : Nat) (s' : sgT), F b s' → RW G M cc rm (QS G V s0 lo f0 g0 rm) (pc + 3) L (.ref (ad V b) :: rest) (wS G V s' lo) (cells + rm'.cells) (slots + rm'.slots)) : RW G M cc rm (QS G V s0 lo f0 g0 rm) pc L st (wS G V s lo) cells slots := by
  refine sCallSX hh0 hd hh hk hi hlk hrm hn hcs hsl hM hst hrest hs0 hx (fun v s' h => ?_)
  obtain ⟨b, rfl, h⟩ := h
  exact kk b s' h
end gC2
theorem nz_eq {n : Nat} (h : n < 2 ^ 31) : nI n = 0 ↔ n = 0 := by
  constructor
  · intro e
    by_cases h0 : n = 0
    · exact h0
    · exact absurd e (nI_ne0 (by omega) h)
  · rintro rfl
    exact nI_0
theorem nz_lt {n : Nat} (h : n < 2 ^ 31) : nI n < 0 ↔ False := ⟨fun e => absurd e (nI_pos h), fun h => h.elim⟩
theorem nz_ge {n : Nat} (h : n < 2 ^ 31) : 0 ≤ nI n ↔ True := ⟨fun _ => trivial, fun _ => nI_pos' h⟩
theorem nz_gt {n : Nat} (h : n < 2 ^ 31) : 0 < nI n ↔ 0 < n := by
  have e : (0 : Int32) = nI 0 := nI_0.symm
  rw [e, nI_ltI (by omega) h]
theorem nz_le {n : Nat} (h : n < 2 ^ 31) : nI n ≤ 0 ↔ n = 0 := by
  have e : (0 : Int32) = nI 0 := nI_0.symm
  rw [e, nI_leI h (by omega)]
  omega
/-- what a method answers by yes or no -/
def isB (r : Int32) (c : Prop) : Prop := (c ∧ r = nI 1) ∨ (¬ c ∧ r = nI 0)
end
section
/-! numbers and lists: what the rows of units are asked -/
def wor (t : Nat) : Nat := if t = 1 then 1 else if t = 2 then 3 else 9
def cst (k : Nat) : Nat := k / 3 + 1
def hKb (l : List Nat) (k : Nat) : Bool := l.any (fun u => u / 10 == k)
def heldN (l : List Nat) (k : Nat) : Nat := (l.map (fun u => if u / 10 = k then wor (u % 10) else 0)).sum
def kinN (l : List Nat) (k : Nat) : Nat := (if k % 3 ≠ k ∧ hKb l (k % 3) = true then 1 else 0) + (if k % 3 + 3 ≠ k ∧ hKb l (k % 3 + 3) = true then 1 else 0) + (if k % 3 + 6 ≠ k ∧ hKb l (k % 3 + 6) = true then 1 else 0)
def strN (l : List Nat) (u : Nat) : Nat := 2 * cst (u / 10) * (u % 10) + kinN l (u / 10)
def hthN (u : Nat) : Nat := 6 * cst (u / 10) * (u % 10)
theorem tk {l : List Nat} {i : Nat} (h : i < l.length) : l.take (i + 1) = l.take i ++ [l.getD i 0] := by
  rw [List.take_succ_eq_append_getElem h]
  simp [h]
theorem getD_mem {l : List Nat} {i : Nat} (h : i < l.length) : l.getD i 0 ∈ l := by
  rw [List.getD_eq_getElem?_getD, List.getElem?_eq_getElem h]
  exact List.getElem_mem h
theorem mem_getD {l : List Nat} {u : Nat} (h : u ∈ l) : ∃ i, i < l.length ∧ l.getD i 0 = u := by
  obtain ⟨i, hi, e⟩ := List.mem_iff_getElem.mp h
  exact ⟨i, hi, by rw [List.getD_eq_getElem?_getD, List.getElem?_eq_getElem hi]; exact e⟩
theorem okR_mem {l : List Nat} : okR l ↔ ∀ u ∈ l, okU u := by
  constructor
  · intro h u hu
    obtain ⟨i, hi, rfl⟩ := mem_getD hu
    exact h i hi
  · intro h i hi
    exact h _ (getD_mem hi)
theorem hKb_iff {l : List Nat} {k : Nat} : hKb l k = true ↔ ∃ u ∈ l, u / 10 = k := by
  unfold hKb
  rw [List.any_eq_true]
  constructor
  · rintro ⟨u, hu, e⟩
    exact ⟨u, hu, by simpa using e⟩
  · rintro ⟨u, hu, e⟩
    exact ⟨u, hu, by simpa using e⟩
theorem count_take {l : List Nat} {i u : Nat} (h : i < l.length) : (l.take (i + 1)).count u = (l.take i).count u + if l.getD i 0 = u then 1 else 0 := by
  rw [tk h, List.count_append, List.count_singleton]
  by_cases e : l.getD i 0 = u
  · simp [e]
  · simp [e]
theorem held_take {l : List Nat} {i k : Nat} (h : i < l.length) : heldN (l.take (i + 1)) k = heldN (l.take i) k + if l.getD i 0 / 10 = k then wor (l.getD i 0 % 10) else 0 := by
  rw [tk h]
  simp [heldN]
theorem idx_find {l : List Nat} {i u : Nat} (h : i < l.length) (e : l.getD i 0 = u) (hn : ∀ j, j < i → l.getD j 0 ≠ u) : u ∈ l ∧ l.idxOf u = i := by
  refine ⟨e ▸ getD_mem h, ?_⟩
  have hm : u ∈ l := e ▸ getD_mem h
  have h1 : l.idxOf u < l.length := List.idxOf_lt_length_of_mem hm
  have h2 : l.getD (l.idxOf u) 0 = u := by
    rw [List.getD_eq_getElem?_getD, List.getElem?_eq_getElem h1]
    exact List.getElem_idxOf h1
  rcases Nat.lt_trichotomy (l.idxOf u) i with q | q | q
  · exact absurd h2 (hn _ q)
  · exact q
  · exfalso
    have h3 : l[i] = u := by
      rw [List.getD_eq_getElem?_getD, List.getElem?_eq_getElem h] at e
      exact e
    have h4 := List.not_of_lt_findIdx (p := (· == u)) (xs := l) (i := i) (by simpa [List.idxOf] using q)
    simp [h3] at h4
theorem mem_no {l : List Nat} {u : Nat} (hn : ∀ j, j < l.length → l.getD j 0 ≠ u) : u ∉ l := by
  intro hm
  obtain ⟨i, hi, e⟩ := mem_getD hm
  exact hn i hi e
theorem era_get {l : List Nat} {p i : Nat} (hi : i < (l.eraseIdx p).length) : (l.eraseIdx p).getD i 0 = if i < p then l.getD i 0 else l.getD (i + 1) 0 := by
  simp only [List.getD_eq_getElem?_getD, List.getElem?_eraseIdx]
  split <;> rfl
theorem app_get {l : List Nat} {u i : Nat} (hi : i < l.length) : (l ++ [u]).getD i 0 = l.getD i 0 := by
  simp only [List.getD_eq_getElem?_getD]
  rw [List.getElem?_append_left hi]
theorem app_last {l : List Nat} {u : Nat} : (l ++ [u]).getD l.length 0 = u := by
  simp [List.getD_eq_getElem?_getD]
theorem u_of {u k t : Nat} (h1 : u / 10 = k) (h2 : u % 10 = t) : u = 10 * k + t := by omega
/-- a loop over the fixed world -/
theorem loopW {G : gG} {V : wV} {M : mT} {cc : ByteArray} {rm : Room} {QF : Array Value → State → List Frame → State → Prop} {pc : Nat} {lo : Nat → Int64} {cells slots : Nat} {st : List Value} {σ : Type} (e : Nat) (Lf : Nat → σ → List (Option Value)) (sf : Nat → σ → sgT) (Inv : Nat → σ → Prop) (i0 : Nat) (x0 : σ) (hi0 : i0 ≤ e) (h0 : Inv i0 x0)
    (body : ∀ (i : Nat) (x : σ), i ≤ e → Inv i x → (i < e → ∀ x' : σ, Inv (i + 1) x' → RW G M cc rm QF pc (Lf (i + 1) x') st (wS G V (sf (i + 1) x') lo) cells slots) → RW G M cc rm QF pc (Lf i x) st (wS G V (sf i x) lo) cells slots) : RW G M cc rm QF pc (Lf i0 x0) st (wS G V (sf i0 x0) lo) cells slots := by
  have key : ∀ i, i ≤ e → ∀ x : σ, Inv i x → RW G M cc rm QF pc (Lf i x) st (wS G V (sf i x) lo) cells slots := by
    refine loopUp e (fun i hi ih x hx => ?_)
    exact body i x hi hx (fun hl x' hx' => ih hl x' hx')
  exact key i0 hi0 x0 h0
/-- a loop that turns while a measure falls -/
theorem loopM {G : gG} {V : wV} {M : mT} {cc : ByteArray} {rm : Room} {QF : Array Value → State → List Frame → State → Prop} {pc : Nat} {lo : Nat → Int64} {cells slots : Nat} {st : List Value} {σ : Type} (μ : σ → Nat) (Lf : σ → List (Option Value)) (sf : σ → sgT) (Inv : σ → Prop) (x0 : σ) (h0 : Inv x0)
    (body : ∀ (x : σ), Inv x → (∀ x' : σ, μ x' < μ x → Inv x' → RW G M cc rm QF pc (Lf x') st (wS G V (sf x') lo) cells slots) → RW G M cc rm QF pc (Lf x) st (wS G V (sf x) lo) cells slots) : RW G M cc rm QF pc (Lf x0) st (wS G V (sf x0) lo) cells slots := by
  have key : ∀ (n : Nat) (x : σ), μ x < n → Inv x → RW G M cc rm QF pc (Lf x) st (wS G V (sf x) lo) cells slots := by
    intro n
    induction n with
    | zero => intro x hx; exact absurd hx (Nat.not_lt_zero _)
    | succ n ih => intro x hx hi; exact body x hi (fun x' hl hi' => ih x' (by omega) hi')
  exact key _ x0 (Nat.lt_succ_self _) h0
end
section
/-- the kin among the first i of the three kinds of a kin -/
def kinI (l : List Nat) (k : Nat) : Nat → Nat
  | 0 => 0
  | i + 1 => kinI l k i + if k % 3 + 3 * i ≠ k ∧ hKb l (k % 3 + 3 * i) = true then 1 else 0
theorem kinI_s {l : List Nat} {k i : Nat} (_ : i < 3) : kinI l k (i + 1) = kinI l k i + if k % 3 + 3 * i ≠ k ∧ hKb l (k % 3 + 3 * i) = true then 1 else 0 := rfl
theorem kinI_3 {l : List Nat} {k i : Nat} (h : i = 3) : kinI l k i = kinN l k := by
  subst h
  simp [kinI, kinN]
set_option maxRecDepth 100000 in
set_option maxHeartbeats 4000000 in
theorem c_X6_costOf {G : gG} {V : wV} {lo : Nat → Int64} {s : sgT} {k : Nat} (hk : k < 2 ^ 31) : CSp G V mX6_costOf cX6_costOf (rmD 1 0 0) [.int (nI k)] s lo (fun v => v = nI (cst k)) (fun _ => False) := by
  refine CSp.of (L := [some (.int (nI k))]) rfl (by decide +kernel) rfl (Nat.le_of_ble_eq_true rfl) rfl ?_
  refine rIload_n dX6_costOf_0 rfl ?_
  refine rIconst (v := (nI (3))) dX6_costOf_1 (by decide) ?_
  refine nIdiv dX6_costOf_2 (by omega) (by decide) (by decide) ?_
  refine rIconst (v := (nI (1))) dX6_costOf_3 (by decide) ?_
  refine nIadd dX6_costOf_4 ?_
  exact sIret dX6_costOf_5 rfl rfl (Nat.le_of_ble_eq_true rfl) (Nat.le_of_ble_eq_true rfl) ⟨_, rfl, rfl, rfl⟩
set_option maxRecDepth 100000 in
set_option maxHeartbeats 4000000 in
theorem c_X6_unitsFor {G : gG} {V : wV} {lo : Nat → Int64} {s : sgT} {t : Nat} (ht : t < 2 ^ 31) : CSp G V mX6_unitsFor cX6_unitsFor (rmD 1 0 0) [.int (nI t)] s lo (fun v => v = nI (wor t)) (fun _ => False) := by
  refine CSp.of (L := [some (.int (nI t))]) rfl (by decide +kernel) rfl (Nat.le_of_ble_eq_true rfl) rfl ?_
  refine rIload_n dX6_unitsFor_0 rfl ?_
  refine rIconst (v := (nI (1))) dX6_unitsFor_1 (by decide) ?_
  refine r_icmp_ne (tgt := 7) dX6_unitsFor_2 (by decide) (fun c_2 => ?_) (fun c_2 => ?_)
  · have c_2 : ¬ (t = 1) := fun h => c_2 ((nI_eq (by omega) (by omega)).mpr h)
    refine rIload_n dX6_unitsFor_7 rfl ?_
    refine rIconst (v := (nI (2))) dX6_unitsFor_8 (by decide) ?_
    refine r_icmp_ne (tgt := 16) dX6_unitsFor_9 (by decide) (fun c_9 => ?_) (fun c_9 => ?_)
    · have c_9 : ¬ (t = 2) := fun h => c_9 ((nI_eq (by omega) (by omega)).mpr h)
      refine rBipush (v := (nI (9))) dX6_unitsFor_16 (by decide) ?_
      exact sIret dX6_unitsFor_18 rfl rfl (Nat.le_of_ble_eq_true rfl) (Nat.le_of_ble_eq_true rfl) ⟨_, rfl, rfl, (by simp only [wor]; rw [if_neg c_2, if_neg c_9])⟩
    · have c_9 : t = 2 := (nI_eq (by omega) (by omega)).mp c_9
      refine rIconst (v := (nI (3))) dX6_unitsFor_12 (by decide) ?_
      refine rGoto (tgt := 18) dX6_unitsFor_13 (by decide) ?_
      exact sIret dX6_unitsFor_18 rfl rfl (Nat.le_of_ble_eq_true rfl) (Nat.le_of_ble_eq_true rfl) ⟨_, rfl, rfl, (by simp only [wor]; rw [if_neg c_2, if_pos c_9])⟩
  · have c_2 : t = 1 := (nI_eq (by omega) (by omega)).mp c_2
    refine rIconst (v := (nI (1))) dX6_unitsFor_5 (by decide) ?_
    exact sIret dX6_unitsFor_6 rfl rfl (Nat.le_of_ble_eq_true rfl) (Nat.le_of_ble_eq_true rfl) ⟨_, rfl, rfl, (by simp only [wor]; rw [if_pos c_2])⟩
set_option maxRecDepth 100000 in
set_option maxHeartbeats 4000000 in
theorem c_X5_has {G : gG} {V : wV} {lo : Nat → Int64} {r n : Nat} {l : List Nat} (hr : rowAt V r n) (hn : n ≤ 6) (hl : l.length ≤ n) {s : sgT} (h : rowIs s r l) (ho : okR l) {x : Int32} : CSp G V mX5_has cX5_has (rmD 1 0 0) [.ref (ad V r), .int x] s lo (fun v => isB v (∃ i, i < l.length ∧ x = nI i)) (fun _ => False) := by
  refine CSp.of (L := [some (.ref (ad V r)), some (.int x)]) rfl (by decide +kernel) rfl (Nat.le_of_ble_eq_true rfl) rfl ?_
  refine rIload_n dX5_has_0 rfl ?_
  refine r_if_lt (tgt := 16) dX5_has_1 (by decide) (fun c_1 => ?_) (fun c_1 => ?_)
  · refine rIconst (v := (nI (0))) dX5_has_16 (by decide) ?_
    exact sIret dX5_has_17 rfl rfl (Nat.le_of_ble_eq_true rfl) (Nat.le_of_ble_eq_true rfl) ⟨_, rfl, rfl, (Or.inr ⟨fun q => (by obtain ⟨i, hi, rfl⟩ := q; exact nI_pos (by omega) c_1), rfl⟩)⟩
  · obtain ⟨j, hj, rfl⟩ := nI_of c_1
    refine rIload_n dX5_has_4 rfl ?_
    refine rAload_n dX5_has_5 rfl ?_
    refine sGetI (x := (nI (l.length))) dX5_has_6 fl_X5_18 hr.1 (by decide) rfl (by rw [h.1]) ?_
    refine r_icmp_ge (tgt := 16) dX5_has_9 (by decide) (fun c_9 => ?_) (fun c_9 => ?_)
    · have c_9 : (l.length) ≤ j := (nI_leI (by omega) (by omega)).mp c_9
      refine rIconst (v := (nI (0))) dX5_has_16 (by decide) ?_
      exact sIret dX5_has_17 rfl rfl (Nat.le_of_ble_eq_true rfl) (Nat.le_of_ble_eq_true rfl) ⟨_, rfl, rfl, (Or.inr ⟨fun q => (by obtain ⟨i, hi, e⟩ := q; have e := (nI_eq (by omega) (by omega)).mp e; omega), rfl⟩)⟩
    · have c_9 : ¬ ((l.length) ≤ j) := fun h => c_9 ((nI_leI (by omega) (by omega)).mpr h)
      refine rIconst (v := (nI (1))) dX5_has_12 (by decide) ?_
      refine rGoto (tgt := 17) dX5_has_13 (by decide) ?_
      exact sIret dX5_has_17 rfl rfl (Nat.le_of_ble_eq_true rfl) (Nat.le_of_ble_eq_true rfl) ⟨_, rfl, rfl, (Or.inl ⟨⟨j, by omega, rfl⟩, rfl⟩)⟩
set_option maxRecDepth 100000 in
set_option maxHeartbeats 4000000 in
theorem c_X5_append {G : gG} {V : wV} {lo : Nat → Int64} {r n : Nat} {l : List Nat} (hr : rowAt V r n) (hn : n ≤ 6) (hl : l.length ≤ n) {s : sgT} (h : rowIs s r l) (ho : okR l) (hlt : l.length < n) {u k t : Nat} (hk : u / 10 = k) (ht : u % 10 = t) : CSi G V mX5_append cX5_append (rmD 1 0 0) [.ref (ad V r), .int (nI k), .int (nI t)] s lo (fun v s' => rowIs s' r (l ++ [u]) ∧ (∀ b, b ≠ r → b ≠ r + 1 → b ≠ r + 2 → s' b = s b) ∧ v = nI 1) (fun _ => False) := by
  refine CSi.of (L := [some (.ref (ad V r)), some (.int (nI k)), some (.int (nI t))]) rfl (by decide +kernel) rfl (Nat.le_of_ble_eq_true rfl) rfl ?_
  refine rAload_n dX5_append_0 rfl ?_
  refine sGetI (x := (nI (l.length))) dX5_append_1 fl_X5_18 hr.1 (by decide) rfl (by rw [h.1]) ?_
  refine rAload_n dX5_append_4 rfl ?_
  refine sGetR dX5_append_5 fl_X5_9 hr.1 (by decide) rfl ?_
  refine sAlenI (v := nI n) dX5_append_8 hr.2.1 rfl ?_
  refine r_icmp_lt (tgt := 14) dX5_append_9 (by decide) (fun c_9 => ?_) (fun c_9 => ?_)
  · have c_9 : (l.length) < n := (nI_ltI (by omega) (by omega)).mp c_9
    refine rAload_n dX5_append_14 rfl ?_
    refine sGetR dX5_append_15 fl_X5_9 hr.1 (by decide) rfl ?_
    refine rAload_n dX5_append_18 rfl ?_
    refine sGetI (x := (nI (l.length))) dX5_append_19 fl_X5_18 hr.1 (by decide) rfl (by rw [h.1]) ?_
    refine rIload_n dX5_append_22 rfl ?_
    refine nIast dX5_append_23 hr.2.1 (by omega) (by omega) ?_
    refine rAload_n dX5_append_24 rfl ?_
    refine sGetR dX5_append_25 fl_X5_15 hr.1 (by decide) rfl ?_
    refine rAload_n dX5_append_28 rfl ?_
    refine sGetI (x := (nI (l.length))) dX5_append_29 fl_X5_18 hr.1 (by decide) rfl (by rw [sw_a (by omega), h.1]) ?_
    refine rIload_n dX5_append_32 rfl ?_
    refine nIast dX5_append_33 hr.2.2 (by omega) (by omega) ?_
    refine rAload_n dX5_append_34 rfl ?_
    refine rDup dX5_append_35 rfl ?_
    refine sGetI (x := (nI (l.length))) dX5_append_36 fl_X5_18 hr.1 (by decide) rfl (by rw [sw_a (by omega), sw_a (by omega), h.1]) ?_
    refine rIconst (v := (nI (1))) dX5_append_39 (by decide) ?_
    refine nIadd dX5_append_40 ?_
    refine sPutI dX5_append_41 fl_X5_18 ft_X5 rfl hr.1 (by decide) rfl rfl rfl ?_
    refine rIconst (v := (nI (1))) dX5_append_44 (by decide) ?_
    exact sIret dX5_append_45 rfl rfl (Nat.le_of_ble_eq_true rfl) (Nat.le_of_ble_eq_true rfl) ⟨_, rfl, ⟨⟨by rw [sw_s, List.length_append]; rfl, fun i hi => (by
            rw [List.length_append] at hi
            simp only [List.length_singleton] at hi
            rcases Nat.lt_or_ge i l.length with q | q
            · rw [app_get q]
              simp (disch := omega) only [sw_s, sw_a, sw_i]
              exact h.2 i q
            · have e : i = l.length := by omega
              subst e
              rw [app_last, hk, ht]
              simp (disch := omega) only [sw_s, sw_a, sw_i]
              exact ⟨trivial, trivial⟩)⟩, fun b h0 h1 h2 => (by rw [sw_a h0, sw_a h2, sw_a h1]), rfl⟩⟩
  · have c_9 : ¬ ((l.length) < n) := fun h => c_9 ((nI_ltI (by omega) (by omega)).mpr h)
    exact absurd c_9 (by omega)
set_option maxRecDepth 100000 in
set_option maxHeartbeats 4000000 in
theorem c_X5_append0 {G : gG} {V : wV} {lo : Nat → Int64} {r n : Nat} {l : List Nat} (hr : rowAt V r n) (hn : n ≤ 6) (hl : l.length ≤ n) {s : sgT} (h : rowIs s r l) (ho : okR l) (hlt : l.length = n) {x y : Int32} : CSp G V mX5_append cX5_append (rmD 1 0 0) [.ref (ad V r), .int x, .int y] s lo (fun v => v = nI 0) (fun _ => False) := by
  refine CSp.of (L := [some (.ref (ad V r)), some (.int x), some (.int y)]) rfl (by decide +kernel) rfl (Nat.le_of_ble_eq_true rfl) rfl ?_
  refine rAload_n dX5_append_0 rfl ?_
  refine sGetI (x := (nI (l.length))) dX5_append_1 fl_X5_18 hr.1 (by decide) rfl (by rw [h.1]) ?_
  refine rAload_n dX5_append_4 rfl ?_
  refine sGetR dX5_append_5 fl_X5_9 hr.1 (by decide) rfl ?_
  refine sAlenI (v := nI n) dX5_append_8 hr.2.1 rfl ?_
  refine r_icmp_lt (tgt := 14) dX5_append_9 (by decide) (fun c_9 => ?_) (fun c_9 => ?_)
  · have c_9 : (l.length) < n := (nI_ltI (by omega) (by omega)).mp c_9
    exact absurd c_9 (by omega)
  · have c_9 : ¬ ((l.length) < n) := fun h => c_9 ((nI_ltI (by omega) (by omega)).mpr h)
    refine rIconst (v := (nI (0))) dX5_append_12 (by decide) ?_
    exact sIret dX5_append_13 rfl rfl (Nat.le_of_ble_eq_true rfl) (Nat.le_of_ble_eq_true rfl) ⟨_, rfl, rfl, rfl⟩
set_option maxRecDepth 100000 in
set_option maxHeartbeats 4000000 in
theorem c_X5_removeAt {G : gG} {V : wV} {lo : Nat → Int64} {r n : Nat} {l : List Nat} (hr : rowAt V r n) (hn : n ≤ 6) (hl : l.length ≤ n) {s : sgT} (h : rowIs s r l) (ho : okR l) {p : Nat} (hp : p < l.length) : CSv G V mX5_removeAt cX5_removeAt (rmD 2 0 0) [.ref (ad V r), .int (nI p)] s lo (fun s' => rowIs s' r (l.eraseIdx p) ∧ (∀ b, b ≠ r → b ≠ r + 1 → b ≠ r + 2 → s' b = s b)) (fun _ => False) := by
  refine CSv.of (L := [some (.ref (ad V r)), some (.int (nI p)), none]) rfl (by decide +kernel) rfl (Nat.le_of_ble_eq_true rfl) rfl ?_
  refine rAload_n dX5_removeAt_0 rfl ?_
  refine rIload_n dX5_removeAt_1 rfl ?_
  refine sCallVp (M' := mX5_has) (rm' := rmD 1 0 0) (As := [.int (nI p)]) (rest := []) dX5_removeAt_2 rfl mk_X5_has mi_X5_has ll_X5_22 ⟨(Nat.le_of_ble_eq_true rfl), (Nat.le_of_ble_eq_true rfl)⟩ hr.1 (by decide) rfl rfl (Nat.le_of_ble_eq_true rfl) (Nat.le_of_ble_eq_true rfl) (c_X5_has hr hn hl h ho) rfl (Nat.le_of_ble_eq_true rfl) (fun v hb => ?_)
  rcases hb with ⟨-, rfl⟩ | ⟨hb, -⟩
  · refine r_if_ne (tgt := 9) dX5_removeAt_5 (by decide) (fun c_5 => ?_) (fun c_5 => ?_)
    · have c_5 : ¬ (1 = 0) := fun h => c_5 ((nz_eq (by omega)).mpr h)
      refine rAload_n dX5_removeAt_9 rfl ?_
      refine rDup dX5_removeAt_10 rfl ?_
      refine sGetI (x := (nI (l.length))) dX5_removeAt_11 fl_X5_18 hr.1 (by decide) rfl (by rw [h.1]) ?_
      refine rIconst (v := (nI (1))) dX5_removeAt_14 (by decide) ?_
      refine nIsub dX5_removeAt_15 (by omega) ?_
      refine sPutI dX5_removeAt_16 fl_X5_18 ft_X5 rfl hr.1 (by decide) rfl rfl rfl ?_
      refine rIload_n dX5_removeAt_19 rfl ?_
      refine rIstore_n dX5_removeAt_20 (by decide) ?_
      have hel : (l.eraseIdx p).length = l.length - 1 := List.length_eraseIdx_of_lt hp
      refine loopW (σ := sgT) (l.length - 1) (fun i x => [some (.ref (ad V r)), some (.int (nI p)), some (.int (nI i))]) (fun i x => x) (fun i x => x r 2 = nI (l.length - 1) ∧ (∀ b, b ≠ r → b ≠ r + 1 → b ≠ r + 2 → x b = s b) ∧ (∀ j, j < i → x (r + 1) j = nI ((l.eraseIdx p).getD j 0 / 10) ∧ x (r + 2) j = nI ((l.eraseIdx p).getD j 0 % 10)) ∧ (∀ j, i ≤ j → j < l.length → x (r + 1) j = nI (l.getD j 0 / 10) ∧ x (r + 2) j = nI (l.getD j 0 % 10)) ∧ p ≤ i) (p) (sw s r 2 (nI ((l.length) - 1))) (by omega) ⟨sw_s, fun b h0 h1 h2 => sw_a h0, fun j hj => (by
            rw [sw_a (by omega), sw_a (by omega), era_get (by omega), if_pos hj]
            exact h.2 j (by omega)), fun j _ hj => (by
            rw [sw_a (by omega), sw_a (by omega)]
            exact h.2 j hj), Nat.le_refl _⟩ (fun i x hi hinv ih => ?_)
      obtain ⟨v1, v2, v3, v4, v5⟩ := hinv
      refine rIload_n dX5_removeAt_21 rfl ?_
      refine rAload_n dX5_removeAt_22 rfl ?_
      refine sGetI (x := (nI (l.length - 1))) dX5_removeAt_23 fl_X5_18 hr.1 (by decide) rfl (by rw [v1]) ?_
      refine r_icmp_ge (tgt := 63) dX5_removeAt_26 (by decide) (fun c_26 => ?_) (fun c_26 => ?_)
      · have c_26 : (l.length - 1) ≤ i := (nI_leI (by omega) (by omega)).mp c_26
        exact sVret dX5_removeAt_63 rfl (Nat.le_of_ble_eq_true rfl) (Nat.le_of_ble_eq_true rfl) ⟨rfl, ⟨⟨(by rw [hel]; exact v1), fun j hj => v3 j (by omega)⟩, v2⟩⟩
      · have c_26 : ¬ ((l.length - 1) ≤ i) := fun h => c_26 ((nI_leI (by omega) (by omega)).mpr h)
        refine rAload_n dX5_removeAt_29 rfl ?_
        refine sGetR dX5_removeAt_30 fl_X5_9 hr.1 (by decide) rfl ?_
        refine rIload_n dX5_removeAt_33 rfl ?_
        refine rAload_n dX5_removeAt_34 rfl ?_
        refine sGetR dX5_removeAt_35 fl_X5_9 hr.1 (by decide) rfl ?_
        refine rIload_n dX5_removeAt_38 rfl ?_
        refine rIconst (v := (nI (1))) dX5_removeAt_39 (by decide) ?_
        refine nIadd dX5_removeAt_40 ?_
        refine nIald (v := (nI (l.getD (i + 1) 0 / 10))) dX5_removeAt_41 hr.2.1 (by omega) (by omega) (by rw [(v4 (i + 1) (by omega) (by omega)).1]) ?_
        refine nIast dX5_removeAt_42 hr.2.1 (by omega) (by omega) ?_
        refine rAload_n dX5_removeAt_43 rfl ?_
        refine sGetR dX5_removeAt_44 fl_X5_15 hr.1 (by decide) rfl ?_
        refine rIload_n dX5_removeAt_47 rfl ?_
        refine rAload_n dX5_removeAt_48 rfl ?_
        refine sGetR dX5_removeAt_49 fl_X5_15 hr.1 (by decide) rfl ?_
        refine rIload_n dX5_removeAt_52 rfl ?_
        refine rIconst (v := (nI (1))) dX5_removeAt_53 (by decide) ?_
        refine nIadd dX5_removeAt_54 ?_
        refine nIald (v := (nI (l.getD (i + 1) 0 % 10))) dX5_removeAt_55 hr.2.2 (by omega) (by omega) (by rw [sw_a (by omega), (v4 (i + 1) (by omega) (by omega)).2]) ?_
        refine nIast dX5_removeAt_56 hr.2.2 (by omega) (by omega) ?_
        refine rIinc (v := (nI (i + 1))) dX5_removeAt_57 rfl (by first | exact nI_add _ _ | rfl) (by decide) ?_
        refine rGoto (tgt := 21) dX5_removeAt_60 (by decide) ?_
        exact ih (by omega) _ ⟨(by rw [sw_a (by omega), sw_a (by omega)]; exact v1), fun b h0 h1 h2 => (by rw [sw_a h2, sw_a h1]; exact v2 b h0 h1 h2), fun j hj => (by
              rw [sw_a (by omega)]
              rcases Nat.lt_or_ge j i with q | q
              · rw [sw_i (by omega), sw_i (by omega), sw_a (by omega)]
                exact v3 j q
              · have e : j = i := by omega
                subst e
                rw [sw_s, sw_s, era_get (by omega), if_neg (by omega)]
                exact ⟨rfl, rfl⟩), fun j h1 h2 => (by
              rw [sw_a (by omega), sw_i (by omega), sw_i (by omega), sw_a (by omega)]
              exact v4 j (by omega) h2), by omega⟩
    · have c_5 : 1 = 0 := (nz_eq (by omega)).mp c_5
      exact absurd c_5 (by omega)
  · exact absurd ⟨p, hp, rfl⟩ hb
set_option maxRecDepth 100000 in
set_option maxHeartbeats 4000000 in
theorem c_X5_find {G : gG} {V : wV} {lo : Nat → Int64} {r n : Nat} {l : List Nat} (hr : rowAt V r n) (hn : n ≤ 6) (hl : l.length ≤ n) {s : sgT} (h : rowIs s r l) (ho : okR l) {u k t : Nat} (hu : okU u) (hk : u / 10 = k) (ht : u % 10 = t) : CSp G V mX5_find cX5_find (rmD 1 0 0) [.ref (ad V r), .int (nI k), .int (nI t)] s lo (fun v => (u ∈ l ∧ v = nI (l.idxOf u)) ∨ (u ∉ l ∧ v = -1)) (fun _ => False) := by
  refine CSp.of (L := [some (.ref (ad V r)), some (.int (nI k)), some (.int (nI t)), none]) rfl (by decide +kernel) rfl (Nat.le_of_ble_eq_true rfl) rfl ?_
  obtain ⟨hu1, hu2, hu3⟩ := hu
  refine rIconst (v := (nI (0))) dX5_find_0 (by decide) ?_
  refine rIstore_n dX5_find_1 (by decide) ?_
  refine loopW (σ := Unit) (l.length) (fun i _ => [some (.ref (ad V r)), some (.int (nI k)), some (.int (nI t)), some (.int (nI i))]) (fun i _ => s) (fun i _ => ∀ j, j < i → l.getD j 0 ≠ u) (0) () (by omega) (fun j hj => absurd hj (by omega)) (fun i _ hi hinv ih => ?_)
  refine rIload_n dX5_find_2 rfl ?_
  refine rAload_n dX5_find_3 rfl ?_
  refine sGetI (x := (nI (l.length))) dX5_find_4 fl_X5_18 hr.1 (by decide) rfl (by rw [h.1]) ?_
  refine r_icmp_ge (tgt := 38) dX5_find_7 (by decide) (fun c_7 => ?_) (fun c_7 => ?_)
  · have c_7 : (l.length) ≤ i := (nI_leI (by omega) (by omega)).mp c_7
    refine rIconst (v := (-1)) dX5_find_38 (by decide) ?_
    exact sIret dX5_find_39 rfl rfl (Nat.le_of_ble_eq_true rfl) (Nat.le_of_ble_eq_true rfl) ⟨_, rfl, rfl, (Or.inr ⟨mem_no (fun j hj => hinv j (by omega)), rfl⟩)⟩
  · have c_7 : ¬ ((l.length) ≤ i) := fun h => c_7 ((nI_leI (by omega) (by omega)).mpr h)
    obtain ⟨y1, y2, y3⟩ := ho i (by omega)
    refine rAload_n dX5_find_10 rfl ?_
    refine sGetR dX5_find_11 fl_X5_9 hr.1 (by decide) rfl ?_
    refine rIload_n dX5_find_14 rfl ?_
    refine nIald (v := (nI (l.getD i 0 / 10))) dX5_find_15 hr.2.1 (by omega) (by omega) (by rw [(h.2 i (by omega)).1]) ?_
    refine rIload_n dX5_find_16 rfl ?_
    refine r_icmp_ne (tgt := 32) dX5_find_17 (by decide) (fun c_17 => ?_) (fun c_17 => ?_)
    · have c_17 : ¬ ((l.getD i 0 / 10) = k) := fun h => c_17 ((nI_eq (by omega) (by omega)).mpr h)
      refine rIinc (v := (nI (i + 1))) dX5_find_32 rfl (by first | exact nI_add _ _ | rfl) (by decide) ?_
      refine rGoto (tgt := 2) dX5_find_35 (by decide) ?_
      exact ih (by omega) () (fun j hj => (by
              rcases Nat.lt_or_ge j i with q | q
              · exact hinv j q
              · have e : j = i := by omega
                subst e
                intro e
                rw [e] at c_17
                omega))
    · have c_17 : (l.getD i 0 / 10) = k := (nI_eq (by omega) (by omega)).mp c_17
      refine rAload_n dX5_find_20 rfl ?_
      refine sGetR dX5_find_21 fl_X5_15 hr.1 (by decide) rfl ?_
      refine rIload_n dX5_find_24 rfl ?_
      refine nIald (v := (nI (l.getD i 0 % 10))) dX5_find_25 hr.2.2 (by omega) (by omega) (by rw [(h.2 i (by omega)).2]) ?_
      refine rIload_n dX5_find_26 rfl ?_
      refine r_icmp_ne (tgt := 32) dX5_find_27 (by decide) (fun c_27 => ?_) (fun c_27 => ?_)
      · have c_27 : ¬ ((l.getD i 0 % 10) = t) := fun h => c_27 ((nI_eq (by omega) (by omega)).mpr h)
        refine rIinc (v := (nI (i + 1))) dX5_find_32 rfl (by first | exact nI_add _ _ | rfl) (by decide) ?_
        refine rGoto (tgt := 2) dX5_find_35 (by decide) ?_
        exact ih (by omega) () (fun j hj => (by
                rcases Nat.lt_or_ge j i with q | q
                · exact hinv j q
                · have e : j = i := by omega
                  subst e
                  intro e
                  rw [e] at c_27
                  omega))
      · have c_27 : (l.getD i 0 % 10) = t := (nI_eq (by omega) (by omega)).mp c_27
        refine rIload_n dX5_find_30 rfl ?_
        obtain ⟨z1, z2⟩ := idx_find (u := u) (by omega) (by rw [u_of c_17 c_27]; omega) hinv
        exact sIret dX5_find_31 rfl rfl (Nat.le_of_ble_eq_true rfl) (Nat.le_of_ble_eq_true rfl) ⟨_, rfl, rfl, (Or.inl ⟨z1, by rw [z2]⟩)⟩
set_option maxRecDepth 100000 in
set_option maxHeartbeats 4000000 in
theorem c_X5_countOf {G : gG} {V : wV} {lo : Nat → Int64} {r n : Nat} {l : List Nat} (hr : rowAt V r n) (hn : n ≤ 6) (hl : l.length ≤ n) {s : sgT} (h : rowIs s r l) (ho : okR l) {u k t : Nat} (hu : okU u) (hk : u / 10 = k) (ht : u % 10 = t) : CSp G V mX5_countOf cX5_countOf (rmD 1 0 0) [.ref (ad V r), .int (nI k), .int (nI t)] s lo (fun v => v = nI (l.count u)) (fun _ => False) := by
  refine CSp.of (L := [some (.ref (ad V r)), some (.int (nI k)), some (.int (nI t)), none, none]) rfl (by decide +kernel) rfl (Nat.le_of_ble_eq_true rfl) rfl ?_
  obtain ⟨hu1, hu2, hu3⟩ := hu
  refine rIconst (v := (nI (0))) dX5_countOf_0 (by decide) ?_
  refine rIstore_n dX5_countOf_1 (by decide) ?_
  refine rIconst (v := (nI (0))) dX5_countOf_2 (by decide) ?_
  refine rIstore dX5_countOf_3 (by decide) ?_
  refine loopW (σ := Unit) (l.length) (fun i _ => [some (.ref (ad V r)), some (.int (nI k)), some (.int (nI t)), some (.int (nI ((l.take i).count u))), some (.int (nI i))]) (fun i _ => s) (fun i _ => True) (0) () (by omega) trivial (fun i _ hi hinv ih => ?_)
  refine rIload dX5_countOf_5 rfl ?_
  refine rAload_n dX5_countOf_7 rfl ?_
  refine sGetI (x := (nI (l.length))) dX5_countOf_8 fl_X5_18 hr.1 (by decide) rfl (by rw [h.1]) ?_
  refine r_icmp_ge (tgt := 45) dX5_countOf_11 (by decide) (fun c_11 => ?_) (fun c_11 => ?_)
  · have c_11 : (l.length) ≤ i := (nI_leI (by omega) (by omega)).mp c_11
    refine rIload_n dX5_countOf_45 rfl ?_
    exact sIret dX5_countOf_46 rfl rfl (Nat.le_of_ble_eq_true rfl) (Nat.le_of_ble_eq_true rfl) ⟨_, rfl, rfl, (by rw [List.take_of_length_le (by omega)])⟩
  · have c_11 : ¬ ((l.length) ≤ i) := fun h => c_11 ((nI_leI (by omega) (by omega)).mpr h)
    obtain ⟨y1, y2, y3⟩ := ho i (by omega)
    have hct := count_take (u := u) (show i < l.length by omega)
    refine rAload_n dX5_countOf_14 rfl ?_
    refine sGetR dX5_countOf_15 fl_X5_9 hr.1 (by decide) rfl ?_
    refine rIload dX5_countOf_18 rfl ?_
    refine nIald (v := (nI (l.getD i 0 / 10))) dX5_countOf_20 hr.2.1 (by omega) (by omega) (by rw [(h.2 i (by omega)).1]) ?_
    refine rIload_n dX5_countOf_21 rfl ?_
    refine r_icmp_ne (tgt := 39) dX5_countOf_22 (by decide) (fun c_22 => ?_) (fun c_22 => ?_)
    · have c_22 : ¬ ((l.getD i 0 / 10) = k) := fun h => c_22 ((nI_eq (by omega) (by omega)).mpr h)
      refine rIinc (v := (nI (i + 1))) dX5_countOf_39 rfl (by first | exact nI_add _ _ | rfl) (by decide) ?_
      refine rGoto (tgt := 5) dX5_countOf_42 (by decide) ?_
      rw [if_neg (fun e => c_22 (by rw [e]; exact hk)), Nat.add_zero] at hct
      have hz := ih (by omega) () trivial
      rw [hct] at hz
      exact hz
    · have c_22 : (l.getD i 0 / 10) = k := (nI_eq (by omega) (by omega)).mp c_22
      refine rAload_n dX5_countOf_25 rfl ?_
      refine sGetR dX5_countOf_26 fl_X5_15 hr.1 (by decide) rfl ?_
      refine rIload dX5_countOf_29 rfl ?_
      refine nIald (v := (nI (l.getD i 0 % 10))) dX5_countOf_31 hr.2.2 (by omega) (by omega) (by rw [(h.2 i (by omega)).2]) ?_
      refine rIload_n dX5_countOf_32 rfl ?_
      refine r_icmp_ne (tgt := 39) dX5_countOf_33 (by decide) (fun c_33 => ?_) (fun c_33 => ?_)
      · have c_33 : ¬ ((l.getD i 0 % 10) = t) := fun h => c_33 ((nI_eq (by omega) (by omega)).mpr h)
        refine rIinc (v := (nI (i + 1))) dX5_countOf_39 rfl (by first | exact nI_add _ _ | rfl) (by decide) ?_
        refine rGoto (tgt := 5) dX5_countOf_42 (by decide) ?_
        rw [if_neg (fun e => c_33 (by rw [e]; exact ht)), Nat.add_zero] at hct
        have hz := ih (by omega) () trivial
        rw [hct] at hz
        exact hz
      · have c_33 : (l.getD i 0 % 10) = t := (nI_eq (by omega) (by omega)).mp c_33
        refine rIinc (v := (nI ((l.take i).count u + 1))) dX5_countOf_36 rfl (by first | exact nI_add _ _ | rfl) (by decide) ?_
        refine rIinc (v := (nI (i + 1))) dX5_countOf_39 rfl (by first | exact nI_add _ _ | rfl) (by decide) ?_
        refine rGoto (tgt := 5) dX5_countOf_42 (by decide) ?_
        rw [if_pos (by rw [u_of c_22 c_33]; omega)] at hct
        have hz := ih (by omega) () trivial
        rw [hct] at hz
        exact hz
set_option maxRecDepth 100000 in
set_option maxHeartbeats 4000000 in
theorem c_X5_hasKind {G : gG} {V : wV} {lo : Nat → Int64} {r n : Nat} {l : List Nat} (hr : rowAt V r n) (hn : n ≤ 6) (hl : l.length ≤ n) {s : sgT} (h : rowIs s r l) (ho : okR l) {k : Nat} (hk : k < 2 ^ 31) : CSp G V mX5_hasKind cX5_hasKind (rmD 1 0 0) [.ref (ad V r), .int (nI k)] s lo (fun v => isB v (hKb l k = true)) (fun _ => False) := by
  refine CSp.of (L := [some (.ref (ad V r)), some (.int (nI k)), none]) rfl (by decide +kernel) rfl (Nat.le_of_ble_eq_true rfl) rfl ?_
  refine rIconst (v := (nI (0))) dX5_hasKind_0 (by decide) ?_
  refine rIstore_n dX5_hasKind_1 (by decide) ?_
  refine loopW (σ := Unit) (l.length) (fun i _ => [some (.ref (ad V r)), some (.int (nI k)), some (.int (nI i))]) (fun i _ => s) (fun i _ => ∀ j, j < i → l.getD j 0 / 10 ≠ k) (0) () (by omega) (fun j hj => absurd hj (by omega)) (fun i _ hi hinv ih => ?_)
  refine rIload_n dX5_hasKind_2 rfl ?_
  refine rAload_n dX5_hasKind_3 rfl ?_
  refine sGetI (x := (nI (l.length))) dX5_hasKind_4 fl_X5_18 hr.1 (by decide) rfl (by rw [h.1]) ?_
  refine r_icmp_ge (tgt := 28) dX5_hasKind_7 (by decide) (fun c_7 => ?_) (fun c_7 => ?_)
  · have c_7 : (l.length) ≤ i := (nI_leI (by omega) (by omega)).mp c_7
    refine rIconst (v := (nI (0))) dX5_hasKind_28 (by decide) ?_
    exact sIret dX5_hasKind_29 rfl rfl (Nat.le_of_ble_eq_true rfl) (Nat.le_of_ble_eq_true rfl) ⟨_, rfl, rfl, (Or.inr ⟨fun q => (by obtain ⟨u, hu, e⟩ := hKb_iff.mp q; obtain ⟨j, hj, rfl⟩ := mem_getD hu; exact hinv j (by omega) e), rfl⟩)⟩
  · have c_7 : ¬ ((l.length) ≤ i) := fun h => c_7 ((nI_leI (by omega) (by omega)).mpr h)
    obtain ⟨y1, y2, y3⟩ := ho i (by omega)
    refine rAload_n dX5_hasKind_10 rfl ?_
    refine sGetR dX5_hasKind_11 fl_X5_9 hr.1 (by decide) rfl ?_
    refine rIload_n dX5_hasKind_14 rfl ?_
    refine nIald (v := (nI (l.getD i 0 / 10))) dX5_hasKind_15 hr.2.1 (by omega) (by omega) (by rw [(h.2 i (by omega)).1]) ?_
    refine rIload_n dX5_hasKind_16 rfl ?_
    refine r_icmp_ne (tgt := 22) dX5_hasKind_17 (by decide) (fun c_17 => ?_) (fun c_17 => ?_)
    · have c_17 : ¬ ((l.getD i 0 / 10) = k) := fun h => c_17 ((nI_eq (by omega) (by omega)).mpr h)
      refine rIinc (v := (nI (i + 1))) dX5_hasKind_22 rfl (by first | exact nI_add _ _ | rfl) (by decide) ?_
      refine rGoto (tgt := 2) dX5_hasKind_25 (by decide) ?_
      exact ih (by omega) () (fun j hj => (by
            rcases Nat.lt_or_ge j i with q | q
            · exact hinv j q
            · have e : j = i := by omega
              subst e
              exact c_17))
    · have c_17 : (l.getD i 0 / 10) = k := (nI_eq (by omega) (by omega)).mp c_17
      refine rIconst (v := (nI (1))) dX5_hasKind_20 (by decide) ?_
      exact sIret dX5_hasKind_21 rfl rfl (Nat.le_of_ble_eq_true rfl) (Nat.le_of_ble_eq_true rfl) ⟨_, rfl, rfl, (Or.inl ⟨hKb_iff.mpr ⟨_, getD_mem (by omega), c_17⟩, rfl⟩)⟩
set_option maxRecDepth 100000 in
set_option maxHeartbeats 4000000 in
theorem c_X5_unitsHeld {G : gG} {V : wV} {lo : Nat → Int64} {r n : Nat} {l : List Nat} (hr : rowAt V r n) (hn : n ≤ 6) (hl : l.length ≤ n) {s : sgT} (h : rowIs s r l) (ho : okR l) {k : Nat} (hk : k < 2 ^ 31) : CSp G V mX5_unitsHeld cX5_unitsHeld (rmD 2 0 0) [.ref (ad V r), .int (nI k)] s lo (fun v => v = nI (heldN l k)) (fun _ => False) := by
  refine CSp.of (L := [some (.ref (ad V r)), some (.int (nI k)), none, none]) rfl (by decide +kernel) rfl (Nat.le_of_ble_eq_true rfl) rfl ?_
  refine rIconst (v := (nI (0))) dX5_unitsHeld_0 (by decide) ?_
  refine rIstore_n dX5_unitsHeld_1 (by decide) ?_
  refine rIconst (v := (nI (0))) dX5_unitsHeld_2 (by decide) ?_
  refine rIstore_n dX5_unitsHeld_3 (by decide) ?_
  refine loopW (σ := Unit) (l.length) (fun i _ => [some (.ref (ad V r)), some (.int (nI k)), some (.int (nI (heldN (l.take i) k))), some (.int (nI i))]) (fun i _ => s) (fun i _ => True) (0) () (by omega) trivial (fun i _ hi hinv ih => ?_)
  refine rIload_n dX5_unitsHeld_4 rfl ?_
  refine rAload_n dX5_unitsHeld_5 rfl ?_
  refine sGetI (x := (nI (l.length))) dX5_unitsHeld_6 fl_X5_18 hr.1 (by decide) rfl (by rw [h.1]) ?_
  refine r_icmp_ge (tgt := 40) dX5_unitsHeld_9 (by decide) (fun c_9 => ?_) (fun c_9 => ?_)
  · have c_9 : (l.length) ≤ i := (nI_leI (by omega) (by omega)).mp c_9
    refine rIload_n dX5_unitsHeld_40 rfl ?_
    exact sIret dX5_unitsHeld_41 rfl rfl (Nat.le_of_ble_eq_true rfl) (Nat.le_of_ble_eq_true rfl) ⟨_, rfl, rfl, (by rw [List.take_of_length_le (by omega)])⟩
  · have c_9 : ¬ ((l.length) ≤ i) := fun h => c_9 ((nI_leI (by omega) (by omega)).mpr h)
    obtain ⟨y1, y2, y3⟩ := ho i (by omega)
    have hct := held_take (k := k) (show i < l.length by omega)
    refine rAload_n dX5_unitsHeld_12 rfl ?_
    refine sGetR dX5_unitsHeld_13 fl_X5_9 hr.1 (by decide) rfl ?_
    refine rIload_n dX5_unitsHeld_16 rfl ?_
    refine nIald (v := (nI (l.getD i 0 / 10))) dX5_unitsHeld_17 hr.2.1 (by omega) (by omega) (by rw [(h.2 i (by omega)).1]) ?_
    refine rIload_n dX5_unitsHeld_18 rfl ?_
    refine r_icmp_ne (tgt := 34) dX5_unitsHeld_19 (by decide) (fun c_19 => ?_) (fun c_19 => ?_)
    · have c_19 : ¬ ((l.getD i 0 / 10) = k) := fun h => c_19 ((nI_eq (by omega) (by omega)).mpr h)
      refine rIinc (v := (nI (i + 1))) dX5_unitsHeld_34 rfl (by first | exact nI_add _ _ | rfl) (by decide) ?_
      refine rGoto (tgt := 4) dX5_unitsHeld_37 (by decide) ?_
      rw [if_neg c_19, Nat.add_zero] at hct
      have hz := ih (by omega) () trivial
      rw [hct] at hz
      exact hz
    · have c_19 : (l.getD i 0 / 10) = k := (nI_eq (by omega) (by omega)).mp c_19
      refine rIload_n dX5_unitsHeld_22 rfl ?_
      refine rAload_n dX5_unitsHeld_23 rfl ?_
      refine sGetR dX5_unitsHeld_24 fl_X5_15 hr.1 (by decide) rfl ?_
      refine rIload_n dX5_unitsHeld_27 rfl ?_
      refine nIald (v := (nI (l.getD i 0 % 10))) dX5_unitsHeld_28 hr.2.2 (by omega) (by omega) (by rw [(h.2 i (by omega)).2]) ?_
      refine sCallSp (M' := mX6_unitsFor) (rm' := rmD 1 0 0) (As := [.int (nI (l.getD i 0 % 10))]) (rest := [.int (nI (heldN (l.take i) k))]) dX5_unitsHeld_29 rfl mk_X6_unitsFor ms_X6_unitsFor ll_X5_26 ⟨(Nat.le_of_ble_eq_true rfl), (Nat.le_of_ble_eq_true rfl)⟩ rfl (Nat.le_of_ble_eq_true rfl) (Nat.le_of_ble_eq_true rfl) (c_X6_unitsFor (by omega)) rfl (Nat.le_of_ble_eq_true rfl) (fun v e => ?_)
      refine tTop (w := (nI (wor (l.getD i 0 % 10)))) e ?_
      refine nIadd dX5_unitsHeld_32 ?_
      refine rIstore_n dX5_unitsHeld_33 (by decide) ?_
      refine rIinc (v := (nI (i + 1))) dX5_unitsHeld_34 rfl (by first | exact nI_add _ _ | rfl) (by decide) ?_
      refine rGoto (tgt := 4) dX5_unitsHeld_37 (by decide) ?_
      rw [if_pos c_19] at hct
      have hz := ih (by omega) () trivial
      rw [hct] at hz
      exact hz
set_option maxRecDepth 100000 in
set_option maxHeartbeats 4000000 in
theorem c_X5_unitAt {G : gG} {V : wV} {lo : Nat → Int64} {r n : Nat} {l : List Nat} (hr : rowAt V r n) (hn : n ≤ 6) (hl : l.length ≤ n) {s : sgT} (h : rowIs s r l) (ho : okR l) {p : Nat} (hp : p < 2 ^ 31) : CSp G V mX5_unitAt cX5_unitAt (rmD 2 0 0) [.ref (ad V r), .int (nI p)] s lo (fun v => (p < l.length ∧ v = nI (l.getD p 0)) ∨ (¬ p < l.length ∧ v = -1)) (fun _ => False) := by
  refine CSp.of (L := [some (.ref (ad V r)), some (.int (nI p))]) rfl (by decide +kernel) rfl (Nat.le_of_ble_eq_true rfl) rfl ?_
  refine rAload_n dX5_unitAt_0 rfl ?_
  refine rIload_n dX5_unitAt_1 rfl ?_
  refine sCallVp (M' := mX5_has) (rm' := rmD 1 0 0) (As := [.int (nI p)]) (rest := []) dX5_unitAt_2 rfl mk_X5_has mi_X5_has ll_X5_22 ⟨(Nat.le_of_ble_eq_true rfl), (Nat.le_of_ble_eq_true rfl)⟩ hr.1 (by decide) rfl rfl (Nat.le_of_ble_eq_true rfl) (Nat.le_of_ble_eq_true rfl) (c_X5_has hr hn hl h ho) rfl (Nat.le_of_ble_eq_true rfl) (fun v hb => ?_)
  rcases hb with ⟨hb, rfl⟩ | ⟨hb, rfl⟩
  · have hpl : p < l.length := (by obtain ⟨i, hi, e⟩ := hb; have e := (nI_eq (by omega) (by omega)).mp e; omega)
    refine r_if_eq (tgt := 27) dX5_unitAt_5 (by decide) (fun c_5 => ?_) (fun c_5 => ?_)
    · have c_5 : 1 = 0 := (nz_eq (by omega)).mp c_5
      exact absurd c_5 (by omega)
    · have c_5 : ¬ (1 = 0) := fun h => c_5 ((nz_eq (by omega)).mpr h)
      refine rBipush (v := (nI (10))) dX5_unitAt_8 (by decide) ?_
      refine rAload_n dX5_unitAt_10 rfl ?_
      refine sGetR dX5_unitAt_11 fl_X5_9 hr.1 (by decide) rfl ?_
      refine rIload_n dX5_unitAt_14 rfl ?_
      refine nIald (v := (nI (l.getD p 0 / 10))) dX5_unitAt_15 hr.2.1 (by omega) (by omega) (by rw [(h.2 p (by omega)).1]) ?_
      refine nImul dX5_unitAt_16 ?_
      refine rAload_n dX5_unitAt_17 rfl ?_
      refine sGetR dX5_unitAt_18 fl_X5_15 hr.1 (by decide) rfl ?_
      refine rIload_n dX5_unitAt_21 rfl ?_
      refine nIald (v := (nI (l.getD p 0 % 10))) dX5_unitAt_22 hr.2.2 (by omega) (by omega) (by rw [(h.2 p (by omega)).2]) ?_
      refine nIadd dX5_unitAt_23 ?_
      refine rGoto (tgt := 28) dX5_unitAt_24 (by decide) ?_
      exact sIret dX5_unitAt_28 rfl rfl (Nat.le_of_ble_eq_true rfl) (Nat.le_of_ble_eq_true rfl) ⟨_, rfl, rfl, (Or.inl ⟨hpl, congrArg nI (by omega)⟩)⟩
  · refine r_if_eq (tgt := 27) dX5_unitAt_5 (by decide) (fun c_5 => ?_) (fun c_5 => ?_)
    · have c_5 : 0 = 0 := (nz_eq (by omega)).mp c_5
      refine rIconst (v := (-1)) dX5_unitAt_27 (by decide) ?_
      exact sIret dX5_unitAt_28 rfl rfl (Nat.le_of_ble_eq_true rfl) (Nat.le_of_ble_eq_true rfl) ⟨_, rfl, rfl, (Or.inr ⟨fun q => hb ⟨p, q, rfl⟩, rfl⟩)⟩
    · have c_5 : ¬ (0 = 0) := fun h => c_5 ((nz_eq (by omega)).mpr h)
      exact absurd c_5 (by omega)
set_option maxRecDepth 100000 in
set_option maxHeartbeats 4000000 in
theorem c_X5_healthAt {G : gG} {V : wV} {lo : Nat → Int64} {r n : Nat} {l : List Nat} (hr : rowAt V r n) (hn : n ≤ 6) (hl : l.length ≤ n) {s : sgT} (h : rowIs s r l) (ho : okR l) {p : Nat} (hp : p < l.length) : CSp G V mX5_healthAt cX5_healthAt (rmD 2 0 0) [.ref (ad V r), .int (nI p)] s lo (fun v => v = nI (hthN (l.getD p 0))) (fun _ => False) := by
  refine CSp.of (L := [some (.ref (ad V r)), some (.int (nI p))]) rfl (by decide +kernel) rfl (Nat.le_of_ble_eq_true rfl) rfl ?_
  refine rAload_n dX5_healthAt_0 rfl ?_
  refine rIload_n dX5_healthAt_1 rfl ?_
  refine sCallVp (M' := mX5_has) (rm' := rmD 1 0 0) (As := [.int (nI p)]) (rest := []) dX5_healthAt_2 rfl mk_X5_has mi_X5_has ll_X5_22 ⟨(Nat.le_of_ble_eq_true rfl), (Nat.le_of_ble_eq_true rfl)⟩ hr.1 (by decide) rfl rfl (Nat.le_of_ble_eq_true rfl) (Nat.le_of_ble_eq_true rfl) (c_X5_has hr hn hl h ho) rfl (Nat.le_of_ble_eq_true rfl) (fun v hb => ?_)
  rcases hb with ⟨-, rfl⟩ | ⟨hb, -⟩
  · obtain ⟨y1, y2, y3⟩ := ho p hp
    refine r_if_eq (tgt := 30) dX5_healthAt_5 (by decide) (fun c_5 => ?_) (fun c_5 => ?_)
    · have c_5 : 1 = 0 := (nz_eq (by omega)).mp c_5
      exact absurd c_5 (by omega)
    · have c_5 : ¬ (1 = 0) := fun h => c_5 ((nz_eq (by omega)).mpr h)
      refine rBipush (v := (nI (6))) dX5_healthAt_8 (by decide) ?_
      refine rAload_n dX5_healthAt_10 rfl ?_
      refine sGetR dX5_healthAt_11 fl_X5_9 hr.1 (by decide) rfl ?_
      refine rIload_n dX5_healthAt_14 rfl ?_
      refine nIald (v := (nI (l.getD p 0 / 10))) dX5_healthAt_15 hr.2.1 (by omega) (by omega) (by rw [(h.2 p (by omega)).1]) ?_
      refine sCallSp (M' := mX6_costOf) (rm' := rmD 1 0 0) (As := [.int (nI (l.getD p 0 / 10))]) (rest := [.int (nI 6)]) dX5_healthAt_16 rfl mk_X6_costOf ms_X6_costOf ll_X5_30 ⟨(Nat.le_of_ble_eq_true rfl), (Nat.le_of_ble_eq_true rfl)⟩ rfl (Nat.le_of_ble_eq_true rfl) (Nat.le_of_ble_eq_true rfl) (c_X6_costOf (by omega)) rfl (Nat.le_of_ble_eq_true rfl) (fun v e => ?_)
      refine tTop (w := (nI (cst (l.getD p 0 / 10)))) e ?_
      refine nImul dX5_healthAt_19 ?_
      refine rAload_n dX5_healthAt_20 rfl ?_
      refine sGetR dX5_healthAt_21 fl_X5_15 hr.1 (by decide) rfl ?_
      refine rIload_n dX5_healthAt_24 rfl ?_
      refine nIald (v := (nI (l.getD p 0 % 10))) dX5_healthAt_25 hr.2.2 (by omega) (by omega) (by rw [(h.2 p (by omega)).2]) ?_
      refine nImul dX5_healthAt_26 ?_
      refine rGoto (tgt := 31) dX5_healthAt_27 (by decide) ?_
      exact sIret dX5_healthAt_31 rfl rfl (Nat.le_of_ble_eq_true rfl) (Nat.le_of_ble_eq_true rfl) ⟨_, rfl, rfl, rfl⟩
  · exact absurd ⟨p, hp, rfl⟩ hb
set_option maxRecDepth 100000 in
set_option maxHeartbeats 4000000 in
theorem c_X5_strengthAt {G : gG} {V : wV} {lo : Nat → Int64} {r n : Nat} {l : List Nat} (hr : rowAt V r n) (hn : n ≤ 6) (hl : l.length ≤ n) {s : sgT} (h : rowIs s r l) (ho : okR l) {p : Nat} (hp : p < l.length) : CSp G V mX5_strengthAt cX5_strengthAt (rmD 2 0 0) [.ref (ad V r), .int (nI p)] s lo (fun v => v = nI (strN l (l.getD p 0))) (fun _ => False) := by
  refine CSp.of (L := [some (.ref (ad V r)), some (.int (nI p)), none, none, none]) rfl (by decide +kernel) rfl (Nat.le_of_ble_eq_true rfl) rfl ?_
  refine rAload_n dX5_strengthAt_0 rfl ?_
  refine rIload_n dX5_strengthAt_1 rfl ?_
  refine sCallVp (M' := mX5_has) (rm' := rmD 1 0 0) (As := [.int (nI p)]) (rest := []) dX5_strengthAt_2 rfl mk_X5_has mi_X5_has ll_X5_22 ⟨(Nat.le_of_ble_eq_true rfl), (Nat.le_of_ble_eq_true rfl)⟩ hr.1 (by decide) rfl rfl (Nat.le_of_ble_eq_true rfl) (Nat.le_of_ble_eq_true rfl) (c_X5_has hr hn hl h ho) rfl (Nat.le_of_ble_eq_true rfl) (fun v hb => ?_)
  rcases hb with ⟨-, rfl⟩ | ⟨hb, -⟩
  · obtain ⟨y1, y2, y3⟩ := ho p hp
    obtain ⟨q, hq⟩ : ∃ q, q = l.getD p 0 := ⟨_, rfl⟩
    rw [← hq] at y1 y2 y3
    refine r_if_ne (tgt := 10) dX5_strengthAt_5 (by decide) (fun c_5 => ?_) (fun c_5 => ?_)
    · have c_5 : ¬ (1 = 0) := fun h => c_5 ((nz_eq (by omega)).mpr h)
      refine rAload_n dX5_strengthAt_10 rfl ?_
      refine sGetR dX5_strengthAt_11 fl_X5_9 hr.1 (by decide) rfl ?_
      refine rIload_n dX5_strengthAt_14 rfl ?_
      refine nIald (v := (nI (q / 10))) dX5_strengthAt_15 hr.2.1 (by omega) (by omega) (by rw [(h.2 p (by omega)).1, ← hq]) ?_
      refine rIstore_n dX5_strengthAt_16 (by decide) ?_
      refine rIconst (v := (nI (2))) dX5_strengthAt_17 (by decide) ?_
      refine rIload_n dX5_strengthAt_18 rfl ?_
      refine sCallSp (M' := mX6_costOf) (rm' := rmD 1 0 0) (As := [.int (nI (q / 10))]) (rest := [.int (nI 2)]) dX5_strengthAt_19 rfl mk_X6_costOf ms_X6_costOf ll_X5_30 ⟨(Nat.le_of_ble_eq_true rfl), (Nat.le_of_ble_eq_true rfl)⟩ rfl (Nat.le_of_ble_eq_true rfl) (Nat.le_of_ble_eq_true rfl) (c_X6_costOf (by omega)) rfl (Nat.le_of_ble_eq_true rfl) (fun v e => ?_)
      refine tTop (w := (nI (cst (q / 10)))) e ?_
      refine nImul dX5_strengthAt_22 ?_
      refine rAload_n dX5_strengthAt_23 rfl ?_
      refine sGetR dX5_strengthAt_24 fl_X5_15 hr.1 (by decide) rfl ?_
      refine rIload_n dX5_strengthAt_27 rfl ?_
      refine nIald (v := (nI (q % 10))) dX5_strengthAt_28 hr.2.2 (by omega) (by omega) (by rw [(h.2 p (by omega)).2, ← hq]) ?_
      refine nImul dX5_strengthAt_29 ?_
      refine rIstore_n dX5_strengthAt_30 (by decide) ?_
      refine rIload_n dX5_strengthAt_31 rfl ?_
      refine rIconst (v := (nI (3))) dX5_strengthAt_32 (by decide) ?_
      refine nIrem dX5_strengthAt_33 (by omega) (by decide) (by decide) ?_
      refine rIstore dX5_strengthAt_34 (by decide) ?_
      refine loopW (σ := Unit) (3) (fun i _ => [some (.ref (ad V r)), some (.int (nI p)), some (.int (nI (q / 10))), some (.int (nI (2 * cst (q / 10) * (q % 10) + kinI l (q / 10) i))), some (.int (nI (q / 10 % 3 + 3 * i)))]) (fun i _ => s) (fun i _ => True) (0) () (by omega) trivial (fun i _ hi hinv ih => ?_)
      refine rIload dX5_strengthAt_36 rfl ?_
      refine rBipush (v := (nI (9))) dX5_strengthAt_38 (by decide) ?_
      refine r_icmp_ge (tgt := 67) dX5_strengthAt_40 (by decide) (fun c_40 => ?_) (fun c_40 => ?_)
      · have c_40 : 9 ≤ (q / 10 % 3 + 3 * i) := (nI_leI (by omega) (by omega)).mp c_40
        refine rIload_n dX5_strengthAt_67 rfl ?_
        exact sIret dX5_strengthAt_68 rfl rfl (Nat.le_of_ble_eq_true rfl) (Nat.le_of_ble_eq_true rfl) ⟨_, rfl, rfl, (by rw [← hq]; exact congrArg (fun z => nI (2 * cst (q / 10) * (q % 10) + z)) (kinI_3 (show i = 3 by omega)))⟩
      · have c_40 : ¬ (9 ≤ (q / 10 % 3 + 3 * i)) := fun h => c_40 ((nI_leI (by omega) (by omega)).mpr h)
        have hki := kinI_s (l := l) (k := q / 10) (i := i) (by omega)
        refine rIload dX5_strengthAt_43 rfl ?_
        refine rIload_n dX5_strengthAt_45 rfl ?_
        refine r_icmp_eq (tgt := 61) dX5_strengthAt_46 (by decide) (fun c_46 => ?_) (fun c_46 => ?_)
        · have c_46 : (q / 10 % 3 + 3 * i) = (q / 10) := (nI_eq (by omega) (by omega)).mp c_46
          refine rIinc (v := (nI (q / 10 % 3 + 3 * i + 3))) dX5_strengthAt_61 rfl (by first | exact nI_add _ _ | rfl) (by decide) ?_
          refine rGoto (tgt := 36) dX5_strengthAt_64 (by decide) ?_
          rw [if_neg (fun z => z.1 (by omega)), Nat.add_zero] at hki
          have hz := ih (by omega) () trivial
          rw [hki] at hz
          rw [show q / 10 % 3 + 3 * (i + 1) = q / 10 % 3 + 3 * i + 3 by omega] at hz
          exact hz
        · have c_46 : ¬ ((q / 10 % 3 + 3 * i) = (q / 10)) := fun h => c_46 ((nI_eq (by omega) (by omega)).mpr h)
          refine rAload_n dX5_strengthAt_49 rfl ?_
          refine rIload dX5_strengthAt_50 rfl ?_
          refine sCallVp (M' := mX5_hasKind) (rm' := rmD 1 0 0) (As := [.int (nI (q / 10 % 3 + 3 * i))]) (rest := []) dX5_strengthAt_52 rfl mk_X5_hasKind mi_X5_hasKind ll_X5_33 ⟨(Nat.le_of_ble_eq_true rfl), (Nat.le_of_ble_eq_true rfl)⟩ hr.1 (by decide) rfl rfl (Nat.le_of_ble_eq_true rfl) (Nat.le_of_ble_eq_true rfl) (c_X5_hasKind hr hn hl h ho (by omega)) rfl (Nat.le_of_ble_eq_true rfl) (fun v hb => ?_)
          rcases hb with ⟨hb, rfl⟩ | ⟨hb, rfl⟩
          · refine r_if_eq (tgt := 61) dX5_strengthAt_55 (by decide) (fun c_55 => ?_) (fun c_55 => ?_)
            · have c_55 : 1 = 0 := (nz_eq (by omega)).mp c_55
              exact absurd c_55 (by omega)
            · have c_55 : ¬ (1 = 0) := fun h => c_55 ((nz_eq (by omega)).mpr h)
              refine rIinc (v := (nI (2 * cst (q / 10) * (q % 10) + kinI l (q / 10) i + 1))) dX5_strengthAt_58 rfl (by first | exact nI_add _ _ | rfl) (by decide) ?_
              refine rIinc (v := (nI (q / 10 % 3 + 3 * i + 3))) dX5_strengthAt_61 rfl (by first | exact nI_add _ _ | rfl) (by decide) ?_
              refine rGoto (tgt := 36) dX5_strengthAt_64 (by decide) ?_
              rw [if_pos ⟨(by omega), hb⟩] at hki
              have hz := ih (by omega) () trivial
              rw [hki] at hz
              rw [show q / 10 % 3 + 3 * (i + 1) = q / 10 % 3 + 3 * i + 3 by omega] at hz
              exact hz
          · refine r_if_eq (tgt := 61) dX5_strengthAt_55 (by decide) (fun c_55 => ?_) (fun c_55 => ?_)
            · have c_55 : 0 = 0 := (nz_eq (by omega)).mp c_55
              refine rIinc (v := (nI (q / 10 % 3 + 3 * i + 3))) dX5_strengthAt_61 rfl (by first | exact nI_add _ _ | rfl) (by decide) ?_
              refine rGoto (tgt := 36) dX5_strengthAt_64 (by decide) ?_
              rw [if_neg (fun z => hb z.2), Nat.add_zero] at hki
              have hz := ih (by omega) () trivial
              rw [hki] at hz
              rw [show q / 10 % 3 + 3 * (i + 1) = q / 10 % 3 + 3 * i + 3 by omega] at hz
              exact hz
            · have c_55 : ¬ (0 = 0) := fun h => c_55 ((nz_eq (by omega)).mpr h)
              exact absurd c_55 (by omega)
    · have c_5 : 1 = 0 := (nz_eq (by omega)).mp c_5
      exact absurd c_5 (by omega)
  · exact absurd ⟨p, hp, rfl⟩ hb
end
section
/-! a hall's parts as values, and where they lie -/
/-- the numbers told: in a ring of 100 behind nb -/
def numsIs (s : sgT) (nb : Nat) (q : List Nat) : Prop := ∃ f : Nat, f < 100 ∧ s nb 1 = nI f ∧ s nb 2 = nI q.length ∧ q.length ≤ 100 ∧ ∀ i, i < q.length → s (nb + 1) ((f + i) % 100) = nI (q.getD i 0)
def poolIs (s : sgT) (a : Nat) (pl : Nat → Nat) : Prop := ∀ k, k < 9 → s a k = nI (pl k)
def poolOk (B : Nat) (pl : Nat → Nat) : Prop := ∀ k, k < 9 → pl k ≤ B
def upI (pl : Nat → Nat) (hc : Nat) : Nat → Nat
  | 0 => 0
  | k + 1 => upI pl hc k + if cst k ≤ hc then pl k else 0
def pickF (pl : Nat → Nat) : Nat → Nat → Nat → Option Nat
  | 0, _, _ => none
  | f + 1, k, p => if p < pl k then some k else pickF pl f (k + 1) (p - pl k)
def drawR (pl : Nat → Nat) (n hc : Nat) : Option Nat := if upI pl hc 9 = 0 then none else pickF pl 9 0 (n % upI pl hc 9)
def incP (pl : Nat → Nat) (k n : Nat) : Nat → Nat := fun j => if j = k then pl j + n else pl j
def decP (pl : Nat → Nat) : Option Nat → Nat → Nat
  | none => pl
  | some k => fun j => if j = k then pl j - 1 else pl j
theorem upI_le {pl : Nat → Nat} {hc B : Nat} (h : poolOk B pl) : ∀ k, k ≤ 9 → upI pl hc k ≤ k * B
  | 0, _ => by simp [upI]
  | k + 1, hk => by
    have h1 := upI_le (hc := hc) h k (by omega)
    have h2 := h k (by omega)
    have e : (k + 1) * B = k * B + B := Nat.succ_mul k B
    simp only [upI]
    split <;> omega
theorem pickF_some {pl : Nat → Nat} : ∀ {f k p j : Nat}, pickF pl f k p = some j → k ≤ j ∧ j < k + f ∧ 0 < pl j
  | 0, k, p, j, h => by simp [pickF] at h
  | f + 1, k, p, j, h => by
    simp only [pickF] at h
    split at h
    · cases h
      omega
    · have h2 := pickF_some h
      omega
/-- a player: gold, level, health, streak, locked, shop, bench, board -/
abbrev plT : Type := Nat × Nat × Nat × Int32 × Bool × (Nat → Option Nat) × List Nat × List Nat
abbrev pGold (x : plT) : Nat := x.1
abbrev pLev (x : plT) : Nat := x.2.1
abbrev pHth (x : plT) : Nat := x.2.2.1
abbrev pStk (x : plT) : Int32 := x.2.2.2.1
abbrev pLck (x : plT) : Bool := x.2.2.2.2.1
abbrev pShp (x : plT) : Nat → Option Nat := x.2.2.2.2.2.1
abbrev pBen (x : plT) : List Nat := x.2.2.2.2.2.2.1
abbrev pBrd (x : plT) : List Nat := x.2.2.2.2.2.2.2
def shI : Option Nat → Int32
  | none => -1
  | some k => nI k
def bI (b : Bool) : Int32 := if b then nI 1 else nI 0
def plIs (s : sgT) (P : Nat) (x : plT) : Prop := s P 0 = nI (pGold x) ∧ s P 1 = nI (pLev x) ∧ s P 2 = nI (pHth x) ∧ s P 3 = pStk x ∧ s P 4 = bI (pLck x) ∧ (∀ j, j < 3 → s (P + 1) j = shI (pShp x j)) ∧ rowIs s (P + 2) (pBen x) ∧ rowIs s (P + 5) (pBrd x)
def shOk (sh : Nat → Option Nat) : Prop := ∀ j, j < 3 → ∀ k, sh j = some k → k < 9
def plOk (x : plT) : Prop := pGold x ≤ 100 ∧ 1 ≤ pLev x ∧ pLev x ≤ 5 ∧ pHth x ≤ 20 ∧ shOk (pShp x) ∧ okR (pBen x) ∧ okR (pBrd x) ∧ (pBen x).length ≤ 6 ∧ (pBrd x).length ≤ pLev x
def stkB (x : Int32) : Nat := if nI 1 < x ∨ ¬ -1 ≤ x then 1 else 0
def stkW (x : Int32) : Int32 := if x ≤ 0 then nI 1 else x + nI 1
def stkL (x : Int32) : Int32 := if 0 ≤ x then -1 else x - nI 1
def earnG (g : Nat) (b : Nat) : Nat := min 100 (g + (3 + min 3 (g / 10) + b))
/-- the kinds held in a shop -/
def shpN (sh : Nat → Option Nat) (k : Nat) : Nat → Nat
  | 0 => 0
  | j + 1 => shpN sh k j + if sh j = some k then 1 else 0
/-- merging: board and bench -/
abbrev bbT : Type := List Nat × List Nat
def repU (b : bbT) (u : Nat) : bbT := if u ∈ b.1 then (b.1.set (b.1.idxOf u) (u + 1), b.2) else (b.1, b.2.set (b.2.idxOf u) (u + 1))
def eraU (b : bbT) (u : Nat) : bbT := if u ∈ b.1 then (b.1.eraseIdx (b.1.idxOf u), b.2) else (b.1, b.2.eraseIdx (b.2.idxOf u))
def merU (b : bbT) (u : Nat) : bbT := eraU (eraU (repU b u) u) u
def uJ (j : Nat) : Nat := 10 * (j / 2) + 1 + j % 2
def cntU (b : bbT) (u : Nat) : Nat := b.1.count u + b.2.count u
def fstJ (b : bbT) : Nat → Nat → Option Nat
  | 0, _ => none
  | f + 1, j => if 3 ≤ cntU b (uJ j) then some (uJ j) else fstJ b f (j + 1)
def fstU (b : bbT) : Option Nat := fstJ b 18 0
def merI : Nat → bbT → bbT
  | 0, b => b
  | n + 1, b => match fstU b with
    | none => b
    | some u => merI n (merU b u)
theorem minI {x y : Nat} (hx : x < 2 ^ 31) (hy : y < 2 ^ 31) : (if nI y < nI x then nI y else nI x) = nI (min x y) := by
  by_cases h : y < x
  · rw [if_pos ((nI_ltI hy hx).mpr h)]
    exact congrArg nI (by omega)
  · rw [if_neg (fun e => h ((nI_ltI hy hx).mp e))]
    exact congrArg nI (by omega)
theorem uJ_ok {j : Nat} (h : j < 18) : okU (uJ j) ∧ uJ j % 10 < 3 := by
  unfold okU uJ
  omega
theorem fstJ_some {b : bbT} : ∀ {f j u : Nat}, fstJ b f j = some u → ∃ i, j ≤ i ∧ i < j + f ∧ u = uJ i ∧ 3 ≤ cntU b u
  | 0, j, u, h => by simp [fstJ] at h
  | f + 1, j, u, h => by
    simp only [fstJ] at h
    split at h
    · rename_i hc
      cases h
      exact ⟨j, Nat.le_refl _, by omega, rfl, hc⟩
    · obtain ⟨i, h1, h2, h3⟩ := fstJ_some h
      exact ⟨i, by omega, by omega, h3⟩
theorem count_set {l : List Nat} {u v : Nat} (h : u ∈ l) (hne : v ≠ u) : (l.set (l.idxOf u) v).count u + 1 = l.count u := by
  induction l with
  | nil => cases h
  | cons a l ih =>
    by_cases e : a = u
    · subst e
      simp [List.idxOf_cons, List.count_cons, hne]
    · have hm : u ∈ l := by
        rcases List.mem_cons.mp h with q | q
        · exact absurd q.symm e
        · exact q
      have ih' := ih hm
      have e1 : (a :: l).idxOf u = l.idxOf u + 1 := by rw [List.idxOf_cons, show (a == u) = false by simp [e]]; rfl
      rw [e1, List.set_cons_succ, List.count_cons, List.count_cons]
      simp [e]
      exact ih'
theorem count_era {l : List Nat} {u : Nat} (h : u ∈ l) : (l.eraseIdx (l.idxOf u)).count u + 1 = l.count u ∧ (l.eraseIdx (l.idxOf u)).length + 1 = l.length := by
  induction l with
  | nil => cases h
  | cons a l ih =>
    by_cases e : a = u
    · subst e
      simp [List.idxOf_cons, List.count_cons]
    · have hm : u ∈ l := by
        rcases List.mem_cons.mp h with q | q
        · exact absurd q.symm e
        · exact q
      have ih' := ih hm
      have e1 : (a :: l).idxOf u = l.idxOf u + 1 := by rw [List.idxOf_cons, show (a == u) = false by simp [e]]; rfl
      rw [e1, List.eraseIdx_cons_succ, List.count_cons, List.count_cons]
      simp [e]
      omega
theorem cnt_pos {b : bbT} {u : Nat} (h : 0 < cntU b u) (hn : u ∉ b.1) : u ∈ b.2 := by
  unfold cntU at h
  rw [List.count_eq_zero_of_not_mem hn] at h
  exact List.count_pos_iff.mp (by omega)
theorem cnt_rep {b : bbT} {u : Nat} (h : 0 < cntU b u) : cntU (repU b u) u + 1 = cntU b u ∧ (repU b u).1.length = b.1.length ∧ (repU b u).2.length = b.2.length := by
  unfold repU
  split
  · rename_i hm
    have h9 := count_set (v := u + 1) hm (by omega)
    refine ⟨?_, by simp, rfl⟩
    show (b.1.set _ _).count u + b.2.count u + 1 = b.1.count u + b.2.count u
    omega
  · rename_i hm
    have h9 := count_set (v := u + 1) (cnt_pos h hm) (by omega)
    refine ⟨?_, rfl, by simp⟩
    show b.1.count u + (b.2.set _ _).count u + 1 = b.1.count u + b.2.count u
    omega
theorem cnt_era {b : bbT} {u : Nat} (h : 0 < cntU b u) : cntU (eraU b u) u + 1 = cntU b u ∧ (eraU b u).1.length + (eraU b u).2.length + 1 = b.1.length + b.2.length ∧ (eraU b u).1.length ≤ b.1.length ∧ (eraU b u).2.length ≤ b.2.length := by
  unfold eraU
  split
  · rename_i hm
    have := count_era hm
    simp only [cntU] at *
    omega
  · rename_i hm
    have := count_era (cnt_pos h hm)
    simp only [cntU] at *
    omega
theorem mem_set {l : List Nat} {i v w : Nat} (h : w ∈ l.set i v) : w ∈ l ∨ w = v := List.mem_or_eq_of_mem_set h
theorem ok_rep {b : bbT} {u : Nat} (h1 : okR b.1) (h2 : okR b.2) (hu : okU (u + 1)) : okR (repU b u).1 ∧ okR (repU b u).2 := by
  rw [okR_mem] at h1 h2
  rw [okR_mem, okR_mem]
  unfold repU
  split
  · exact ⟨fun w hw => (mem_set hw).elim (h1 w) (fun e => e ▸ hu), h2⟩
  · exact ⟨h1, fun w hw => (mem_set hw).elim (h2 w) (fun e => e ▸ hu)⟩
theorem ok_era {b : bbT} {u : Nat} (h1 : okR b.1) (h2 : okR b.2) : okR (eraU b u).1 ∧ okR (eraU b u).2 := by
  rw [okR_mem] at h1 h2
  rw [okR_mem, okR_mem]
  unfold eraU
  split
  · exact ⟨fun w hw => h1 w (List.mem_of_mem_eraseIdx hw), h2⟩
  · exact ⟨h1, fun w hw => h2 w (List.mem_of_mem_eraseIdx hw)⟩
theorem mer_ok {b : bbT} {u : Nat} (h1 : okR b.1) (h2 : okR b.2) (hu : okU (u + 1)) (hc : 3 ≤ cntU b u) : okR (merU b u).1 ∧ okR (merU b u).2 ∧ (merU b u).1.length + (merU b u).2.length + 2 = b.1.length + b.2.length ∧ (merU b u).1.length ≤ b.1.length ∧ (merU b u).2.length ≤ b.2.length := by
  unfold merU
  obtain ⟨a1, a2, a3⟩ := cnt_rep (b := b) (u := u) (by omega)
  obtain ⟨b1, b2, b3, b4⟩ := cnt_era (b := repU b u) (u := u) (by omega)
  obtain ⟨c1, c2, c3, c4⟩ := cnt_era (b := eraU (repU b u) u) (u := u) (by omega)
  obtain ⟨d1, d2⟩ := ok_rep h1 h2 hu
  obtain ⟨e1, e2⟩ := ok_era (u := u) d1 d2
  obtain ⟨f1, f2⟩ := ok_era (u := u) e1 e2
  exact ⟨f1, f2, by omega, by omega, by omega⟩
theorem uJ_succ {j : Nat} (h : j < 18) : okU (uJ j + 1) := by
  unfold okU uJ
  omega
theorem mer_fst {b : bbT} {u : Nat} (h : fstU b = some u) : okU u ∧ okU (u + 1) ∧ 3 ≤ cntU b u := by
  obtain ⟨i, -, hi, rfl, hc⟩ := fstJ_some h
  exact ⟨(uJ_ok (by omega)).1, uJ_succ (by omega), hc⟩
theorem merI_ok : ∀ {n : Nat} {b : bbT}, okR b.1 → okR b.2 → okR (merI n b).1 ∧ okR (merI n b).2 ∧ (merI n b).1.length ≤ b.1.length ∧ (merI n b).2.length ≤ b.2.length
  | 0, b, h1, h2 => ⟨h1, h2, Nat.le_refl _, Nat.le_refl _⟩
  | n + 1, b, h1, h2 => by
    simp only [merI]
    split
    · exact ⟨h1, h2, Nat.le_refl _, Nat.le_refl _⟩
    · rename_i u hu
      obtain ⟨g1, g2, g3⟩ := mer_fst hu
      obtain ⟨m1, m2, m3, m4, m5⟩ := mer_ok h1 h2 g2 g3
      obtain ⟨r1, r2, r3, r4⟩ := merI_ok (n := n) m1 m2
      exact ⟨r1, r2, by omega, by omega⟩
/-- fewer locals known -/
def lSub : List (Option Value) → List (Option Value) → Prop
  | [], [] => True
  | none :: l, _ :: l' => lSub l l'
  | some v :: l, some w :: l' => v = w ∧ lSub l l'
  | _, _ => False
theorem lSub_get : ∀ {L' L : List (Option Value)}, lSub L' L → ∀ (i : Nat) (v : Value), L'[i]? = some (some v) → L[i]? = some (some v)
  | [], [], _, i, v, hi => by simp at hi
  | none :: l, w :: l', h, i, v, hi => by
    cases i with
    | zero => simp at hi
    | succ i => exact lSub_get (L' := l) (L := l') (by simpa [lSub] using h) i v (by simpa using hi)
  | some a :: l, some b :: l', h, i, v, hi => by
    obtain ⟨rfl, h2⟩ : a = b ∧ lSub l l' := h
    cases i with
    | zero => simpa using hi
    | succ i => exact lSub_get h2 i v (by simpa using hi)
  | some a :: l, none :: l', h, _, _, _ => (show False from h).elim
  | some a :: l, [], h, _, _, _ => (show False from h).elim
  | none :: l, [], h, _, _, _ => (show False from h).elim
  | [], w :: l', h, _, _, _ => (show False from h).elim
theorem rForget {G : gG} {M : mT} {cc : ByteArray} {rm : Room} {QF : Array Value → State → List Frame → State → Prop} {pc : Nat} {L L' : List (Option Value)} {st : List Value} {ws : va_W} {cells slots : Nat} (h : lSub L' L) (kk : RW G M cc rm QF pc L' st ws cells slots) : RW G M cc rm QF pc L st ws cells slots := by
  intro p e s m args below meth c H locs ls hF hP hD hS hL
  exact kk p e s m args below meth c H locs ls hF hP hD hS ⟨hL.1, hL.2.1, fun i v hi => hL.2.2 i v (lSub_get h i v hi)⟩
theorem plIs_P {s s' : sgT} {P : Nat} {x : plT} (h : plIs s P x) (hb : ∀ b, b ≠ P → s' b = s b) {g l hh : Nat} {k : Int32} {c : Bool} (e0 : s' P 0 = nI g) (e1 : s' P 1 = nI l) (e2 : s' P 2 = nI hh) (e3 : s' P 3 = k) (e4 : s' P 4 = bI c) : plIs s' P (g, l, hh, k, c, pShp x, pBen x, pBrd x) :=
  ⟨e0, e1, e2, e3, e4, fun j hj => by rw [hb _ (by omega)]; exact h.2.2.2.2.2.1 j hj, rowIs_keep h.2.2.2.2.2.2.1 (hb _ (by omega)) (hb _ (by omega)) (hb _ (by omega)), rowIs_keep h.2.2.2.2.2.2.2 (hb _ (by omega)) (hb _ (by omega)) (hb _ (by omega))⟩
theorem plIs_keep {s s' : sgT} {P : Nat} {x : plT} (h : plIs s P x) (hb : ∀ b, P ≤ b → b < P + 8 → s' b = s b) : plIs s' P x :=
  ⟨by rw [hb _ (by omega) (by omega)]; exact h.1, by rw [hb _ (by omega) (by omega)]; exact h.2.1, by rw [hb _ (by omega) (by omega)]; exact h.2.2.1, by rw [hb _ (by omega) (by omega)]; exact h.2.2.2.1, by rw [hb _ (by omega) (by omega)]; exact h.2.2.2.2.1, fun j hj => by rw [hb _ (by omega) (by omega)]; exact h.2.2.2.2.2.1 j hj, rowIs_keep h.2.2.2.2.2.2.1 (hb _ (by omega) (by omega)) (hb _ (by omega) (by omega)) (hb _ (by omega) (by omega)), rowIs_keep h.2.2.2.2.2.2.2 (hb _ (by omega) (by omega)) (hb _ (by omega) (by omega)) (hb _ (by omega) (by omega))⟩
theorem shI_eq {o : Option Nat} {k : Nat} (ho : ∀ j, o = some j → j < 9) (hk : k < 2 ^ 31) : shI o = nI k ↔ o = some k := by
  cases o with
  | none =>
    constructor
    · intro e
      have h1 : (nI k).toInt = (k : Int) := nI_toInt hk
      rw [← e] at h1
      have h2 : (shI none).toInt = -1 := by decide
      omega
    · intro e
      cases e
  | some j =>
    have hj := ho j rfl
    show nI j = nI k ↔ _
    rw [nI_eq (by omega) hk]
    constructor
    · rintro rfl
      rfl
    · intro e
      cases e
      rfl
theorem nI_m1 {n : Nat} (h : n < 2 ^ 31) : ¬ nI n = -1 := by
  intro e
  have h1 : (nI n).toInt = (n : Int) := nI_toInt h
  rw [e] at h1
  have h2 : (-1 : Int32).toInt = -1 := by decide
  omega
theorem idx_lt {l : List Nat} {u : Nat} (h : u ∈ l) : l.idxOf u < l.length ∧ l.getD (l.idxOf u) 0 = u := by
  have h1 : l.idxOf u < l.length := List.idxOf_lt_length_of_mem h
  refine ⟨h1, ?_⟩
  rw [List.getD_eq_getElem?_getD, List.getElem?_eq_getElem h1]
  exact List.getElem_idxOf h1
def eraN (u : Nat) : Nat → bbT → bbT
  | 0, b => b
  | n + 1, b => eraU (eraN u n b) u
/-- the rows of a player, board and bench, and nothing else than these moved -/
def bbIs (s : sgT) (P : Nat) (b : bbT) : Prop := rowIs s (P + 5) b.1 ∧ rowIs s (P + 2) b.2
def bbFr (s s' : sgT) (P : Nat) : Prop := ∀ a, (a < P + 2 ∨ P + 8 ≤ a) → s' a = s a
def bbOk (b : bbT) : Prop := okR b.1 ∧ okR b.2 ∧ b.1.length ≤ 5 ∧ b.2.length ≤ 6
theorem merI_none {b : bbT} (h : fstU b = none) : ∀ n, merI n b = b
  | 0 => rfl
  | n + 1 => by simp only [merI, h]
theorem merI_some {b : bbT} {u n : Nat} (h : fstU b = some u) : merI (n + 1) b = merI n (merU b u) := by simp only [merI, h]
theorem set_get {l : List Nat} {p u i : Nat} (hp : p < l.length) : (l.set p u).getD i 0 = if i = p then u else l.getD i 0 := by
  simp only [List.getD_eq_getElem?_getD, List.getElem?_set]
  by_cases e : i = p
  · subst e
    simp [hp]
  · rw [if_neg (fun z => e z.symm), if_neg e]
end
section
set_option maxRecDepth 100000 in
set_option maxHeartbeats 4000000 in
theorem c_X1_append {G : gG} {V : wV} {lo : Nat → Int64} {nb : Nat} {q : List Nat} (hn : shAt V nb (1, 0, [some (nb + 1), none, none]) ∧ shAt V (nb + 1) (8, 100, [])) {s : sgT} (h : numsIs s nb q) {x : Nat} (hlt : q.length < 100) : CSi G V mX1_append cX1_append (rmD 1 0 0) [.ref (ad V nb), .int (nI x)] s lo (fun v s' => numsIs s' nb (q ++ [x]) ∧ (∀ b, b ≠ nb → b ≠ nb + 1 → s' b = s b) ∧ v = nI 1) (fun _ => False) := by
  refine CSi.of (L := [some (.ref (ad V nb)), some (.int (nI x))]) rfl (by decide +kernel) rfl (Nat.le_of_ble_eq_true rfl) rfl ?_
  obtain ⟨f, hf, h1, h2, hq, h3⟩ := h
  refine rAload_n dX1_append_0 rfl ?_
  refine sGetI (x := (nI (q.length))) dX1_append_1 fl_X1_15 hn.1 (by decide) rfl (by rw [h2]) ?_
  refine rBipush (v := (nI (100))) dX1_append_4 (by decide) ?_
  refine r_icmp_lt (tgt := 11) dX1_append_6 (by decide) (fun c_6 => ?_) (fun c_6 => ?_)
  · have c_6 : (q.length) < 100 := (nI_ltI (by omega) (by omega)).mp c_6
    refine rAload_n dX1_append_11 rfl ?_
    refine sGetR dX1_append_12 fl_X1_9 hn.1 (by decide) rfl ?_
    refine rAload_n dX1_append_15 rfl ?_
    refine sGetI (x := (nI (f))) dX1_append_16 fl_X1_19 hn.1 (by decide) rfl (by rw [h1]) ?_
    refine rAload_n dX1_append_19 rfl ?_
    refine sGetI (x := (nI (q.length))) dX1_append_20 fl_X1_15 hn.1 (by decide) rfl (by rw [h2]) ?_
    refine nIadd dX1_append_23 ?_
    refine rBipush (v := (nI (100))) dX1_append_24 (by decide) ?_
    refine nIrem dX1_append_26 (by omega) (by decide) (by decide) ?_
    refine rIload_n dX1_append_27 rfl ?_
    refine nIast dX1_append_28 hn.2 (by omega) (by omega) ?_
    refine rAload_n dX1_append_29 rfl ?_
    refine rDup dX1_append_30 rfl ?_
    refine sGetI (x := (nI (q.length))) dX1_append_31 fl_X1_15 hn.1 (by decide) rfl (by rw [sw_a (by omega), h2]) ?_
    refine rIconst (v := (nI (1))) dX1_append_34 (by decide) ?_
    refine nIadd dX1_append_35 ?_
    refine sPutI dX1_append_36 fl_X1_15 ft_X1 rfl hn.1 (by decide) rfl rfl rfl ?_
    refine rIconst (v := (nI (1))) dX1_append_39 (by decide) ?_
    exact sIret dX1_append_40 rfl rfl (Nat.le_of_ble_eq_true rfl) (Nat.le_of_ble_eq_true rfl) ⟨_, rfl, ⟨⟨f, hf, (by rw [sw_i (by decide), sw_a (by omega)]; exact h1), (by rw [sw_s, List.length_append]; rfl), (by rw [List.length_append]; simp only [List.length_singleton]; omega), fun i hi => (by
            rw [List.length_append] at hi
            simp only [List.length_singleton] at hi
            rw [sw_a (by omega)]
            rcases Nat.lt_or_ge i q.length with z | z
            · rw [app_get z, sw_i (by omega)]
              exact h3 i z
            · have e : i = q.length := by omega
              subst e
              rw [app_last, sw_s])⟩, fun b h0 h1 => (by rw [sw_a h0, sw_a h1]), rfl⟩⟩
  · have c_6 : ¬ ((q.length) < 100) := fun h => c_6 ((nI_ltI (by omega) (by omega)).mpr h)
    exact absurd c_6 (by omega)
set_option maxRecDepth 100000 in
set_option maxHeartbeats 4000000 in
theorem c_X1_append0 {G : gG} {V : wV} {lo : Nat → Int64} {nb : Nat} {q : List Nat} (hn : shAt V nb (1, 0, [some (nb + 1), none, none]) ∧ shAt V (nb + 1) (8, 100, [])) {s : sgT} (h : numsIs s nb q) {x : Int32} (hlt : q.length = 100) : CSp G V mX1_append cX1_append (rmD 1 0 0) [.ref (ad V nb), .int x] s lo (fun v => v = nI 0) (fun _ => False) := by
  refine CSp.of (L := [some (.ref (ad V nb)), some (.int x)]) rfl (by decide +kernel) rfl (Nat.le_of_ble_eq_true rfl) rfl ?_
  obtain ⟨f, hf, h1, h2, hq, h3⟩ := h
  refine rAload_n dX1_append_0 rfl ?_
  refine sGetI (x := (nI (q.length))) dX1_append_1 fl_X1_15 hn.1 (by decide) rfl (by rw [h2]) ?_
  refine rBipush (v := (nI (100))) dX1_append_4 (by decide) ?_
  refine r_icmp_lt (tgt := 11) dX1_append_6 (by decide) (fun c_6 => ?_) (fun c_6 => ?_)
  · have c_6 : (q.length) < 100 := (nI_ltI (by omega) (by omega)).mp c_6
    exact absurd c_6 (by omega)
  · have c_6 : ¬ ((q.length) < 100) := fun h => c_6 ((nI_ltI (by omega) (by omega)).mpr h)
    refine rIconst (v := (nI (0))) dX1_append_9 (by decide) ?_
    exact sIret dX1_append_10 rfl rfl (Nat.le_of_ble_eq_true rfl) (Nat.le_of_ble_eq_true rfl) ⟨_, rfl, rfl, rfl⟩
set_option maxRecDepth 100000 in
set_option maxHeartbeats 4000000 in
theorem c_X1_take {G : gG} {V : wV} {lo : Nat → Int64} {nb : Nat} {q : List Nat} (hn : shAt V nb (1, 0, [some (nb + 1), none, none]) ∧ shAt V (nb + 1) (8, 100, [])) {s : sgT} (h : numsIs s nb q) : CSi G V mX1_take cX1_take (rmD 1 0 0) [.ref (ad V nb)] s lo (fun v s' => numsIs s' nb q.tail ∧ (∀ b, b ≠ nb → b ≠ nb + 1 → s' b = s b) ∧ v = nI (q.headD 0)) (fun _ => False) := by
  refine CSi.of (L := [some (.ref (ad V nb)), none]) rfl (by decide +kernel) rfl (Nat.le_of_ble_eq_true rfl) rfl ?_
  obtain ⟨f, hf, h1, h2, hq, h3⟩ := h
  refine rAload_n dX1_take_0 rfl ?_
  refine sGetI (x := (nI (q.length))) dX1_take_1 fl_X1_15 hn.1 (by decide) rfl (by rw [h2]) ?_
  refine r_if_ne (tgt := 9) dX1_take_4 (by decide) (fun c_4 => ?_) (fun c_4 => ?_)
  · have c_4 : ¬ ((q.length) = 0) := fun h => c_4 ((nz_eq (by omega)).mpr h)
    obtain ⟨x, q0, rfl⟩ : ∃ x q0, q = x :: q0 := (by cases q with | nil => exact absurd rfl c_4 | cons x q0 => exact ⟨x, q0, rfl⟩)
    have hx : s (nb + 1) f = nI x := (by have z := h3 0 (by simp); rw [show (f + 0) % 100 = f by omega] at z; exact z)
    simp only [List.length_cons] at h2 hq h3
    refine rAload_n dX1_take_9 rfl ?_
    refine sGetR dX1_take_10 fl_X1_9 hn.1 (by decide) rfl ?_
    refine rAload_n dX1_take_13 rfl ?_
    refine sGetI (x := (nI (f))) dX1_take_14 fl_X1_19 hn.1 (by decide) rfl (by rw [h1]) ?_
    refine nIald (v := (nI (x))) dX1_take_17 hn.2 (by omega) (by omega) (by rw [hx]) ?_
    refine rIstore_n dX1_take_18 (by decide) ?_
    refine rAload_n dX1_take_19 rfl ?_
    refine rAload_n dX1_take_20 rfl ?_
    refine sGetI (x := (nI (f))) dX1_take_21 fl_X1_19 hn.1 (by decide) rfl (by rw [h1]) ?_
    refine rIconst (v := (nI (1))) dX1_take_24 (by decide) ?_
    refine nIadd dX1_take_25 ?_
    refine rBipush (v := (nI (100))) dX1_take_26 (by decide) ?_
    refine nIrem dX1_take_28 (by omega) (by decide) (by decide) ?_
    refine sPutI dX1_take_29 fl_X1_19 ft_X1 rfl hn.1 (by decide) rfl rfl rfl ?_
    refine rAload_n dX1_take_32 rfl ?_
    refine rDup dX1_take_33 rfl ?_
    refine sGetI (x := (nI (q0.length + 1))) dX1_take_34 fl_X1_15 hn.1 (by decide) rfl (by rw [sw_i (by decide), h2]) ?_
    refine rIconst (v := (nI (1))) dX1_take_37 (by decide) ?_
    refine nIsub dX1_take_38 (by omega) ?_
    refine sPutI dX1_take_39 fl_X1_15 ft_X1 rfl hn.1 (by decide) rfl rfl rfl ?_
    refine rIload_n dX1_take_42 rfl ?_
    exact sIret dX1_take_43 rfl rfl (Nat.le_of_ble_eq_true rfl) (Nat.le_of_ble_eq_true rfl) ⟨_, rfl, ⟨⟨(f + 1) % 100, (by omega), (by rw [sw_i (by decide), sw_s]), (by rw [sw_s]; rfl), (by show q0.length ≤ 100; omega), fun i hi => (by
            have hi' : i < q0.length := hi
            rw [sw_a (by omega), sw_a (by omega)]
            have z := h3 (i + 1) (by omega)
            rw [show ((f + 1) % 100 + i) % 100 = (f + (i + 1)) % 100 by omega]
            exact z)⟩, fun b h0 h1 => (by rw [sw_a h0, sw_a h0]), rfl⟩⟩
  · have c_4 : (q.length) = 0 := (nz_eq (by omega)).mp c_4
    refine rIconst (v := (nI (0))) dX1_take_7 (by decide) ?_
    have e : q = [] := List.length_eq_zero_iff.mp c_4
    subst e
    exact sIret dX1_take_8 rfl rfl (Nat.le_of_ble_eq_true rfl) (Nat.le_of_ble_eq_true rfl) ⟨_, rfl, ⟨⟨f, hf, h1, h2, hq, h3⟩, fun _ _ _ => rfl, rfl⟩⟩
set_option maxRecDepth 100000 in
set_option maxHeartbeats 4000000 in
theorem c_X3_putBack {G : gG} {V : wV} {lo : Nat → Int64} {pb : Nat} {pl : Nat → Nat} (hn : shAt V pb (3, 0, [some (pb + 1)]) ∧ shAt V (pb + 1) (8, 9, [])) {s : sgT} (h : poolIs s (pb + 1) pl) {k c : Nat} (hk : k < 9) : CSv G V mX3_putBack cX3_putBack (rmD 1 0 0) [.ref (ad V pb), .int (nI k), .int (nI c)] s lo (fun s' => poolIs s' (pb + 1) (incP pl k c) ∧ (∀ b, b ≠ pb + 1 → s' b = s b)) (fun _ => False) := by
  refine CSv.of (L := [some (.ref (ad V pb)), some (.int (nI k)), some (.int (nI c))]) rfl (by decide +kernel) rfl (Nat.le_of_ble_eq_true rfl) rfl ?_
  refine rAload_n dX3_putBack_0 rfl ?_
  refine sGetR dX3_putBack_1 fl_X3_9 hn.1 (by decide) rfl ?_
  refine rIload_n dX3_putBack_4 rfl ?_
  refine rDup2 dX3_putBack_5 rfl rfl ?_
  refine nIald (v := (nI (pl k))) dX3_putBack_6 hn.2 (by omega) (by omega) (by rw [h k hk]) ?_
  refine rIload_n dX3_putBack_7 rfl ?_
  refine nIadd dX3_putBack_8 ?_
  refine nIast dX3_putBack_9 hn.2 (by omega) (by omega) ?_
  exact sVret dX3_putBack_10 rfl (Nat.le_of_ble_eq_true rfl) (Nat.le_of_ble_eq_true rfl) ⟨rfl, ⟨fun j hj => (by
        unfold incP
        by_cases e : j = k
        · subst e
          rw [sw_s, if_pos rfl]
        · rw [sw_i e, if_neg e]
          exact h j hj), fun b hb => sw_a hb⟩⟩
set_option maxRecDepth 100000 in
set_option maxHeartbeats 4000000 in
theorem c_X3_unitsUpTo {G : gG} {V : wV} {lo : Nat → Int64} {pb : Nat} {pl : Nat → Nat} (hn : shAt V pb (3, 0, [some (pb + 1)]) ∧ shAt V (pb + 1) (8, 9, [])) {s : sgT} (h : poolIs s (pb + 1) pl) {B : Nat} (hB : poolOk B pl) (hBB : B ≤ 20000) {hc : Nat} (hh : hc < 2 ^ 31) : CSp G V mX3_unitsUpTo cX3_unitsUpTo (rmD 2 0 0) [.ref (ad V pb), .int (nI hc)] s lo (fun v => v = nI (upI pl hc 9)) (fun _ => False) := by
  refine CSp.of (L := [some (.ref (ad V pb)), some (.int (nI hc)), none, none]) rfl (by decide +kernel) rfl (Nat.le_of_ble_eq_true rfl) rfl ?_
  refine rIconst (v := (nI (0))) dX3_unitsUpTo_0 (by decide) ?_
  refine rIstore_n dX3_unitsUpTo_1 (by decide) ?_
  refine rIconst (v := (nI (0))) dX3_unitsUpTo_2 (by decide) ?_
  refine rIstore_n dX3_unitsUpTo_3 (by decide) ?_
  refine loopW (σ := Unit) (9) (fun i _ => [some (.ref (ad V pb)), some (.int (nI hc)), some (.int (nI (upI pl hc i))), some (.int (nI i))]) (fun i _ => s) (fun i _ => True) (0) () (by omega) trivial (fun i _ hi hinv ih => ?_)
  refine rIload_n dX3_unitsUpTo_4 rfl ?_
  refine rBipush (v := (nI (9))) dX3_unitsUpTo_5 (by decide) ?_
  refine r_icmp_ge (tgt := 33) dX3_unitsUpTo_7 (by decide) (fun c_7 => ?_) (fun c_7 => ?_)
  · have c_7 : 9 ≤ i := (nI_leI (by omega) (by omega)).mp c_7
    refine rIload_n dX3_unitsUpTo_33 rfl ?_
    have e : i = 9 := by omega
    subst e
    exact sIret dX3_unitsUpTo_34 rfl rfl (Nat.le_of_ble_eq_true rfl) (Nat.le_of_ble_eq_true rfl) ⟨_, rfl, rfl, rfl⟩
  · have c_7 : ¬ (9 ≤ i) := fun h => c_7 ((nI_leI (by omega) (by omega)).mpr h)
    refine rIload_n dX3_unitsUpTo_10 rfl ?_
    refine sCallSp (M' := mX6_costOf) (rm' := rmD 1 0 0) (As := [.int (nI i)]) (rest := []) dX3_unitsUpTo_11 rfl mk_X6_costOf ms_X6_costOf ll_X3_15 ⟨(Nat.le_of_ble_eq_true rfl), (Nat.le_of_ble_eq_true rfl)⟩ rfl (Nat.le_of_ble_eq_true rfl) (Nat.le_of_ble_eq_true rfl) (c_X6_costOf (by omega)) rfl (Nat.le_of_ble_eq_true rfl) (fun v e => ?_)
    refine tTop (w := (nI (cst i))) e ?_
    have hcs : cst i < 2 ^ 31 := (by unfold cst; omega)
    have hup : upI pl hc (i + 1) = upI pl hc i + if cst i ≤ hc then pl i else 0 := rfl
    refine rIload_n dX3_unitsUpTo_14 rfl ?_
    refine r_icmp_gt (tgt := 27) dX3_unitsUpTo_15 (by decide) (fun c_15 => ?_) (fun c_15 => ?_)
    · have c_15 : hc < (cst i) := (nI_ltI (by omega) (by omega)).mp c_15
      refine rIinc (v := (nI (i + 1))) dX3_unitsUpTo_27 rfl (by first | exact nI_add _ _ | rfl) (by decide) ?_
      refine rGoto (tgt := 4) dX3_unitsUpTo_30 (by decide) ?_
      rw [if_neg (by omega), Nat.add_zero] at hup
      have hz := ih (by omega) () trivial
      rw [hup] at hz
      exact hz
    · have c_15 : ¬ (hc < (cst i)) := fun h => c_15 ((nI_ltI (by omega) (by omega)).mpr h)
      refine rIload_n dX3_unitsUpTo_18 rfl ?_
      refine rAload_n dX3_unitsUpTo_19 rfl ?_
      refine sGetR dX3_unitsUpTo_20 fl_X3_9 hn.1 (by decide) rfl ?_
      refine rIload_n dX3_unitsUpTo_23 rfl ?_
      refine nIald (v := (nI (pl i))) dX3_unitsUpTo_24 hn.2 (by omega) (by omega) (by rw [h i (by omega)]) ?_
      refine nIadd dX3_unitsUpTo_25 ?_
      refine rIstore_n dX3_unitsUpTo_26 (by decide) ?_
      refine rIinc (v := (nI (i + 1))) dX3_unitsUpTo_27 rfl (by first | exact nI_add _ _ | rfl) (by decide) ?_
      refine rGoto (tgt := 4) dX3_unitsUpTo_30 (by decide) ?_
      rw [if_pos (by omega)] at hup
      have hz := ih (by omega) () trivial
      rw [hup] at hz
      exact hz
set_option maxRecDepth 100000 in
set_option maxHeartbeats 4000000 in
theorem c_X3_draw {G : gG} {V : wV} {lo : Nat → Int64} {pb : Nat} {pl : Nat → Nat} (hn : shAt V pb (3, 0, [some (pb + 1)]) ∧ shAt V (pb + 1) (8, 9, [])) {s : sgT} (h : poolIs s (pb + 1) pl) {B : Nat} (hB : poolOk B pl) (hBB : B ≤ 20000) {n hc : Nat} (hnn : n < 2 ^ 31) (hh : hc < 2 ^ 31) : CSi G V mX3_draw cX3_draw (rmD 3 0 0) [.ref (ad V pb), .int (nI n), .int (nI hc)] s lo (fun v s' => poolIs s' (pb + 1) (decP pl (drawR pl n hc)) ∧ (∀ b, b ≠ pb + 1 → s' b = s b) ∧ v = shI (drawR pl n hc)) (fun _ => False) := by
  refine CSi.of (L := [some (.ref (ad V pb)), some (.int (nI n)), some (.int (nI hc)), none, none, none]) rfl (by decide +kernel) rfl (Nat.le_of_ble_eq_true rfl) rfl ?_
  refine rAload_n dX3_draw_0 rfl ?_
  refine rIload_n dX3_draw_1 rfl ?_
  refine sCallVp (M' := mX3_unitsUpTo) (rm' := rmD 2 0 0) (As := [.int (nI hc)]) (rest := []) dX3_draw_2 rfl mk_X3_unitsUpTo mi_X3_unitsUpTo ll_X3_19 ⟨(Nat.le_of_ble_eq_true rfl), (Nat.le_of_ble_eq_true rfl)⟩ hn.1 (by decide) rfl rfl (Nat.le_of_ble_eq_true rfl) (Nat.le_of_ble_eq_true rfl) (c_X3_unitsUpTo hn h hB hBB hh) rfl (Nat.le_of_ble_eq_true rfl) (fun v e => ?_)
  obtain ⟨up, hup⟩ : ∃ z, z = upI pl hc 9 := ⟨_, rfl⟩
  have hul : up ≤ 9 * B := hup ▸ upI_le hB 9 (Nat.le_refl _)
  refine tTop (w := (nI (up))) (by rw [e, hup]) ?_
  refine rIstore_n dX3_draw_5 (by decide) ?_
  refine rIload_n dX3_draw_6 rfl ?_
  refine r_if_gt (tgt := 12) dX3_draw_7 (by decide) (fun c_7 => ?_) (fun c_7 => ?_)
  · have c_7 : 0 < up := (nz_gt (by omega)).mp c_7
    have hdr : drawR pl n hc = pickF pl 9 0 (n % up) := (by unfold drawR; rw [← hup, if_neg (by omega)])
    have hml := Nat.mod_lt n (show 0 < up by omega)
    refine rIload_n dX3_draw_12 rfl ?_
    refine rIload_n dX3_draw_13 rfl ?_
    refine nIrem dX3_draw_14 (by omega) (by omega) (by omega) ?_
    refine rIstore dX3_draw_15 (by decide) ?_
    refine rIconst (v := (nI (0))) dX3_draw_17 (by decide) ?_
    refine rIstore dX3_draw_18 (by decide) ?_
    refine loopW (σ := Nat) (9) (fun i p => [some (.ref (ad V pb)), some (.int (nI n)), some (.int (nI hc)), some (.int (nI up)), some (.int (nI p)), some (.int (nI i))]) (fun i p => s) (fun i p => p < 2 ^ 31 ∧ pickF pl (9 - i) i p = drawR pl n hc) (0) (n % up) (by omega) ⟨(by omega), hdr.symm⟩ (fun i p hi hinv ih => ?_)
    obtain ⟨hp, hpk⟩ := hinv
    refine rIload dX3_draw_20 rfl ?_
    refine rBipush (v := (nI (9))) dX3_draw_22 (by decide) ?_
    refine r_icmp_ge (tgt := 71) dX3_draw_24 (by decide) (fun c_24 => ?_) (fun c_24 => ?_)
    · have c_24 : 9 ≤ i := (nI_leI (by omega) (by omega)).mp c_24
      refine rIconst (v := (-1)) dX3_draw_71 (by decide) ?_
      have e : i = 9 := by omega
      subst e
      rw [← hpk]
      exact sIret dX3_draw_72 rfl rfl (Nat.le_of_ble_eq_true rfl) (Nat.le_of_ble_eq_true rfl) ⟨_, rfl, ⟨h, fun _ _ => rfl, rfl⟩⟩
    · have c_24 : ¬ (9 ≤ i) := fun h => c_24 ((nI_leI (by omega) (by omega)).mpr h)
      have hpi := hB i (by omega)
      rw [show 9 - i = (9 - (i + 1)) + 1 by omega] at hpk
      simp only [pickF] at hpk
      refine rIload dX3_draw_27 rfl ?_
      refine rAload_n dX3_draw_29 rfl ?_
      refine sGetR dX3_draw_30 fl_X3_9 hn.1 (by decide) rfl ?_
      refine rIload dX3_draw_33 rfl ?_
      refine nIald (v := (nI (pl i))) dX3_draw_35 hn.2 (by omega) (by omega) (by rw [h i (by omega)]) ?_
      refine r_icmp_ge (tgt := 53) dX3_draw_36 (by decide) (fun c_36 => ?_) (fun c_36 => ?_)
      · have c_36 : (pl i) ≤ p := (nI_leI (by omega) (by omega)).mp c_36
        refine rIload dX3_draw_53 rfl ?_
        refine rAload_n dX3_draw_55 rfl ?_
        refine sGetR dX3_draw_56 fl_X3_9 hn.1 (by decide) rfl ?_
        refine rIload dX3_draw_59 rfl ?_
        refine nIald (v := (nI (pl i))) dX3_draw_61 hn.2 (by omega) (by omega) (by rw [h i (by omega)]) ?_
        refine nIsub dX3_draw_62 (by omega) ?_
        refine rIstore dX3_draw_63 (by decide) ?_
        refine rIinc (v := (nI (i + 1))) dX3_draw_65 rfl (by first | exact nI_add _ _ | rfl) (by decide) ?_
        refine rGoto (tgt := 20) dX3_draw_68 (by decide) ?_
        rw [if_neg (by omega)] at hpk
        exact ih (by omega) _ ⟨(by omega), hpk⟩
      · have c_36 : ¬ ((pl i) ≤ p) := fun h => c_36 ((nI_leI (by omega) (by omega)).mpr h)
        rw [if_pos (by omega)] at hpk
        refine rAload_n dX3_draw_39 rfl ?_
        refine sGetR dX3_draw_40 fl_X3_9 hn.1 (by decide) rfl ?_
        refine rIload dX3_draw_43 rfl ?_
        refine rDup2 dX3_draw_45 rfl rfl ?_
        refine nIald (v := (nI (pl i))) dX3_draw_46 hn.2 (by omega) (by omega) (by rw [h i (by omega)]) ?_
        refine rIconst (v := (nI (1))) dX3_draw_47 (by decide) ?_
        refine nIsub dX3_draw_48 (by omega) ?_
        refine nIast dX3_draw_49 hn.2 (by omega) (by omega) ?_
        refine rIload dX3_draw_50 rfl ?_
        rw [← hpk]
        exact sIret dX3_draw_52 rfl rfl (Nat.le_of_ble_eq_true rfl) (Nat.le_of_ble_eq_true rfl) ⟨_, rfl, ⟨fun j hj => (by
                  show _ = nI (if j = i then pl j - 1 else pl j)
                  by_cases e : j = i
                  · subst e
                    rw [sw_s, if_pos rfl]
                  · rw [sw_i e, if_neg e]
                    exact h j hj), fun b hb => sw_a hb, rfl⟩⟩
  · have c_7 : ¬ (0 < up) := fun h => c_7 ((nz_gt (by omega)).mpr h)
    refine rIconst (v := (-1)) dX3_draw_10 (by decide) ?_
    have e : drawR pl n hc = none := (by unfold drawR; rw [← hup, if_pos (by omega)])
    rw [e]
    exact sIret dX3_draw_11 rfl rfl (Nat.le_of_ble_eq_true rfl) (Nat.le_of_ble_eq_true rfl) ⟨_, rfl, ⟨h, fun _ _ => rfl, rfl⟩⟩
end
section
set_option maxRecDepth 100000 in
set_option maxHeartbeats 4000000 in
theorem c_X2_addGold {G : gG} {V : wV} {lo : Nat → Int64} {P : Nat} {x : plT} (hP : plAt V P) {s : sgT} (h : plIs s P x) (ho : plOk x) {d : Nat} (hd : d < 2 ^ 30) : CSv G V mX2_addGold cX2_addGold (rmD 1 0 0) [.ref (ad V P), .int (nI d)] s lo (fun s' => plIs s' P (min 100 (pGold x + d), x.2) ∧ (∀ b, b ≠ P → s' b = s b)) (fun _ => False) := by
  refine CSv.of (L := [some (.ref (ad V P)), some (.int (nI d))]) rfl (by decide +kernel) rfl (Nat.le_of_ble_eq_true rfl) rfl ?_
  obtain ⟨o1, o2, o3, o4, o5, o6, o7, o8, o9⟩ := id ho
  refine rAload_n dX2_addGold_0 rfl ?_
  refine rBipush (v := (nI (100))) dX2_addGold_1 (by decide) ?_
  refine rAload_n dX2_addGold_3 rfl ?_
  refine sGetI (x := (nI (pGold x))) dX2_addGold_4 fl_X2_9 hP.1 (by decide) rfl (by rw [h.1]) ?_
  refine rIload_n dX2_addGold_7 rfl ?_
  refine nIadd dX2_addGold_8 ?_
  refine rMin dX2_addGold_9 lm_X2_37 wd_ms wd_mi wd_mc (Nat.le_of_ble_eq_true rfl) (Nat.le_of_ble_eq_true rfl) (Nat.le_of_ble_eq_true rfl) (Nat.le_of_ble_eq_true rfl) ?_
  refine tTop (w := (nI (min 100 ((pGold x) + d)))) (minI (by omega) (by omega)) ?_
  refine sPutI dX2_addGold_12 fl_X2_9 ft_X2 rfl hP.1 (by decide) rfl rfl rfl ?_
  exact sVret dX2_addGold_15 rfl (Nat.le_of_ble_eq_true rfl) (Nat.le_of_ble_eq_true rfl) ⟨rfl, ⟨plIs_P h (fun b hb => sw_a hb) sw_s (by rw [sw_i (by decide)]; exact h.2.1) (by rw [sw_i (by decide)]; exact h.2.2.1) (by rw [sw_i (by decide)]; exact h.2.2.2.1) (by rw [sw_i (by decide)]; exact h.2.2.2.2.1), fun b hb => sw_a hb⟩⟩
set_option maxRecDepth 100000 in
set_option maxHeartbeats 4000000 in
theorem c_X2_earn {G : gG} {V : wV} {lo : Nat → Int64} {P : Nat} {x : plT} (hP : plAt V P) {s : sgT} (h : plIs s P x) (ho : plOk x) : CSv G V mX2_earn cX2_earn (rmD 2 0 0) [.ref (ad V P)] s lo (fun s' => plIs s' P (earnG (pGold x) (stkB (pStk x)), x.2) ∧ (∀ b, b ≠ P → s' b = s b)) (fun _ => False) := by
  refine CSv.of (L := [some (.ref (ad V P)), none, none]) rfl (by decide +kernel) rfl (Nat.le_of_ble_eq_true rfl) rfl ?_
  obtain ⟨o1, o2, o3, o4, o5, o6, o7, o8, o9⟩ := id ho
  refine rIconst (v := (nI (3))) dX2_earn_0 (by decide) ?_
  refine rAload_n dX2_earn_1 rfl ?_
  refine sGetI (x := (nI (pGold x))) dX2_earn_2 fl_X2_9 hP.1 (by decide) rfl (by rw [h.1]) ?_
  refine rBipush (v := (nI (10))) dX2_earn_5 (by decide) ?_
  refine nIdiv dX2_earn_7 (by omega) (by decide) (by decide) ?_
  refine rMin dX2_earn_8 lm_X2_37 wd_ms wd_mi wd_mc (Nat.le_of_ble_eq_true rfl) (Nat.le_of_ble_eq_true rfl) (Nat.le_of_ble_eq_true rfl) (Nat.le_of_ble_eq_true rfl) ?_
  refine tTop (w := (nI (min 3 ((pGold x) / 10)))) (minI (by omega) (by omega)) ?_
  refine rIstore_n dX2_earn_11 (by decide) ?_
  refine rAload_n dX2_earn_12 rfl ?_
  refine sGetI (x := (pStk x)) dX2_earn_13 fl_X2_43 hP.1 (by decide) rfl (by rw [h.2.2.2.1]) ?_
  refine rIconst (v := (nI (1))) dX2_earn_16 (by decide) ?_
  refine r_icmp_gt (tgt := 28) dX2_earn_17 (by decide) (fun c_17 => ?_) (fun c_17 => ?_)
  · refine rIconst (v := (nI (1))) dX2_earn_28 (by decide) ?_
    refine rGoto (tgt := 33) dX2_earn_29 (by decide) ?_
    refine rIstore_n dX2_earn_33 (by decide) ?_
    refine rAload_n dX2_earn_34 rfl ?_
    refine rIconst (v := (nI (3))) dX2_earn_35 (by decide) ?_
    refine rIload_n dX2_earn_36 rfl ?_
    refine nIadd dX2_earn_37 ?_
    refine rIload_n dX2_earn_38 rfl ?_
    refine nIadd dX2_earn_39 ?_
    refine sCallVv (M' := mX2_addGold) (rm' := rmD 1 0 0) (As := [.int (nI ((3 + (min 3 ((pGold x) / 10))) + 1))]) (rest := []) dX2_earn_40 rfl mk_X2_addGold mi_X2_addGold ll_X2_46 ⟨(Nat.le_of_ble_eq_true rfl), (Nat.le_of_ble_eq_true rfl)⟩ hP.1 (by decide) rfl rfl (Nat.le_of_ble_eq_true rfl) (Nat.le_of_ble_eq_true rfl) (c_X2_addGold hP h ho (by omega)) rfl (Nat.le_of_ble_eq_true rfl) (fun s1 hz => ?_)
    have e : stkB (pStk x) = 1 := if_pos (Or.inl c_17)
    rw [e]
    exact sVret dX2_earn_43 rfl (Nat.le_of_ble_eq_true rfl) (Nat.le_of_ble_eq_true rfl) ⟨rfl, hz⟩
  · refine rAload_n dX2_earn_20 rfl ?_
    refine sGetI (x := (pStk x)) dX2_earn_21 fl_X2_43 hP.1 (by decide) rfl (by rw [h.2.2.2.1]) ?_
    refine rIconst (v := (-1)) dX2_earn_24 (by decide) ?_
    refine r_icmp_ge (tgt := 32) dX2_earn_25 (by decide) (fun c_25 => ?_) (fun c_25 => ?_)
    · refine rIconst (v := (nI (0))) dX2_earn_32 (by decide) ?_
      refine rIstore_n dX2_earn_33 (by decide) ?_
      refine rAload_n dX2_earn_34 rfl ?_
      refine rIconst (v := (nI (3))) dX2_earn_35 (by decide) ?_
      refine rIload_n dX2_earn_36 rfl ?_
      refine nIadd dX2_earn_37 ?_
      refine rIload_n dX2_earn_38 rfl ?_
      refine nIadd dX2_earn_39 ?_
      refine sCallVv (M' := mX2_addGold) (rm' := rmD 1 0 0) (As := [.int (nI ((3 + (min 3 ((pGold x) / 10))) + 0))]) (rest := []) dX2_earn_40 rfl mk_X2_addGold mi_X2_addGold ll_X2_46 ⟨(Nat.le_of_ble_eq_true rfl), (Nat.le_of_ble_eq_true rfl)⟩ hP.1 (by decide) rfl rfl (Nat.le_of_ble_eq_true rfl) (Nat.le_of_ble_eq_true rfl) (c_X2_addGold hP h ho (by omega)) rfl (Nat.le_of_ble_eq_true rfl) (fun s1 hz => ?_)
      have e : stkB (pStk x) = 0 := if_neg (fun z => z.elim c_17 (fun y => y c_25))
      rw [e]
      exact sVret dX2_earn_43 rfl (Nat.le_of_ble_eq_true rfl) (Nat.le_of_ble_eq_true rfl) ⟨rfl, hz⟩
    · refine rIconst (v := (nI (1))) dX2_earn_28 (by decide) ?_
      refine rGoto (tgt := 33) dX2_earn_29 (by decide) ?_
      refine rIstore_n dX2_earn_33 (by decide) ?_
      refine rAload_n dX2_earn_34 rfl ?_
      refine rIconst (v := (nI (3))) dX2_earn_35 (by decide) ?_
      refine rIload_n dX2_earn_36 rfl ?_
      refine nIadd dX2_earn_37 ?_
      refine rIload_n dX2_earn_38 rfl ?_
      refine nIadd dX2_earn_39 ?_
      refine sCallVv (M' := mX2_addGold) (rm' := rmD 1 0 0) (As := [.int (nI ((3 + (min 3 ((pGold x) / 10))) + 1))]) (rest := []) dX2_earn_40 rfl mk_X2_addGold mi_X2_addGold ll_X2_46 ⟨(Nat.le_of_ble_eq_true rfl), (Nat.le_of_ble_eq_true rfl)⟩ hP.1 (by decide) rfl rfl (Nat.le_of_ble_eq_true rfl) (Nat.le_of_ble_eq_true rfl) (c_X2_addGold hP h ho (by omega)) rfl (Nat.le_of_ble_eq_true rfl) (fun s1 hz => ?_)
      have e : stkB (pStk x) = 1 := if_pos (Or.inr c_25)
      rw [e]
      exact sVret dX2_earn_43 rfl (Nat.le_of_ble_eq_true rfl) (Nat.le_of_ble_eq_true rfl) ⟨rfl, hz⟩
set_option maxRecDepth 100000 in
set_option maxHeartbeats 4000000 in
theorem c_X2_win {G : gG} {V : wV} {lo : Nat → Int64} {P : Nat} {x : plT} (hP : plAt V P) {s : sgT} (h : plIs s P x) (ho : plOk x) : CSv G V mX2_win cX2_win (rmD 1 0 0) [.ref (ad V P)] s lo (fun s' => plIs s' P (pGold x, pLev x, pHth x, stkW (pStk x), x.2.2.2.2) ∧ (∀ b, b ≠ P → s' b = s b)) (fun _ => False) := by
  refine CSv.of (L := [some (.ref (ad V P))]) rfl (by decide +kernel) rfl (Nat.le_of_ble_eq_true rfl) rfl ?_
  obtain ⟨o1, o2, o3, o4, o5, o6, o7, o8, o9⟩ := id ho
  refine rAload_n dX2_win_0 rfl ?_
  refine rAload_n dX2_win_1 rfl ?_
  refine sGetI (x := (pStk x)) dX2_win_2 fl_X2_43 hP.1 (by decide) rfl (by rw [h.2.2.2.1]) ?_
  refine r_if_le (tgt := 17) dX2_win_5 (by decide) (fun c_5 => ?_) (fun c_5 => ?_)
  · refine rIconst (v := (nI (1))) dX2_win_17 (by decide) ?_
    refine sPutI dX2_win_18 fl_X2_43 ft_X2 rfl hP.1 (by decide) rfl rfl rfl ?_
    exact sVret dX2_win_21 rfl (Nat.le_of_ble_eq_true rfl) (Nat.le_of_ble_eq_true rfl) ⟨rfl, ⟨plIs_P h (fun b hb => sw_a hb) (by rw [sw_i (by decide)]; exact h.1) (by rw [sw_i (by decide)]; exact h.2.1) (by rw [sw_i (by decide)]; exact h.2.2.1) (by rw [sw_s]; exact (if_pos c_5).symm) (by rw [sw_i (by decide)]; exact h.2.2.2.2.1), fun b hb => sw_a hb⟩⟩
  · refine rAload_n dX2_win_8 rfl ?_
    refine sGetI (x := (pStk x)) dX2_win_9 fl_X2_43 hP.1 (by decide) rfl (by rw [h.2.2.2.1]) ?_
    refine rIconst (v := (nI (1))) dX2_win_12 (by decide) ?_
    refine rIadd dX2_win_13 ?_
    refine rGoto (tgt := 18) dX2_win_14 (by decide) ?_
    refine sPutI dX2_win_18 fl_X2_43 ft_X2 rfl hP.1 (by decide) rfl rfl rfl ?_
    exact sVret dX2_win_21 rfl (Nat.le_of_ble_eq_true rfl) (Nat.le_of_ble_eq_true rfl) ⟨rfl, ⟨plIs_P h (fun b hb => sw_a hb) (by rw [sw_i (by decide)]; exact h.1) (by rw [sw_i (by decide)]; exact h.2.1) (by rw [sw_i (by decide)]; exact h.2.2.1) (by rw [sw_s]; exact (if_neg c_5).symm) (by rw [sw_i (by decide)]; exact h.2.2.2.2.1), fun b hb => sw_a hb⟩⟩
set_option maxRecDepth 100000 in
set_option maxHeartbeats 4000000 in
theorem c_X2_lose {G : gG} {V : wV} {lo : Nat → Int64} {P : Nat} {x : plT} (hP : plAt V P) {s : sgT} (h : plIs s P x) (ho : plOk x) {d : Nat} (hd : d < 2 ^ 30) : CSv G V mX2_lose cX2_lose (rmD 1 0 0) [.ref (ad V P), .int (nI d)] s lo (fun s' => plIs s' P (pGold x, pLev x, pHth x - min d (pHth x), stkL (pStk x), x.2.2.2.2) ∧ (∀ b, b ≠ P → s' b = s b)) (fun _ => False) := by
  refine CSv.of (L := [some (.ref (ad V P)), some (.int (nI d))]) rfl (by decide +kernel) rfl (Nat.le_of_ble_eq_true rfl) rfl ?_
  obtain ⟨o1, o2, o3, o4, o5, o6, o7, o8, o9⟩ := id ho
  refine rAload_n dX2_lose_0 rfl ?_
  refine rAload_n dX2_lose_1 rfl ?_
  refine sGetI (x := (pStk x)) dX2_lose_2 fl_X2_43 hP.1 (by decide) rfl (by rw [h.2.2.2.1]) ?_
  refine r_if_ge (tgt := 17) dX2_lose_5 (by decide) (fun c_5 => ?_) (fun c_5 => ?_)
  · refine rIconst (v := (-1)) dX2_lose_17 (by decide) ?_
    refine sPutI dX2_lose_18 fl_X2_43 ft_X2 rfl hP.1 (by decide) rfl rfl rfl ?_
    refine rAload_n dX2_lose_21 rfl ?_
    refine rDup dX2_lose_22 rfl ?_
    refine sGetI (x := (nI (pHth x))) dX2_lose_23 fl_X2_18 hP.1 (by decide) rfl (by rw [sw_i (by decide), h.2.2.1]) ?_
    refine rIload_n dX2_lose_26 rfl ?_
    refine rAload_n dX2_lose_27 rfl ?_
    refine sGetI (x := (nI (pHth x))) dX2_lose_28 fl_X2_18 hP.1 (by decide) rfl (by rw [sw_i (by decide), h.2.2.1]) ?_
    refine rMin dX2_lose_31 lm_X2_37 wd_ms wd_mi wd_mc (Nat.le_of_ble_eq_true rfl) (Nat.le_of_ble_eq_true rfl) (Nat.le_of_ble_eq_true rfl) (Nat.le_of_ble_eq_true rfl) ?_
    refine tTop (w := (nI (min d (pHth x)))) (minI (by omega) (by omega)) ?_
    refine nIsub dX2_lose_34 (by omega) ?_
    refine sPutI dX2_lose_35 fl_X2_18 ft_X2 rfl hP.1 (by decide) rfl rfl rfl ?_
    exact sVret dX2_lose_38 rfl (Nat.le_of_ble_eq_true rfl) (Nat.le_of_ble_eq_true rfl) ⟨rfl, ⟨plIs_P h (fun b hb => by rw [sw_a hb, sw_a hb]) (by rw [sw_i (by decide), sw_i (by decide)]; exact h.1) (by rw [sw_i (by decide), sw_i (by decide)]; exact h.2.1) sw_s (by rw [sw_i (by decide), sw_s]; exact (if_pos c_5).symm) (by rw [sw_i (by decide), sw_i (by decide)]; exact h.2.2.2.2.1), fun b hb => (by rw [sw_a hb, sw_a hb])⟩⟩
  · refine rAload_n dX2_lose_8 rfl ?_
    refine sGetI (x := (pStk x)) dX2_lose_9 fl_X2_43 hP.1 (by decide) rfl (by rw [h.2.2.2.1]) ?_
    refine rIconst (v := (nI (1))) dX2_lose_12 (by decide) ?_
    refine rIsub dX2_lose_13 ?_
    refine rGoto (tgt := 18) dX2_lose_14 (by decide) ?_
    refine sPutI dX2_lose_18 fl_X2_43 ft_X2 rfl hP.1 (by decide) rfl rfl rfl ?_
    refine rAload_n dX2_lose_21 rfl ?_
    refine rDup dX2_lose_22 rfl ?_
    refine sGetI (x := (nI (pHth x))) dX2_lose_23 fl_X2_18 hP.1 (by decide) rfl (by rw [sw_i (by decide), h.2.2.1]) ?_
    refine rIload_n dX2_lose_26 rfl ?_
    refine rAload_n dX2_lose_27 rfl ?_
    refine sGetI (x := (nI (pHth x))) dX2_lose_28 fl_X2_18 hP.1 (by decide) rfl (by rw [sw_i (by decide), h.2.2.1]) ?_
    refine rMin dX2_lose_31 lm_X2_37 wd_ms wd_mi wd_mc (Nat.le_of_ble_eq_true rfl) (Nat.le_of_ble_eq_true rfl) (Nat.le_of_ble_eq_true rfl) (Nat.le_of_ble_eq_true rfl) ?_
    refine tTop (w := (nI (min d (pHth x)))) (minI (by omega) (by omega)) ?_
    refine nIsub dX2_lose_34 (by omega) ?_
    refine sPutI dX2_lose_35 fl_X2_18 ft_X2 rfl hP.1 (by decide) rfl rfl rfl ?_
    exact sVret dX2_lose_38 rfl (Nat.le_of_ble_eq_true rfl) (Nat.le_of_ble_eq_true rfl) ⟨rfl, ⟨plIs_P h (fun b hb => by rw [sw_a hb, sw_a hb]) (by rw [sw_i (by decide), sw_i (by decide)]; exact h.1) (by rw [sw_i (by decide), sw_i (by decide)]; exact h.2.1) sw_s (by rw [sw_i (by decide), sw_s]; exact (if_neg c_5).symm) (by rw [sw_i (by decide), sw_i (by decide)]; exact h.2.2.2.2.1), fun b hb => (by rw [sw_a hb, sw_a hb])⟩⟩
set_option maxRecDepth 100000 in
set_option maxHeartbeats 4000000 in
theorem c_X2_unitsHeld {G : gG} {V : wV} {lo : Nat → Int64} {P : Nat} {x : plT} (hP : plAt V P) {s : sgT} (h : plIs s P x) (ho : plOk x) {k : Nat} (hk : k < 2 ^ 31) : CSp G V mX2_unitsHeld cX2_unitsHeld (rmD 3 0 0) [.ref (ad V P), .int (nI k)] s lo (fun v => v = nI (heldN (pBen x) k + heldN (pBrd x) k + shpN (pShp x) k 3)) (fun _ => False) := by
  refine CSp.of (L := [some (.ref (ad V P)), some (.int (nI k)), none, none]) rfl (by decide +kernel) rfl (Nat.le_of_ble_eq_true rfl) rfl ?_
  obtain ⟨o1, o2, o3, o4, o5, o6, o7, o8, o9⟩ := id ho
  refine rAload_n dX2_unitsHeld_0 rfl ?_
  refine sGetR dX2_unitsHeld_1 fl_X2_30 hP.1 (by decide) rfl ?_
  refine rIload_n dX2_unitsHeld_4 rfl ?_
  refine sCallVp (M' := mX5_unitsHeld) (rm' := rmD 2 0 0) (As := [.int (nI k)]) (rest := []) dX2_unitsHeld_5 rfl mk_X5_unitsHeld mi_X5_unitsHeld ll_X2_49 ⟨(Nat.le_of_ble_eq_true rfl), (Nat.le_of_ble_eq_true rfl)⟩ hP.2.2.1.1 (by decide) rfl rfl (Nat.le_of_ble_eq_true rfl) (Nat.le_of_ble_eq_true rfl) (c_X5_unitsHeld hP.2.2.1 (by omega) (by omega) h.2.2.2.2.2.2.1 o6 hk) rfl (Nat.le_of_ble_eq_true rfl) (fun v e => ?_)
  refine tTop (w := (nI (heldN (pBen x) k))) e ?_
  refine rAload_n dX2_unitsHeld_8 rfl ?_
  refine sGetR dX2_unitsHeld_9 fl_X2_34 hP.1 (by decide) rfl ?_
  refine rIload_n dX2_unitsHeld_12 rfl ?_
  refine sCallVp (M' := mX5_unitsHeld) (rm' := rmD 2 0 0) (As := [.int (nI k)]) (rest := [.int (nI (heldN (pBen x) k))]) dX2_unitsHeld_13 rfl mk_X5_unitsHeld mi_X5_unitsHeld ll_X2_49 ⟨(Nat.le_of_ble_eq_true rfl), (Nat.le_of_ble_eq_true rfl)⟩ hP.2.2.2.1 (by decide) rfl rfl (Nat.le_of_ble_eq_true rfl) (Nat.le_of_ble_eq_true rfl) (c_X5_unitsHeld hP.2.2.2 (by omega) (by omega) h.2.2.2.2.2.2.2 o7 hk) rfl (Nat.le_of_ble_eq_true rfl) (fun v e1 => ?_)
  refine tTop (w := (nI (heldN (pBrd x) k))) e1 ?_
  refine nIadd dX2_unitsHeld_16 ?_
  refine rIstore_n dX2_unitsHeld_17 (by decide) ?_
  refine rIconst (v := (nI (0))) dX2_unitsHeld_18 (by decide) ?_
  refine rIstore_n dX2_unitsHeld_19 (by decide) ?_
  refine loopW (σ := Unit) (3) (fun i _ => [some (.ref (ad V P)), some (.int (nI k)), some (.int (nI (heldN (pBen x) k + heldN (pBrd x) k + shpN (pShp x) k i))), some (.int (nI i))]) (fun i _ => s) (fun i _ => True) (0) () (by omega) trivial (fun i _ hi hinv ih => ?_)
  refine rIload_n dX2_unitsHeld_20 rfl ?_
  refine rIconst (v := (nI (3))) dX2_unitsHeld_21 (by decide) ?_
  refine r_icmp_ge (tgt := 44) dX2_unitsHeld_22 (by decide) (fun c_22 => ?_) (fun c_22 => ?_)
  · have c_22 : 3 ≤ i := (nI_leI (by omega) (by omega)).mp c_22
    refine rIload_n dX2_unitsHeld_44 rfl ?_
    have e : i = 3 := by omega
    subst e
    exact sIret dX2_unitsHeld_45 rfl rfl (Nat.le_of_ble_eq_true rfl) (Nat.le_of_ble_eq_true rfl) ⟨_, rfl, rfl, rfl⟩
  · have c_22 : ¬ (3 ≤ i) := fun h => c_22 ((nI_leI (by omega) (by omega)).mpr h)
    have hsp : shpN (pShp x) k (i + 1) = shpN (pShp x) k i + if pShp x i = some k then 1 else 0 := rfl
    refine rAload_n dX2_unitsHeld_25 rfl ?_
    refine sGetR dX2_unitsHeld_26 fl_X2_21 hP.1 (by decide) rfl ?_
    refine rIload_n dX2_unitsHeld_29 rfl ?_
    refine nIald (v := (shI (pShp x i))) dX2_unitsHeld_30 hP.2.1 (by omega) (by omega) (by rw [h.2.2.2.2.2.1 i (by omega)]) ?_
    refine rIload_n dX2_unitsHeld_31 rfl ?_
    refine r_icmp_ne (tgt := 38) dX2_unitsHeld_32 (by decide) (fun c_32 => ?_) (fun c_32 => ?_)
    · refine rIinc (v := (nI (i + 1))) dX2_unitsHeld_38 rfl (by first | exact nI_add _ _ | rfl) (by decide) ?_
      refine rGoto (tgt := 20) dX2_unitsHeld_41 (by decide) ?_
      rw [if_neg (fun e => c_32 ((shI_eq (fun j hj => o5 i (by omega) j hj) hk).mpr e)), Nat.add_zero] at hsp
      have hz := ih (by omega) () trivial
      rw [hsp] at hz
      exact hz
    · refine rIinc (v := (nI (heldN (pBen x) k + heldN (pBrd x) k + shpN (pShp x) k i + 1))) dX2_unitsHeld_35 rfl (by first | exact nI_add _ _ | rfl) (by decide) ?_
      refine rIinc (v := (nI (i + 1))) dX2_unitsHeld_38 rfl (by first | exact nI_add _ _ | rfl) (by decide) ?_
      refine rGoto (tgt := 20) dX2_unitsHeld_41 (by decide) ?_
      rw [if_pos ((shI_eq (fun j hj => o5 i (by omega) j hj) hk).mp c_32)] at hsp
      have hz := ih (by omega) () trivial
      rw [hsp] at hz
      exact hz
set_option maxRecDepth 100000 in
set_option maxHeartbeats 4000000 in
theorem c_X2_rowOfFirst {G : gG} {V : wV} {lo : Nat → Int64} {P : Nat} {b : bbT} (hP : plAt V P) {s : sgT} (h : bbIs s P b) (ho : bbOk b) {u k t : Nat} (hu : okU u) (hk : u / 10 = k) (ht : u % 10 = t) : CSq G V mX2_rowOfFirst cX2_rowOfFirst (rmD 2 0 0) [.ref (ad V P), .int (nI k), .int (nI t)] s lo (fun a => a = if u ∈ b.1 then P + 5 else P + 2) (fun _ => False) := by
  refine CSq.of (L := [some (.ref (ad V P)), some (.int (nI k)), some (.int (nI t))]) rfl (by decide +kernel) rfl (Nat.le_of_ble_eq_true rfl) rfl ?_
  obtain ⟨o1, o2, o3, o4⟩ := id ho
  refine rAload_n dX2_rowOfFirst_0 rfl ?_
  refine sGetR dX2_rowOfFirst_1 fl_X2_34 hP.1 (by decide) rfl ?_
  refine rIload_n dX2_rowOfFirst_4 rfl ?_
  refine rIload_n dX2_rowOfFirst_5 rfl ?_
  refine sCallVp (M' := mX5_find) (rm' := rmD 1 0 0) (As := [.int (nI k), .int (nI t)]) (rest := []) dX2_rowOfFirst_6 rfl mk_X5_find mi_X5_find ll_X2_68 ⟨(Nat.le_of_ble_eq_true rfl), (Nat.le_of_ble_eq_true rfl)⟩ hP.2.2.2.1 (by decide) rfl rfl (Nat.le_of_ble_eq_true rfl) (Nat.le_of_ble_eq_true rfl) (c_X5_find hP.2.2.2 (by omega) o3 h.1 o1 hu hk ht) rfl (Nat.le_of_ble_eq_true rfl) (fun v e => ?_)
  rcases e with ⟨e, rfl⟩ | ⟨e, rfl⟩
  · have hi := (idx_lt e).1
    refine rIconst (v := (-1)) dX2_rowOfFirst_9 (by decide) ?_
    refine r_icmp_eq (tgt := 20) dX2_rowOfFirst_10 (by decide) (fun c_10 => ?_) (fun c_10 => ?_)
    · exact absurd c_10 (nI_m1 (by omega))
    · refine rAload_n dX2_rowOfFirst_13 rfl ?_
      refine sGetR dX2_rowOfFirst_14 fl_X2_34 hP.1 (by decide) rfl ?_
      refine rGoto (tgt := 24) dX2_rowOfFirst_17 (by decide) ?_
      exact sAret dX2_rowOfFirst_24 rfl (Nat.le_of_ble_eq_true rfl) (Nat.le_of_ble_eq_true rfl) ⟨_, rfl, rfl, (if_pos e).symm⟩
  · refine rIconst (v := (-1)) dX2_rowOfFirst_9 (by decide) ?_
    refine r_icmp_eq (tgt := 20) dX2_rowOfFirst_10 (by decide) (fun c_10 => ?_) (fun c_10 => ?_)
    · refine rAload_n dX2_rowOfFirst_20 rfl ?_
      refine sGetR dX2_rowOfFirst_21 fl_X2_30 hP.1 (by decide) rfl ?_
      exact sAret dX2_rowOfFirst_24 rfl (Nat.le_of_ble_eq_true rfl) (Nat.le_of_ble_eq_true rfl) ⟨_, rfl, rfl, (if_neg e).symm⟩
    · exact absurd rfl c_10
set_option maxRecDepth 100000 in
set_option maxHeartbeats 4000000 in
theorem c_X2_mergeThree {G : gG} {V : wV} {lo : Nat → Int64} {P : Nat} {b : bbT} (hP : plAt V P) {s : sgT} (h : bbIs s P b) (ho : bbOk b) {u k t : Nat} (hu : okU u) (hk : u / 10 = k) (ht : u % 10 = t) (hu1 : okU (u + 1)) (hc : 3 ≤ cntU b u) : CSv G V mX2_mergeThree cX2_mergeThree (rmD 3 0 0) [.ref (ad V P), .int (nI k), .int (nI t)] s lo (fun s' => bbIs s' P (merU b u) ∧ bbFr s s' P) (fun _ => False) := by
  refine CSv.of (L := [some (.ref (ad V P)), some (.int (nI k)), some (.int (nI t)), none, none, none, none]) rfl (by decide +kernel) rfl (Nat.le_of_ble_eq_true rfl) rfl ?_
  obtain ⟨o1, o2, o3, o4⟩ := id ho
  obtain ⟨r1, r2, r3⟩ := cnt_rep (b := b) (u := u) (by omega)
  obtain ⟨q1, q2⟩ := ok_rep o1 o2 hu1
  obtain ⟨y1, y2, y3⟩ := id hu
  obtain ⟨z1, z2, z3⟩ := id hu1
  refine rAload_n dX2_mergeThree_0 rfl ?_
  refine rIload_n dX2_mergeThree_1 rfl ?_
  refine rIload_n dX2_mergeThree_2 rfl ?_
  refine sCallVq (M' := mX2_rowOfFirst) (rm' := rmD 2 0 0) (As := [.int (nI k), .int (nI t)]) (rest := []) dX2_mergeThree_3 rfl mk_X2_rowOfFirst mi_X2_rowOfFirst ll_X2_64 ⟨(Nat.le_of_ble_eq_true rfl), (Nat.le_of_ble_eq_true rfl)⟩ hP.1 (by decide) rfl rfl (Nat.le_of_ble_eq_true rfl) (Nat.le_of_ble_eq_true rfl) (c_X2_rowOfFirst hP h ho hu hk ht) rfl (Nat.le_of_ble_eq_true rfl) (fun a ea => ?_)
  by_cases hm : u ∈ b.1
  · rw [if_pos hm] at ea
    subst ea
    obtain ⟨i1, i2⟩ := idx_lt hm
    refine rAstore_n dX2_mergeThree_6 (by decide) ?_
    refine rAload_n dX2_mergeThree_7 rfl ?_
    refine rIload_n dX2_mergeThree_8 rfl ?_
    refine rIload_n dX2_mergeThree_9 rfl ?_
    refine sCallVp (M' := mX5_find) (rm' := rmD 1 0 0) (As := [.int (nI k), .int (nI t)]) (rest := []) dX2_mergeThree_10 rfl mk_X5_find mi_X5_find ll_X2_68 ⟨(Nat.le_of_ble_eq_true rfl), (Nat.le_of_ble_eq_true rfl)⟩ hP.2.2.2.1 (by decide) rfl rfl (Nat.le_of_ble_eq_true rfl) (Nat.le_of_ble_eq_true rfl) (c_X5_find hP.2.2.2 (by omega) (by omega) h.1 o1 hu hk ht) rfl (Nat.le_of_ble_eq_true rfl) (fun v e => ?_)
    rcases e with ⟨-, rfl⟩ | ⟨e, -⟩
    · refine rIstore dX2_mergeThree_13 (by decide) ?_
      refine rIload dX2_mergeThree_15 rfl ?_
      refine rIconst (v := (-1)) dX2_mergeThree_17 (by decide) ?_
      refine r_icmp_eq (tgt := 32) dX2_mergeThree_18 (by decide) (fun c_18 => ?_) (fun c_18 => ?_)
      · exact absurd c_18 (nI_m1 (by omega))
      · refine rAload_n dX2_mergeThree_21 rfl ?_
        refine sGetR dX2_mergeThree_22 fl_X2_71 hP.2.2.2.1 (by decide) rfl ?_
        refine rIload dX2_mergeThree_25 rfl ?_
        refine rDup2 dX2_mergeThree_27 rfl rfl ?_
        refine nIald (v := (nI (t))) dX2_mergeThree_28 hP.2.2.2.2.2 (by omega) (by omega) (by rw [(h.1.2 _ (by omega)).2, i2, ht]) ?_
        refine rIconst (v := (nI (1))) dX2_mergeThree_29 (by decide) ?_
        refine nIadd dX2_mergeThree_30 ?_
        refine nIast dX2_mergeThree_31 hP.2.2.2.2.2 (by omega) (by omega) ?_
        refine rIconst (v := (nI (0))) dX2_mergeThree_32 (by decide) ?_
        refine rIstore dX2_mergeThree_33 (by decide) ?_
        obtain ⟨b0, hb0⟩ : ∃ z, z = repU b u := ⟨_, rfl⟩
        have hb1 : b0 = (b.1.set (b.1.idxOf u) (u + 1), b.2) := by rw [hb0]; exact if_pos hm
        have hbb : bbIs (sw s (P + 5 + 2) (b.1.idxOf u) (nI (t + 1))) P b0 := by
          rw [hb1]
          exact ⟨⟨by rw [sw_a (by omega), List.length_set]; exact h.1.1, fun i hi => (by
                    rw [List.length_set] at hi
                    have hi' := h.1.2 i hi
                    rw [set_get i1, sw_a (by omega)]
                    by_cases e : i = b.1.idxOf u
                    · subst e
                      rw [if_pos rfl, sw_s, hi'.1, i2]
                      exact ⟨congrArg nI (by omega), congrArg nI (by omega)⟩
                    · rw [if_neg e, sw_i e]
                      exact hi')⟩, rowIs_keep h.2 (sw_a (by omega)) (sw_a (by omega)) (sw_a (by omega))⟩
        rw [← hb0] at r1 r2 r3 q1 q2
        refine loopW (σ := sgT) (2) (fun i y => [some (.ref (ad V P)), some (.int (nI k)), some (.int (nI t)), some (.ref (ad V (P + 5))), some (.int (nI (b.1.idxOf u))), some (.int (nI i)), none]) (fun i y => y) (fun i y => bbIs y P (eraN u i b0) ∧ bbFr s y P ∧ bbOk (eraN u i b0) ∧ 2 ≤ cntU (eraN u i b0) u + i) (0) (sw s (P + 5 + 2) (b.1.idxOf u) (nI (t + 1))) (by omega) ⟨hbb, fun a ha => sw_a (by omega), ⟨q1, q2, by show b0.1.length ≤ 5; omega, by show b0.2.length ≤ 6; omega⟩, by show 2 ≤ cntU b0 u + 0; omega⟩ (fun i y hi hinv ih => ?_)
        obtain ⟨v1, v2, v3, v4⟩ := hinv
        obtain ⟨c, hc0⟩ : ∃ z, z = eraN u i b0 := ⟨_, rfl⟩
        rw [← hc0] at v1 v3 v4
        refine rIload dX2_mergeThree_35 rfl ?_
        refine rIconst (v := (nI (2))) dX2_mergeThree_37 (by decide) ?_
        refine r_icmp_ge (tgt := 67) dX2_mergeThree_38 (by decide) (fun c_38 => ?_) (fun c_38 => ?_)
        · have c_38 : 2 ≤ i := (nI_leI (by omega) (by omega)).mp c_38
          have e : i = 2 := by omega
          subst e
          rw [hc0, hb0] at v1
          exact sVret dX2_mergeThree_67 rfl (Nat.le_of_ble_eq_true rfl) (Nat.le_of_ble_eq_true rfl) ⟨rfl, ⟨v1, v2⟩⟩
        · have c_38 : ¬ (2 ≤ i) := fun h => c_38 ((nI_leI (by omega) (by omega)).mpr h)
          obtain ⟨o1, o2, o3, o4⟩ := id v3
          obtain ⟨w1, w2, w3, w4⟩ := cnt_era (b := c) (u := u) (by omega)
          obtain ⟨w5, w6⟩ := ok_era (u := u) o1 o2
          refine rAload_n dX2_mergeThree_41 rfl ?_
          refine rIload_n dX2_mergeThree_42 rfl ?_
          refine rIload_n dX2_mergeThree_43 rfl ?_
          refine sCallVq (M' := mX2_rowOfFirst) (rm' := rmD 2 0 0) (As := [.int (nI k), .int (nI t)]) (rest := []) dX2_mergeThree_44 rfl mk_X2_rowOfFirst mi_X2_rowOfFirst ll_X2_64 ⟨(Nat.le_of_ble_eq_true rfl), (Nat.le_of_ble_eq_true rfl)⟩ hP.1 (by decide) rfl rfl (Nat.le_of_ble_eq_true rfl) (Nat.le_of_ble_eq_true rfl) (c_X2_rowOfFirst hP v1 v3 hu hk ht) rfl (Nat.le_of_ble_eq_true rfl) (fun a ea => ?_)
          by_cases hm3 : u ∈ c.1
          · rw [if_pos hm3] at ea
            subst ea
            obtain ⟨j1, j2⟩ := idx_lt hm3
            refine rAstore dX2_mergeThree_47 (by decide) ?_
            refine rAload dX2_mergeThree_49 rfl ?_
            refine rAload dX2_mergeThree_51 rfl ?_
            refine rIload_n dX2_mergeThree_53 rfl ?_
            refine rIload_n dX2_mergeThree_54 rfl ?_
            refine sCallVp (M' := mX5_find) (rm' := rmD 1 0 0) (As := [.int (nI k), .int (nI t)]) (rest := [.ref (ad V (P + 5))]) dX2_mergeThree_55 rfl mk_X5_find mi_X5_find ll_X2_68 ⟨(Nat.le_of_ble_eq_true rfl), (Nat.le_of_ble_eq_true rfl)⟩ hP.2.2.2.1 (by decide) rfl rfl (Nat.le_of_ble_eq_true rfl) (Nat.le_of_ble_eq_true rfl) (c_X5_find hP.2.2.2 (by omega) (by omega) v1.1 o1 hu hk ht) rfl (Nat.le_of_ble_eq_true rfl) (fun v e => ?_)
            rcases e with ⟨-, rfl⟩ | ⟨e, -⟩
            · refine sCallVv (M' := mX5_removeAt) (rm' := rmD 2 0 0) (As := [.int (nI (c.1.idxOf u))]) (rest := []) dX2_mergeThree_58 rfl mk_X5_removeAt mi_X5_removeAt ll_X2_74 ⟨(Nat.le_of_ble_eq_true rfl), (Nat.le_of_ble_eq_true rfl)⟩ hP.2.2.2.1 (by decide) rfl rfl (Nat.le_of_ble_eq_true rfl) (Nat.le_of_ble_eq_true rfl) (c_X5_removeAt hP.2.2.2 (by omega) (by omega) v1.1 o1 j1) rfl (Nat.le_of_ble_eq_true rfl) (fun s1 hz => ?_)
              obtain ⟨hz1, hz2⟩ := hz
              refine rIinc (v := (nI (i + 1))) dX2_mergeThree_61 rfl (by first | exact nI_add _ _ | rfl) (by decide) ?_
              refine rGoto (tgt := 35) dX2_mergeThree_64 (by decide) ?_
              refine rForget (L := [some (.ref (ad V P)), some (.int (nI k)), some (.int (nI t)), some (.ref (ad V (P + 5))), some (.int (nI (b.1.idxOf u))), some (.int (nI (i + 1))), some (.ref (ad V (P + 5)))]) (L' := [some (.ref (ad V P)), some (.int (nI k)), some (.int (nI t)), some (.ref (ad V (P + 5))), some (.int (nI (b.1.idxOf u))), some (.int (nI (i + 1))), none]) (by exact ⟨rfl, ⟨rfl, ⟨rfl, ⟨rfl, ⟨rfl, ⟨rfl, trivial⟩⟩⟩⟩⟩⟩) ?_
              have e9 : eraN u (i + 1) b0 = (c.1.eraseIdx (c.1.idxOf u), c.2) := by
                show eraU (eraN u i b0) u = _
                rw [← hc0]
                exact if_pos hm3
              have e8 : eraN u (i + 1) b0 = eraU c u := by rw [hc0]; rfl
              exact ih (by omega) s1 ⟨by rw [e9]; exact ⟨hz1, rowIs_keep v1.2 (hz2 _ (by omega) (by omega) (by omega)) (hz2 _ (by omega) (by omega) (by omega)) (hz2 _ (by omega) (by omega) (by omega))⟩, fun a ha => (hz2 a (by omega) (by omega) (by omega)).trans (v2 a ha), by rw [e8]; exact ⟨w5, w6, by omega, by omega⟩, by rw [e8]; omega⟩
            · exact absurd hm3 e
          · rw [if_neg hm3] at ea
            subst ea
            have hm4 := cnt_pos (show 0 < cntU c u by omega) hm3
            obtain ⟨j1, j2⟩ := idx_lt hm4
            refine rAstore dX2_mergeThree_47 (by decide) ?_
            refine rAload dX2_mergeThree_49 rfl ?_
            refine rAload dX2_mergeThree_51 rfl ?_
            refine rIload_n dX2_mergeThree_53 rfl ?_
            refine rIload_n dX2_mergeThree_54 rfl ?_
            refine sCallVp (M' := mX5_find) (rm' := rmD 1 0 0) (As := [.int (nI k), .int (nI t)]) (rest := [.ref (ad V (P + 2))]) dX2_mergeThree_55 rfl mk_X5_find mi_X5_find ll_X2_68 ⟨(Nat.le_of_ble_eq_true rfl), (Nat.le_of_ble_eq_true rfl)⟩ hP.2.2.1.1 (by decide) rfl rfl (Nat.le_of_ble_eq_true rfl) (Nat.le_of_ble_eq_true rfl) (c_X5_find hP.2.2.1 (by omega) (by omega) v1.2 o2 hu hk ht) rfl (Nat.le_of_ble_eq_true rfl) (fun v e => ?_)
            rcases e with ⟨-, rfl⟩ | ⟨e, -⟩
            · refine sCallVv (M' := mX5_removeAt) (rm' := rmD 2 0 0) (As := [.int (nI (c.2.idxOf u))]) (rest := []) dX2_mergeThree_58 rfl mk_X5_removeAt mi_X5_removeAt ll_X2_74 ⟨(Nat.le_of_ble_eq_true rfl), (Nat.le_of_ble_eq_true rfl)⟩ hP.2.2.1.1 (by decide) rfl rfl (Nat.le_of_ble_eq_true rfl) (Nat.le_of_ble_eq_true rfl) (c_X5_removeAt hP.2.2.1 (by omega) (by omega) v1.2 o2 j1) rfl (Nat.le_of_ble_eq_true rfl) (fun s1 hz => ?_)
              obtain ⟨hz1, hz2⟩ := hz
              refine rIinc (v := (nI (i + 1))) dX2_mergeThree_61 rfl (by first | exact nI_add _ _ | rfl) (by decide) ?_
              refine rGoto (tgt := 35) dX2_mergeThree_64 (by decide) ?_
              refine rForget (L := [some (.ref (ad V P)), some (.int (nI k)), some (.int (nI t)), some (.ref (ad V (P + 5))), some (.int (nI (b.1.idxOf u))), some (.int (nI (i + 1))), some (.ref (ad V (P + 2)))]) (L' := [some (.ref (ad V P)), some (.int (nI k)), some (.int (nI t)), some (.ref (ad V (P + 5))), some (.int (nI (b.1.idxOf u))), some (.int (nI (i + 1))), none]) (by exact ⟨rfl, ⟨rfl, ⟨rfl, ⟨rfl, ⟨rfl, ⟨rfl, trivial⟩⟩⟩⟩⟩⟩) ?_
              have e9 : eraN u (i + 1) b0 = (c.1, c.2.eraseIdx (c.2.idxOf u)) := by
                show eraU (eraN u i b0) u = _
                rw [← hc0]
                exact if_neg hm3
              have e8 : eraN u (i + 1) b0 = eraU c u := by rw [hc0]; rfl
              exact ih (by omega) s1 ⟨by rw [e9]; exact ⟨rowIs_keep v1.1 (hz2 _ (by omega) (by omega) (by omega)) (hz2 _ (by omega) (by omega) (by omega)) (hz2 _ (by omega) (by omega) (by omega)), hz1⟩, fun a ha => (hz2 a (by omega) (by omega) (by omega)).trans (v2 a ha), by rw [e8]; exact ⟨w5, w6, by omega, by omega⟩, by rw [e8]; omega⟩
            · exact absurd hm4 e
    · exact absurd hm e
  · rw [if_neg hm] at ea
    subst ea
    have hm2 := cnt_pos (show 0 < cntU b u by omega) hm
    obtain ⟨i1, i2⟩ := idx_lt hm2
    refine rAstore_n dX2_mergeThree_6 (by decide) ?_
    refine rAload_n dX2_mergeThree_7 rfl ?_
    refine rIload_n dX2_mergeThree_8 rfl ?_
    refine rIload_n dX2_mergeThree_9 rfl ?_
    refine sCallVp (M' := mX5_find) (rm' := rmD 1 0 0) (As := [.int (nI k), .int (nI t)]) (rest := []) dX2_mergeThree_10 rfl mk_X5_find mi_X5_find ll_X2_68 ⟨(Nat.le_of_ble_eq_true rfl), (Nat.le_of_ble_eq_true rfl)⟩ hP.2.2.1.1 (by decide) rfl rfl (Nat.le_of_ble_eq_true rfl) (Nat.le_of_ble_eq_true rfl) (c_X5_find hP.2.2.1 (by omega) (by omega) h.2 o2 hu hk ht) rfl (Nat.le_of_ble_eq_true rfl) (fun v e => ?_)
    rcases e with ⟨-, rfl⟩ | ⟨e, -⟩
    · refine rIstore dX2_mergeThree_13 (by decide) ?_
      refine rIload dX2_mergeThree_15 rfl ?_
      refine rIconst (v := (-1)) dX2_mergeThree_17 (by decide) ?_
      refine r_icmp_eq (tgt := 32) dX2_mergeThree_18 (by decide) (fun c_18 => ?_) (fun c_18 => ?_)
      · exact absurd c_18 (nI_m1 (by omega))
      · refine rAload_n dX2_mergeThree_21 rfl ?_
        refine sGetR dX2_mergeThree_22 fl_X2_71 hP.2.2.1.1 (by decide) rfl ?_
        refine rIload dX2_mergeThree_25 rfl ?_
        refine rDup2 dX2_mergeThree_27 rfl rfl ?_
        refine nIald (v := (nI (t))) dX2_mergeThree_28 hP.2.2.1.2.2 (by omega) (by omega) (by rw [(h.2.2 _ (by omega)).2, i2, ht]) ?_
        refine rIconst (v := (nI (1))) dX2_mergeThree_29 (by decide) ?_
        refine nIadd dX2_mergeThree_30 ?_
        refine nIast dX2_mergeThree_31 hP.2.2.1.2.2 (by omega) (by omega) ?_
        refine rIconst (v := (nI (0))) dX2_mergeThree_32 (by decide) ?_
        refine rIstore dX2_mergeThree_33 (by decide) ?_
        obtain ⟨b0, hb0⟩ : ∃ z, z = repU b u := ⟨_, rfl⟩
        have hb1 : b0 = (b.1, b.2.set (b.2.idxOf u) (u + 1)) := by rw [hb0]; exact if_neg hm
        have hbb : bbIs (sw s (P + 2 + 2) (b.2.idxOf u) (nI (t + 1))) P b0 := by
          rw [hb1]
          exact ⟨rowIs_keep h.1 (sw_a (by omega)) (sw_a (by omega)) (sw_a (by omega)), ⟨by rw [sw_a (by omega), List.length_set]; exact h.2.1, fun i hi => (by
                    rw [List.length_set] at hi
                    have hi' := h.2.2 i hi
                    rw [set_get i1, sw_a (by omega)]
                    by_cases e : i = b.2.idxOf u
                    · subst e
                      rw [if_pos rfl, sw_s, hi'.1, i2]
                      exact ⟨congrArg nI (by omega), congrArg nI (by omega)⟩
                    · rw [if_neg e, sw_i e]
                      exact hi')⟩⟩
        rw [← hb0] at r1 r2 r3 q1 q2
        refine loopW (σ := sgT) (2) (fun i y => [some (.ref (ad V P)), some (.int (nI k)), some (.int (nI t)), some (.ref (ad V (P + 2))), some (.int (nI (b.2.idxOf u))), some (.int (nI i)), none]) (fun i y => y) (fun i y => bbIs y P (eraN u i b0) ∧ bbFr s y P ∧ bbOk (eraN u i b0) ∧ 2 ≤ cntU (eraN u i b0) u + i) (0) (sw s (P + 2 + 2) (b.2.idxOf u) (nI (t + 1))) (by omega) ⟨hbb, fun a ha => sw_a (by omega), ⟨q1, q2, by show b0.1.length ≤ 5; omega, by show b0.2.length ≤ 6; omega⟩, by show 2 ≤ cntU b0 u + 0; omega⟩ (fun i y hi hinv ih => ?_)
        obtain ⟨v1, v2, v3, v4⟩ := hinv
        obtain ⟨c, hc0⟩ : ∃ z, z = eraN u i b0 := ⟨_, rfl⟩
        rw [← hc0] at v1 v3 v4
        refine rIload dX2_mergeThree_35 rfl ?_
        refine rIconst (v := (nI (2))) dX2_mergeThree_37 (by decide) ?_
        refine r_icmp_ge (tgt := 67) dX2_mergeThree_38 (by decide) (fun c_38 => ?_) (fun c_38 => ?_)
        · have c_38 : 2 ≤ i := (nI_leI (by omega) (by omega)).mp c_38
          have e : i = 2 := by omega
          subst e
          rw [hc0, hb0] at v1
          exact sVret dX2_mergeThree_67 rfl (Nat.le_of_ble_eq_true rfl) (Nat.le_of_ble_eq_true rfl) ⟨rfl, ⟨v1, v2⟩⟩
        · have c_38 : ¬ (2 ≤ i) := fun h => c_38 ((nI_leI (by omega) (by omega)).mpr h)
          obtain ⟨o1, o2, o3, o4⟩ := id v3
          obtain ⟨w1, w2, w3, w4⟩ := cnt_era (b := c) (u := u) (by omega)
          obtain ⟨w5, w6⟩ := ok_era (u := u) o1 o2
          refine rAload_n dX2_mergeThree_41 rfl ?_
          refine rIload_n dX2_mergeThree_42 rfl ?_
          refine rIload_n dX2_mergeThree_43 rfl ?_
          refine sCallVq (M' := mX2_rowOfFirst) (rm' := rmD 2 0 0) (As := [.int (nI k), .int (nI t)]) (rest := []) dX2_mergeThree_44 rfl mk_X2_rowOfFirst mi_X2_rowOfFirst ll_X2_64 ⟨(Nat.le_of_ble_eq_true rfl), (Nat.le_of_ble_eq_true rfl)⟩ hP.1 (by decide) rfl rfl (Nat.le_of_ble_eq_true rfl) (Nat.le_of_ble_eq_true rfl) (c_X2_rowOfFirst hP v1 v3 hu hk ht) rfl (Nat.le_of_ble_eq_true rfl) (fun a ea => ?_)
          by_cases hm3 : u ∈ c.1
          · rw [if_pos hm3] at ea
            subst ea
            obtain ⟨j1, j2⟩ := idx_lt hm3
            refine rAstore dX2_mergeThree_47 (by decide) ?_
            refine rAload dX2_mergeThree_49 rfl ?_
            refine rAload dX2_mergeThree_51 rfl ?_
            refine rIload_n dX2_mergeThree_53 rfl ?_
            refine rIload_n dX2_mergeThree_54 rfl ?_
            refine sCallVp (M' := mX5_find) (rm' := rmD 1 0 0) (As := [.int (nI k), .int (nI t)]) (rest := [.ref (ad V (P + 5))]) dX2_mergeThree_55 rfl mk_X5_find mi_X5_find ll_X2_68 ⟨(Nat.le_of_ble_eq_true rfl), (Nat.le_of_ble_eq_true rfl)⟩ hP.2.2.2.1 (by decide) rfl rfl (Nat.le_of_ble_eq_true rfl) (Nat.le_of_ble_eq_true rfl) (c_X5_find hP.2.2.2 (by omega) (by omega) v1.1 o1 hu hk ht) rfl (Nat.le_of_ble_eq_true rfl) (fun v e => ?_)
            rcases e with ⟨-, rfl⟩ | ⟨e, -⟩
            · refine sCallVv (M' := mX5_removeAt) (rm' := rmD 2 0 0) (As := [.int (nI (c.1.idxOf u))]) (rest := []) dX2_mergeThree_58 rfl mk_X5_removeAt mi_X5_removeAt ll_X2_74 ⟨(Nat.le_of_ble_eq_true rfl), (Nat.le_of_ble_eq_true rfl)⟩ hP.2.2.2.1 (by decide) rfl rfl (Nat.le_of_ble_eq_true rfl) (Nat.le_of_ble_eq_true rfl) (c_X5_removeAt hP.2.2.2 (by omega) (by omega) v1.1 o1 j1) rfl (Nat.le_of_ble_eq_true rfl) (fun s1 hz => ?_)
              obtain ⟨hz1, hz2⟩ := hz
              refine rIinc (v := (nI (i + 1))) dX2_mergeThree_61 rfl (by first | exact nI_add _ _ | rfl) (by decide) ?_
              refine rGoto (tgt := 35) dX2_mergeThree_64 (by decide) ?_
              refine rForget (L := [some (.ref (ad V P)), some (.int (nI k)), some (.int (nI t)), some (.ref (ad V (P + 2))), some (.int (nI (b.2.idxOf u))), some (.int (nI (i + 1))), some (.ref (ad V (P + 5)))]) (L' := [some (.ref (ad V P)), some (.int (nI k)), some (.int (nI t)), some (.ref (ad V (P + 2))), some (.int (nI (b.2.idxOf u))), some (.int (nI (i + 1))), none]) (by exact ⟨rfl, ⟨rfl, ⟨rfl, ⟨rfl, ⟨rfl, ⟨rfl, trivial⟩⟩⟩⟩⟩⟩) ?_
              have e9 : eraN u (i + 1) b0 = (c.1.eraseIdx (c.1.idxOf u), c.2) := by
                show eraU (eraN u i b0) u = _
                rw [← hc0]
                exact if_pos hm3
              have e8 : eraN u (i + 1) b0 = eraU c u := by rw [hc0]; rfl
              exact ih (by omega) s1 ⟨by rw [e9]; exact ⟨hz1, rowIs_keep v1.2 (hz2 _ (by omega) (by omega) (by omega)) (hz2 _ (by omega) (by omega) (by omega)) (hz2 _ (by omega) (by omega) (by omega))⟩, fun a ha => (hz2 a (by omega) (by omega) (by omega)).trans (v2 a ha), by rw [e8]; exact ⟨w5, w6, by omega, by omega⟩, by rw [e8]; omega⟩
            · exact absurd hm3 e
          · rw [if_neg hm3] at ea
            subst ea
            have hm4 := cnt_pos (show 0 < cntU c u by omega) hm3
            obtain ⟨j1, j2⟩ := idx_lt hm4
            refine rAstore dX2_mergeThree_47 (by decide) ?_
            refine rAload dX2_mergeThree_49 rfl ?_
            refine rAload dX2_mergeThree_51 rfl ?_
            refine rIload_n dX2_mergeThree_53 rfl ?_
            refine rIload_n dX2_mergeThree_54 rfl ?_
            refine sCallVp (M' := mX5_find) (rm' := rmD 1 0 0) (As := [.int (nI k), .int (nI t)]) (rest := [.ref (ad V (P + 2))]) dX2_mergeThree_55 rfl mk_X5_find mi_X5_find ll_X2_68 ⟨(Nat.le_of_ble_eq_true rfl), (Nat.le_of_ble_eq_true rfl)⟩ hP.2.2.1.1 (by decide) rfl rfl (Nat.le_of_ble_eq_true rfl) (Nat.le_of_ble_eq_true rfl) (c_X5_find hP.2.2.1 (by omega) (by omega) v1.2 o2 hu hk ht) rfl (Nat.le_of_ble_eq_true rfl) (fun v e => ?_)
            rcases e with ⟨-, rfl⟩ | ⟨e, -⟩
            · refine sCallVv (M' := mX5_removeAt) (rm' := rmD 2 0 0) (As := [.int (nI (c.2.idxOf u))]) (rest := []) dX2_mergeThree_58 rfl mk_X5_removeAt mi_X5_removeAt ll_X2_74 ⟨(Nat.le_of_ble_eq_true rfl), (Nat.le_of_ble_eq_true rfl)⟩ hP.2.2.1.1 (by decide) rfl rfl (Nat.le_of_ble_eq_true rfl) (Nat.le_of_ble_eq_true rfl) (c_X5_removeAt hP.2.2.1 (by omega) (by omega) v1.2 o2 j1) rfl (Nat.le_of_ble_eq_true rfl) (fun s1 hz => ?_)
              obtain ⟨hz1, hz2⟩ := hz
              refine rIinc (v := (nI (i + 1))) dX2_mergeThree_61 rfl (by first | exact nI_add _ _ | rfl) (by decide) ?_
              refine rGoto (tgt := 35) dX2_mergeThree_64 (by decide) ?_
              refine rForget (L := [some (.ref (ad V P)), some (.int (nI k)), some (.int (nI t)), some (.ref (ad V (P + 2))), some (.int (nI (b.2.idxOf u))), some (.int (nI (i + 1))), some (.ref (ad V (P + 2)))]) (L' := [some (.ref (ad V P)), some (.int (nI k)), some (.int (nI t)), some (.ref (ad V (P + 2))), some (.int (nI (b.2.idxOf u))), some (.int (nI (i + 1))), none]) (by exact ⟨rfl, ⟨rfl, ⟨rfl, ⟨rfl, ⟨rfl, ⟨rfl, trivial⟩⟩⟩⟩⟩⟩) ?_
              have e9 : eraN u (i + 1) b0 = (c.1, c.2.eraseIdx (c.2.idxOf u)) := by
                show eraU (eraN u i b0) u = _
                rw [← hc0]
                exact if_neg hm3
              have e8 : eraN u (i + 1) b0 = eraU c u := by rw [hc0]; rfl
              exact ih (by omega) s1 ⟨by rw [e9]; exact ⟨rowIs_keep v1.1 (hz2 _ (by omega) (by omega) (by omega)) (hz2 _ (by omega) (by omega) (by omega)) (hz2 _ (by omega) (by omega) (by omega)), hz1⟩, fun a ha => (hz2 a (by omega) (by omega) (by omega)).trans (v2 a ha), by rw [e8]; exact ⟨w5, w6, by omega, by omega⟩, by rw [e8]; omega⟩
            · exact absurd hm4 e
    · exact absurd hm2 e
set_option maxRecDepth 100000 in
set_option maxHeartbeats 4000000 in
theorem c_X2_mergeFirstThree {G : gG} {V : wV} {lo : Nat → Int64} {P : Nat} {b : bbT} (hP : plAt V P) {s : sgT} (h : bbIs s P b) (ho : bbOk b) : CSi G V mX2_mergeFirstThree cX2_mergeFirstThree (rmD 4 0 0) [.ref (ad V P)] s lo (fun v s' => (fstU b = none ∧ s' = s ∧ v = nI 0) ∨ ∃ u, fstU b = some u ∧ bbIs s' P (merU b u) ∧ bbFr s s' P ∧ v = nI 1) (fun _ => False) := by
  refine CSi.of (L := [some (.ref (ad V P)), none, none]) rfl (by decide +kernel) rfl (Nat.le_of_ble_eq_true rfl) rfl ?_
  obtain ⟨o1, o2, o3, o4⟩ := id ho
  refine rIconst (v := (nI (0))) dX2_mergeFirstThree_0 (by decide) ?_
  refine rIstore_n dX2_mergeFirstThree_1 (by decide) ?_
  refine loopW (σ := Unit) (9) (fun i _ => [some (.ref (ad V P)), some (.int (nI i)), none]) (fun i _ => s) (fun i _ => fstJ b (18 - 2 * i) (2 * i) = fstU b) (0) () (by omega) rfl (fun i _ hi hinv ih => ?_)
  refine rIload_n dX2_mergeFirstThree_2 rfl ?_
  refine rBipush (v := (nI (9))) dX2_mergeFirstThree_3 (by decide) ?_
  refine r_icmp_ge (tgt := 58) dX2_mergeFirstThree_5 (by decide) (fun c_5 => ?_) (fun c_5 => ?_)
  · have c_5 : 9 ≤ i := (nI_leI (by omega) (by omega)).mp c_5
    refine rIconst (v := (nI (0))) dX2_mergeFirstThree_58 (by decide) ?_
    have e : i = 9 := by omega
    subst e
    exact sIret dX2_mergeFirstThree_59 rfl rfl (Nat.le_of_ble_eq_true rfl) (Nat.le_of_ble_eq_true rfl) ⟨_, rfl, (Or.inl ⟨hinv.symm, rfl, rfl⟩)⟩
  · have c_5 : ¬ (9 ≤ i) := fun h => c_5 ((nI_leI (by omega) (by omega)).mpr h)
    refine rIconst (v := (nI (1))) dX2_mergeFirstThree_8 (by decide) ?_
    refine rIstore_n dX2_mergeFirstThree_9 (by decide) ?_
    refine loopW (σ := Unit) (2) (fun j _ => [some (.ref (ad V P)), some (.int (nI i)), some (.int (nI (1 + j)))]) (fun j _ => s) (fun j _ => fstJ b (18 - (2 * i + j)) (2 * i + j) = fstU b) (0) () (by omega) hinv (fun j _ hj hjn ihj => ?_)
    refine rIload_n dX2_mergeFirstThree_10 rfl ?_
    refine rIconst (v := (nI (3))) dX2_mergeFirstThree_11 (by decide) ?_
    refine r_icmp_ge (tgt := 52) dX2_mergeFirstThree_12 (by decide) (fun c_12 => ?_) (fun c_12 => ?_)
    · have c_12 : 3 ≤ (1 + j) := (nI_leI (by omega) (by omega)).mp c_12
      have e : j = 2 := by omega
      refine rIinc (v := (nI (i + 1))) dX2_mergeFirstThree_52 rfl (by first | exact nI_add _ _ | rfl) (by decide) ?_
      refine rGoto (tgt := 2) dX2_mergeFirstThree_55 (by decide) ?_
      refine rForget (L := [some (.ref (ad V P)), some (.int (nI (i + 1))), some (.int (nI (1 + j)))]) (L' := [some (.ref (ad V P)), some (.int (nI (i + 1))), none]) (by exact ⟨rfl, ⟨rfl, trivial⟩⟩) ?_
      exact ih (by omega) () (by rw [show 2 * (i + 1) = 2 * i + j by omega]; exact hjn)
    · have c_12 : ¬ (3 ≤ (1 + j)) := fun h => c_12 ((nI_leI (by omega) (by omega)).mpr h)
      obtain ⟨u, hu⟩ : ∃ z, z = uJ (2 * i + j) := ⟨_, rfl⟩
      have huo : okU u := hu ▸ (uJ_ok (show 2 * i + j < 18 by omega)).1
      have huo1 : okU (u + 1) := hu ▸ uJ_succ (show 2 * i + j < 18 by omega)
      have hk : u / 10 = i := by rw [hu]; unfold uJ; omega
      have ht : u % 10 = 1 + j := by rw [hu]; unfold uJ; omega
      have hn1 : b.1.count u ≤ b.1.length := List.count_le_length
      have hn2 : b.2.count u ≤ b.2.length := List.count_le_length
      rw [show 18 - (2 * i + j) = (18 - (2 * i + (j + 1))) + 1 by omega] at hjn
      simp only [fstJ] at hjn
      rw [← hu] at hjn
      refine rAload_n dX2_mergeFirstThree_15 rfl ?_
      refine sGetR dX2_mergeFirstThree_16 fl_X2_34 hP.1 (by decide) rfl ?_
      refine rIload_n dX2_mergeFirstThree_19 rfl ?_
      refine rIload_n dX2_mergeFirstThree_20 rfl ?_
      refine sCallVp (M' := mX5_countOf) (rm' := rmD 1 0 0) (As := [.int (nI i), .int (nI (1 + j))]) (rest := []) dX2_mergeFirstThree_21 rfl mk_X5_countOf mi_X5_countOf ll_X2_57 ⟨(Nat.le_of_ble_eq_true rfl), (Nat.le_of_ble_eq_true rfl)⟩ hP.2.2.2.1 (by decide) rfl rfl (Nat.le_of_ble_eq_true rfl) (Nat.le_of_ble_eq_true rfl) (c_X5_countOf hP.2.2.2 (by omega) o3 h.1 o1 huo hk ht) rfl (Nat.le_of_ble_eq_true rfl) (fun v e1 => ?_)
      refine tTop (w := (nI (b.1.count u))) e1 ?_
      refine rAload_n dX2_mergeFirstThree_24 rfl ?_
      refine sGetR dX2_mergeFirstThree_25 fl_X2_30 hP.1 (by decide) rfl ?_
      refine rIload_n dX2_mergeFirstThree_28 rfl ?_
      refine rIload_n dX2_mergeFirstThree_29 rfl ?_
      refine sCallVp (M' := mX5_countOf) (rm' := rmD 1 0 0) (As := [.int (nI i), .int (nI (1 + j))]) (rest := [.int (nI (b.1.count u))]) dX2_mergeFirstThree_30 rfl mk_X5_countOf mi_X5_countOf ll_X2_57 ⟨(Nat.le_of_ble_eq_true rfl), (Nat.le_of_ble_eq_true rfl)⟩ hP.2.2.1.1 (by decide) rfl rfl (Nat.le_of_ble_eq_true rfl) (Nat.le_of_ble_eq_true rfl) (c_X5_countOf hP.2.2.1 (by omega) o4 h.2 o2 huo hk ht) rfl (Nat.le_of_ble_eq_true rfl) (fun v e2 => ?_)
      refine tTop (w := (nI (b.2.count u))) e2 ?_
      refine nIadd dX2_mergeFirstThree_33 ?_
      refine rIconst (v := (nI (3))) dX2_mergeFirstThree_34 (by decide) ?_
      refine r_icmp_lt (tgt := 46) dX2_mergeFirstThree_35 (by decide) (fun c_35 => ?_) (fun c_35 => ?_)
      · have c_35 : ((b.1.count u) + (b.2.count u)) < 3 := (nI_ltI (by omega) (by omega)).mp c_35
        rw [if_neg (by unfold cntU; omega)] at hjn
        refine rIinc (v := (nI (1 + j + 1))) dX2_mergeFirstThree_46 rfl (by first | exact nI_add _ _ | rfl) (by decide) ?_
        refine rGoto (tgt := 10) dX2_mergeFirstThree_49 (by decide) ?_
        exact ihj (by omega) () (by rw [show 2 * i + (j + 1) = 2 * i + j + 1 by omega] at hjn ⊢; exact hjn)
      · have c_35 : ¬ (((b.1.count u) + (b.2.count u)) < 3) := fun h => c_35 ((nI_ltI (by omega) (by omega)).mpr h)
        rw [if_pos (by unfold cntU; omega)] at hjn
        refine rAload_n dX2_mergeFirstThree_38 rfl ?_
        refine rIload_n dX2_mergeFirstThree_39 rfl ?_
        refine rIload_n dX2_mergeFirstThree_40 rfl ?_
        refine sCallVv (M' := mX2_mergeThree) (rm' := rmD 3 0 0) (As := [.int (nI i), .int (nI (1 + j))]) (rest := []) dX2_mergeFirstThree_41 rfl mk_X2_mergeThree mi_X2_mergeThree ll_X2_60 ⟨(Nat.le_of_ble_eq_true rfl), (Nat.le_of_ble_eq_true rfl)⟩ hP.1 (by decide) rfl rfl (Nat.le_of_ble_eq_true rfl) (Nat.le_of_ble_eq_true rfl) (c_X2_mergeThree hP h ho huo hk ht huo1 (by unfold cntU; omega)) rfl (Nat.le_of_ble_eq_true rfl) (fun s1 hz => ?_)
        refine rIconst (v := (nI (1))) dX2_mergeFirstThree_44 (by decide) ?_
        exact sIret dX2_mergeFirstThree_45 rfl rfl (Nat.le_of_ble_eq_true rfl) (Nat.le_of_ble_eq_true rfl) ⟨_, rfl, (Or.inr ⟨u, hjn.symm, hz.1, hz.2, rfl⟩)⟩
set_option maxRecDepth 100000 in
set_option maxHeartbeats 4000000 in
theorem c_X2_mergeThrees {G : gG} {V : wV} {lo : Nat → Int64} {P : Nat} {b : bbT} (hP : plAt V P) {s : sgT} (h : bbIs s P b) (ho : bbOk b) : CSv G V mX2_mergeThrees cX2_mergeThrees (rmD 5 0 0) [.ref (ad V P)] s lo (fun s' => bbIs s' P (merI 11 b) ∧ bbFr s s' P) (fun _ => False) := by
  refine CSv.of (L := [some (.ref (ad V P)), none]) rfl (by decide +kernel) rfl (Nat.le_of_ble_eq_true rfl) rfl ?_
  obtain ⟨o1, o2, o3, o4⟩ := id ho
  refine rIconst (v := (nI (0))) dX2_mergeThrees_0 (by decide) ?_
  refine rIstore_n dX2_mergeThrees_1 (by decide) ?_
  refine loopW (σ := sgT × bbT) (11) (fun i y => [some (.ref (ad V P)), some (.int (nI i))]) (fun i y => y.1) (fun i y => bbIs y.1 P y.2 ∧ bbFr s y.1 P ∧ bbOk y.2 ∧ merI (11 - i) y.2 = merI 11 b) (0) (s, b) (by omega) ⟨h, fun _ _ => rfl, ho, rfl⟩ (fun i y hi hinv ih => ?_)
  obtain ⟨z, c⟩ := y
  obtain ⟨v1, v2, v3, v4⟩ := hinv
  dsimp only at v1 v2 v3 v4
  refine rIload_n dX2_mergeThrees_2 rfl ?_
  refine rBipush (v := (nI (11))) dX2_mergeThrees_3 (by decide) ?_
  refine r_icmp_ge (tgt := 22) dX2_mergeThrees_5 (by decide) (fun c_5 => ?_) (fun c_5 => ?_)
  · have c_5 : 11 ≤ i := (nI_leI (by omega) (by omega)).mp c_5
    have e : i = 11 := by omega
    subst e
    have v4 : c = merI 11 b := v4
    rw [v4] at v1
    exact sVret dX2_mergeThrees_22 rfl (Nat.le_of_ble_eq_true rfl) (Nat.le_of_ble_eq_true rfl) ⟨rfl, ⟨v1, v2⟩⟩
  · have c_5 : ¬ (11 ≤ i) := fun h => c_5 ((nI_leI (by omega) (by omega)).mpr h)
    refine rAload_n dX2_mergeThrees_8 rfl ?_
    refine sCallVi (M' := mX2_mergeFirstThree) (rm' := rmD 4 0 0) (As := []) (rest := []) dX2_mergeThrees_9 rfl mk_X2_mergeFirstThree mi_X2_mergeFirstThree ll_X2_53 ⟨(Nat.le_of_ble_eq_true rfl), (Nat.le_of_ble_eq_true rfl)⟩ hP.1 (by decide) rfl rfl (Nat.le_of_ble_eq_true rfl) (Nat.le_of_ble_eq_true rfl) (c_X2_mergeFirstThree hP v1 v3) rfl (Nat.le_of_ble_eq_true rfl) (fun v s1 hz => ?_)
    rcases hz with ⟨e1, rfl, rfl⟩ | ⟨u, e1, e2, e3, rfl⟩
    · refine r_if_ne (tgt := 16) dX2_mergeThrees_12 (by decide) (fun c_12 => ?_) (fun c_12 => ?_)
      · have c_12 : ¬ (0 = 0) := fun h => c_12 ((nz_eq (by omega)).mpr h)
        exact absurd c_12 (by omega)
      · have c_12 : 0 = 0 := (nz_eq (by omega)).mp c_12
        rw [merI_none e1] at v4
        rw [v4] at v1
        exact sVret dX2_mergeThrees_15 rfl (Nat.le_of_ble_eq_true rfl) (Nat.le_of_ble_eq_true rfl) ⟨rfl, ⟨v1, v2⟩⟩
    · refine r_if_ne (tgt := 16) dX2_mergeThrees_12 (by decide) (fun c_12 => ?_) (fun c_12 => ?_)
      · have c_12 : ¬ (1 = 0) := fun h => c_12 ((nz_eq (by omega)).mpr h)
        obtain ⟨g1, g2, g3⟩ := mer_fst e1
        obtain ⟨m1, m2, m3, m4, m5⟩ := mer_ok v3.1 v3.2.1 g2 g3
        rw [show 11 - i = (11 - (i + 1)) + 1 by omega, merI_some e1] at v4
        refine rIinc (v := (nI (i + 1))) dX2_mergeThrees_16 rfl (by first | exact nI_add _ _ | rfl) (by decide) ?_
        refine rGoto (tgt := 2) dX2_mergeThrees_19 (by decide) ?_
        exact ih (by omega) (s1, merU c u) ⟨e2, fun a ha => (e3 a ha).trans (v2 a ha), ⟨m1, m2, Nat.le_trans m4 v3.2.2.1, Nat.le_trans m5 v3.2.2.2⟩, v4⟩
      · have c_12 : 1 = 0 := (nz_eq (by omega)).mp c_12
        exact absurd c_12 (by omega)
end
section
/-! fights: a side's healths and turns, blows, the record -/
def sideIs (s : sgT) (d n : Nat) (h g : Nat → Int32) (t : Nat) : Prop := n ≤ 5 ∧ s d 2 = nI n ∧ (∃ tc : Nat, tc ≤ 5 ∧ s d 3 = nI tc ∧ (0 < n → tc % n = t)) ∧ ∀ i, i < n → s (d + 1) i = h i ∧ s (d + 2) i = g i
def livN (h : Nat → Int32) : Nat → Nat
  | 0 => 0
  | i + 1 => livN h i + if h i ≤ 0 then 0 else 1
def flN (h : Nat → Int32) : Nat → Nat → Option Nat
  | 0, _ => none
  | f + 1, i => if h i ≤ 0 then flN h f (i + 1) else some i
def ttN (h : Nat → Int32) (n t : Nat) : Nat → Nat → Option Nat
  | 0, _ => none
  | f + 1, j => if h ((t + j) % n) ≤ 0 then ttN h n t f (j + 1) else some ((t + j) % n)
abbrev zT : Type := (Nat → Int32) × Nat × (Nat → Int32) × Nat
def blowS (n0 n1 : Nat) (g0 g1 : Nat → Int32) (k : Nat) (z : zT) : Option (zT × Nat × Int32) :=
  if k % 2 = 0 then
    match ttN z.1 n0 z.2.1 n0 0, flN z.2.2.1 n1 0 with
    | some a, some b => some ((z.1, (a + 1) % n0, upd z.2.2.1 b (z.2.2.1 b - g0 a), z.2.2.2), b, g0 a)
    | _, _ => none
  else
    match ttN z.2.2.1 n1 z.2.2.2 n1 0, flN z.1 n0 0 with
    | some a, some b => some ((upd z.1 b (z.1 b - g1 a), z.2.1, z.2.2.1, (a + 1) % n1), b, g1 a)
    | _, _ => none
def fightN (n0 n1 : Nat) (g0 g1 : Nat → Int32) : Nat → Nat → zT → zT
  | 0, _, z => z
  | f + 1, k, z => match blowS n0 n1 g0 g1 k z with
    | none => z
    | some (z', _) => fightN n0 n1 g0 g1 f (k + 1) z'
def recF (n0 n1 : Nat) (g0 g1 : Nat → Int32) : Nat → Nat → zT → List (Nat × Int32)
  | 0, _, _ => []
  | f + 1, k, z => match blowS n0 n1 g0 g1 k z with
    | none => []
    | some (z', bx) => bx :: recF n0 n1 g0 g1 f (k + 1) z'
def rdI (R : List (Nat × Int32)) (h0 h1 : Nat → Int32) : Nat → (Nat → Int32) × (Nat → Int32)
  | 0 => (h0, h1)
  | k + 1 => if k % 2 = 0 then ((rdI R h0 h1 k).1, upd (rdI R h0 h1 k).2 (R.getD k (0, 0)).1 ((rdI R h0 h1 k).2 (R.getD k (0, 0)).1 - (R.getD k (0, 0)).2)) else (upd (rdI R h0 h1 k).1 (R.getD k (0, 0)).1 ((rdI R h0 h1 k).1 (R.getD k (0, 0)).1 - (R.getD k (0, 0)).2), (rdI R h0 h1 k).2)
theorem flN_some {h : Nat → Int32} : ∀ {f i b : Nat}, flN h f i = some b → i ≤ b ∧ b < i + f ∧ ¬ h b ≤ 0
  | 0, i, b, e => by simp [flN] at e
  | f + 1, i, b, e => by
    simp only [flN] at e
    split at e
    · have := flN_some e
      exact ⟨by omega, by omega, this.2.2⟩
    · rename_i hc
      cases e
      exact ⟨Nat.le_refl _, by omega, hc⟩
theorem ttN_some {h : Nat → Int32} {n t : Nat} : ∀ {f j a : Nat}, ttN h n t f j = some a → (0 < n → a < n) ∧ ¬ h a ≤ 0
  | 0, j, a, e => by simp [ttN] at e
  | f + 1, j, a, e => by
    simp only [ttN] at e
    split at e
    · exact ttN_some e
    · rename_i hc
      cases e
      exact ⟨fun h0 => Nat.mod_lt _ h0, hc⟩
theorem ttN_zero {h : Nat → Int32} {t : Nat} : ttN h 0 t 0 0 = none := rfl
theorem ttN_mod {h : Nat → Int32} {n t t' : Nat} (e : t % n = t' % n) : ∀ f j, ttN h n t f j = ttN h n t' f j
  | 0, _ => rfl
  | f + 1, j => by
    have e2 : (t + j) % n = (t' + j) % n := by rw [Nat.add_mod, e, ← Nat.add_mod]
    simp only [ttN, e2, ttN_mod e f (j + 1)]
theorem blowS_in {n0 n1 : Nat} {g0 g1 : Nat → Int32} {k : Nat} {z z' : zT} {b : Nat} {x : Int32} (e : blowS n0 n1 g0 g1 k z = some (z', b, x)) : (k % 2 = 0 → b < n1) ∧ (¬ k % 2 = 0 → b < n0) := by
  unfold blowS at e
  split at e
  · rename_i hk
    split at e
    · rename_i a c ha hc
      cases e
      have := flN_some hc
      exact ⟨fun _ => by omega, fun h => absurd hk h⟩
    · cases e
  · rename_i hk
    split at e
    · rename_i a c ha hc
      cases e
      have := flN_some hc
      exact ⟨fun h => absurd h hk, fun _ => by omega⟩
    · cases e
theorem recF_le {n0 n1 : Nat} {g0 g1 : Nat → Int32} : ∀ {f k : Nat} {z : zT}, (recF n0 n1 g0 g1 f k z).length ≤ f
  | 0, _, _ => Nat.le_refl _
  | f + 1, k, z => by
    simp only [recF]
    split
    · simp
    · simp only [List.length_cons]
      have := recF_le (n0 := n0) (n1 := n1) (g0 := g0) (g1 := g1) (f := f) (k := k + 1) (z := by assumption)
      omega
/-- the targets of a record lie on the boards -/
theorem recF_in {n0 n1 : Nat} {g0 g1 : Nat → Int32} : ∀ {f k : Nat} {z : zT} {j : Nat}, j < (recF n0 n1 g0 g1 f k z).length → ((k + j) % 2 = 0 → ((recF n0 n1 g0 g1 f k z).getD j (0, 0)).1 < n1) ∧ (¬ (k + j) % 2 = 0 → ((recF n0 n1 g0 g1 f k z).getD j (0, 0)).1 < n0)
  | 0, _, _, j, hj => absurd hj (Nat.not_lt_zero _)
  | f + 1, k, z, j, hj => by
    simp only [recF] at hj ⊢
    split at hj
    · exact absurd hj (Nat.not_lt_zero _)
    · rename_i z' bx e
      obtain ⟨b, x⟩ := bx
      cases j with
      | zero => exact blowS_in e
      | succ j =>
        have h2 := recF_in (n0 := n0) (n1 := n1) (g0 := g0) (g1 := g1) (f := f) (k := k + 1) (z := z') (j := j) (by simpa using hj)
        rw [show k + (j + 1) = k + 1 + j by omega]
        exact h2
theorem getD_app {α : Type} {l r : List α} {d : α} {k : Nat} (h : l.length = k) {x : α} {r' : List α} (hr : r = x :: r') : (l ++ r).getD k d = x := by
  subst hr
  subst h
  simp [List.getD_eq_getElem?_getD]
/-- the record, redone, gives what the fight gave -/
theorem redo_all {n0 n1 : Nat} {g0 g1 h0 h1 : Nat → Int32} {R : List (Nat × Int32)} : ∀ (f k : Nat) (z : zT) (pre : List (Nat × Int32)), pre.length = k → R = pre ++ recF n0 n1 g0 g1 f k z → rdI R h0 h1 k = (z.1, z.2.2.1) → rdI R h0 h1 R.length = ((fightN n0 n1 g0 g1 f k z).1, (fightN n0 n1 g0 g1 f k z).2.2.1)
  | 0, k, z, pre, hp, hR, hz => by
    have e : R.length = k := by rw [hR]; simp [recF, hp]
    rw [e]
    exact hz
  | f + 1, k, z, pre, hp, hR, hz => by
    simp only [recF, fightN] at hR ⊢
    cases e : blowS n0 n1 g0 g1 k z with
    | none =>
      rw [e] at hR
      have e2 : R.length = k := by rw [hR]; simp [hp]
      rw [e2]
      exact hz
    | some w =>
      obtain ⟨z', b, x⟩ := w
      rw [e] at hR
      refine redo_all f (k + 1) z' (pre ++ [(b, x)]) (by simp [hp]) (by rw [hR]; simp) ?_
      have hg : R.getD k (0, 0) = (b, x) := by rw [hR]; exact getD_app hp rfl
      simp only [rdI, hg, hz]
      unfold blowS at e
      split at e
      · rename_i hk
        rw [if_pos hk]
        split at e
        · cases e
          rfl
        · cases e
      · rename_i hk
        rw [if_neg hk]
        split at e
        · cases e
          rfl
        · cases e
theorem livN_zero {h : Nat → Int32} : ∀ {n : Nat}, livN h n = 0 ↔ ∀ i, i < n → h i ≤ 0
  | 0 => ⟨fun _ i hi => absurd hi (Nat.not_lt_zero _), fun _ => rfl⟩
  | n + 1 => by
    simp only [livN]
    constructor
    · intro e i hi
      have h1 : livN h n = 0 := by omega
      rcases Nat.lt_or_ge i n with q | q
      · exact livN_zero.mp h1 i q
      · have : i = n := by omega
        subst this
        by_cases hc : h i ≤ 0
        · exact hc
        · rw [if_neg hc] at e
          omega
    · intro hh
      rw [livN_zero.mpr (fun i hi => hh i (by omega)), if_pos (hh n (by omega))]
theorem livN_le {h : Nat → Int32} : ∀ n, livN h n ≤ n
  | 0 => Nat.le_refl _
  | n + 1 => by
    have := livN_le (h := h) n
    simp only [livN]
    split <;> omega
theorem flN_none {h : Nat → Int32} : ∀ {f i : Nat}, flN h f i = none ↔ ∀ j, i ≤ j → j < i + f → h j ≤ 0
  | 0, i => ⟨fun _ j h1 h2 => absurd h2 (by omega), fun _ => rfl⟩
  | f + 1, i => by
    simp only [flN]
    constructor
    · intro e j h1 h2
      split at e
      · rename_i hc
        rcases Nat.lt_or_ge i j with q | q
        · exact flN_none.mp e j (by omega) (by omega)
        · have : j = i := by omega
          exact this ▸ hc
      · cases e
    · intro hh
      rw [if_pos (hh i (Nat.le_refl _) (by omega))]
      exact flN_none.mpr (fun j h1 h2 => hh j (by omega) (by omega))
theorem ttN_none {h : Nat → Int32} {n t : Nat} : ∀ {f j : Nat}, ttN h n t f j = none ↔ ∀ i, j ≤ i → i < j + f → h ((t + i) % n) ≤ 0
  | 0, j => ⟨fun _ i h1 h2 => absurd h2 (by omega), fun _ => rfl⟩
  | f + 1, j => by
    simp only [ttN]
    constructor
    · intro e i h1 h2
      split at e
      · rename_i hc
        rcases Nat.lt_or_ge j i with q | q
        · exact ttN_none.mp e i (by omega) (by omega)
        · have : i = j := by omega
          exact this ▸ hc
      · cases e
    · intro hh
      rw [if_pos (hh j (Nat.le_refl _) (by omega))]
      exact ttN_none.mpr (fun i h1 h2 => hh i (by omega) (by omega))
theorem flN_liv {h : Nat → Int32} {n : Nat} : flN h n 0 = none ↔ livN h n = 0 := by
  rw [flN_none, livN_zero]
  exact ⟨fun e i hi => e i (Nat.zero_le _) (by omega), fun e j _ hj => e j (by omega)⟩
theorem ttN_liv {h : Nat → Int32} {n t : Nat} : ttN h n t n 0 = none ↔ livN h n = 0 := by
  rw [ttN_none, livN_zero]
  constructor
  · intro e i hi
    have h0 : 0 < n := by omega
    have ht := Nat.mod_lt t h0
    have h1 := e ((n + i - t % n) % n) (Nat.zero_le _) (by have := Nat.mod_lt (n + i - t % n) h0; omega)
    have h2 : (t + (n + i - t % n) % n) % n = i := by
      rw [Nat.add_mod_mod, Nat.add_mod, ← Nat.add_mod (t)]
      have h3 : t = n * (t / n) + t % n := (Nat.div_add_mod t n).symm
      have h4 : t + (n + i - t % n) = n * (t / n) + (n + i) := by omega
      rw [h4, Nat.mul_add_mod, Nat.add_mod_left, Nat.mod_eq_of_lt hi]
    rw [h2] at h1
    exact h1
  · intro e j _ hj
    exact e _ (Nat.mod_lt _ (by omega))
/-- how the sides stand at a fight's start -/
def z0F (l0 l1 : List Nat) : zT := (fun i => nI (hthN (l0.getD i 0)), 0, fun i => nI (hthN (l1.getD i 0)), 0)
def gF (l : List Nat) : Nat → Int32 := fun i => nI (strN l (l.getD i 0))
def endF (l0 l1 : List Nat) : zT := fightN l0.length l1.length (gF l0) (gF l1) 60 0 (z0F l0 l1)
def logF (l0 l1 : List Nat) : List (Nat × Int32) := recF l0.length l1.length (gF l0) (gF l1) 60 0 (z0F l0 l1)
/-- living units behind it: of the first side, of the second -/
def livA (l0 l1 : List Nat) : Nat := livN (endF l0 l1).1 l0.length
def livB (l0 l1 : List Nat) : Nat := livN (endF l0 l1).2.2.1 l1.length
theorem livN_cong {h h' : Nat → Int32} : ∀ {n : Nat}, (∀ i, i < n → h i = h' i) → livN h n = livN h' n
  | 0, _ => rfl
  | n + 1, e => by
    simp only [livN, livN_cong (fun i hi => e i (Nat.lt_succ_of_lt hi)), e n (Nat.lt_succ_self n)]
end
section
/-- what holds ahead of blow i -/
def fInv (n0 n1 : Nat) (g0 g1 : Nat → Int32) (R : List (Nat × Int32)) (Z : zT) (B : Nat) (s : sgT) (i : Nat) (y : sgT) (a0 : Nat → Int32) (u0 : Nat) (a1 : Nat → Int32) (u1 : Nat) (pre : List (Nat × Int32)) : Prop :=
  sideIs y (B + 1) n0 a0 g0 u0 ∧ sideIs y (B + 4) n1 a1 g1 u1 ∧ y B 4 = nI i ∧ (∀ j, j < i → y (B + 7) j = nI (R.getD j (0, 0)).1 ∧ y (B + 8) j = (R.getD j (0, 0)).2) ∧ (∀ b, b < B ∨ B + 9 ≤ b → y b = s b) ∧ pre.length = i ∧ R = pre ++ recF n0 n1 g0 g1 (60 - i) i (a0, u0, a1, u1) ∧ fightN n0 n1 g0 g1 (60 - i) i (a0, u0, a1, u1) = Z
theorem sideIs_keep {s s' : sgT} {d n t : Nat} {h g : Nat → Int32} (e : sideIs s d n h g t) (h0 : s' d = s d) (h1 : s' (d + 1) = s (d + 1)) (h2 : s' (d + 2) = s (d + 2)) : sideIs s' d n h g t := by
  unfold sideIs at e ⊢
  rw [h0, h1, h2]
  exact e
/-- the record as it lies -/
def logIs (s : sgT) (B : Nat) (R : List (Nat × Int32)) : Prop := s B 4 = nI R.length ∧ (∀ j, j < R.length → s (B + 7) j = nI (R.getD j (0, 0)).1 ∧ s (B + 8) j = (R.getD j (0, 0)).2) ∧ R.length ≤ 60
set_option maxRecDepth 100000 in
set_option maxHeartbeats 4000000 in
theorem c_X4_muster {G : gG} {V : wV} {lo : Nat → Int64} {d r m : Nat} {l : List Nat} (hd : sideAt V d) (hr : rowAt V r m) (hm : m ≤ 6) (hl : l.length ≤ m) (hl5 : l.length ≤ 5) (hrd : r + 3 ≤ d ∨ d + 3 ≤ r) {s : sgT} (h : rowIs s r l) (ho : okR l) : CSv G V mX4_muster cX4_muster (rmD 3 0 0) [.ref (ad V d), .ref (ad V r)] s lo (fun s' => sideIs s' d l.length (fun i => nI (hthN (l.getD i 0))) (gF l) 0 ∧ (∀ b, b ≠ d → b ≠ d + 1 → b ≠ d + 2 → s' b = s b)) (fun _ => False) := by
  refine CSv.of (L := [some (.ref (ad V d)), some (.ref (ad V r)), none]) rfl (by decide +kernel) rfl (Nat.le_of_ble_eq_true rfl) rfl ?_
  refine rAload_n dX4_muster_0 rfl ?_
  refine rAload_n dX4_muster_1 rfl ?_
  refine sGetI (x := (nI (l.length))) dX4_muster_2 fl_X4_18 hr.1 (by decide) rfl (by rw [h.1]) ?_
  refine rIconst (v := (nI (5))) dX4_muster_5 (by decide) ?_
  refine rMin dX4_muster_6 lm_X4_24 wd_ms wd_mi wd_mc (Nat.le_of_ble_eq_true rfl) (Nat.le_of_ble_eq_true rfl) (Nat.le_of_ble_eq_true rfl) (Nat.le_of_ble_eq_true rfl) ?_
  refine tTop (w := (nI (min (l.length) 5))) (minI (by omega) (by omega)) ?_
  refine tTop (w := (nI (l.length))) (congrArg nI (by omega)) ?_
  refine sPutI dX4_muster_9 fl_X4_30 ft_X4 rfl hd.1 (by decide) rfl rfl rfl ?_
  refine rAload_n dX4_muster_12 rfl ?_
  refine rIconst (v := (nI (0))) dX4_muster_13 (by decide) ?_
  refine sPutI dX4_muster_14 fl_X4_31 ft_X4 rfl hd.1 (by decide) rfl rfl rfl ?_
  refine rIconst (v := (nI (0))) dX4_muster_17 (by decide) ?_
  refine rIstore_n dX4_muster_18 (by decide) ?_
  refine loopW (σ := sgT) (l.length) (fun i y => [some (.ref (ad V d)), some (.ref (ad V r)), some (.int (nI i))]) (fun i y => y) (fun i y => y d 2 = nI l.length ∧ y d 3 = nI 0 ∧ (∀ b, b ≠ d → b ≠ d + 1 → b ≠ d + 2 → y b = s b) ∧ ∀ j, j < i → y (d + 1) j = nI (hthN (l.getD j 0)) ∧ y (d + 2) j = gF l j) (0) (sw (sw s d 2 (nI (l.length))) d 3 (nI (0))) (by omega) ⟨by rw [sw_i (by decide), sw_s], sw_s, fun b e1 e2 e3 => by rw [sw_a e1, sw_a e1], fun j hj => absurd hj (by omega)⟩ (fun i y hi hinv ih => ?_)
  obtain ⟨v1, v2, v3, v4⟩ := hinv
  have hrow : rowIs y r l := rowIs_keep h (v3 _ (by omega) (by omega) (by omega)) (v3 _ (by omega) (by omega) (by omega)) (v3 _ (by omega) (by omega) (by omega))
  refine rIload_n dX4_muster_19 rfl ?_
  refine rAload_n dX4_muster_20 rfl ?_
  refine sGetI (x := (nI (l.length))) dX4_muster_21 fl_X4_30 hd.1 (by decide) rfl (by rw [v1]) ?_
  refine r_icmp_ge (tgt := 55) dX4_muster_24 (by decide) (fun c_24 => ?_) (fun c_24 => ?_)
  · have c_24 : (l.length) ≤ i := (nI_leI (by omega) (by omega)).mp c_24
    have e : i = l.length := by omega
    subst e
    exact sVret dX4_muster_55 rfl (Nat.le_of_ble_eq_true rfl) (Nat.le_of_ble_eq_true rfl) ⟨rfl, ⟨⟨hl5, v1, ⟨0, by omega, v2, fun _ => Nat.zero_mod _⟩, v4⟩, v3⟩⟩
  · have c_24 : ¬ ((l.length) ≤ i) := fun h => c_24 ((nI_leI (by omega) (by omega)).mpr h)
    refine rAload_n dX4_muster_27 rfl ?_
    refine sGetR dX4_muster_28 fl_X4_9 hd.1 (by decide) rfl ?_
    refine rIload_n dX4_muster_31 rfl ?_
    refine rAload_n dX4_muster_32 rfl ?_
    refine rIload_n dX4_muster_33 rfl ?_
    refine sCallVp (M' := mX5_healthAt) (rm' := rmD 2 0 0) (As := [.int (nI i)]) (rest := [.int (nI i), .ref (ad V (d + 1))]) dX4_muster_34 rfl mk_X5_healthAt mi_X5_healthAt ll_X4_34 ⟨(Nat.le_of_ble_eq_true rfl), (Nat.le_of_ble_eq_true rfl)⟩ hr.1 (by decide) rfl rfl (Nat.le_of_ble_eq_true rfl) (Nat.le_of_ble_eq_true rfl) (c_X5_healthAt hr hm hl hrow ho (by omega)) rfl (Nat.le_of_ble_eq_true rfl) (fun v e1 => ?_)
    refine tTop (w := (nI (hthN (l.getD i 0)))) e1 ?_
    refine nIast dX4_muster_37 hd.2.1 (by omega) (by omega) ?_
    refine rAload_n dX4_muster_38 rfl ?_
    refine sGetR dX4_muster_39 fl_X4_15 hd.1 (by decide) rfl ?_
    refine rIload_n dX4_muster_42 rfl ?_
    refine rAload_n dX4_muster_43 rfl ?_
    refine rIload_n dX4_muster_44 rfl ?_
    have hrow2 : rowIs (sw y (d + 1) i (nI (hthN (l.getD i 0)))) r l := rowIs_keep hrow (sw_a (by omega)) (sw_a (by omega)) (sw_a (by omega))
    refine sCallVp (M' := mX5_strengthAt) (rm' := rmD 2 0 0) (As := [.int (nI i)]) (rest := [.int (nI i), .ref (ad V (d + 2))]) dX4_muster_45 rfl mk_X5_strengthAt mi_X5_strengthAt ll_X4_38 ⟨(Nat.le_of_ble_eq_true rfl), (Nat.le_of_ble_eq_true rfl)⟩ hr.1 (by decide) rfl rfl (Nat.le_of_ble_eq_true rfl) (Nat.le_of_ble_eq_true rfl) (c_X5_strengthAt hr hm hl hrow2 ho (by omega)) rfl (Nat.le_of_ble_eq_true rfl) (fun v e2 => ?_)
    refine tTop (w := (nI (strN l (l.getD i 0)))) e2 ?_
    refine nIast dX4_muster_48 hd.2.2 (by omega) (by omega) ?_
    refine rIinc (v := (nI (i + 1))) dX4_muster_49 rfl (by first | exact nI_add _ _ | rfl) (by decide) ?_
    refine rGoto (tgt := 19) dX4_muster_52 (by decide) ?_
    exact ih (by omega) _ ⟨by rw [sw_a (by omega), sw_a (by omega)]; exact v1, by rw [sw_a (by omega), sw_a (by omega)]; exact v2, fun b e1 e2 e3 => by rw [sw_a e3, sw_a e2]; exact v3 b e1 e2 e3, fun j hj => (by
          rw [sw_a (by omega)]
          rcases Nat.lt_or_ge j i with q | q
          · rw [sw_i (by omega), sw_i (by omega), sw_a (by omega)]
            exact v4 j q
          · have e : j = i := by omega
            subst e
            rw [sw_s, sw_s]
            exact ⟨rfl, rfl⟩)⟩
set_option maxRecDepth 100000 in
set_option maxHeartbeats 4000000 in
theorem c_X4_living {G : gG} {V : wV} {lo : Nat → Int64} {d n t : Nat} {hh g : Nat → Int32} (hd : sideAt V d) {s : sgT} (h : sideIs s d n hh g t) : CSp G V mX4_living cX4_living (rmD 1 0 0) [.ref (ad V d)] s lo (fun v => v = nI (livN hh n)) (fun _ => False) := by
  refine CSp.of (L := [some (.ref (ad V d)), none, none]) rfl (by decide +kernel) rfl (Nat.le_of_ble_eq_true rfl) rfl ?_
  obtain ⟨h1, h2, ⟨tc, h3, h4, h5⟩, h6⟩ := id h
  refine rIconst (v := (nI (0))) dX4_living_0 (by decide) ?_
  refine rIstore_n dX4_living_1 (by decide) ?_
  refine rIconst (v := (nI (0))) dX4_living_2 (by decide) ?_
  refine rIstore_n dX4_living_3 (by decide) ?_
  refine loopW (σ := Unit) (n) (fun i _ => [some (.ref (ad V d)), some (.int (nI (livN hh i))), some (.int (nI i))]) (fun i _ => s) (fun i _ => True) (0) () (by omega) trivial (fun i _ hi hinv ih => ?_)
  refine rIload_n dX4_living_4 rfl ?_
  refine rAload_n dX4_living_5 rfl ?_
  refine sGetI (x := (nI (n))) dX4_living_6 fl_X4_30 hd.1 (by decide) rfl (by rw [h2]) ?_
  refine r_icmp_ge (tgt := 30) dX4_living_9 (by decide) (fun c_9 => ?_) (fun c_9 => ?_)
  · have c_9 : n ≤ i := (nI_leI (by omega) (by omega)).mp c_9
    refine rIload_n dX4_living_30 rfl ?_
    have e : i = n := by omega
    subst e
    exact sIret dX4_living_31 rfl rfl (Nat.le_of_ble_eq_true rfl) (Nat.le_of_ble_eq_true rfl) ⟨_, rfl, rfl, rfl⟩
  · have c_9 : ¬ (n ≤ i) := fun h => c_9 ((nI_leI (by omega) (by omega)).mpr h)
    have hv : livN hh (i + 1) = livN hh i + if hh i ≤ 0 then 0 else 1 := rfl
    refine rAload_n dX4_living_12 rfl ?_
    refine sGetR dX4_living_13 fl_X4_9 hd.1 (by decide) rfl ?_
    refine rIload_n dX4_living_16 rfl ?_
    refine nIald (v := (hh i)) dX4_living_17 hd.2.1 (by omega) (by omega) (by rw [(h6 i (by omega)).1]) ?_
    refine r_if_le (tgt := 24) dX4_living_18 (by decide) (fun c_18 => ?_) (fun c_18 => ?_)
    · refine rIinc (v := (nI (i + 1))) dX4_living_24 rfl (by first | exact nI_add _ _ | rfl) (by decide) ?_
      refine rGoto (tgt := 4) dX4_living_27 (by decide) ?_
      rw [if_pos c_18, Nat.add_zero] at hv
      have hz := ih (by omega) () trivial
      rw [hv] at hz
      exact hz
    · refine rIinc (v := (nI (livN hh i + 1))) dX4_living_21 rfl (by first | exact nI_add _ _ | rfl) (by decide) ?_
      refine rIinc (v := (nI (i + 1))) dX4_living_24 rfl (by first | exact nI_add _ _ | rfl) (by decide) ?_
      refine rGoto (tgt := 4) dX4_living_27 (by decide) ?_
      rw [if_neg c_18] at hv
      have hz := ih (by omega) () trivial
      rw [hv] at hz
      exact hz
set_option maxRecDepth 100000 in
set_option maxHeartbeats 4000000 in
theorem c_X4_firstLiving {G : gG} {V : wV} {lo : Nat → Int64} {d n t : Nat} {hh g : Nat → Int32} (hd : sideAt V d) {s : sgT} (h : sideIs s d n hh g t) : CSp G V mX4_firstLiving cX4_firstLiving (rmD 1 0 0) [.ref (ad V d)] s lo (fun v => v = shI (flN hh n 0)) (fun _ => False) := by
  refine CSp.of (L := [some (.ref (ad V d)), none]) rfl (by decide +kernel) rfl (Nat.le_of_ble_eq_true rfl) rfl ?_
  obtain ⟨h1, h2, ⟨tc, h3, h4, h5⟩, h6⟩ := id h
  refine rIconst (v := (nI (0))) dX4_firstLiving_0 (by decide) ?_
  refine rIstore_n dX4_firstLiving_1 (by decide) ?_
  refine loopW (σ := Unit) (n) (fun i _ => [some (.ref (ad V d)), some (.int (nI i))]) (fun i _ => s) (fun i _ => flN hh (n - i) i = flN hh n 0) (0) () (by omega) rfl (fun i _ hi hinv ih => ?_)
  refine rIload_n dX4_firstLiving_2 rfl ?_
  refine rAload_n dX4_firstLiving_3 rfl ?_
  refine sGetI (x := (nI (n))) dX4_firstLiving_4 fl_X4_30 hd.1 (by decide) rfl (by rw [h2]) ?_
  refine r_icmp_ge (tgt := 27) dX4_firstLiving_7 (by decide) (fun c_7 => ?_) (fun c_7 => ?_)
  · have c_7 : n ≤ i := (nI_leI (by omega) (by omega)).mp c_7
    refine rIconst (v := (-1)) dX4_firstLiving_27 (by decide) ?_
    have e : i = n := by omega
    subst e
    rw [Nat.sub_self] at hinv
    exact sIret dX4_firstLiving_28 rfl rfl (Nat.le_of_ble_eq_true rfl) (Nat.le_of_ble_eq_true rfl) ⟨_, rfl, rfl, (by rw [← hinv]; rfl)⟩
  · have c_7 : ¬ (n ≤ i) := fun h => c_7 ((nI_leI (by omega) (by omega)).mpr h)
    rw [show n - i = (n - (i + 1)) + 1 by omega] at hinv
    simp only [flN] at hinv
    refine rAload_n dX4_firstLiving_10 rfl ?_
    refine sGetR dX4_firstLiving_11 fl_X4_9 hd.1 (by decide) rfl ?_
    refine rIload_n dX4_firstLiving_14 rfl ?_
    refine nIald (v := (hh i)) dX4_firstLiving_15 hd.2.1 (by omega) (by omega) (by rw [(h6 i (by omega)).1]) ?_
    refine r_if_le (tgt := 21) dX4_firstLiving_16 (by decide) (fun c_16 => ?_) (fun c_16 => ?_)
    · rw [if_pos c_16] at hinv
      refine rIinc (v := (nI (i + 1))) dX4_firstLiving_21 rfl (by first | exact nI_add _ _ | rfl) (by decide) ?_
      refine rGoto (tgt := 2) dX4_firstLiving_24 (by decide) ?_
      exact ih (by omega) () hinv
    · rw [if_neg c_16] at hinv
      refine rIload_n dX4_firstLiving_19 rfl ?_
      exact sIret dX4_firstLiving_20 rfl rfl (Nat.le_of_ble_eq_true rfl) (Nat.le_of_ble_eq_true rfl) ⟨_, rfl, rfl, (by rw [← hinv]; rfl)⟩
set_option maxRecDepth 100000 in
set_option maxHeartbeats 4000000 in
theorem c_X4_takeTurn {G : gG} {V : wV} {lo : Nat → Int64} {d n t : Nat} {hh g : Nat → Int32} (hd : sideAt V d) {s : sgT} (h : sideIs s d n hh g t) : CSi G V mX4_takeTurn cX4_takeTurn (rmD 1 0 0) [.ref (ad V d)] s lo (fun v s' => v = shI (ttN hh n t n 0) ∧ (∃ t', sideIs s' d n hh g t' ∧ ∀ a, ttN hh n t n 0 = some a → t' = (a + 1) % n) ∧ ∀ b, b ≠ d → s' b = s b) (fun _ => False) := by
  refine CSi.of (L := [some (.ref (ad V d)), none, none]) rfl (by decide +kernel) rfl (Nat.le_of_ble_eq_true rfl) rfl ?_
  obtain ⟨h1, h2, ⟨tc, h3, h4, h5⟩, h6⟩ := id h
  refine rIconst (v := (nI (0))) dX4_takeTurn_0 (by decide) ?_
  refine rIstore_n dX4_takeTurn_1 (by decide) ?_
  refine loopW (σ := Unit) (n) (fun i _ => [some (.ref (ad V d)), some (.int (nI i)), none]) (fun i _ => s) (fun i _ => ttN hh n tc (n - i) i = ttN hh n t n 0) (0) () (by omega) (by
      rcases Nat.eq_zero_or_pos n with q | q
      · subst q
        rfl
      · exact ttN_mod (by rw [h5 q, ← h5 q, Nat.mod_mod]) _ _) (fun i _ hi hinv ih => ?_)
  refine rIload_n dX4_takeTurn_2 rfl ?_
  refine rAload_n dX4_takeTurn_3 rfl ?_
  refine sGetI (x := (nI (n))) dX4_takeTurn_4 fl_X4_30 hd.1 (by decide) rfl (by rw [h2]) ?_
  refine r_icmp_ge (tgt := 46) dX4_takeTurn_7 (by decide) (fun c_7 => ?_) (fun c_7 => ?_)
  · have c_7 : n ≤ i := (nI_leI (by omega) (by omega)).mp c_7
    refine rIconst (v := (-1)) dX4_takeTurn_46 (by decide) ?_
    have e : i = n := by omega
    subst e
    rw [Nat.sub_self] at hinv
    have hn : ttN hh i t i 0 = none := hinv ▸ rfl
    exact sIret dX4_takeTurn_47 rfl rfl (Nat.le_of_ble_eq_true rfl) (Nat.le_of_ble_eq_true rfl) ⟨_, rfl, ⟨by rw [hn]; rfl, ⟨t, h, fun a ha => by rw [hn] at ha; cases ha⟩, fun _ _ => rfl⟩⟩
  · have c_7 : ¬ (n ≤ i) := fun h => c_7 ((nI_leI (by omega) (by omega)).mpr h)
    have hml := Nat.mod_lt (tc + i) (show 0 < n by omega)
    rw [show n - i = (n - (i + 1)) + 1 by omega] at hinv
    simp only [ttN] at hinv
    refine rAload_n dX4_takeTurn_10 rfl ?_
    refine sGetI (x := (nI (tc))) dX4_takeTurn_11 fl_X4_31 hd.1 (by decide) rfl (by rw [h4]) ?_
    refine rIload_n dX4_takeTurn_14 rfl ?_
    refine nIadd dX4_takeTurn_15 ?_
    refine rAload_n dX4_takeTurn_16 rfl ?_
    refine sGetI (x := (nI (n))) dX4_takeTurn_17 fl_X4_30 hd.1 (by decide) rfl (by rw [h2]) ?_
    refine nIrem dX4_takeTurn_20 (by omega) (by omega) (by omega) ?_
    refine rIstore_n dX4_takeTurn_21 (by decide) ?_
    refine rAload_n dX4_takeTurn_22 rfl ?_
    refine sGetR dX4_takeTurn_23 fl_X4_9 hd.1 (by decide) rfl ?_
    refine rIload_n dX4_takeTurn_26 rfl ?_
    refine nIald (v := (hh ((tc + i) % n))) dX4_takeTurn_27 hd.2.1 (by omega) (by omega) (by rw [(h6 _ hml).1]) ?_
    refine r_if_le (tgt := 40) dX4_takeTurn_28 (by decide) (fun c_28 => ?_) (fun c_28 => ?_)
    · rw [if_pos c_28] at hinv
      refine rIinc (v := (nI (i + 1))) dX4_takeTurn_40 rfl (by first | exact nI_add _ _ | rfl) (by decide) ?_
      refine rGoto (tgt := 2) dX4_takeTurn_43 (by decide) ?_
      refine rForget (L := [some (.ref (ad V d)), some (.int (nI (i + 1))), some (.int (nI ((tc + i) % n)))]) (L' := [some (.ref (ad V d)), some (.int (nI (i + 1))), none]) (by exact ⟨rfl, ⟨rfl, trivial⟩⟩) ?_
      exact ih (by omega) () hinv
    · rw [if_neg c_28] at hinv
      refine rAload_n dX4_takeTurn_31 rfl ?_
      refine rIload_n dX4_takeTurn_32 rfl ?_
      refine rIconst (v := (nI (1))) dX4_takeTurn_33 (by decide) ?_
      refine nIadd dX4_takeTurn_34 ?_
      refine sPutI dX4_takeTurn_35 fl_X4_31 ft_X4 rfl hd.1 (by decide) rfl rfl rfl ?_
      refine rIload_n dX4_takeTurn_38 rfl ?_
      exact sIret dX4_takeTurn_39 rfl rfl (Nat.le_of_ble_eq_true rfl) (Nat.le_of_ble_eq_true rfl) ⟨_, rfl, ⟨by rw [← hinv]; rfl, ⟨((tc + i) % n + 1) % n, ⟨h1, by rw [sw_i (by decide)]; exact h2, ⟨(tc + i) % n + 1, by omega, sw_s, fun _ => rfl⟩, fun j hj => by rw [sw_a (by omega), sw_a (by omega)]; exact h6 j hj⟩, fun a ha => by rw [← hinv] at ha; cases ha; rfl⟩, fun b hb => sw_a hb⟩⟩
set_option maxRecDepth 100000 in
set_option maxHeartbeats 4000000 in
theorem c_X0_muster {G : gG} {V : wV} {lo : Nat → Int64} {B r0 r1 : Nat} {l0 l1 : List Nat} (hB : batAt V B) (hr0 : rowAt V r0 5) (hr1 : rowAt V r1 5) (h50 : l0.length ≤ 5) (h51 : l1.length ≤ 5) (hx0 : r0 + 3 ≤ B ∨ B + 9 ≤ r0) (hx1 : r1 + 3 ≤ B ∨ B + 9 ≤ r1) {s : sgT} (h0 : rowIs s r0 l0) (h1 : rowIs s r1 l1) (ho0 : okR l0) (ho1 : okR l1) : CSv G V mX0_muster cX0_muster (rmD 4 0 0) [.ref (ad V B), .ref (ad V r0), .ref (ad V r1)] s lo (fun s' => sideIs s' (B + 1) l0.length (z0F l0 l1).1 (gF l0) 0 ∧ sideIs s' (B + 4) l1.length (z0F l0 l1).2.2.1 (gF l1) 0 ∧ (∀ b, b < B + 1 ∨ B + 7 ≤ b → s' b = s b)) (fun _ => False) := by
  refine CSv.of (L := [some (.ref (ad V B)), some (.ref (ad V r0)), some (.ref (ad V r1))]) rfl (by decide +kernel) rfl (Nat.le_of_ble_eq_true rfl) rfl ?_
  refine rAload_n dX0_muster_0 rfl ?_
  refine sGetR dX0_muster_1 fl_X0_12 hB.1 (by decide) rfl ?_
  refine rAload_n dX0_muster_4 rfl ?_
  refine sCallVv (M' := mX4_muster) (rm' := rmD 3 0 0) (As := [.ref (ad V r0)]) (rest := []) dX0_muster_5 rfl mk_X4_muster mi_X4_muster ll_X0_28 ⟨(Nat.le_of_ble_eq_true rfl), (Nat.le_of_ble_eq_true rfl)⟩ hB.2.1.1 (by decide) rfl rfl (Nat.le_of_ble_eq_true rfl) (Nat.le_of_ble_eq_true rfl) (c_X4_muster hB.2.1 hr0 (by omega) (by omega) h50 (by omega) h0 ho0) rfl (Nat.le_of_ble_eq_true rfl) (fun s1 e1 => ?_)
  obtain ⟨e1, e2⟩ := e1
  have hw1 : rowIs s1 r1 l1 := rowIs_keep h1 (e2 _ (by omega) (by omega) (by omega)) (e2 _ (by omega) (by omega) (by omega)) (e2 _ (by omega) (by omega) (by omega))
  refine rAload_n dX0_muster_8 rfl ?_
  refine sGetR dX0_muster_9 fl_X0_18 hB.1 (by decide) rfl ?_
  refine rAload_n dX0_muster_12 rfl ?_
  refine sCallVv (M' := mX4_muster) (rm' := rmD 3 0 0) (As := [.ref (ad V r1)]) (rest := []) dX0_muster_13 rfl mk_X4_muster mi_X4_muster ll_X0_28 ⟨(Nat.le_of_ble_eq_true rfl), (Nat.le_of_ble_eq_true rfl)⟩ hB.2.2.1.1 (by decide) rfl rfl (Nat.le_of_ble_eq_true rfl) (Nat.le_of_ble_eq_true rfl) (c_X4_muster hB.2.2.1 hr1 (by omega) (by omega) h51 (by omega) hw1 ho1) rfl (Nat.le_of_ble_eq_true rfl) (fun s2 e3 => ?_)
  obtain ⟨e3, e4⟩ := e3
  exact sVret dX0_muster_16 rfl (Nat.le_of_ble_eq_true rfl) (Nat.le_of_ble_eq_true rfl) ⟨rfl, ⟨sideIs_keep e1 (e4 _ (by omega) (by omega) (by omega)) (e4 _ (by omega) (by omega) (by omega)) (e4 _ (by omega) (by omega) (by omega)), e3, fun b hb => by rw [e4 b (by omega) (by omega) (by omega), e2 b (by omega) (by omega) (by omega)]⟩⟩
set_option maxRecDepth 100000 in
set_option maxHeartbeats 4000000 in
theorem c_X0_result {G : gG} {V : wV} {lo : Nat → Int64} {B n0 n1 t0 t1 : Nat} {h0 h1 g0 g1 : Nat → Int32} (hB : batAt V B) {s : sgT} (hs0 : sideIs s (B + 1) n0 h0 g0 t0) (hs1 : sideIs s (B + 4) n1 h1 g1 t1) : CSp G V mX0_result cX0_result (rmD 2 0 0) [.ref (ad V B)] s lo (fun v => v = nI (livN h0 n0) - nI (livN h1 n1)) (fun _ => False) := by
  refine CSp.of (L := [some (.ref (ad V B))]) rfl (by decide +kernel) rfl (Nat.le_of_ble_eq_true rfl) rfl ?_
  refine rAload_n dX0_result_0 rfl ?_
  refine sGetR dX0_result_1 fl_X0_12 hB.1 (by decide) rfl ?_
  refine sCallVp (M' := mX4_living) (rm' := rmD 1 0 0) (As := []) (rest := []) dX0_result_4 rfl mk_X4_living mi_X4_living ll_X0_49 ⟨(Nat.le_of_ble_eq_true rfl), (Nat.le_of_ble_eq_true rfl)⟩ hB.2.1.1 (by decide) rfl rfl (Nat.le_of_ble_eq_true rfl) (Nat.le_of_ble_eq_true rfl) (c_X4_living hB.2.1 hs0) rfl (Nat.le_of_ble_eq_true rfl) (fun v e1 => ?_)
  refine tTop (w := (nI (livN h0 n0))) e1 ?_
  refine rAload_n dX0_result_7 rfl ?_
  refine sGetR dX0_result_8 fl_X0_18 hB.1 (by decide) rfl ?_
  refine sCallVp (M' := mX4_living) (rm' := rmD 1 0 0) (As := []) (rest := [.int (nI (livN h0 n0))]) dX0_result_11 rfl mk_X4_living mi_X4_living ll_X0_49 ⟨(Nat.le_of_ble_eq_true rfl), (Nat.le_of_ble_eq_true rfl)⟩ hB.2.2.1.1 (by decide) rfl rfl (Nat.le_of_ble_eq_true rfl) (Nat.le_of_ble_eq_true rfl) (c_X4_living hB.2.2.1 hs1) rfl (Nat.le_of_ble_eq_true rfl) (fun v e2 => ?_)
  refine tTop (w := (nI (livN h1 n1))) e2 ?_
  refine rIsub dX0_result_14 ?_
  exact sIret dX0_result_15 rfl rfl (Nat.le_of_ble_eq_true rfl) (Nat.le_of_ble_eq_true rfl) ⟨_, rfl, rfl, rfl⟩
set_option maxRecDepth 100000 in
set_option maxHeartbeats 4000000 in
theorem c_X0_fightOut {G : gG} {V : wV} {lo : Nat → Int64} {B n0 n1 t0 t1 : Nat} {h0 h1 g0 g1 : Nat → Int32} (hB : batAt V B) {s : sgT} (hs0 : sideIs s (B + 1) n0 h0 g0 t0) (hs1 : sideIs s (B + 4) n1 h1 g1 t1) : CSv G V mX0_fightOut cX0_fightOut (rmD 2 0 0) [.ref (ad V B)] s lo (fun s' => (∃ t', sideIs s' (B + 1) n0 (fightN n0 n1 g0 g1 60 0 (h0, t0, h1, t1)).1 g0 t') ∧ (∃ t', sideIs s' (B + 4) n1 (fightN n0 n1 g0 g1 60 0 (h0, t0, h1, t1)).2.2.1 g1 t') ∧ logIs s' B (recF n0 n1 g0 g1 60 0 (h0, t0, h1, t1)) ∧ (∀ b, b < B ∨ B + 9 ≤ b → s' b = s b)) (fun _ => False) := by
  refine CSv.of (L := [some (.ref (ad V B)), none, none, none, none, none]) rfl (by decide +kernel) rfl (Nat.le_of_ble_eq_true rfl) rfl ?_
  refine rAload_n dX0_fightOut_0 rfl ?_
  refine rIconst (v := (nI (0))) dX0_fightOut_1 (by decide) ?_
  refine sPutI dX0_fightOut_2 fl_X0_32 ft_X0 rfl hB.1 (by decide) rfl rfl rfl ?_
  refine rIconst (v := (nI (0))) dX0_fightOut_5 (by decide) ?_
  refine rIstore_n dX0_fightOut_6 (by decide) ?_
  obtain ⟨R, hR⟩ : ∃ R, R = recF n0 n1 g0 g1 60 0 (h0, t0, h1, t1) := ⟨_, rfl⟩
  obtain ⟨Z, hZ⟩ : ∃ Z, Z = fightN n0 n1 g0 g1 60 0 (h0, t0, h1, t1) := ⟨_, rfl⟩
  rw [← hR, ← hZ]
  refine loopW (σ := sgT × zT × List (Nat × Int32)) (60) (fun i x => [some (.ref (ad V B)), some (.int (nI i)), none, none, none, none]) (fun i x => x.1) (fun i x => fInv n0 n1 g0 g1 R Z B s i x.1 x.2.1.1 x.2.1.2.1 x.2.1.2.2.1 x.2.1.2.2.2 x.2.2) (0) ((sw s B 4 (nI (0))), (h0, t0, h1, t1), []) (by omega) (show fInv n0 n1 g0 g1 R Z B s 0 (sw s B 4 (nI (0))) h0 t0 h1 t1 [] from ⟨sideIs_keep hs0 (sw_a (by omega)) (sw_a (by omega)) (sw_a (by omega)), sideIs_keep hs1 (sw_a (by omega)) (sw_a (by omega)) (sw_a (by omega)), sw_s, fun j hj => absurd hj (by omega), fun b hb => sw_a (by omega), rfl, hR, hZ.symm⟩) (fun i x hi hinv ih => ?_)
  obtain ⟨y, ⟨a0, u0, a1, u1⟩, pre⟩ := x
  have hinv : fInv n0 n1 g0 g1 R Z B s i y a0 u0 a1 u1 pre := hinv
  obtain ⟨v1, v2, v3, v4, v5, v6, v7, v8⟩ := hinv
  refine rIload_n dX0_fightOut_7 rfl ?_
  refine rBipush (v := (nI (60))) dX0_fightOut_8 (by decide) ?_
  refine r_icmp_ge (tgt := 128) dX0_fightOut_10 (by decide) (fun c_10 => ?_) (fun c_10 => ?_)
  · have c_10 : 60 ≤ i := (nI_leI (by omega) (by omega)).mp c_10
    have e : i = 60 := by omega
    subst e
    have hl : R.length = 60 := by rw [v7]; simp [recF, v6]
    have hz : (a0, u0, a1, u1) = Z := v8
    rw [← hz]
    exact sVret dX0_fightOut_128 rfl (Nat.le_of_ble_eq_true rfl) (Nat.le_of_ble_eq_true rfl) ⟨rfl, ⟨⟨u0, v1⟩, ⟨u1, v2⟩, ⟨by rw [hl]; exact v3, fun j hj => v4 j (by omega), by omega⟩, v5⟩⟩
  · have c_10 : ¬ (60 ≤ i) := fun h => c_10 ((nI_leI (by omega) (by omega)).mpr h)
    rw [show 60 - i = (60 - (i + 1)) + 1 by omega] at v7 v8
    simp only [recF, fightN] at v7 v8
    refine rIload_n dX0_fightOut_13 rfl ?_
    refine rIconst (v := (nI (2))) dX0_fightOut_14 (by decide) ?_
    refine nIrem dX0_fightOut_15 (by omega) (by decide) (by decide) ?_
    refine r_if_ne (tgt := 26) dX0_fightOut_16 (by decide) (fun c_16 => ?_) (fun c_16 => ?_)
    · have c_16 : ¬ ((i % 2) = 0) := fun h => c_16 ((nz_eq (by omega)).mpr h)
      refine rAload_n dX0_fightOut_26 rfl ?_
      refine sGetR dX0_fightOut_27 fl_X0_18 hB.1 (by decide) rfl ?_
      refine rAstore_n dX0_fightOut_30 (by decide) ?_
      refine rIload_n dX0_fightOut_31 rfl ?_
      refine rIconst (v := (nI (2))) dX0_fightOut_32 (by decide) ?_
      refine nIrem dX0_fightOut_33 (by omega) (by decide) (by decide) ?_
      refine r_if_ne (tgt := 44) dX0_fightOut_34 (by decide) (fun c_34 => ?_) (fun c_34 => ?_)
      · have c_34 : ¬ ((i % 2) = 0) := fun h => c_34 ((nz_eq (by omega)).mpr h)
        refine rAload_n dX0_fightOut_44 rfl ?_
        refine sGetR dX0_fightOut_45 fl_X0_12 hB.1 (by decide) rfl ?_
        refine rAstore_n dX0_fightOut_48 (by decide) ?_
        refine rAload_n dX0_fightOut_49 rfl ?_
        refine sCallVi (M' := mX4_takeTurn) (rm' := rmD 1 0 0) (As := []) (rest := []) dX0_fightOut_50 rfl mk_X4_takeTurn mi_X4_takeTurn ll_X0_36 ⟨(Nat.le_of_ble_eq_true rfl), (Nat.le_of_ble_eq_true rfl)⟩ hB.2.2.1.1 (by decide) rfl rfl (Nat.le_of_ble_eq_true rfl) (Nat.le_of_ble_eq_true rfl) (c_X4_takeTurn hB.2.2.1 v2) rfl (Nat.le_of_ble_eq_true rfl) (fun v s1 e1 => ?_)
        obtain ⟨rfl, ⟨t2, e2, e3⟩, e4⟩ := e1
        have hk : sideIs s1 (B + 1) n0 a0 g0 u0 := sideIs_keep v1 (e4 _ (by omega)) (e4 _ (by omega)) (e4 _ (by omega))
        have f3 : s1 B 4 = nI i := by rw [e4 _ (by omega)]; exact v3
        have f4 : ∀ j, j < i → s1 (B + 7) j = nI (R.getD j (0, 0)).1 ∧ s1 (B + 8) j = (R.getD j (0, 0)).2 := fun j hj => by rw [e4 _ (by omega), e4 _ (by omega)]; exact v4 j hj
        have f5 : ∀ b, b < B ∨ B + 9 ≤ b → s1 b = s b := fun b hb => by rw [e4 b (by omega)]; exact v5 b hb
        cases ht : ttN a1 n1 u1 n1 0 with
        | none =>
          refine rIstore dX0_fightOut_53 (by decide) ?_
          refine rAload_n dX0_fightOut_55 rfl ?_
          refine sCallVp (M' := mX4_firstLiving) (rm' := rmD 1 0 0) (As := []) (rest := []) dX0_fightOut_56 rfl mk_X4_firstLiving mi_X4_firstLiving ll_X0_40 ⟨(Nat.le_of_ble_eq_true rfl), (Nat.le_of_ble_eq_true rfl)⟩ hB.2.1.1 (by decide) rfl rfl (Nat.le_of_ble_eq_true rfl) (Nat.le_of_ble_eq_true rfl) (c_X4_firstLiving hB.2.1 hk) rfl (Nat.le_of_ble_eq_true rfl) (fun vf ef => ?_)
          refine rIstore dX0_fightOut_59 (by decide) ?_
          refine rIload dX0_fightOut_61 rfl ?_
          refine rIconst (v := (-1)) dX0_fightOut_63 (by decide) ?_
          refine r_icmp_eq (tgt := 73) dX0_fightOut_64 (by decide) (fun c_64 => ?_) (fun c_64 => ?_)
          · have hbl : blowS n0 n1 g0 g1 i (a0, u0, a1, u1) = none := by
              unfold blowS
              rw [if_neg (show ¬ i % 2 = 0 from c_16)]
              simp only [ht]
            rw [hbl] at v7 v8
            have hl : R.length = i := by rw [v7]; simp [v6]
            have hz : (a0, u0, a1, u1) = Z := v8
            rw [← hz]
            exact sVret dX0_fightOut_73 rfl (Nat.le_of_ble_eq_true rfl) (Nat.le_of_ble_eq_true rfl) ⟨rfl, ⟨⟨u0, hk⟩, ⟨t2, e2⟩, ⟨by rw [hl]; exact f3, fun j hj => f4 j (by omega), by omega⟩, f5⟩⟩
          · exact absurd rfl c_64
        | some a =>
          have hn0 : 0 < n1 := by
            rcases Nat.eq_zero_or_pos n1 with q | q
            · subst q
              cases ht
            · exact q
          have hal := (ttN_some ht).1 hn0
          have hn5 := v2.1
          have hm5 := hk.1
          refine rIstore dX0_fightOut_53 (by decide) ?_
          refine rAload_n dX0_fightOut_55 rfl ?_
          refine sCallVp (M' := mX4_firstLiving) (rm' := rmD 1 0 0) (As := []) (rest := []) dX0_fightOut_56 rfl mk_X4_firstLiving mi_X4_firstLiving ll_X0_40 ⟨(Nat.le_of_ble_eq_true rfl), (Nat.le_of_ble_eq_true rfl)⟩ hB.2.1.1 (by decide) rfl rfl (Nat.le_of_ble_eq_true rfl) (Nat.le_of_ble_eq_true rfl) (c_X4_firstLiving hB.2.1 hk) rfl (Nat.le_of_ble_eq_true rfl) (fun vf ef => ?_)
          subst ef
          cases hf : flN a0 n0 0 with
          | none =>
            refine rIstore dX0_fightOut_59 (by decide) ?_
            refine rIload dX0_fightOut_61 rfl ?_
            refine rIconst (v := (-1)) dX0_fightOut_63 (by decide) ?_
            refine r_icmp_eq (tgt := 73) dX0_fightOut_64 (by decide) (fun c_64 => ?_) (fun c_64 => ?_)
            · exact absurd c_64 (nI_m1 (by omega))
            · refine rIload dX0_fightOut_67 rfl ?_
              refine rIconst (v := (-1)) dX0_fightOut_69 (by decide) ?_
              refine r_icmp_ne (tgt := 74) dX0_fightOut_70 (by decide) (fun c_70 => ?_) (fun c_70 => ?_)
              · exact absurd rfl c_70
              · have hbl : blowS n0 n1 g0 g1 i (a0, u0, a1, u1) = none := by
                  unfold blowS
                  rw [if_neg (show ¬ i % 2 = 0 from c_16)]
                  simp only [ht, hf]
                rw [hbl] at v7 v8
                have hl : R.length = i := by rw [v7]; simp [v6]
                have hz : (a0, u0, a1, u1) = Z := v8
                rw [← hz]
                exact sVret dX0_fightOut_73 rfl (Nat.le_of_ble_eq_true rfl) (Nat.le_of_ble_eq_true rfl) ⟨rfl, ⟨⟨u0, hk⟩, ⟨t2, e2⟩, ⟨by rw [hl]; exact f3, fun j hj => f4 j (by omega), by omega⟩, f5⟩⟩
          | some b =>
            have hbl0 := flN_some hf
            refine rIstore dX0_fightOut_59 (by decide) ?_
            refine rIload dX0_fightOut_61 rfl ?_
            refine rIconst (v := (-1)) dX0_fightOut_63 (by decide) ?_
            refine r_icmp_eq (tgt := 73) dX0_fightOut_64 (by decide) (fun c_64 => ?_) (fun c_64 => ?_)
            · exact absurd c_64 (nI_m1 (by omega))
            · refine rIload dX0_fightOut_67 rfl ?_
              refine rIconst (v := (-1)) dX0_fightOut_69 (by decide) ?_
              refine r_icmp_ne (tgt := 74) dX0_fightOut_70 (by decide) (fun c_70 => ?_) (fun c_70 => ?_)
              · have hbl : blowS n0 n1 g0 g1 i (a0, u0, a1, u1) = some ((upd a0 b (a0 b - g1 a), u0, a1, (a + 1) % n1), b, g1 a) := by
                  unfold blowS
                  rw [if_neg (show ¬ i % 2 = 0 from c_16)]
                  simp only [ht, hf]
                rw [hbl] at v7 v8
                dsimp only at v7 v8
                have hg : R.getD i (0, 0) = (b, g1 a) := by rw [v7]; exact getD_app v6 rfl
                have ht2 := e3 a ht
                subst ht2
                refine rAload_n dX0_fightOut_74 rfl ?_
                refine sGetR dX0_fightOut_75 fl_X0_43 hB.2.1.1 (by decide) rfl ?_
                refine rIload dX0_fightOut_78 rfl ?_
                refine rDup2 dX0_fightOut_80 rfl rfl ?_
                refine nIald (v := (a0 b)) dX0_fightOut_81 hB.2.1.2.1 (by omega) (by omega) (by rw [(hk.2.2.2 b (by omega)).1]) ?_
                refine rAload_n dX0_fightOut_82 rfl ?_
                refine sGetR dX0_fightOut_83 fl_X0_46 hB.2.2.1.1 (by decide) rfl ?_
                refine rIload dX0_fightOut_86 rfl ?_
                refine nIald (v := (g1 a)) dX0_fightOut_88 hB.2.2.1.2.2 (by omega) (by omega) (by rw [(e2.2.2.2 a (by omega)).2]) ?_
                refine rIsub dX0_fightOut_89 ?_
                refine nIast dX0_fightOut_90 hB.2.1.2.1 (by omega) (by omega) ?_
                refine rAload_n dX0_fightOut_91 rfl ?_
                refine sGetR dX0_fightOut_92 fl_X0_21 hB.1 (by decide) rfl ?_
                refine rIload_n dX0_fightOut_95 rfl ?_
                refine rIload dX0_fightOut_96 rfl ?_
                refine nIast dX0_fightOut_98 hB.2.2.2.1 (by omega) (by omega) ?_
                refine rAload_n dX0_fightOut_99 rfl ?_
                refine sGetR dX0_fightOut_100 fl_X0_25 hB.1 (by decide) rfl ?_
                refine rIload_n dX0_fightOut_103 rfl ?_
                refine rAload_n dX0_fightOut_104 rfl ?_
                refine sGetR dX0_fightOut_105 fl_X0_46 hB.2.2.1.1 (by decide) rfl ?_
                refine rIload dX0_fightOut_108 rfl ?_
                refine nIald (v := (g1 a)) dX0_fightOut_110 hB.2.2.1.2.2 (by omega) (by omega) (by rw [sw_a (by omega), sw_a (by omega), (e2.2.2.2 a (by omega)).2]) ?_
                refine nIast dX0_fightOut_111 hB.2.2.2.2 (by omega) (by omega) ?_
                refine rAload_n dX0_fightOut_112 rfl ?_
                refine rDup dX0_fightOut_113 rfl ?_
                refine sGetI (x := (nI (i))) dX0_fightOut_114 fl_X0_32 hB.1 (by decide) rfl (by rw [sw_a (by omega), sw_a (by omega), sw_a (by omega), f3]) ?_
                refine rIconst (v := (nI (1))) dX0_fightOut_117 (by decide) ?_
                refine nIadd dX0_fightOut_118 ?_
                refine sPutI dX0_fightOut_119 fl_X0_32 ft_X0 rfl hB.1 (by decide) rfl rfl rfl ?_
                refine rIinc (v := (nI (i + 1))) dX0_fightOut_122 rfl (by first | exact nI_add _ _ | rfl) (by decide) ?_
                refine rGoto (tgt := 7) dX0_fightOut_125 (by decide) ?_
                refine rForget (L := [some (.ref (ad V B)), some (.int (nI (i + 1))), some (.ref (ad V (B + 4))), some (.ref (ad V (B + 1))), some (.int (nI a)), some (.int (nI b))]) (L' := [some (.ref (ad V B)), some (.int (nI (i + 1))), none, none, none, none]) (by exact ⟨rfl, ⟨rfl, trivial⟩⟩) ?_
                exact ih (by omega) ((sw (sw (sw (sw s1 (B + 1 + 1) b ((a0 b) - (g1 a))) (B + 7) i (nI (b))) (B + 8) i (g1 a)) B 4 (nI (i + 1))), (upd a0 b (a0 b - g1 a), u0, a1, (a + 1) % n1), pre ++ [(b, g1 a)]) (show fInv n0 n1 g0 g1 R Z B s (i + 1) (sw (sw (sw (sw s1 (B + 1 + 1) b ((a0 b) - (g1 a))) (B + 7) i (nI (b))) (B + 8) i (g1 a)) B 4 (nI (i + 1))) (upd a0 b (a0 b - g1 a)) u0 a1 ((a + 1) % n1) (pre ++ [(b, g1 a)]) from ⟨⟨hk.1, by simp (disch := omega) only [sw_a, sw_s, sw_i]; exact hk.2.1, (by obtain ⟨tc, q1, q2, q3⟩ := hk.2.2.1; exact ⟨tc, q1, by simp (disch := omega) only [sw_a, sw_s, sw_i]; exact q2, q3⟩), fun j hj => (by
                        have hj2 := hk.2.2.2 j hj
                        refine ⟨?_, by simp (disch := omega) only [sw_a, sw_s, sw_i]; exact hj2.2⟩
                        unfold upd
                        by_cases e : j = b
                        · subst e
                          simp (disch := omega) only [sw_a, sw_s, sw_i]
                          exact (if_pos trivial).symm
                        · simp (disch := omega) only [sw_a, sw_s, sw_i]
                          rw [if_neg e]
                          exact hj2.1)⟩, ⟨e2.1, by simp (disch := omega) only [sw_a, sw_s, sw_i]; exact e2.2.1, (by obtain ⟨tc, q1, q2, q3⟩ := e2.2.2.1; exact ⟨tc, q1, by simp (disch := omega) only [sw_a, sw_s, sw_i]; exact q2, q3⟩), fun j hj => by simp (disch := omega) only [sw_a, sw_s, sw_i]; exact e2.2.2.2 j hj⟩, by simp (disch := omega) only [sw_a, sw_s, sw_i], fun j hj => (by
                      rcases Nat.lt_or_ge j i with q | q
                      · have f := f4 j q
                        simp (disch := omega) only [sw_a, sw_s, sw_i]
                        exact f
                      · have e : j = i := by omega
                        subst e
                        simp (disch := omega) only [sw_a, sw_s, sw_i]
                        rw [hg]
                        exact ⟨rfl, rfl⟩), fun b hb => (by simp (disch := omega) only [sw_a, sw_s, sw_i]; exact f5 b hb), by simp [v6], by rw [v7]; simp, v8⟩)
              · exact absurd c_70 (nI_m1 (by omega))
      · have c_34 : (i % 2) = 0 := (nz_eq (by omega)).mp c_34
        omega
    · have c_16 : (i % 2) = 0 := (nz_eq (by omega)).mp c_16
      refine rAload_n dX0_fightOut_19 rfl ?_
      refine sGetR dX0_fightOut_20 fl_X0_12 hB.1 (by decide) rfl ?_
      refine rGoto (tgt := 30) dX0_fightOut_23 (by decide) ?_
      refine rAstore_n dX0_fightOut_30 (by decide) ?_
      refine rIload_n dX0_fightOut_31 rfl ?_
      refine rIconst (v := (nI (2))) dX0_fightOut_32 (by decide) ?_
      refine nIrem dX0_fightOut_33 (by omega) (by decide) (by decide) ?_
      refine r_if_ne (tgt := 44) dX0_fightOut_34 (by decide) (fun c_34 => ?_) (fun c_34 => ?_)
      · have c_34 : ¬ ((i % 2) = 0) := fun h => c_34 ((nz_eq (by omega)).mpr h)
        omega
      · have c_34 : (i % 2) = 0 := (nz_eq (by omega)).mp c_34
        refine rAload_n dX0_fightOut_37 rfl ?_
        refine sGetR dX0_fightOut_38 fl_X0_18 hB.1 (by decide) rfl ?_
        refine rGoto (tgt := 48) dX0_fightOut_41 (by decide) ?_
        refine rAstore_n dX0_fightOut_48 (by decide) ?_
        refine rAload_n dX0_fightOut_49 rfl ?_
        refine sCallVi (M' := mX4_takeTurn) (rm' := rmD 1 0 0) (As := []) (rest := []) dX0_fightOut_50 rfl mk_X4_takeTurn mi_X4_takeTurn ll_X0_36 ⟨(Nat.le_of_ble_eq_true rfl), (Nat.le_of_ble_eq_true rfl)⟩ hB.2.1.1 (by decide) rfl rfl (Nat.le_of_ble_eq_true rfl) (Nat.le_of_ble_eq_true rfl) (c_X4_takeTurn hB.2.1 v1) rfl (Nat.le_of_ble_eq_true rfl) (fun v s1 e1 => ?_)
        obtain ⟨rfl, ⟨t2, e2, e3⟩, e4⟩ := e1
        have hk : sideIs s1 (B + 4) n1 a1 g1 u1 := sideIs_keep v2 (e4 _ (by omega)) (e4 _ (by omega)) (e4 _ (by omega))
        have f3 : s1 B 4 = nI i := by rw [e4 _ (by omega)]; exact v3
        have f4 : ∀ j, j < i → s1 (B + 7) j = nI (R.getD j (0, 0)).1 ∧ s1 (B + 8) j = (R.getD j (0, 0)).2 := fun j hj => by rw [e4 _ (by omega), e4 _ (by omega)]; exact v4 j hj
        have f5 : ∀ b, b < B ∨ B + 9 ≤ b → s1 b = s b := fun b hb => by rw [e4 b (by omega)]; exact v5 b hb
        cases ht : ttN a0 n0 u0 n0 0 with
        | none =>
          refine rIstore dX0_fightOut_53 (by decide) ?_
          refine rAload_n dX0_fightOut_55 rfl ?_
          refine sCallVp (M' := mX4_firstLiving) (rm' := rmD 1 0 0) (As := []) (rest := []) dX0_fightOut_56 rfl mk_X4_firstLiving mi_X4_firstLiving ll_X0_40 ⟨(Nat.le_of_ble_eq_true rfl), (Nat.le_of_ble_eq_true rfl)⟩ hB.2.2.1.1 (by decide) rfl rfl (Nat.le_of_ble_eq_true rfl) (Nat.le_of_ble_eq_true rfl) (c_X4_firstLiving hB.2.2.1 hk) rfl (Nat.le_of_ble_eq_true rfl) (fun vf ef => ?_)
          refine rIstore dX0_fightOut_59 (by decide) ?_
          refine rIload dX0_fightOut_61 rfl ?_
          refine rIconst (v := (-1)) dX0_fightOut_63 (by decide) ?_
          refine r_icmp_eq (tgt := 73) dX0_fightOut_64 (by decide) (fun c_64 => ?_) (fun c_64 => ?_)
          · have hbl : blowS n0 n1 g0 g1 i (a0, u0, a1, u1) = none := by
              unfold blowS
              rw [if_pos (show i % 2 = 0 from c_16)]
              simp only [ht]
            rw [hbl] at v7 v8
            have hl : R.length = i := by rw [v7]; simp [v6]
            have hz : (a0, u0, a1, u1) = Z := v8
            rw [← hz]
            exact sVret dX0_fightOut_73 rfl (Nat.le_of_ble_eq_true rfl) (Nat.le_of_ble_eq_true rfl) ⟨rfl, ⟨⟨t2, e2⟩, ⟨u1, hk⟩, ⟨by rw [hl]; exact f3, fun j hj => f4 j (by omega), by omega⟩, f5⟩⟩
          · exact absurd rfl c_64
        | some a =>
          have hn0 : 0 < n0 := by
            rcases Nat.eq_zero_or_pos n0 with q | q
            · subst q
              cases ht
            · exact q
          have hal := (ttN_some ht).1 hn0
          have hn5 := v1.1
          have hm5 := hk.1
          refine rIstore dX0_fightOut_53 (by decide) ?_
          refine rAload_n dX0_fightOut_55 rfl ?_
          refine sCallVp (M' := mX4_firstLiving) (rm' := rmD 1 0 0) (As := []) (rest := []) dX0_fightOut_56 rfl mk_X4_firstLiving mi_X4_firstLiving ll_X0_40 ⟨(Nat.le_of_ble_eq_true rfl), (Nat.le_of_ble_eq_true rfl)⟩ hB.2.2.1.1 (by decide) rfl rfl (Nat.le_of_ble_eq_true rfl) (Nat.le_of_ble_eq_true rfl) (c_X4_firstLiving hB.2.2.1 hk) rfl (Nat.le_of_ble_eq_true rfl) (fun vf ef => ?_)
          subst ef
          cases hf : flN a1 n1 0 with
          | none =>
            refine rIstore dX0_fightOut_59 (by decide) ?_
            refine rIload dX0_fightOut_61 rfl ?_
            refine rIconst (v := (-1)) dX0_fightOut_63 (by decide) ?_
            refine r_icmp_eq (tgt := 73) dX0_fightOut_64 (by decide) (fun c_64 => ?_) (fun c_64 => ?_)
            · exact absurd c_64 (nI_m1 (by omega))
            · refine rIload dX0_fightOut_67 rfl ?_
              refine rIconst (v := (-1)) dX0_fightOut_69 (by decide) ?_
              refine r_icmp_ne (tgt := 74) dX0_fightOut_70 (by decide) (fun c_70 => ?_) (fun c_70 => ?_)
              · exact absurd rfl c_70
              · have hbl : blowS n0 n1 g0 g1 i (a0, u0, a1, u1) = none := by
                  unfold blowS
                  rw [if_pos (show i % 2 = 0 from c_16)]
                  simp only [ht, hf]
                rw [hbl] at v7 v8
                have hl : R.length = i := by rw [v7]; simp [v6]
                have hz : (a0, u0, a1, u1) = Z := v8
                rw [← hz]
                exact sVret dX0_fightOut_73 rfl (Nat.le_of_ble_eq_true rfl) (Nat.le_of_ble_eq_true rfl) ⟨rfl, ⟨⟨t2, e2⟩, ⟨u1, hk⟩, ⟨by rw [hl]; exact f3, fun j hj => f4 j (by omega), by omega⟩, f5⟩⟩
          | some b =>
            have hbl0 := flN_some hf
            refine rIstore dX0_fightOut_59 (by decide) ?_
            refine rIload dX0_fightOut_61 rfl ?_
            refine rIconst (v := (-1)) dX0_fightOut_63 (by decide) ?_
            refine r_icmp_eq (tgt := 73) dX0_fightOut_64 (by decide) (fun c_64 => ?_) (fun c_64 => ?_)
            · exact absurd c_64 (nI_m1 (by omega))
            · refine rIload dX0_fightOut_67 rfl ?_
              refine rIconst (v := (-1)) dX0_fightOut_69 (by decide) ?_
              refine r_icmp_ne (tgt := 74) dX0_fightOut_70 (by decide) (fun c_70 => ?_) (fun c_70 => ?_)
              · have hbl : blowS n0 n1 g0 g1 i (a0, u0, a1, u1) = some ((a0, (a + 1) % n0, upd a1 b (a1 b - g0 a), u1), b, g0 a) := by
                  unfold blowS
                  rw [if_pos (show i % 2 = 0 from c_16)]
                  simp only [ht, hf]
                rw [hbl] at v7 v8
                dsimp only at v7 v8
                have hg : R.getD i (0, 0) = (b, g0 a) := by rw [v7]; exact getD_app v6 rfl
                have ht2 := e3 a ht
                subst ht2
                refine rAload_n dX0_fightOut_74 rfl ?_
                refine sGetR dX0_fightOut_75 fl_X0_43 hB.2.2.1.1 (by decide) rfl ?_
                refine rIload dX0_fightOut_78 rfl ?_
                refine rDup2 dX0_fightOut_80 rfl rfl ?_
                refine nIald (v := (a1 b)) dX0_fightOut_81 hB.2.2.1.2.1 (by omega) (by omega) (by rw [(hk.2.2.2 b (by omega)).1]) ?_
                refine rAload_n dX0_fightOut_82 rfl ?_
                refine sGetR dX0_fightOut_83 fl_X0_46 hB.2.1.1 (by decide) rfl ?_
                refine rIload dX0_fightOut_86 rfl ?_
                refine nIald (v := (g0 a)) dX0_fightOut_88 hB.2.1.2.2 (by omega) (by omega) (by rw [(e2.2.2.2 a (by omega)).2]) ?_
                refine rIsub dX0_fightOut_89 ?_
                refine nIast dX0_fightOut_90 hB.2.2.1.2.1 (by omega) (by omega) ?_
                refine rAload_n dX0_fightOut_91 rfl ?_
                refine sGetR dX0_fightOut_92 fl_X0_21 hB.1 (by decide) rfl ?_
                refine rIload_n dX0_fightOut_95 rfl ?_
                refine rIload dX0_fightOut_96 rfl ?_
                refine nIast dX0_fightOut_98 hB.2.2.2.1 (by omega) (by omega) ?_
                refine rAload_n dX0_fightOut_99 rfl ?_
                refine sGetR dX0_fightOut_100 fl_X0_25 hB.1 (by decide) rfl ?_
                refine rIload_n dX0_fightOut_103 rfl ?_
                refine rAload_n dX0_fightOut_104 rfl ?_
                refine sGetR dX0_fightOut_105 fl_X0_46 hB.2.1.1 (by decide) rfl ?_
                refine rIload dX0_fightOut_108 rfl ?_
                refine nIald (v := (g0 a)) dX0_fightOut_110 hB.2.1.2.2 (by omega) (by omega) (by rw [sw_a (by omega), sw_a (by omega), (e2.2.2.2 a (by omega)).2]) ?_
                refine nIast dX0_fightOut_111 hB.2.2.2.2 (by omega) (by omega) ?_
                refine rAload_n dX0_fightOut_112 rfl ?_
                refine rDup dX0_fightOut_113 rfl ?_
                refine sGetI (x := (nI (i))) dX0_fightOut_114 fl_X0_32 hB.1 (by decide) rfl (by rw [sw_a (by omega), sw_a (by omega), sw_a (by omega), f3]) ?_
                refine rIconst (v := (nI (1))) dX0_fightOut_117 (by decide) ?_
                refine nIadd dX0_fightOut_118 ?_
                refine sPutI dX0_fightOut_119 fl_X0_32 ft_X0 rfl hB.1 (by decide) rfl rfl rfl ?_
                refine rIinc (v := (nI (i + 1))) dX0_fightOut_122 rfl (by first | exact nI_add _ _ | rfl) (by decide) ?_
                refine rGoto (tgt := 7) dX0_fightOut_125 (by decide) ?_
                refine rForget (L := [some (.ref (ad V B)), some (.int (nI (i + 1))), some (.ref (ad V (B + 1))), some (.ref (ad V (B + 4))), some (.int (nI a)), some (.int (nI b))]) (L' := [some (.ref (ad V B)), some (.int (nI (i + 1))), none, none, none, none]) (by exact ⟨rfl, ⟨rfl, trivial⟩⟩) ?_
                exact ih (by omega) ((sw (sw (sw (sw s1 (B + 4 + 1) b ((a1 b) - (g0 a))) (B + 7) i (nI (b))) (B + 8) i (g0 a)) B 4 (nI (i + 1))), (a0, (a + 1) % n0, upd a1 b (a1 b - g0 a), u1), pre ++ [(b, g0 a)]) (show fInv n0 n1 g0 g1 R Z B s (i + 1) (sw (sw (sw (sw s1 (B + 4 + 1) b ((a1 b) - (g0 a))) (B + 7) i (nI (b))) (B + 8) i (g0 a)) B 4 (nI (i + 1))) a0 ((a + 1) % n0) (upd a1 b (a1 b - g0 a)) u1 (pre ++ [(b, g0 a)]) from ⟨⟨e2.1, by simp (disch := omega) only [sw_a, sw_s, sw_i]; exact e2.2.1, (by obtain ⟨tc, q1, q2, q3⟩ := e2.2.2.1; exact ⟨tc, q1, by simp (disch := omega) only [sw_a, sw_s, sw_i]; exact q2, q3⟩), fun j hj => by simp (disch := omega) only [sw_a, sw_s, sw_i]; exact e2.2.2.2 j hj⟩, ⟨hk.1, by simp (disch := omega) only [sw_a, sw_s, sw_i]; exact hk.2.1, (by obtain ⟨tc, q1, q2, q3⟩ := hk.2.2.1; exact ⟨tc, q1, by simp (disch := omega) only [sw_a, sw_s, sw_i]; exact q2, q3⟩), fun j hj => (by
                        have hj2 := hk.2.2.2 j hj
                        refine ⟨?_, by simp (disch := omega) only [sw_a, sw_s, sw_i]; exact hj2.2⟩
                        unfold upd
                        by_cases e : j = b
                        · subst e
                          simp (disch := omega) only [sw_a, sw_s, sw_i]
                          exact (if_pos trivial).symm
                        · simp (disch := omega) only [sw_a, sw_s, sw_i]
                          rw [if_neg e]
                          exact hj2.1)⟩, by simp (disch := omega) only [sw_a, sw_s, sw_i], fun j hj => (by
                      rcases Nat.lt_or_ge j i with q | q
                      · have f := f4 j q
                        simp (disch := omega) only [sw_a, sw_s, sw_i]
                        exact f
                      · have e : j = i := by omega
                        subst e
                        simp (disch := omega) only [sw_a, sw_s, sw_i]
                        rw [hg]
                        exact ⟨rfl, rfl⟩), fun b hb => (by simp (disch := omega) only [sw_a, sw_s, sw_i]; exact f5 b hb), by simp [v6], by rw [v7]; simp, v8⟩)
              · exact absurd c_70 (nI_m1 (by omega))
set_option maxRecDepth 100000 in
set_option maxHeartbeats 4000000 in
theorem c_X0_redo {G : gG} {V : wV} {lo : Nat → Int64} {B n0 n1 t0 t1 : Nat} {h0 h1 g0 g1 : Nat → Int32} (hB : batAt V B) {s : sgT} (hs0 : sideIs s (B + 1) n0 h0 g0 t0) (hs1 : sideIs s (B + 4) n1 h1 g1 t1) {R : List (Nat × Int32)} (hR : logIs s B R) (hin : ∀ j, j < R.length → (j % 2 = 0 → (R.getD j (0, 0)).1 < n1) ∧ (¬ j % 2 = 0 → (R.getD j (0, 0)).1 < n0)) : CSv G V mX0_redo cX0_redo (rmD 1 0 0) [.ref (ad V B)] s lo (fun s' => (∃ t', sideIs s' (B + 1) n0 (rdI R h0 h1 R.length).1 g0 t') ∧ (∃ t', sideIs s' (B + 4) n1 (rdI R h0 h1 R.length).2 g1 t') ∧ (∀ b, b < B ∨ B + 9 ≤ b → s' b = s b)) (fun _ => False) := by
  refine CSv.of (L := [some (.ref (ad V B)), none, none]) rfl (by decide +kernel) rfl (Nat.le_of_ble_eq_true rfl) rfl ?_
  refine rIconst (v := (nI (0))) dX0_redo_0 (by decide) ?_
  refine rIstore_n dX0_redo_1 (by decide) ?_
  obtain ⟨r1, r2, r3⟩ := hR
  refine loopW (σ := sgT) (R.length) (fun i y => [some (.ref (ad V B)), some (.int (nI i)), none]) (fun i y => y) (fun i y => sideIs y (B + 1) n0 (rdI R h0 h1 i).1 g0 t0 ∧ sideIs y (B + 4) n1 (rdI R h0 h1 i).2 g1 t1 ∧ (∀ b, b ≠ B + 2 → b ≠ B + 5 → y b = s b)) (0) s (by omega) ⟨hs0, hs1, fun _ _ _ => rfl⟩ (fun i y hi hinv ih => ?_)
  obtain ⟨v1, v2, v3⟩ := hinv
  refine rIload_n dX0_redo_2 rfl ?_
  refine rAload_n dX0_redo_3 rfl ?_
  refine sGetI (x := (nI (R.length))) dX0_redo_4 fl_X0_32 hB.1 (by decide) rfl (by rw [v3 _ (by omega) (by omega), r1]) ?_
  refine r_icmp_ge (tgt := 54) dX0_redo_7 (by decide) (fun c_7 => ?_) (fun c_7 => ?_)
  · have c_7 : (R.length) ≤ i := (nI_leI (by omega) (by omega)).mp c_7
    have e : i = R.length := by omega
    subst e
    exact sVret dX0_redo_54 rfl (Nat.le_of_ble_eq_true rfl) (Nat.le_of_ble_eq_true rfl) ⟨rfl, ⟨⟨t0, v1⟩, ⟨t1, v2⟩, fun b hb => v3 b (by omega) (by omega)⟩⟩
  · have c_7 : ¬ ((R.length) ≤ i) := fun h => c_7 ((nI_leI (by omega) (by omega)).mpr h)
    obtain ⟨i1, i2⟩ := hin i (by omega)
    obtain ⟨b, hb⟩ : ∃ b, b = (R.getD i (0, 0)).1 := ⟨_, rfl⟩
    obtain ⟨z, hz⟩ : ∃ z, z = (R.getD i (0, 0)).2 := ⟨_, rfl⟩
    have q1 := (r2 i (by omega)).1
    have q2 := (r2 i (by omega)).2
    rw [← hb] at q1 i1 i2
    rw [← hz] at q2
    have hn0 := hs0.1
    have hn1 := hs1.1
    refine rIload_n dX0_redo_10 rfl ?_
    refine rIconst (v := (nI (2))) dX0_redo_11 (by decide) ?_
    refine nIrem dX0_redo_12 (by omega) (by decide) (by decide) ?_
    refine r_if_ne (tgt := 23) dX0_redo_13 (by decide) (fun c_13 => ?_) (fun c_13 => ?_)
    · have c_13 : ¬ ((i % 2) = 0) := fun h => c_13 ((nz_eq (by omega)).mpr h)
      have hbn := i2 c_13
      refine rAload_n dX0_redo_23 rfl ?_
      refine sGetR dX0_redo_24 fl_X0_12 hB.1 (by decide) rfl ?_
      refine rAstore_n dX0_redo_27 (by decide) ?_
      refine rAload_n dX0_redo_28 rfl ?_
      refine sGetR dX0_redo_29 fl_X0_43 hB.2.1.1 (by decide) rfl ?_
      refine rAload_n dX0_redo_32 rfl ?_
      refine sGetR dX0_redo_33 fl_X0_21 hB.1 (by decide) rfl ?_
      refine rIload_n dX0_redo_36 rfl ?_
      refine nIald (v := (nI (b))) dX0_redo_37 hB.2.2.2.1 (by omega) (by omega) (by rw [v3 _ (by omega) (by omega), q1]) ?_
      refine rDup2 dX0_redo_38 rfl rfl ?_
      refine nIald (v := ((rdI R h0 h1 i).1 b)) dX0_redo_39 hB.2.1.2.1 (by omega) (by omega) (by rw [(v1.2.2.2 b (by omega)).1]) ?_
      refine rAload_n dX0_redo_40 rfl ?_
      refine sGetR dX0_redo_41 fl_X0_25 hB.1 (by decide) rfl ?_
      refine rIload_n dX0_redo_44 rfl ?_
      refine nIald (v := (z)) dX0_redo_45 hB.2.2.2.2 (by omega) (by omega) (by rw [v3 _ (by omega) (by omega), q2]) ?_
      refine rIsub dX0_redo_46 ?_
      refine nIast dX0_redo_47 hB.2.1.2.1 (by omega) (by omega) ?_
      refine rIinc (v := (nI (i + 1))) dX0_redo_48 rfl (by first | exact nI_add _ _ | rfl) (by decide) ?_
      refine rGoto (tgt := 2) dX0_redo_51 (by decide) ?_
      refine rForget (L := [some (.ref (ad V B)), some (.int (nI (i + 1))), some (.ref (ad V (B + 1)))]) (L' := [some (.ref (ad V B)), some (.int (nI (i + 1))), none]) (by exact ⟨rfl, ⟨rfl, trivial⟩⟩) ?_
      have e : rdI R h0 h1 (i + 1) = (upd (rdI R h0 h1 i).1 b ((rdI R h0 h1 i).1 b - z), (rdI R h0 h1 i).2) := by
        simp only [rdI]
        rw [if_neg c_13, ← hb, ← hz]
      exact ih (by omega) _ ⟨by rw [e]; exact ⟨v1.1, by simp (disch := omega) only [sw_a, sw_s, sw_i]; exact v1.2.1, (by obtain ⟨tc, q1, q2, q3⟩ := v1.2.2.1; exact ⟨tc, q1, by simp (disch := omega) only [sw_a, sw_s, sw_i]; exact q2, q3⟩), fun j hj => (by
              have hj2 := v1.2.2.2 j hj
              refine ⟨?_, by simp (disch := omega) only [sw_a, sw_s, sw_i]; exact hj2.2⟩
              unfold upd
              by_cases e : j = b
              · subst e
                simp (disch := omega) only [sw_a, sw_s, sw_i]
                exact (if_pos trivial).symm
              · simp (disch := omega) only [sw_a, sw_s, sw_i]
                rw [if_neg e]
                exact hj2.1)⟩, by rw [e]; exact sideIs_keep v2 (sw_a (by omega)) (sw_a (by omega)) (sw_a (by omega)), fun b h1 h2 => by rw [sw_a (by omega)]; exact v3 b h1 h2⟩
    · have c_13 : (i % 2) = 0 := (nz_eq (by omega)).mp c_13
      have hbn := i1 c_13
      refine rAload_n dX0_redo_16 rfl ?_
      refine sGetR dX0_redo_17 fl_X0_18 hB.1 (by decide) rfl ?_
      refine rGoto (tgt := 27) dX0_redo_20 (by decide) ?_
      refine rAstore_n dX0_redo_27 (by decide) ?_
      refine rAload_n dX0_redo_28 rfl ?_
      refine sGetR dX0_redo_29 fl_X0_43 hB.2.2.1.1 (by decide) rfl ?_
      refine rAload_n dX0_redo_32 rfl ?_
      refine sGetR dX0_redo_33 fl_X0_21 hB.1 (by decide) rfl ?_
      refine rIload_n dX0_redo_36 rfl ?_
      refine nIald (v := (nI (b))) dX0_redo_37 hB.2.2.2.1 (by omega) (by omega) (by rw [v3 _ (by omega) (by omega), q1]) ?_
      refine rDup2 dX0_redo_38 rfl rfl ?_
      refine nIald (v := ((rdI R h0 h1 i).2 b)) dX0_redo_39 hB.2.2.1.2.1 (by omega) (by omega) (by rw [(v2.2.2.2 b (by omega)).1]) ?_
      refine rAload_n dX0_redo_40 rfl ?_
      refine sGetR dX0_redo_41 fl_X0_25 hB.1 (by decide) rfl ?_
      refine rIload_n dX0_redo_44 rfl ?_
      refine nIald (v := (z)) dX0_redo_45 hB.2.2.2.2 (by omega) (by omega) (by rw [v3 _ (by omega) (by omega), q2]) ?_
      refine rIsub dX0_redo_46 ?_
      refine nIast dX0_redo_47 hB.2.2.1.2.1 (by omega) (by omega) ?_
      refine rIinc (v := (nI (i + 1))) dX0_redo_48 rfl (by first | exact nI_add _ _ | rfl) (by decide) ?_
      refine rGoto (tgt := 2) dX0_redo_51 (by decide) ?_
      refine rForget (L := [some (.ref (ad V B)), some (.int (nI (i + 1))), some (.ref (ad V (B + 4)))]) (L' := [some (.ref (ad V B)), some (.int (nI (i + 1))), none]) (by exact ⟨rfl, ⟨rfl, trivial⟩⟩) ?_
      have e : rdI R h0 h1 (i + 1) = ((rdI R h0 h1 i).1, upd (rdI R h0 h1 i).2 b ((rdI R h0 h1 i).2 b - z)) := by
        simp only [rdI]
        rw [if_pos c_13, ← hb, ← hz]
      exact ih (by omega) _ ⟨by rw [e]; exact sideIs_keep v1 (sw_a (by omega)) (sw_a (by omega)) (sw_a (by omega)), by rw [e]; exact ⟨v2.1, by simp (disch := omega) only [sw_a, sw_s, sw_i]; exact v2.2.1, (by obtain ⟨tc, q1, q2, q3⟩ := v2.2.2.1; exact ⟨tc, q1, by simp (disch := omega) only [sw_a, sw_s, sw_i]; exact q2, q3⟩), fun j hj => (by
              have hj2 := v2.2.2.2 j hj
              refine ⟨?_, by simp (disch := omega) only [sw_a, sw_s, sw_i]; exact hj2.2⟩
              unfold upd
              by_cases e : j = b
              · subst e
                simp (disch := omega) only [sw_a, sw_s, sw_i]
                exact (if_pos trivial).symm
              · simp (disch := omega) only [sw_a, sw_s, sw_i]
                rw [if_neg e]
                exact hj2.1)⟩, fun b h1 h2 => by rw [sw_a (by omega)]; exact v3 b h1 h2⟩
end
