section
-- ===== PART A: goes FIRST, ahead of the names: the tables' words, and 'selects' of the private methods out of them =====
/-- a private method of a class that the tables say can be made, by its rows of tables_1 -/
def lw_okq (q : MethodName × Nat) : Prop := (q.1.cls ≠ "java/lang/invoke/MethodHandle" ∧ q.1.cls ≠ "java/lang/invoke/VarHandle") ∧ Cond.instantiable q.1.cls q.2 ∈ tables_1 ∧ Cond.privateMethod q.1 ∈ tables_1 ∧ Cond.instanceMethod q.1 ∈ tables_1
theorem lw_p0 : lw_okq (⟨"StagedParsers$Study", "findNodesInBodies", "()V"⟩, 6) := ⟨⟨by decide +kernel, by decide +kernel⟩, List.mem_of_getElem? (i := 59) (by decide +kernel), List.mem_of_getElem? (i := 222) (by decide +kernel), List.mem_of_getElem? (i := 223) (by decide +kernel)⟩
theorem lw_p1 : lw_okq (⟨"StagedParsers$Study", "unmark", "([Z)V"⟩, 6) := ⟨⟨by decide +kernel, by decide +kernel⟩, List.mem_of_getElem? (i := 59) (by decide +kernel), List.mem_of_getElem? (i := 226) (by decide +kernel), List.mem_of_getElem? (i := 227) (by decide +kernel)⟩
theorem lw_p2 : lw_okq (⟨"StagedParsers$Study", "markInBodies", "(I)V"⟩, 6) := ⟨⟨by decide +kernel, by decide +kernel⟩, List.mem_of_getElem? (i := 59) (by decide +kernel), List.mem_of_getElem? (i := 238) (by decide +kernel), List.mem_of_getElem? (i := 239) (by decide +kernel)⟩
theorem lw_p3 : lw_okq (⟨"StagedParsers$Study", "findLeads", "()V"⟩, 6) := ⟨⟨by decide +kernel, by decide +kernel⟩, List.mem_of_getElem? (i := 59) (by decide +kernel), List.mem_of_getElem? (i := 265) (by decide +kernel), List.mem_of_getElem? (i := 266) (by decide +kernel)⟩
theorem lw_p4 : lw_okq (⟨"StagedParsers$Study", "findEmptyNodes", "()V"⟩, 6) := ⟨⟨by decide +kernel, by decide +kernel⟩, List.mem_of_getElem? (i := 59) (by decide +kernel), List.mem_of_getElem? (i := 269) (by decide +kernel), List.mem_of_getElem? (i := 270) (by decide +kernel)⟩
theorem lw_p5 : lw_okq (⟨"StagedParsers$Study", "emptyByParts", "(I)Z"⟩, 6) := ⟨⟨by decide +kernel, by decide +kernel⟩, List.mem_of_getElem? (i := 59) (by decide +kernel), List.mem_of_getElem? (i := 273) (by decide +kernel), List.mem_of_getElem? (i := 274) (by decide +kernel)⟩
theorem lw_p6 : lw_okq (⟨"StagedParsers$Study", "marked", "([ZI)Z"⟩, 6) := ⟨⟨by decide +kernel, by decide +kernel⟩, List.mem_of_getElem? (i := 59) (by decide +kernel), List.mem_of_getElem? (i := 277) (by decide +kernel), List.mem_of_getElem? (i := 278) (by decide +kernel)⟩
theorem lw_p7 : lw_okq (⟨"StagedParsers$Study", "leadsByParts", "(I)I"⟩, 6) := ⟨⟨by decide +kernel, by decide +kernel⟩, List.mem_of_getElem? (i := 59) (by decide +kernel), List.mem_of_getElem? (i := 281) (by decide +kernel), List.mem_of_getElem? (i := 282) (by decide +kernel)⟩
theorem lw_p8 : lw_okq (⟨"StagedParsers$Study", "leadsOf", "(I)I"⟩, 6) := ⟨⟨by decide +kernel, by decide +kernel⟩, List.mem_of_getElem? (i := 59) (by decide +kernel), List.mem_of_getElem? (i := 285) (by decide +kernel), List.mem_of_getElem? (i := 286) (by decide +kernel)⟩
theorem lw_p9 : lw_okq (⟨"StagedParsers$Study", "hasRuleWithoutBody", "()Z"⟩, 6) := ⟨⟨by decide +kernel, by decide +kernel⟩, List.mem_of_getElem? (i := 59) (by decide +kernel), List.mem_of_getElem? (i := 289) (by decide +kernel), List.mem_of_getElem? (i := 290) (by decide +kernel)⟩
theorem lw_p10 : lw_okq (⟨"StagedParsers$Study", "hasEndlessLoop", "()Z"⟩, 6) := ⟨⟨by decide +kernel, by decide +kernel⟩, List.mem_of_getElem? (i := 59) (by decide +kernel), List.mem_of_getElem? (i := 297) (by decide +kernel), List.mem_of_getElem? (i := 298) (by decide +kernel)⟩
theorem lw_p11 : lw_okq (⟨"StagedParsers$Study", "couldLoop", "(I)Z"⟩, 6) := ⟨⟨by decide +kernel, by decide +kernel⟩, List.mem_of_getElem? (i := 59) (by decide +kernel), List.mem_of_getElem? (i := 301) (by decide +kernel), List.mem_of_getElem? (i := 302) (by decide +kernel)⟩
theorem lw_p12 : lw_okq (⟨"StagedParsers$Study", "hasRuleThatLeadsToItself", "()Z"⟩, 6) := ⟨⟨by decide +kernel, by decide +kernel⟩, List.mem_of_getElem? (i := 59) (by decide +kernel), List.mem_of_getElem? (i := 305) (by decide +kernel), List.mem_of_getElem? (i := 306) (by decide +kernel)⟩
theorem lw_p13 : lw_okq (⟨"StagedParsers$Code", "put", "(III)V"⟩, 6) := ⟨⟨by decide +kernel, by decide +kernel⟩, List.mem_of_getElem? (i := 85) (by decide +kernel), List.mem_of_getElem? (i := 313) (by decide +kernel), List.mem_of_getElem? (i := 314) (by decide +kernel)⟩
theorem lw_p14 : lw_okq (⟨"StagedParsers$Code", "writePiece", "(IIII)V"⟩, 6) := ⟨⟨by decide +kernel, by decide +kernel⟩, List.mem_of_getElem? (i := 85) (by decide +kernel), List.mem_of_getElem? (i := 329) (by decide +kernel), List.mem_of_getElem? (i := 330) (by decide +kernel)⟩
theorem lw_p15 : lw_okq (⟨"StagedParsers$Code", "putCall", "(I)V"⟩, 6) := ⟨⟨by decide +kernel, by decide +kernel⟩, List.mem_of_getElem? (i := 85) (by decide +kernel), List.mem_of_getElem? (i := 333) (by decide +kernel), List.mem_of_getElem? (i := 334) (by decide +kernel)⟩
def lw_privs_1 : List (MethodName × Nat) := [(⟨"StagedParsers$Study", "findNodesInBodies", "()V"⟩, 6), (⟨"StagedParsers$Study", "unmark", "([Z)V"⟩, 6), (⟨"StagedParsers$Study", "markInBodies", "(I)V"⟩, 6), (⟨"StagedParsers$Study", "findLeads", "()V"⟩, 6), (⟨"StagedParsers$Study", "findEmptyNodes", "()V"⟩, 6), (⟨"StagedParsers$Study", "emptyByParts", "(I)Z"⟩, 6), (⟨"StagedParsers$Study", "marked", "([ZI)Z"⟩, 6), (⟨"StagedParsers$Study", "leadsByParts", "(I)I"⟩, 6), (⟨"StagedParsers$Study", "leadsOf", "(I)I"⟩, 6), (⟨"StagedParsers$Study", "hasRuleWithoutBody", "()Z"⟩, 6), (⟨"StagedParsers$Study", "hasEndlessLoop", "()Z"⟩, 6), (⟨"StagedParsers$Study", "couldLoop", "(I)Z"⟩, 6), (⟨"StagedParsers$Study", "hasRuleThatLeadsToItself", "()Z"⟩, 6), (⟨"StagedParsers$Code", "put", "(III)V"⟩, 6), (⟨"StagedParsers$Code", "writePiece", "(IIII)V"⟩, 6), (⟨"StagedParsers$Code", "putCall", "(I)V"⟩, 6)]
theorem lw_r1 : ∀ q ∈ lw_privs_1, lw_okq q := List.forall_mem_cons.mpr ⟨lw_p0, List.forall_mem_cons.mpr ⟨lw_p1, List.forall_mem_cons.mpr ⟨lw_p2, List.forall_mem_cons.mpr ⟨lw_p3, List.forall_mem_cons.mpr ⟨lw_p4, List.forall_mem_cons.mpr ⟨lw_p5, List.forall_mem_cons.mpr ⟨lw_p6, List.forall_mem_cons.mpr ⟨lw_p7, List.forall_mem_cons.mpr ⟨lw_p8, List.forall_mem_cons.mpr ⟨lw_p9, List.forall_mem_cons.mpr ⟨lw_p10, List.forall_mem_cons.mpr ⟨lw_p11, List.forall_mem_cons.mpr ⟨lw_p12, List.forall_mem_cons.mpr ⟨lw_p13, List.forall_mem_cons.mpr ⟨lw_p14, List.forall_mem_cons.mpr ⟨lw_p15, fun _ h => absurd h List.not_mem_nil⟩⟩⟩⟩⟩⟩⟩⟩⟩⟩⟩⟩⟩⟩⟩⟩
theorem lw_p16 : lw_okq (⟨"StagedParsers$Code", "piece", "(I)I"⟩, 6) := ⟨⟨by decide +kernel, by decide +kernel⟩, List.mem_of_getElem? (i := 85) (by decide +kernel), List.mem_of_getElem? (i := 337) (by decide +kernel), List.mem_of_getElem? (i := 338) (by decide +kernel)⟩
theorem lw_p17 : lw_okq (⟨"StagedParsers$Code", "writeOr", "(II)V"⟩, 6) := ⟨⟨by decide +kernel, by decide +kernel⟩, List.mem_of_getElem? (i := 85) (by decide +kernel), List.mem_of_getElem? (i := 341) (by decide +kernel), List.mem_of_getElem? (i := 342) (by decide +kernel)⟩
theorem lw_p18 : lw_okq (⟨"StagedParsers$Code", "writeNot", "(I)V"⟩, 6) := ⟨⟨by decide +kernel, by decide +kernel⟩, List.mem_of_getElem? (i := 85) (by decide +kernel), List.mem_of_getElem? (i := 345) (by decide +kernel), List.mem_of_getElem? (i := 346) (by decide +kernel)⟩
theorem lw_p19 : lw_okq (⟨"StagedParsers$Code", "writeMany", "(II)V"⟩, 6) := ⟨⟨by decide +kernel, by decide +kernel⟩, List.mem_of_getElem? (i := 85) (by decide +kernel), List.mem_of_getElem? (i := 349) (by decide +kernel), List.mem_of_getElem? (i := 350) (by decide +kernel)⟩
theorem lw_p20 : lw_okq (⟨"StagedParsers$Code", "writeChain", "(II)V"⟩, 6) := ⟨⟨by decide +kernel, by decide +kernel⟩, List.mem_of_getElem? (i := 85) (by decide +kernel), List.mem_of_getElem? (i := 353) (by decide +kernel), List.mem_of_getElem? (i := 354) (by decide +kernel)⟩
theorem lw_p21 : lw_okq (⟨"StagedParsers$Grammar", "canBePart", "(I)Z"⟩, 7) := ⟨⟨by decide +kernel, by decide +kernel⟩, List.mem_of_getElem? (i := 27) (by decide +kernel), List.mem_of_getElem? (i := 436) (by decide +kernel), List.mem_of_getElem? (i := 437) (by decide +kernel)⟩
theorem lw_p22 : lw_okq (⟨"java/lang/Throwable", "fillInStackTrace", "(I)Ljava/lang/Throwable;"⟩, 6) := ⟨⟨by decide +kernel, by decide +kernel⟩, List.mem_of_getElem? (i := 483) (by decide +kernel), List.mem_of_getElem? (i := 481) (by decide +kernel), List.mem_of_getElem? (i := 482) (by decide +kernel)⟩
theorem lw_p23 : lw_okq (⟨"StagedParsers$Study", "findBeginners", "(I)V"⟩, 6) := ⟨⟨by decide +kernel, by decide +kernel⟩, List.mem_of_getElem? (i := 59) (by decide +kernel), List.mem_of_getElem? (i := 582) (by decide +kernel), List.mem_of_getElem? (i := 583) (by decide +kernel)⟩
theorem lw_p24 : lw_okq (⟨"StagedParsers$Study", "beginsByParts", "(II)Z"⟩, 6) := ⟨⟨by decide +kernel, by decide +kernel⟩, List.mem_of_getElem? (i := 59) (by decide +kernel), List.mem_of_getElem? (i := 586) (by decide +kernel), List.mem_of_getElem? (i := 587) (by decide +kernel)⟩
theorem lw_p25 : lw_okq (⟨"StagedParsers$Machine", "reset", "()V"⟩, 14) := ⟨⟨by decide +kernel, by decide +kernel⟩, List.mem_of_getElem? (i := 124) (by decide +kernel), List.mem_of_getElem? (i := 635) (by decide +kernel), List.mem_of_getElem? (i := 636) (by decide +kernel)⟩
theorem lw_p26 : lw_okq (⟨"StagedParsers$Machine", "callBody", "(I)V"⟩, 14) := ⟨⟨by decide +kernel, by decide +kernel⟩, List.mem_of_getElem? (i := 124) (by decide +kernel), List.mem_of_getElem? (i := 644) (by decide +kernel), List.mem_of_getElem? (i := 645) (by decide +kernel)⟩
theorem lw_p27 : lw_okq (⟨"StagedParsers$Machine", "pushFrame", "(II)V"⟩, 14) := ⟨⟨by decide +kernel, by decide +kernel⟩, List.mem_of_getElem? (i := 124) (by decide +kernel), List.mem_of_getElem? (i := 648) (by decide +kernel), List.mem_of_getElem? (i := 649) (by decide +kernel)⟩
theorem lw_p28 : lw_okq (⟨"StagedParsers$Machine", "obey", "(III)V"⟩, 14) := ⟨⟨by decide +kernel, by decide +kernel⟩, List.mem_of_getElem? (i := 124) (by decide +kernel), List.mem_of_getElem? (i := 677) (by decide +kernel), List.mem_of_getElem? (i := 678) (by decide +kernel)⟩
theorem lw_p29 : lw_okq (⟨"StagedParsers$Machine", "give", "(I)V"⟩, 14) := ⟨⟨by decide +kernel, by decide +kernel⟩, List.mem_of_getElem? (i := 124) (by decide +kernel), List.mem_of_getElem? (i := 681) (by decide +kernel), List.mem_of_getElem? (i := 682) (by decide +kernel)⟩
theorem lw_p30 : lw_okq (⟨"StagedParsers$Machine", "take", "(II)V"⟩, 14) := ⟨⟨by decide +kernel, by decide +kernel⟩, List.mem_of_getElem? (i := 124) (by decide +kernel), List.mem_of_getElem? (i := 685) (by decide +kernel), List.mem_of_getElem? (i := 686) (by decide +kernel)⟩
theorem lw_p31 : lw_okq (⟨"StagedParsers$Machine", "failAt", "(I)V"⟩, 14) := ⟨⟨by decide +kernel, by decide +kernel⟩, List.mem_of_getElem? (i := 124) (by decide +kernel), List.mem_of_getElem? (i := 694) (by decide +kernel), List.mem_of_getElem? (i := 695) (by decide +kernel)⟩
def lw_privs_2 : List (MethodName × Nat) := [(⟨"StagedParsers$Code", "piece", "(I)I"⟩, 6), (⟨"StagedParsers$Code", "writeOr", "(II)V"⟩, 6), (⟨"StagedParsers$Code", "writeNot", "(I)V"⟩, 6), (⟨"StagedParsers$Code", "writeMany", "(II)V"⟩, 6), (⟨"StagedParsers$Code", "writeChain", "(II)V"⟩, 6), (⟨"StagedParsers$Grammar", "canBePart", "(I)Z"⟩, 7), (⟨"java/lang/Throwable", "fillInStackTrace", "(I)Ljava/lang/Throwable;"⟩, 6), (⟨"StagedParsers$Study", "findBeginners", "(I)V"⟩, 6), (⟨"StagedParsers$Study", "beginsByParts", "(II)Z"⟩, 6), (⟨"StagedParsers$Machine", "reset", "()V"⟩, 14), (⟨"StagedParsers$Machine", "callBody", "(I)V"⟩, 14), (⟨"StagedParsers$Machine", "pushFrame", "(II)V"⟩, 14), (⟨"StagedParsers$Machine", "obey", "(III)V"⟩, 14), (⟨"StagedParsers$Machine", "give", "(I)V"⟩, 14), (⟨"StagedParsers$Machine", "take", "(II)V"⟩, 14), (⟨"StagedParsers$Machine", "failAt", "(I)V"⟩, 14)]
theorem lw_r2 : ∀ q ∈ lw_privs_2, lw_okq q := List.forall_mem_cons.mpr ⟨lw_p16, List.forall_mem_cons.mpr ⟨lw_p17, List.forall_mem_cons.mpr ⟨lw_p18, List.forall_mem_cons.mpr ⟨lw_p19, List.forall_mem_cons.mpr ⟨lw_p20, List.forall_mem_cons.mpr ⟨lw_p21, List.forall_mem_cons.mpr ⟨lw_p22, List.forall_mem_cons.mpr ⟨lw_p23, List.forall_mem_cons.mpr ⟨lw_p24, List.forall_mem_cons.mpr ⟨lw_p25, List.forall_mem_cons.mpr ⟨lw_p26, List.forall_mem_cons.mpr ⟨lw_p27, List.forall_mem_cons.mpr ⟨lw_p28, List.forall_mem_cons.mpr ⟨lw_p29, List.forall_mem_cons.mpr ⟨lw_p30, List.forall_mem_cons.mpr ⟨lw_p31, fun _ h => absurd h List.not_mem_nil⟩⟩⟩⟩⟩⟩⟩⟩⟩⟩⟩⟩⟩⟩⟩⟩
theorem lw_p32 : lw_okq (⟨"StagedParsers$Machine", "stops", "(I)Z"⟩, 14) := ⟨⟨by decide +kernel, by decide +kernel⟩, List.mem_of_getElem? (i := 124) (by decide +kernel), List.mem_of_getElem? (i := 702) (by decide +kernel), List.mem_of_getElem? (i := 703) (by decide +kernel)⟩
theorem lw_p33 : lw_okq (⟨"StagedParsers$Machine", "goOnFromGuard", "()V"⟩, 14) := ⟨⟨by decide +kernel, by decide +kernel⟩, List.mem_of_getElem? (i := 124) (by decide +kernel), List.mem_of_getElem? (i := 714) (by decide +kernel), List.mem_of_getElem? (i := 715) (by decide +kernel)⟩
theorem lw_p34 : lw_okq (⟨"StagedParsers$Machine", "dropFrame", "()V"⟩, 14) := ⟨⟨by decide +kernel, by decide +kernel⟩, List.mem_of_getElem? (i := 124) (by decide +kernel), List.mem_of_getElem? (i := 733) (by decide +kernel), List.mem_of_getElem? (i := 734) (by decide +kernel)⟩
theorem lw_p35 : lw_okq (⟨"StagedParsers$Machine", "goBack", "()V"⟩, 14) := ⟨⟨by decide +kernel, by decide +kernel⟩, List.mem_of_getElem? (i := 124) (by decide +kernel), List.mem_of_getElem? (i := 737) (by decide +kernel), List.mem_of_getElem? (i := 738) (by decide +kernel)⟩
theorem lw_p36 : lw_okq (⟨"StagedParsers$Machine", "joinLastTwo", "(I)I"⟩, 14) := ⟨⟨by decide +kernel, by decide +kernel⟩, List.mem_of_getElem? (i := 124) (by decide +kernel), List.mem_of_getElem? (i := 741) (by decide +kernel), List.mem_of_getElem? (i := 742) (by decide +kernel)⟩
theorem lw_p37 : lw_okq (⟨"StagedParsers$Machine", "withdraw", "()I"⟩, 14) := ⟨⟨by decide +kernel, by decide +kernel⟩, List.mem_of_getElem? (i := 124) (by decide +kernel), List.mem_of_getElem? (i := 745) (by decide +kernel), List.mem_of_getElem? (i := 746) (by decide +kernel)⟩
theorem lw_p38 : lw_okq (⟨"StagedParsers$Machine", "linkLastThree", "()I"⟩, 14) := ⟨⟨by decide +kernel, by decide +kernel⟩, List.mem_of_getElem? (i := 124) (by decide +kernel), List.mem_of_getElem? (i := 757) (by decide +kernel), List.mem_of_getElem? (i := 758) (by decide +kernel)⟩
theorem lw_p39 : lw_okq (⟨"StagedParsers$Machine", "store", "(II)V"⟩, 14) := ⟨⟨by decide +kernel, by decide +kernel⟩, List.mem_of_getElem? (i := 124) (by decide +kernel), List.mem_of_getElem? (i := 768) (by decide +kernel), List.mem_of_getElem? (i := 769) (by decide +kernel)⟩
theorem lw_p40 : lw_okq (⟨"StagedParsersModel", "fits", "(IIII)Z"⟩, 34) := ⟨⟨by decide +kernel, by decide +kernel⟩, List.mem_of_getElem? (i := 806) (by decide +kernel), List.mem_of_getElem? (i := 923) (by decide +kernel), List.mem_of_getElem? (i := 924) (by decide +kernel)⟩
theorem lw_p41 : lw_okq (⟨"StagedParsersModel", "isNode", "(I)Z"⟩, 34) := ⟨⟨by decide +kernel, by decide +kernel⟩, List.mem_of_getElem? (i := 806) (by decide +kernel), List.mem_of_getElem? (i := 930) (by decide +kernel), List.mem_of_getElem? (i := 931) (by decide +kernel)⟩
theorem lw_p42 : lw_okq (⟨"StagedParsersModel", "height", "(III)I"⟩, 34) := ⟨⟨by decide +kernel, by decide +kernel⟩, List.mem_of_getElem? (i := 806) (by decide +kernel), List.mem_of_getElem? (i := 940) (by decide +kernel), List.mem_of_getElem? (i := 941) (by decide +kernel)⟩
theorem lw_p43 : lw_okq (⟨"StagedParsersModel", "fails", "(I)I"⟩, 34) := ⟨⟨by decide +kernel, by decide +kernel⟩, List.mem_of_getElem? (i := 806) (by decide +kernel), List.mem_of_getElem? (i := 944) (by decide +kernel), List.mem_of_getElem? (i := 945) (by decide +kernel)⟩
theorem lw_p44 : lw_okq (⟨"StagedParsersModel", "bodied", "()I"⟩, 34) := ⟨⟨by decide +kernel, by decide +kernel⟩, List.mem_of_getElem? (i := 806) (by decide +kernel), List.mem_of_getElem? (i := 952) (by decide +kernel), List.mem_of_getElem? (i := 953) (by decide +kernel)⟩
theorem lw_p45 : lw_okq (⟨"StagedParsersModel", "findEmpty", "()V"⟩, 34) := ⟨⟨by decide +kernel, by decide +kernel⟩, List.mem_of_getElem? (i := 806) (by decide +kernel), List.mem_of_getElem? (i := 960) (by decide +kernel), List.mem_of_getElem? (i := 961) (by decide +kernel)⟩
theorem lw_p46 : lw_okq (⟨"StagedParsersModel", "emptyNow", "(I)Z"⟩, 34) := ⟨⟨by decide +kernel, by decide +kernel⟩, List.mem_of_getElem? (i := 806) (by decide +kernel), List.mem_of_getElem? (i := 964) (by decide +kernel), List.mem_of_getElem? (i := 965) (by decide +kernel)⟩
theorem lw_p47 : lw_okq (⟨"StagedParsersModel", "findBeginning", "(I)V"⟩, 34) := ⟨⟨by decide +kernel, by decide +kernel⟩, List.mem_of_getElem? (i := 806) (by decide +kernel), List.mem_of_getElem? (i := 972) (by decide +kernel), List.mem_of_getElem? (i := 973) (by decide +kernel)⟩
def lw_privs_3 : List (MethodName × Nat) := [(⟨"StagedParsers$Machine", "stops", "(I)Z"⟩, 14), (⟨"StagedParsers$Machine", "goOnFromGuard", "()V"⟩, 14), (⟨"StagedParsers$Machine", "dropFrame", "()V"⟩, 14), (⟨"StagedParsers$Machine", "goBack", "()V"⟩, 14), (⟨"StagedParsers$Machine", "joinLastTwo", "(I)I"⟩, 14), (⟨"StagedParsers$Machine", "withdraw", "()I"⟩, 14), (⟨"StagedParsers$Machine", "linkLastThree", "()I"⟩, 14), (⟨"StagedParsers$Machine", "store", "(II)V"⟩, 14), (⟨"StagedParsersModel", "fits", "(IIII)Z"⟩, 34), (⟨"StagedParsersModel", "isNode", "(I)Z"⟩, 34), (⟨"StagedParsersModel", "height", "(III)I"⟩, 34), (⟨"StagedParsersModel", "fails", "(I)I"⟩, 34), (⟨"StagedParsersModel", "bodied", "()I"⟩, 34), (⟨"StagedParsersModel", "findEmpty", "()V"⟩, 34), (⟨"StagedParsersModel", "emptyNow", "(I)Z"⟩, 34), (⟨"StagedParsersModel", "findBeginning", "(I)V"⟩, 34)]
theorem lw_r3 : ∀ q ∈ lw_privs_3, lw_okq q := List.forall_mem_cons.mpr ⟨lw_p32, List.forall_mem_cons.mpr ⟨lw_p33, List.forall_mem_cons.mpr ⟨lw_p34, List.forall_mem_cons.mpr ⟨lw_p35, List.forall_mem_cons.mpr ⟨lw_p36, List.forall_mem_cons.mpr ⟨lw_p37, List.forall_mem_cons.mpr ⟨lw_p38, List.forall_mem_cons.mpr ⟨lw_p39, List.forall_mem_cons.mpr ⟨lw_p40, List.forall_mem_cons.mpr ⟨lw_p41, List.forall_mem_cons.mpr ⟨lw_p42, List.forall_mem_cons.mpr ⟨lw_p43, List.forall_mem_cons.mpr ⟨lw_p44, List.forall_mem_cons.mpr ⟨lw_p45, List.forall_mem_cons.mpr ⟨lw_p46, List.forall_mem_cons.mpr ⟨lw_p47, fun _ h => absurd h List.not_mem_nil⟩⟩⟩⟩⟩⟩⟩⟩⟩⟩⟩⟩⟩⟩⟩⟩
theorem lw_p48 : lw_okq (⟨"StagedParsersModel", "beginsNow", "(II)Z"⟩, 34) := ⟨⟨by decide +kernel, by decide +kernel⟩, List.mem_of_getElem? (i := 806) (by decide +kernel), List.mem_of_getElem? (i := 976) (by decide +kernel), List.mem_of_getElem? (i := 977) (by decide +kernel)⟩
theorem lw_p49 : lw_okq (⟨"StagedParsersModel", "allLeads", "(I)I"⟩, 34) := ⟨⟨by decide +kernel, by decide +kernel⟩, List.mem_of_getElem? (i := 806) (by decide +kernel), List.mem_of_getElem? (i := 984) (by decide +kernel), List.mem_of_getElem? (i := 985) (by decide +kernel)⟩
theorem lw_p50 : lw_okq (⟨"StagedParsersModel", "leadsNow", "(I)I"⟩, 34) := ⟨⟨by decide +kernel, by decide +kernel⟩, List.mem_of_getElem? (i := 806) (by decide +kernel), List.mem_of_getElem? (i := 988) (by decide +kernel), List.mem_of_getElem? (i := 989) (by decide +kernel)⟩
theorem lw_p51 : lw_okq (⟨"StagedParsersModel", "fault", "()I"⟩, 34) := ⟨⟨by decide +kernel, by decide +kernel⟩, List.mem_of_getElem? (i := 806) (by decide +kernel), List.mem_of_getElem? (i := 996) (by decide +kernel), List.mem_of_getElem? (i := 997) (by decide +kernel)⟩
theorem lw_p52 : lw_okq (⟨"StagedParsersModel", "findWithin", "()V"⟩, 34) := ⟨⟨by decide +kernel, by decide +kernel⟩, List.mem_of_getElem? (i := 806) (by decide +kernel), List.mem_of_getElem? (i := 1000) (by decide +kernel), List.mem_of_getElem? (i := 1001) (by decide +kernel)⟩
theorem lw_p53 : lw_okq (⟨"StagedParsersModel", "isRound", "(I)Z"⟩, 34) := ⟨⟨by decide +kernel, by decide +kernel⟩, List.mem_of_getElem? (i := 806) (by decide +kernel), List.mem_of_getElem? (i := 1004) (by decide +kernel), List.mem_of_getElem? (i := 1005) (by decide +kernel)⟩
theorem lw_p54 : lw_okq (⟨"StagedParsersModel", "run", "(I)V"⟩, 34) := ⟨⟨by decide +kernel, by decide +kernel⟩, List.mem_of_getElem? (i := 806) (by decide +kernel), List.mem_of_getElem? (i := 1020) (by decide +kernel), List.mem_of_getElem? (i := 1021) (by decide +kernel)⟩
theorem lw_p55 : lw_okq (⟨"StagedParsersModel", "enter", "(I)V"⟩, 34) := ⟨⟨by decide +kernel, by decide +kernel⟩, List.mem_of_getElem? (i := 806) (by decide +kernel), List.mem_of_getElem? (i := 1024) (by decide +kernel), List.mem_of_getElem? (i := 1025) (by decide +kernel)⟩
theorem lw_p56 : lw_okq (⟨"StagedParsersModel", "begin", "(I)V"⟩, 34) := ⟨⟨by decide +kernel, by decide +kernel⟩, List.mem_of_getElem? (i := 806) (by decide +kernel), List.mem_of_getElem? (i := 1028) (by decide +kernel), List.mem_of_getElem? (i := 1029) (by decide +kernel)⟩
theorem lw_p57 : lw_okq (⟨"StagedParsersModel", "succeed", "(I)V"⟩, 34) := ⟨⟨by decide +kernel, by decide +kernel⟩, List.mem_of_getElem? (i := 806) (by decide +kernel), List.mem_of_getElem? (i := 1032) (by decide +kernel), List.mem_of_getElem? (i := 1033) (by decide +kernel)⟩
theorem lw_p58 : lw_okq (⟨"StagedParsersModel", "looked", "(II)V"⟩, 34) := ⟨⟨by decide +kernel, by decide +kernel⟩, List.mem_of_getElem? (i := 806) (by decide +kernel), List.mem_of_getElem? (i := 1036) (by decide +kernel), List.mem_of_getElem? (i := 1037) (by decide +kernel)⟩
theorem lw_p59 : lw_okq (⟨"StagedParsersModel", "fail", "()V"⟩, 34) := ⟨⟨by decide +kernel, by decide +kernel⟩, List.mem_of_getElem? (i := 806) (by decide +kernel), List.mem_of_getElem? (i := 1040) (by decide +kernel), List.mem_of_getElem? (i := 1041) (by decide +kernel)⟩
theorem lw_p60 : lw_okq (⟨"StagedParsersModel", "goOn", "(I)V"⟩, 34) := ⟨⟨by decide +kernel, by decide +kernel⟩, List.mem_of_getElem? (i := 806) (by decide +kernel), List.mem_of_getElem? (i := 1044) (by decide +kernel), List.mem_of_getElem? (i := 1045) (by decide +kernel)⟩
theorem lw_p61 : lw_okq (⟨"StagedParsersModel", "then", "(I)V"⟩, 34) := ⟨⟨by decide +kernel, by decide +kernel⟩, List.mem_of_getElem? (i := 806) (by decide +kernel), List.mem_of_getElem? (i := 1048) (by decide +kernel), List.mem_of_getElem? (i := 1049) (by decide +kernel)⟩
theorem lw_p62 : lw_okq (⟨"StagedParsersModel", "many", "(I)V"⟩, 34) := ⟨⟨by decide +kernel, by decide +kernel⟩, List.mem_of_getElem? (i := 806) (by decide +kernel), List.mem_of_getElem? (i := 1055) (by decide +kernel), List.mem_of_getElem? (i := 1056) (by decide +kernel)⟩
theorem lw_p63 : lw_okq (⟨"StagedParsersModel", "ends", "(I)V"⟩, 34) := ⟨⟨by decide +kernel, by decide +kernel⟩, List.mem_of_getElem? (i := 806) (by decide +kernel), List.mem_of_getElem? (i := 1059) (by decide +kernel), List.mem_of_getElem? (i := 1060) (by decide +kernel)⟩
def lw_privs_4 : List (MethodName × Nat) := [(⟨"StagedParsersModel", "beginsNow", "(II)Z"⟩, 34), (⟨"StagedParsersModel", "allLeads", "(I)I"⟩, 34), (⟨"StagedParsersModel", "leadsNow", "(I)I"⟩, 34), (⟨"StagedParsersModel", "fault", "()I"⟩, 34), (⟨"StagedParsersModel", "findWithin", "()V"⟩, 34), (⟨"StagedParsersModel", "isRound", "(I)Z"⟩, 34), (⟨"StagedParsersModel", "run", "(I)V"⟩, 34), (⟨"StagedParsersModel", "enter", "(I)V"⟩, 34), (⟨"StagedParsersModel", "begin", "(I)V"⟩, 34), (⟨"StagedParsersModel", "succeed", "(I)V"⟩, 34), (⟨"StagedParsersModel", "looked", "(II)V"⟩, 34), (⟨"StagedParsersModel", "fail", "()V"⟩, 34), (⟨"StagedParsersModel", "goOn", "(I)V"⟩, 34), (⟨"StagedParsersModel", "then", "(I)V"⟩, 34), (⟨"StagedParsersModel", "many", "(I)V"⟩, 34), (⟨"StagedParsersModel", "ends", "(I)V"⟩, 34)]
theorem lw_r4 : ∀ q ∈ lw_privs_4, lw_okq q := List.forall_mem_cons.mpr ⟨lw_p48, List.forall_mem_cons.mpr ⟨lw_p49, List.forall_mem_cons.mpr ⟨lw_p50, List.forall_mem_cons.mpr ⟨lw_p51, List.forall_mem_cons.mpr ⟨lw_p52, List.forall_mem_cons.mpr ⟨lw_p53, List.forall_mem_cons.mpr ⟨lw_p54, List.forall_mem_cons.mpr ⟨lw_p55, List.forall_mem_cons.mpr ⟨lw_p56, List.forall_mem_cons.mpr ⟨lw_p57, List.forall_mem_cons.mpr ⟨lw_p58, List.forall_mem_cons.mpr ⟨lw_p59, List.forall_mem_cons.mpr ⟨lw_p60, List.forall_mem_cons.mpr ⟨lw_p61, List.forall_mem_cons.mpr ⟨lw_p62, List.forall_mem_cons.mpr ⟨lw_p63, fun _ h => absurd h List.not_mem_nil⟩⟩⟩⟩⟩⟩⟩⟩⟩⟩⟩⟩⟩⟩⟩⟩
theorem lw_p64 : lw_okq (⟨"StagedParsersModel", "chain", "(I)V"⟩, 34) := ⟨⟨by decide +kernel, by decide +kernel⟩, List.mem_of_getElem? (i := 806) (by decide +kernel), List.mem_of_getElem? (i := 1063) (by decide +kernel), List.mem_of_getElem? (i := 1064) (by decide +kernel)⟩
def lw_privs_5 : List (MethodName × Nat) := [(⟨"StagedParsersModel", "chain", "(I)V"⟩, 34)]
theorem lw_r5 : ∀ q ∈ lw_privs_5, lw_okq q := List.forall_mem_cons.mpr ⟨lw_p64, fun _ h => absurd h List.not_mem_nil⟩
def lw_privs : List (MethodName × Nat) := lw_privs_1 ++ (lw_privs_2 ++ (lw_privs_3 ++ (lw_privs_4 ++ (lw_privs_5))))
def lw_tbl : List Cond := k2_sels lw_privs ++ tables_1
theorem lw_privs_ok : ∀ q ∈ lw_privs, lw_okq q := by
  show ∀ q ∈ lw_privs_1 ++ (lw_privs_2 ++ (lw_privs_3 ++ (lw_privs_4 ++ (lw_privs_5)))), lw_okq q
  exact List.forall_mem_append.mpr ⟨lw_r1, List.forall_mem_append.mpr ⟨lw_r2, List.forall_mem_append.mpr ⟨lw_r3, List.forall_mem_append.mpr ⟨lw_r4, lw_r5⟩⟩⟩⟩
end
section
/-! small words for methods told as functions: a place in range, a named value, what a call answers -/
section MZB
abbrev MZ_ : Type := Nat → Nat → Int32
def gd_ {α : Type} (i : Int32) (n : Nat) (k : Option α) : Option α := if i < 0 ∨ n ≤ i.toNatClampNeg then none else k
theorem gd_some {α : Type} {i : Int32} {n : Nat} {k : Option α} {r : α} (h : gd_ i n k = some r) : vp_in i n ∧ k = some r := by
  unfold gd_ at h
  split at h
  · cases h
  · next hn => exact ⟨hn, h⟩
theorem gd_in {α : Type} {i : Int32} {n : Nat} {k : Option α} (h : vp_in i n) : gd_ i n k = k := by
  unfold gd_
  exact if_neg h
def st_ {α β : Type} (e : β) (k : β → Option α) : Option α := k e
theorem st_some {α β : Type} {e : β} {k : β → Option α} {r : α} (h : st_ e k = some r) : ∃ x, x = e ∧ k x = some r := ⟨e, rfl, h⟩
theorem bd_some {α β : Type} {o : Option β} {k : β → Option α} {r : α} (h : o.bind k = some r) : ∃ x, o = some x ∧ k x = some r := by
  cases o with
  | none => cases h
  | some x => exact ⟨x, rfl, h⟩
def bo_ {α : Type} (v : Int32) (k : Option α) : Option α := if v = 0 ∨ v = 1 then k else none
theorem bo_some {α : Type} {v : Int32} {k : Option α} {r : α} (h : bo_ v k = some r) : (v = 0 ∨ v = 1) ∧ k = some r := by
  unfold bo_ at h
  split at h
  · next hn => exact ⟨hn, h⟩
  · cases h
theorem bo_nar {v : Int32} (h : v = 0 ∨ v = 1) : narrow .boolean (.int v) = .int v := by rcases h with rfl | rfl <;> rfl
theorem if_t {α : Type} {c : Prop} [Decidable c] {x y : Option α} {r : α} (hc : c) (h : (if c then x else y) = some r) : x = some r := by rw [if_pos hc] at h; exact h
theorem if_f {α : Type} {c : Prop} [Decidable c] {x y : Option α} {r : α} (hc : ¬ c) (h : (if c then x else y) = some r) : y = some r := by rw [if_neg hc] at h; exact h
end MZB
section MZC
variable {p : Program} {l : Launch} {e : Env} {R : Room} {s : State} {m : MethodId} {args : Array Value} {below : List Frame} {meth : Method} {c : Code} {H : Heap} {locs : List Loc} {cells slots : Nat} {Q : State → Prop}
variable {pc : Nat} {ls : Array Slot} {rest st0 : List Value} {a : Array Value}
/-- a call that only reads -/
theorem cx_read {r : Int32} (hr : va_Run p l e R s m args below meth c H locs cells slots 0 0 (F0 m pc ls st0) rest (QcRead r a) (fun _ => False)) (kk : W p l e R s m args below meth c H locs cells slots Q (F0 m (pc + 3) ls (.int r :: rest))) : W p l e R s m args below meth c H locs cells slots Q (F0 m pc ls st0) := by
  intro T hT X
  obtain ⟨v, st₀, t, T', L, h0, X', hL, e1, e2, ⟨hv, hh⟩, st⟩ := hr T hT X
  cases hv
  have hLn : L = [] := by
    cases L with
    | nil => rfl
    | cons q L => exact (hL q List.mem_cons_self).elim
  subst hLn
  rw [List.append_nil] at X'
  obtain ⟨t2, a1, b1⟩ := kk T' (by rw [e1, hh, h0]) X'
  exact ⟨t2, st t2 a1, b1⟩
/-- a call that writes: what it says of the end -/
def QW_ (rv : Option Value) (B : Heap → Prop) (A : Nat → Prop) : Array Value → State → Outcome → State → Prop := fun _ st oc t => oc = .returned rv ∧ B t.heap ∧ va_F A st t
theorem cx_wr {rv : Option Value} {B : Heap → Prop} {A A0 : Nat → Prop} {H0 : Heap} (hr : va_Run p l e R s m args below meth c H locs cells slots 0 0 (F0 m pc ls st0) rest (QW_ rv B A a) A) (hS : va_S A0 H0 H locs) (hA : ∀ q, A q → A0 q)
    (kk : ∀ (H1 : Heap) (locs1 : List Loc), B H1 → va_F A { s with heap := H } { s with heap := H1 } → va_S A0 H0 H1 locs1 → W p l e R s m args below meth c H1 locs1 cells slots Q (F0 m (pc + 3) ls (rv.toList ++ rest))) : W p l e R s m args below meth c H locs cells slots Q (F0 m pc ls st0) := by
  intro T hT X
  obtain ⟨v, st₀, t, T', L, h0, X', hL, e1, e2, ⟨hv, hB, hz, hk⟩, st⟩ := hr T hT X
  cases hv
  rw [h0] at hz hk
  obtain ⟨t2, a1, b1⟩ := kk T'.heap (locs ++ L) (by rw [e1]; exact hB) ⟨by rw [e1]; exact hz, fun q h1 h2 => by show T'.heap[q]? = H[q]?; rw [e1]; exact hk q h1 h2⟩
    ⟨Nat.le_trans hS.1 (by rw [e1]; exact hz), fun q h1 h2 => by rw [e1, hk q (Nat.lt_of_lt_of_le h1 hS.1) (fun z => h2 (hA q z))]; exact hS.2.1 q h1 h2, fun q hq => by
      rcases List.mem_append.mp hq with h | h
      · exact hS.2.2 q h
      · exact hA _ (hL q h)⟩ T' rfl X'
  exact ⟨t2, st t2 a1, b1⟩
end MZC
/-! the tables' words that may be handed on to a callee -/
section AWW
def AW_ : List Cond := lw_tbl.filter goodWord
theorem aw_t {w : Cond} (h : w ∈ tables_1) (hg : goodWord w = true) : w ∈ AW_ := List.mem_filter.mpr ⟨List.mem_append_right _ h, hg⟩
theorem aw_1 {w : Cond} (i : Nat) (h : tables_1_1[i]? = some w) (hg : goodWord w = true) : w ∈ AW_ := aw_t (List.mem_append_left _ (List.mem_of_getElem? h)) hg
theorem aw_2 {w : Cond} (i : Nat) (h : tables_1_2[i]? = some w) (hg : goodWord w = true) : w ∈ AW_ := aw_t (List.mem_append_right _ (List.mem_append_left _ (List.mem_of_getElem? h))) hg
theorem aw_3 {w : Cond} (i : Nat) (h : tables_1_3[i]? = some w) (hg : goodWord w = true) : w ∈ AW_ := aw_t (List.mem_append_right _ (List.mem_append_right _ (List.mem_append_left _ (List.mem_of_getElem? h)))) hg
theorem aw_4 {w : Cond} (i : Nat) (h : tables_1_4[i]? = some w) (hg : goodWord w = true) : w ∈ AW_ := aw_t (List.mem_append_right _ (List.mem_append_right _ (List.mem_append_right _ (List.mem_append_left _ (List.mem_of_getElem? h))))) hg
theorem aw_5 {w : Cond} (i : Nat) (h : tables_1_5[i]? = some w) (hg : goodWord w = true) : w ∈ AW_ := aw_t (List.mem_append_right _ (List.mem_append_right _ (List.mem_append_right _ (List.mem_append_right _ (List.mem_of_getElem? h))))) hg
theorem aw_sel {q : MethodName × Nat} (i : Nat) (h : lw_privs[i]? = some q) : Cond.selects q.1.cls q.1 q.1 ∈ AW_ := List.mem_filter.mpr ⟨List.mem_append_left _ (List.mem_map.mpr ⟨q, List.mem_of_getElem? h, rfl⟩), rfl⟩
theorem aw_in {y : MethodName} {bs : ByteArray} {n : Nat} {r : Option FieldType} (h : Cond.code y bs n r ∈ AW_) : GoodIn AW_ (Cond.code y bs n r :: AW_) := by
  intro w hw
  have hm : w ∈ AW_ := by
    rcases List.mem_cons.mp hw with rfl | hw
    · exact h
    · exact hw
  exact ⟨hm, good_of_word (List.mem_filter.mp hm).2⟩
end AWW
end
section
/-! words by their places -/
theorem kw_42 : ((.laysFinal "StagedParsers$Grammar" "StagedParsers$Grammar" "kinds" "[I") : Cond) ∈ AW_ := aw_1 42 rfl rfl
theorem kw_44 : ((.laysFinal "StagedParsers$Grammar" "StagedParsers$Grammar" "as" "[I") : Cond) ∈ AW_ := aw_1 44 rfl rfl
theorem kw_46 : ((.laysFinal "StagedParsers$Grammar" "StagedParsers$Grammar" "bs" "[I") : Cond) ∈ AW_ := aw_1 46 rfl rfl
theorem kw_48 : ((.laysFinal "StagedParsers$Grammar" "StagedParsers$Grammar" "cs" "[I") : Cond) ∈ AW_ := aw_1 48 rfl rfl
theorem kw_50 : ((.laysFinal "StagedParsers$Grammar" "StagedParsers$Grammar" "heights" "[I") : Cond) ∈ AW_ := aw_1 50 rfl rfl
theorem kw_52 : ((.laysFinal "StagedParsers$Grammar" "StagedParsers$Grammar" "bodyOf" "[I") : Cond) ∈ AW_ := aw_1 52 rfl rfl
theorem kw_54 : ((.lays "StagedParsers$Grammar" "StagedParsers$Grammar" "size" "I") : Cond) ∈ AW_ := aw_1 54 rfl rfl
theorem kw_70 : ((.laysFinal "StagedParsers$Study" "StagedParsers$Study" "grammar" "LStagedParsers$Grammar;") : Cond) ∈ AW_ := aw_1 70 rfl rfl
theorem kw_72 : ((.laysFinal "StagedParsers$Study" "StagedParsers$Study" "emptyNodes" "[Z") : Cond) ∈ AW_ := aw_1 72 rfl rfl
theorem kw_74 : ((.laysFinal "StagedParsers$Study" "StagedParsers$Study" "beginners" "[Z") : Cond) ∈ AW_ := aw_1 74 rfl rfl
theorem kw_76 : ((.laysFinal "StagedParsers$Study" "StagedParsers$Study" "inBodies" "[Z") : Cond) ∈ AW_ := aw_1 76 rfl rfl
theorem kw_78 : ((.laysFinal "StagedParsers$Study" "StagedParsers$Study" "nodeLeads" "[I") : Cond) ∈ AW_ := aw_1 78 rfl rfl
theorem kw_80 : ((.laysFinal "StagedParsers$Study" "StagedParsers$Study" "ruleLeads" "[I") : Cond) ∈ AW_ := aw_1 80 rfl rfl
theorem kw_96 : ((.laysFinal "StagedParsers$Code" "StagedParsers$Code" "operations" "[I") : Cond) ∈ AW_ := aw_1 96 rfl rfl
theorem kw_98 : ((.laysFinal "StagedParsers$Code" "StagedParsers$Code" "ps" "[I") : Cond) ∈ AW_ := aw_1 98 rfl rfl
theorem kw_100 : ((.laysFinal "StagedParsers$Code" "StagedParsers$Code" "qs" "[I") : Cond) ∈ AW_ := aw_1 100 rfl rfl
theorem kw_102 : ((.laysFinal "StagedParsers$Code" "StagedParsers$Code" "pieceOf" "[I") : Cond) ∈ AW_ := aw_1 102 rfl rfl
theorem kw_104 : ((.laysFinal "StagedParsers$Code" "StagedParsers$Code" "entryOf" "[I") : Cond) ∈ AW_ := aw_1 104 rfl rfl
theorem kw_106 : ((.lays "StagedParsers$Code" "StagedParsers$Code" "size" "I") : Cond) ∈ AW_ := aw_1 106 rfl rfl
theorem kw_115 : ((.fieldLink "StagedParsers$Text" 9 "StagedParsers$Text" "signs" "[C") : Cond) ∈ AW_ := aw_1 115 rfl rfl
theorem kw_116 : ((.fieldLink "StagedParsers$Text" 15 "StagedParsers$Text" "size" "I") : Cond) ∈ AW_ := aw_1 116 rfl rfl
theorem kw_117 : ((.laysFinal "StagedParsers$Text" "StagedParsers$Text" "signs" "[C") : Cond) ∈ AW_ := aw_1 117 rfl rfl
theorem kw_119 : ((.lays "StagedParsers$Text" "StagedParsers$Text" "size" "I") : Cond) ∈ AW_ := aw_1 119 rfl rfl
theorem kw_140 : ((.laysFinal "StagedParsers$Frames" "StagedParsers$Frames" "manners" "[I") : Cond) ∈ AW_ := aw_1 140 rfl rfl
theorem kw_142 : ((.laysFinal "StagedParsers$Frames" "StagedParsers$Frames" "targets" "[I") : Cond) ∈ AW_ := aw_1 142 rfl rfl
theorem kw_144 : ((.laysFinal "StagedParsers$Frames" "StagedParsers$Frames" "places" "[I") : Cond) ∈ AW_ := aw_1 144 rfl rfl
theorem kw_146 : ((.laysFinal "StagedParsers$Frames" "StagedParsers$Frames" "heights" "[I") : Cond) ∈ AW_ := aw_1 146 rfl rfl
theorem kw_148 : ((.lays "StagedParsers$Frames" "StagedParsers$Frames" "size" "I") : Cond) ∈ AW_ := aw_1 148 rfl rfl
theorem kw_165 : ((.laysFinal "StagedParsers$Machine" "StagedParsers$Machine" "code" "LStagedParsers$Code;") : Cond) ∈ AW_ := aw_1 165 rfl rfl
theorem kw_167 : ((.laysFinal "StagedParsers$Machine" "StagedParsers$Machine" "text" "LStagedParsers$Text;") : Cond) ∈ AW_ := aw_1 167 rfl rfl
theorem kw_169 : ((.laysFinal "StagedParsers$Machine" "StagedParsers$Machine" "frames" "LStagedParsers$Frames;") : Cond) ∈ AW_ := aw_1 169 rfl rfl
theorem kw_171 : ((.laysFinal "StagedParsers$Machine" "StagedParsers$Machine" "answers" "[I") : Cond) ∈ AW_ := aw_1 171 rfl rfl
theorem kw_173 : ((.laysFinal "StagedParsers$Machine" "StagedParsers$Machine" "registers" "[I") : Cond) ∈ AW_ := aw_1 173 rfl rfl
theorem kw_175 : ((.lays "StagedParsers$Machine" "StagedParsers$Machine" "answerCount" "I") : Cond) ∈ AW_ := aw_1 175 rfl rfl
theorem kw_177 : ((.lays "StagedParsers$Machine" "StagedParsers$Machine" "state" "I") : Cond) ∈ AW_ := aw_1 177 rfl rfl
theorem kw_179 : ((.lays "StagedParsers$Machine" "StagedParsers$Machine" "next" "I") : Cond) ∈ AW_ := aw_1 179 rfl rfl
theorem kw_181 : ((.lays "StagedParsers$Machine" "StagedParsers$Machine" "place" "I") : Cond) ∈ AW_ := aw_1 181 rfl rfl
theorem kw_183 : ((.lays "StagedParsers$Machine" "StagedParsers$Machine" "looks" "I") : Cond) ∈ AW_ := aw_1 183 rfl rfl
theorem kw_185 : ((.lays "StagedParsers$Machine" "StagedParsers$Machine" "far" "I") : Cond) ∈ AW_ := aw_1 185 rfl rfl
theorem kw_187 : ((.lays "StagedParsers$Machine" "StagedParsers$Machine" "bodies" "I") : Cond) ∈ AW_ := aw_1 187 rfl rfl
theorem kw_189 : ((.lays "StagedParsers$Machine" "StagedParsers$Machine" "depth" "I") : Cond) ∈ AW_ := aw_1 189 rfl rfl
theorem kw_191 : ((.lays "StagedParsers$Machine" "StagedParsers$Machine" "ran" "Z") : Cond) ∈ AW_ := aw_1 191 rfl rfl
theorem kw_200 : ((.laysFinal "StagedParsers" "StagedParsers" "grammar" "LStagedParsers$Grammar;") : Cond) ∈ AW_ := aw_1 200 rfl rfl
theorem kw_202 : ((.laysFinal "StagedParsers" "StagedParsers" "study" "LStagedParsers$Study;") : Cond) ∈ AW_ := aw_1 202 rfl rfl
theorem kw_204 : ((.laysFinal "StagedParsers" "StagedParsers" "code" "LStagedParsers$Code;") : Cond) ∈ AW_ := aw_1 204 rfl rfl
theorem kw_206 : ((.laysFinal "StagedParsers" "StagedParsers" "text" "LStagedParsers$Text;") : Cond) ∈ AW_ := aw_1 206 rfl rfl
theorem kw_208 : ((.laysFinal "StagedParsers" "StagedParsers" "machine" "LStagedParsers$Machine;") : Cond) ∈ AW_ := aw_1 208 rfl rfl
theorem kw_210 : ((.lays "StagedParsers" "StagedParsers" "staged" "Z") : Cond) ∈ AW_ := aw_1 210 rfl rfl
theorem kw_364 : ((.code ⟨"StagedParsers$Text", "size", "()I"⟩ prog_7_method_3_code 1 (some .int)) : Cond) ∈ AW_ := aw_2 124 rfl rfl
theorem kw_368 : ((.code ⟨"StagedParsers$Text", "erase", "()V"⟩ prog_7_method_5_code 1 none) : Cond) ∈ AW_ := aw_2 128 rfl rfl
theorem kw_612 : ((.code ⟨"StagedParsers$Text", "isFull", "()Z"⟩ prog_7_method_2_code 1 (some .boolean)) : Cond) ∈ AW_ := aw_3 132 rfl rfl
theorem kw_617 : ((.code ⟨"StagedParsers$Text", "append", "(C)V"⟩ prog_7_method_4_code 2 none) : Cond) ∈ AW_ := aw_3 137 rfl rfl
theorem kw_691 : ((.code ⟨"StagedParsers$Text", "signAt", "(I)I"⟩ prog_7_method_6_code 2 (some .int)) : Cond) ∈ AW_ := aw_3 211 rfl rfl
theorem kw_845 : ((.lays "StagedParsersModel" "StagedParsersModel" "thrown" "I") : Cond) ∈ AW_ := aw_4 125 rfl rfl
theorem kw_847 : ((.lays "StagedParsersModel" "StagedParsersModel" "nodes" "I") : Cond) ∈ AW_ := aw_4 127 rfl rfl
theorem kw_849 : ((.laysFinal "StagedParsersModel" "StagedParsersModel" "kind" "[I") : Cond) ∈ AW_ := aw_4 129 rfl rfl
theorem kw_851 : ((.laysFinal "StagedParsersModel" "StagedParsersModel" "one" "[I") : Cond) ∈ AW_ := aw_4 131 rfl rfl
theorem kw_853 : ((.laysFinal "StagedParsersModel" "StagedParsersModel" "two" "[I") : Cond) ∈ AW_ := aw_4 133 rfl rfl
theorem kw_855 : ((.laysFinal "StagedParsersModel" "StagedParsersModel" "three" "[I") : Cond) ∈ AW_ := aw_4 135 rfl rfl
theorem kw_857 : ((.laysFinal "StagedParsersModel" "StagedParsersModel" "high" "[I") : Cond) ∈ AW_ := aw_4 137 rfl rfl
theorem kw_859 : ((.laysFinal "StagedParsersModel" "StagedParsersModel" "bodies" "[I") : Cond) ∈ AW_ := aw_4 139 rfl rfl
theorem kw_861 : ((.lays "StagedParsersModel" "StagedParsersModel" "staged" "Z") : Cond) ∈ AW_ := aw_4 141 rfl rfl
theorem kw_863 : ((.laysFinal "StagedParsersModel" "StagedParsersModel" "text" "[I") : Cond) ∈ AW_ := aw_4 143 rfl rfl
theorem kw_865 : ((.lays "StagedParsersModel" "StagedParsersModel" "length" "I") : Cond) ∈ AW_ := aw_4 145 rfl rfl
theorem kw_867 : ((.laysFinal "StagedParsersModel" "StagedParsersModel" "isEmpty" "[Z") : Cond) ∈ AW_ := aw_4 147 rfl rfl
theorem kw_869 : ((.laysFinal "StagedParsersModel" "StagedParsersModel" "isBeginning" "[Z") : Cond) ∈ AW_ := aw_4 149 rfl rfl
theorem kw_871 : ((.laysFinal "StagedParsersModel" "StagedParsersModel" "leading" "[I") : Cond) ∈ AW_ := aw_4 151 rfl rfl
theorem kw_873 : ((.laysFinal "StagedParsersModel" "StagedParsersModel" "within" "[Z") : Cond) ∈ AW_ := aw_4 153 rfl rfl
theorem kw_875 : ((.lays "StagedParsersModel" "StagedParsersModel" "open" "I") : Cond) ∈ AW_ := aw_4 155 rfl rfl
theorem kw_877 : ((.laysFinal "StagedParsersModel" "StagedParsersModel" "which" "[I") : Cond) ∈ AW_ := aw_4 157 rfl rfl
theorem kw_879 : ((.laysFinal "StagedParsersModel" "StagedParsersModel" "state" "[I") : Cond) ∈ AW_ := aw_4 159 rfl rfl
theorem kw_881 : ((.laysFinal "StagedParsersModel" "StagedParsersModel" "start" "[I") : Cond) ∈ AW_ := aw_4 161 rfl rfl
theorem kw_883 : ((.laysFinal "StagedParsersModel" "StagedParsersModel" "answer" "[I") : Cond) ∈ AW_ := aw_4 163 rfl rfl
theorem kw_885 : ((.laysFinal "StagedParsersModel" "StagedParsersModel" "mark" "[I") : Cond) ∈ AW_ := aw_4 165 rfl rfl
theorem kw_887 : ((.laysFinal "StagedParsersModel" "StagedParsersModel" "sign" "[I") : Cond) ∈ AW_ := aw_4 167 rfl rfl
theorem kw_889 : ((.lays "StagedParsersModel" "StagedParsersModel" "good" "Z") : Cond) ∈ AW_ := aw_4 169 rfl rfl
theorem kw_891 : ((.lays "StagedParsersModel" "StagedParsersModel" "at" "I") : Cond) ∈ AW_ := aw_4 171 rfl rfl
theorem kw_893 : ((.lays "StagedParsersModel" "StagedParsersModel" "value" "I") : Cond) ∈ AW_ := aw_4 173 rfl rfl
theorem kw_895 : ((.lays "StagedParsersModel" "StagedParsersModel" "tired" "Z") : Cond) ∈ AW_ := aw_4 175 rfl rfl
theorem kw_897 : ((.lays "StagedParsersModel" "StagedParsersModel" "running" "I") : Cond) ∈ AW_ := aw_4 177 rfl rfl
theorem kw_899 : ((.lays "StagedParsersModel" "StagedParsersModel" "bodiesRun" "I") : Cond) ∈ AW_ := aw_4 179 rfl rfl
theorem kw_901 : ((.lays "StagedParsersModel" "StagedParsersModel" "looks" "I") : Cond) ∈ AW_ := aw_4 181 rfl rfl
theorem kw_903 : ((.lays "StagedParsersModel" "StagedParsersModel" "far" "I") : Cond) ∈ AW_ := aw_4 183 rfl rfl
theorem kw_905 : ((.laysFinal "StagedParsersModel" "StagedParsersModel" "registers" "[I") : Cond) ∈ AW_ := aw_4 185 rfl rfl
theorem kw_907 : ((.lays "StagedParsersModel" "StagedParsersModel" "parsed" "Z") : Cond) ∈ AW_ := aw_4 187 rfl rfl
theorem kw_909 : ((.lays "StagedParsersModel" "StagedParsersModel" "lastPlace" "I") : Cond) ∈ AW_ := aw_4 189 rfl rfl
theorem kw_911 : ((.lays "StagedParsersModel" "StagedParsersModel" "lastGood" "Z") : Cond) ∈ AW_ := aw_4 191 rfl rfl
theorem ks_0 : (.selects "StagedParsers$Study" ⟨"StagedParsers$Study", "findNodesInBodies", "()V"⟩ ⟨"StagedParsers$Study", "findNodesInBodies", "()V"⟩ : Cond) ∈ AW_ := aw_sel (q := (⟨"StagedParsers$Study", "findNodesInBodies", "()V"⟩, 6)) 0 rfl
theorem ks_1 : (.selects "StagedParsers$Study" ⟨"StagedParsers$Study", "unmark", "([Z)V"⟩ ⟨"StagedParsers$Study", "unmark", "([Z)V"⟩ : Cond) ∈ AW_ := aw_sel (q := (⟨"StagedParsers$Study", "unmark", "([Z)V"⟩, 6)) 1 rfl
theorem ks_2 : (.selects "StagedParsers$Study" ⟨"StagedParsers$Study", "markInBodies", "(I)V"⟩ ⟨"StagedParsers$Study", "markInBodies", "(I)V"⟩ : Cond) ∈ AW_ := aw_sel (q := (⟨"StagedParsers$Study", "markInBodies", "(I)V"⟩, 6)) 2 rfl
theorem ks_3 : (.selects "StagedParsers$Study" ⟨"StagedParsers$Study", "findLeads", "()V"⟩ ⟨"StagedParsers$Study", "findLeads", "()V"⟩ : Cond) ∈ AW_ := aw_sel (q := (⟨"StagedParsers$Study", "findLeads", "()V"⟩, 6)) 3 rfl
theorem ks_4 : (.selects "StagedParsers$Study" ⟨"StagedParsers$Study", "findEmptyNodes", "()V"⟩ ⟨"StagedParsers$Study", "findEmptyNodes", "()V"⟩ : Cond) ∈ AW_ := aw_sel (q := (⟨"StagedParsers$Study", "findEmptyNodes", "()V"⟩, 6)) 4 rfl
theorem ks_5 : (.selects "StagedParsers$Study" ⟨"StagedParsers$Study", "emptyByParts", "(I)Z"⟩ ⟨"StagedParsers$Study", "emptyByParts", "(I)Z"⟩ : Cond) ∈ AW_ := aw_sel (q := (⟨"StagedParsers$Study", "emptyByParts", "(I)Z"⟩, 6)) 5 rfl
theorem ks_6 : (.selects "StagedParsers$Study" ⟨"StagedParsers$Study", "marked", "([ZI)Z"⟩ ⟨"StagedParsers$Study", "marked", "([ZI)Z"⟩ : Cond) ∈ AW_ := aw_sel (q := (⟨"StagedParsers$Study", "marked", "([ZI)Z"⟩, 6)) 6 rfl
theorem ks_7 : (.selects "StagedParsers$Study" ⟨"StagedParsers$Study", "leadsByParts", "(I)I"⟩ ⟨"StagedParsers$Study", "leadsByParts", "(I)I"⟩ : Cond) ∈ AW_ := aw_sel (q := (⟨"StagedParsers$Study", "leadsByParts", "(I)I"⟩, 6)) 7 rfl
theorem ks_8 : (.selects "StagedParsers$Study" ⟨"StagedParsers$Study", "leadsOf", "(I)I"⟩ ⟨"StagedParsers$Study", "leadsOf", "(I)I"⟩ : Cond) ∈ AW_ := aw_sel (q := (⟨"StagedParsers$Study", "leadsOf", "(I)I"⟩, 6)) 8 rfl
theorem ks_9 : (.selects "StagedParsers$Study" ⟨"StagedParsers$Study", "hasRuleWithoutBody", "()Z"⟩ ⟨"StagedParsers$Study", "hasRuleWithoutBody", "()Z"⟩ : Cond) ∈ AW_ := aw_sel (q := (⟨"StagedParsers$Study", "hasRuleWithoutBody", "()Z"⟩, 6)) 9 rfl
theorem ks_10 : (.selects "StagedParsers$Study" ⟨"StagedParsers$Study", "hasEndlessLoop", "()Z"⟩ ⟨"StagedParsers$Study", "hasEndlessLoop", "()Z"⟩ : Cond) ∈ AW_ := aw_sel (q := (⟨"StagedParsers$Study", "hasEndlessLoop", "()Z"⟩, 6)) 10 rfl
theorem ks_11 : (.selects "StagedParsers$Study" ⟨"StagedParsers$Study", "couldLoop", "(I)Z"⟩ ⟨"StagedParsers$Study", "couldLoop", "(I)Z"⟩ : Cond) ∈ AW_ := aw_sel (q := (⟨"StagedParsers$Study", "couldLoop", "(I)Z"⟩, 6)) 11 rfl
theorem ks_12 : (.selects "StagedParsers$Study" ⟨"StagedParsers$Study", "hasRuleThatLeadsToItself", "()Z"⟩ ⟨"StagedParsers$Study", "hasRuleThatLeadsToItself", "()Z"⟩ : Cond) ∈ AW_ := aw_sel (q := (⟨"StagedParsers$Study", "hasRuleThatLeadsToItself", "()Z"⟩, 6)) 12 rfl
theorem ks_13 : (.selects "StagedParsers$Code" ⟨"StagedParsers$Code", "put", "(III)V"⟩ ⟨"StagedParsers$Code", "put", "(III)V"⟩ : Cond) ∈ AW_ := aw_sel (q := (⟨"StagedParsers$Code", "put", "(III)V"⟩, 6)) 13 rfl
theorem ks_14 : (.selects "StagedParsers$Code" ⟨"StagedParsers$Code", "writePiece", "(IIII)V"⟩ ⟨"StagedParsers$Code", "writePiece", "(IIII)V"⟩ : Cond) ∈ AW_ := aw_sel (q := (⟨"StagedParsers$Code", "writePiece", "(IIII)V"⟩, 6)) 14 rfl
theorem ks_15 : (.selects "StagedParsers$Code" ⟨"StagedParsers$Code", "putCall", "(I)V"⟩ ⟨"StagedParsers$Code", "putCall", "(I)V"⟩ : Cond) ∈ AW_ := aw_sel (q := (⟨"StagedParsers$Code", "putCall", "(I)V"⟩, 6)) 15 rfl
theorem ks_16 : (.selects "StagedParsers$Code" ⟨"StagedParsers$Code", "piece", "(I)I"⟩ ⟨"StagedParsers$Code", "piece", "(I)I"⟩ : Cond) ∈ AW_ := aw_sel (q := (⟨"StagedParsers$Code", "piece", "(I)I"⟩, 6)) 16 rfl
theorem ks_17 : (.selects "StagedParsers$Code" ⟨"StagedParsers$Code", "writeOr", "(II)V"⟩ ⟨"StagedParsers$Code", "writeOr", "(II)V"⟩ : Cond) ∈ AW_ := aw_sel (q := (⟨"StagedParsers$Code", "writeOr", "(II)V"⟩, 6)) 17 rfl
theorem ks_18 : (.selects "StagedParsers$Code" ⟨"StagedParsers$Code", "writeNot", "(I)V"⟩ ⟨"StagedParsers$Code", "writeNot", "(I)V"⟩ : Cond) ∈ AW_ := aw_sel (q := (⟨"StagedParsers$Code", "writeNot", "(I)V"⟩, 6)) 18 rfl
theorem ks_19 : (.selects "StagedParsers$Code" ⟨"StagedParsers$Code", "writeMany", "(II)V"⟩ ⟨"StagedParsers$Code", "writeMany", "(II)V"⟩ : Cond) ∈ AW_ := aw_sel (q := (⟨"StagedParsers$Code", "writeMany", "(II)V"⟩, 6)) 19 rfl
theorem ks_20 : (.selects "StagedParsers$Code" ⟨"StagedParsers$Code", "writeChain", "(II)V"⟩ ⟨"StagedParsers$Code", "writeChain", "(II)V"⟩ : Cond) ∈ AW_ := aw_sel (q := (⟨"StagedParsers$Code", "writeChain", "(II)V"⟩, 6)) 20 rfl
theorem ks_21 : (.selects "StagedParsers$Grammar" ⟨"StagedParsers$Grammar", "canBePart", "(I)Z"⟩ ⟨"StagedParsers$Grammar", "canBePart", "(I)Z"⟩ : Cond) ∈ AW_ := aw_sel (q := (⟨"StagedParsers$Grammar", "canBePart", "(I)Z"⟩, 7)) 21 rfl
theorem ks_23 : (.selects "StagedParsers$Study" ⟨"StagedParsers$Study", "findBeginners", "(I)V"⟩ ⟨"StagedParsers$Study", "findBeginners", "(I)V"⟩ : Cond) ∈ AW_ := aw_sel (q := (⟨"StagedParsers$Study", "findBeginners", "(I)V"⟩, 6)) 23 rfl
theorem ks_24 : (.selects "StagedParsers$Study" ⟨"StagedParsers$Study", "beginsByParts", "(II)Z"⟩ ⟨"StagedParsers$Study", "beginsByParts", "(II)Z"⟩ : Cond) ∈ AW_ := aw_sel (q := (⟨"StagedParsers$Study", "beginsByParts", "(II)Z"⟩, 6)) 24 rfl
theorem ks_25 : (.selects "StagedParsers$Machine" ⟨"StagedParsers$Machine", "reset", "()V"⟩ ⟨"StagedParsers$Machine", "reset", "()V"⟩ : Cond) ∈ AW_ := aw_sel (q := (⟨"StagedParsers$Machine", "reset", "()V"⟩, 14)) 25 rfl
theorem ks_26 : (.selects "StagedParsers$Machine" ⟨"StagedParsers$Machine", "callBody", "(I)V"⟩ ⟨"StagedParsers$Machine", "callBody", "(I)V"⟩ : Cond) ∈ AW_ := aw_sel (q := (⟨"StagedParsers$Machine", "callBody", "(I)V"⟩, 14)) 26 rfl
theorem ks_27 : (.selects "StagedParsers$Machine" ⟨"StagedParsers$Machine", "pushFrame", "(II)V"⟩ ⟨"StagedParsers$Machine", "pushFrame", "(II)V"⟩ : Cond) ∈ AW_ := aw_sel (q := (⟨"StagedParsers$Machine", "pushFrame", "(II)V"⟩, 14)) 27 rfl
theorem ks_28 : (.selects "StagedParsers$Machine" ⟨"StagedParsers$Machine", "obey", "(III)V"⟩ ⟨"StagedParsers$Machine", "obey", "(III)V"⟩ : Cond) ∈ AW_ := aw_sel (q := (⟨"StagedParsers$Machine", "obey", "(III)V"⟩, 14)) 28 rfl
theorem ks_29 : (.selects "StagedParsers$Machine" ⟨"StagedParsers$Machine", "give", "(I)V"⟩ ⟨"StagedParsers$Machine", "give", "(I)V"⟩ : Cond) ∈ AW_ := aw_sel (q := (⟨"StagedParsers$Machine", "give", "(I)V"⟩, 14)) 29 rfl
theorem ks_30 : (.selects "StagedParsers$Machine" ⟨"StagedParsers$Machine", "take", "(II)V"⟩ ⟨"StagedParsers$Machine", "take", "(II)V"⟩ : Cond) ∈ AW_ := aw_sel (q := (⟨"StagedParsers$Machine", "take", "(II)V"⟩, 14)) 30 rfl
theorem ks_31 : (.selects "StagedParsers$Machine" ⟨"StagedParsers$Machine", "failAt", "(I)V"⟩ ⟨"StagedParsers$Machine", "failAt", "(I)V"⟩ : Cond) ∈ AW_ := aw_sel (q := (⟨"StagedParsers$Machine", "failAt", "(I)V"⟩, 14)) 31 rfl
theorem ks_32 : (.selects "StagedParsers$Machine" ⟨"StagedParsers$Machine", "stops", "(I)Z"⟩ ⟨"StagedParsers$Machine", "stops", "(I)Z"⟩ : Cond) ∈ AW_ := aw_sel (q := (⟨"StagedParsers$Machine", "stops", "(I)Z"⟩, 14)) 32 rfl
theorem ks_33 : (.selects "StagedParsers$Machine" ⟨"StagedParsers$Machine", "goOnFromGuard", "()V"⟩ ⟨"StagedParsers$Machine", "goOnFromGuard", "()V"⟩ : Cond) ∈ AW_ := aw_sel (q := (⟨"StagedParsers$Machine", "goOnFromGuard", "()V"⟩, 14)) 33 rfl
theorem ks_34 : (.selects "StagedParsers$Machine" ⟨"StagedParsers$Machine", "dropFrame", "()V"⟩ ⟨"StagedParsers$Machine", "dropFrame", "()V"⟩ : Cond) ∈ AW_ := aw_sel (q := (⟨"StagedParsers$Machine", "dropFrame", "()V"⟩, 14)) 34 rfl
theorem ks_35 : (.selects "StagedParsers$Machine" ⟨"StagedParsers$Machine", "goBack", "()V"⟩ ⟨"StagedParsers$Machine", "goBack", "()V"⟩ : Cond) ∈ AW_ := aw_sel (q := (⟨"StagedParsers$Machine", "goBack", "()V"⟩, 14)) 35 rfl
theorem ks_36 : (.selects "StagedParsers$Machine" ⟨"StagedParsers$Machine", "joinLastTwo", "(I)I"⟩ ⟨"StagedParsers$Machine", "joinLastTwo", "(I)I"⟩ : Cond) ∈ AW_ := aw_sel (q := (⟨"StagedParsers$Machine", "joinLastTwo", "(I)I"⟩, 14)) 36 rfl
theorem ks_37 : (.selects "StagedParsers$Machine" ⟨"StagedParsers$Machine", "withdraw", "()I"⟩ ⟨"StagedParsers$Machine", "withdraw", "()I"⟩ : Cond) ∈ AW_ := aw_sel (q := (⟨"StagedParsers$Machine", "withdraw", "()I"⟩, 14)) 37 rfl
theorem ks_38 : (.selects "StagedParsers$Machine" ⟨"StagedParsers$Machine", "linkLastThree", "()I"⟩ ⟨"StagedParsers$Machine", "linkLastThree", "()I"⟩ : Cond) ∈ AW_ := aw_sel (q := (⟨"StagedParsers$Machine", "linkLastThree", "()I"⟩, 14)) 38 rfl
theorem ks_39 : (.selects "StagedParsers$Machine" ⟨"StagedParsers$Machine", "store", "(II)V"⟩ ⟨"StagedParsers$Machine", "store", "(II)V"⟩ : Cond) ∈ AW_ := aw_sel (q := (⟨"StagedParsers$Machine", "store", "(II)V"⟩, 14)) 39 rfl
theorem ks_40 : (.selects "StagedParsersModel" ⟨"StagedParsersModel", "fits", "(IIII)Z"⟩ ⟨"StagedParsersModel", "fits", "(IIII)Z"⟩ : Cond) ∈ AW_ := aw_sel (q := (⟨"StagedParsersModel", "fits", "(IIII)Z"⟩, 34)) 40 rfl
theorem ks_41 : (.selects "StagedParsersModel" ⟨"StagedParsersModel", "isNode", "(I)Z"⟩ ⟨"StagedParsersModel", "isNode", "(I)Z"⟩ : Cond) ∈ AW_ := aw_sel (q := (⟨"StagedParsersModel", "isNode", "(I)Z"⟩, 34)) 41 rfl
theorem ks_42 : (.selects "StagedParsersModel" ⟨"StagedParsersModel", "height", "(III)I"⟩ ⟨"StagedParsersModel", "height", "(III)I"⟩ : Cond) ∈ AW_ := aw_sel (q := (⟨"StagedParsersModel", "height", "(III)I"⟩, 34)) 42 rfl
theorem ks_43 : (.selects "StagedParsersModel" ⟨"StagedParsersModel", "fails", "(I)I"⟩ ⟨"StagedParsersModel", "fails", "(I)I"⟩ : Cond) ∈ AW_ := aw_sel (q := (⟨"StagedParsersModel", "fails", "(I)I"⟩, 34)) 43 rfl
theorem ks_44 : (.selects "StagedParsersModel" ⟨"StagedParsersModel", "bodied", "()I"⟩ ⟨"StagedParsersModel", "bodied", "()I"⟩ : Cond) ∈ AW_ := aw_sel (q := (⟨"StagedParsersModel", "bodied", "()I"⟩, 34)) 44 rfl
theorem ks_45 : (.selects "StagedParsersModel" ⟨"StagedParsersModel", "findEmpty", "()V"⟩ ⟨"StagedParsersModel", "findEmpty", "()V"⟩ : Cond) ∈ AW_ := aw_sel (q := (⟨"StagedParsersModel", "findEmpty", "()V"⟩, 34)) 45 rfl
theorem ks_46 : (.selects "StagedParsersModel" ⟨"StagedParsersModel", "emptyNow", "(I)Z"⟩ ⟨"StagedParsersModel", "emptyNow", "(I)Z"⟩ : Cond) ∈ AW_ := aw_sel (q := (⟨"StagedParsersModel", "emptyNow", "(I)Z"⟩, 34)) 46 rfl
theorem ks_47 : (.selects "StagedParsersModel" ⟨"StagedParsersModel", "findBeginning", "(I)V"⟩ ⟨"StagedParsersModel", "findBeginning", "(I)V"⟩ : Cond) ∈ AW_ := aw_sel (q := (⟨"StagedParsersModel", "findBeginning", "(I)V"⟩, 34)) 47 rfl
theorem ks_48 : (.selects "StagedParsersModel" ⟨"StagedParsersModel", "beginsNow", "(II)Z"⟩ ⟨"StagedParsersModel", "beginsNow", "(II)Z"⟩ : Cond) ∈ AW_ := aw_sel (q := (⟨"StagedParsersModel", "beginsNow", "(II)Z"⟩, 34)) 48 rfl
theorem ks_49 : (.selects "StagedParsersModel" ⟨"StagedParsersModel", "allLeads", "(I)I"⟩ ⟨"StagedParsersModel", "allLeads", "(I)I"⟩ : Cond) ∈ AW_ := aw_sel (q := (⟨"StagedParsersModel", "allLeads", "(I)I"⟩, 34)) 49 rfl
theorem ks_50 : (.selects "StagedParsersModel" ⟨"StagedParsersModel", "leadsNow", "(I)I"⟩ ⟨"StagedParsersModel", "leadsNow", "(I)I"⟩ : Cond) ∈ AW_ := aw_sel (q := (⟨"StagedParsersModel", "leadsNow", "(I)I"⟩, 34)) 50 rfl
theorem ks_51 : (.selects "StagedParsersModel" ⟨"StagedParsersModel", "fault", "()I"⟩ ⟨"StagedParsersModel", "fault", "()I"⟩ : Cond) ∈ AW_ := aw_sel (q := (⟨"StagedParsersModel", "fault", "()I"⟩, 34)) 51 rfl
theorem ks_52 : (.selects "StagedParsersModel" ⟨"StagedParsersModel", "findWithin", "()V"⟩ ⟨"StagedParsersModel", "findWithin", "()V"⟩ : Cond) ∈ AW_ := aw_sel (q := (⟨"StagedParsersModel", "findWithin", "()V"⟩, 34)) 52 rfl
theorem ks_53 : (.selects "StagedParsersModel" ⟨"StagedParsersModel", "isRound", "(I)Z"⟩ ⟨"StagedParsersModel", "isRound", "(I)Z"⟩ : Cond) ∈ AW_ := aw_sel (q := (⟨"StagedParsersModel", "isRound", "(I)Z"⟩, 34)) 53 rfl
theorem ks_54 : (.selects "StagedParsersModel" ⟨"StagedParsersModel", "run", "(I)V"⟩ ⟨"StagedParsersModel", "run", "(I)V"⟩ : Cond) ∈ AW_ := aw_sel (q := (⟨"StagedParsersModel", "run", "(I)V"⟩, 34)) 54 rfl
theorem ks_55 : (.selects "StagedParsersModel" ⟨"StagedParsersModel", "enter", "(I)V"⟩ ⟨"StagedParsersModel", "enter", "(I)V"⟩ : Cond) ∈ AW_ := aw_sel (q := (⟨"StagedParsersModel", "enter", "(I)V"⟩, 34)) 55 rfl
theorem ks_56 : (.selects "StagedParsersModel" ⟨"StagedParsersModel", "begin", "(I)V"⟩ ⟨"StagedParsersModel", "begin", "(I)V"⟩ : Cond) ∈ AW_ := aw_sel (q := (⟨"StagedParsersModel", "begin", "(I)V"⟩, 34)) 56 rfl
theorem ks_57 : (.selects "StagedParsersModel" ⟨"StagedParsersModel", "succeed", "(I)V"⟩ ⟨"StagedParsersModel", "succeed", "(I)V"⟩ : Cond) ∈ AW_ := aw_sel (q := (⟨"StagedParsersModel", "succeed", "(I)V"⟩, 34)) 57 rfl
theorem ks_58 : (.selects "StagedParsersModel" ⟨"StagedParsersModel", "looked", "(II)V"⟩ ⟨"StagedParsersModel", "looked", "(II)V"⟩ : Cond) ∈ AW_ := aw_sel (q := (⟨"StagedParsersModel", "looked", "(II)V"⟩, 34)) 58 rfl
theorem ks_59 : (.selects "StagedParsersModel" ⟨"StagedParsersModel", "fail", "()V"⟩ ⟨"StagedParsersModel", "fail", "()V"⟩ : Cond) ∈ AW_ := aw_sel (q := (⟨"StagedParsersModel", "fail", "()V"⟩, 34)) 59 rfl
theorem ks_60 : (.selects "StagedParsersModel" ⟨"StagedParsersModel", "goOn", "(I)V"⟩ ⟨"StagedParsersModel", "goOn", "(I)V"⟩ : Cond) ∈ AW_ := aw_sel (q := (⟨"StagedParsersModel", "goOn", "(I)V"⟩, 34)) 60 rfl
theorem ks_61 : (.selects "StagedParsersModel" ⟨"StagedParsersModel", "then", "(I)V"⟩ ⟨"StagedParsersModel", "then", "(I)V"⟩ : Cond) ∈ AW_ := aw_sel (q := (⟨"StagedParsersModel", "then", "(I)V"⟩, 34)) 61 rfl
theorem ks_62 : (.selects "StagedParsersModel" ⟨"StagedParsersModel", "many", "(I)V"⟩ ⟨"StagedParsersModel", "many", "(I)V"⟩ : Cond) ∈ AW_ := aw_sel (q := (⟨"StagedParsersModel", "many", "(I)V"⟩, 34)) 62 rfl
theorem ks_63 : (.selects "StagedParsersModel" ⟨"StagedParsersModel", "ends", "(I)V"⟩ ⟨"StagedParsersModel", "ends", "(I)V"⟩ : Cond) ∈ AW_ := aw_sel (q := (⟨"StagedParsersModel", "ends", "(I)V"⟩, 34)) 63 rfl
theorem ks_64 : (.selects "StagedParsersModel" ⟨"StagedParsersModel", "chain", "(I)V"⟩ ⟨"StagedParsersModel", "chain", "(I)V"⟩ : Cond) ∈ AW_ := aw_sel (q := (⟨"StagedParsersModel", "chain", "(I)V"⟩, 34)) 64 rfl
end
section
/-! names, fields, the worlds of the two systems -/
def Rz_S : String := "StagedParsers"
def Tz_S : u_T := fun k => match k with
  | 0 => ("StagedParsers", "grammar", "LStagedParsers$Grammar;", true)
  | 1 => ("StagedParsers", "study", "LStagedParsers$Study;", true)
  | 2 => ("StagedParsers", "code", "LStagedParsers$Code;", true)
  | 3 => ("StagedParsers", "text", "LStagedParsers$Text;", true)
  | 4 => ("StagedParsers", "machine", "LStagedParsers$Machine;", true)
  | _ => ("StagedParsers", "staged", "Z", false)
def tz_S : Nat → FieldType := fun k => match k with
  | 0 => .object "StagedParsers$Grammar"
  | 1 => .object "StagedParsers$Study"
  | 2 => .object "StagedParsers$Code"
  | 3 => .object "StagedParsers$Text"
  | 4 => .object "StagedParsers$Machine"
  | _ => .boolean
theorem nz_S : ∀ a, a < 6 → ∀ b, b < 6 → a ≠ b → (Tz_S a).2.1 ≠ (Tz_S b).2.1 := by decide +kernel
theorem tz_S_ok : ∀ k, k < 6 → parseFieldDescriptor (Tz_S k).2.2.1 = some (tz_S k) := by decide +kernel
theorem uz_S : ∀ w ∈ u_ws Rz_S Tz_S 6, w ∈ AW_ := fun w hw => by
  obtain ⟨k, hk, rfl⟩ := List.mem_map.mp hw
  have hk := List.mem_range.mp hk
  rcases (show k = 0 ∨ k = 1 ∨ k = 2 ∨ k = 3 ∨ k = 4 ∨ k = 5 by omega) with rfl | rfl | rfl | rfl | rfl | rfl
  · exact kw_200
  · exact kw_202
  · exact kw_204
  · exact kw_206
  · exact kw_208
  · exact kw_210
def Rz_G : String := "StagedParsers$Grammar"
def Tz_G : u_T := fun k => match k with
  | 0 => ("StagedParsers$Grammar", "kinds", "[I", true)
  | 1 => ("StagedParsers$Grammar", "as", "[I", true)
  | 2 => ("StagedParsers$Grammar", "bs", "[I", true)
  | 3 => ("StagedParsers$Grammar", "cs", "[I", true)
  | 4 => ("StagedParsers$Grammar", "heights", "[I", true)
  | 5 => ("StagedParsers$Grammar", "bodyOf", "[I", true)
  | _ => ("StagedParsers$Grammar", "size", "I", false)
def tz_G : Nat → FieldType := fun k => match k with
  | 0 => .array .int
  | 1 => .array .int
  | 2 => .array .int
  | 3 => .array .int
  | 4 => .array .int
  | 5 => .array .int
  | _ => .int
theorem nz_G : ∀ a, a < 7 → ∀ b, b < 7 → a ≠ b → (Tz_G a).2.1 ≠ (Tz_G b).2.1 := by decide +kernel
theorem tz_G_ok : ∀ k, k < 7 → parseFieldDescriptor (Tz_G k).2.2.1 = some (tz_G k) := by decide +kernel
theorem uz_G : ∀ w ∈ u_ws Rz_G Tz_G 7, w ∈ AW_ := fun w hw => by
  obtain ⟨k, hk, rfl⟩ := List.mem_map.mp hw
  have hk := List.mem_range.mp hk
  rcases (show k = 0 ∨ k = 1 ∨ k = 2 ∨ k = 3 ∨ k = 4 ∨ k = 5 ∨ k = 6 by omega) with rfl | rfl | rfl | rfl | rfl | rfl | rfl
  · exact kw_42
  · exact kw_44
  · exact kw_46
  · exact kw_48
  · exact kw_50
  · exact kw_52
  · exact kw_54
def Rz_Y : String := "StagedParsers$Study"
def Tz_Y : u_T := fun k => match k with
  | 0 => ("StagedParsers$Study", "grammar", "LStagedParsers$Grammar;", true)
  | 1 => ("StagedParsers$Study", "emptyNodes", "[Z", true)
  | 2 => ("StagedParsers$Study", "beginners", "[Z", true)
  | 3 => ("StagedParsers$Study", "inBodies", "[Z", true)
  | 4 => ("StagedParsers$Study", "nodeLeads", "[I", true)
  | _ => ("StagedParsers$Study", "ruleLeads", "[I", true)
def tz_Y : Nat → FieldType := fun k => match k with
  | 0 => .object "StagedParsers$Grammar"
  | 1 => .array .boolean
  | 2 => .array .boolean
  | 3 => .array .boolean
  | 4 => .array .int
  | _ => .array .int
theorem nz_Y : ∀ a, a < 6 → ∀ b, b < 6 → a ≠ b → (Tz_Y a).2.1 ≠ (Tz_Y b).2.1 := by decide +kernel
theorem tz_Y_ok : ∀ k, k < 6 → parseFieldDescriptor (Tz_Y k).2.2.1 = some (tz_Y k) := by decide +kernel
theorem uz_Y : ∀ w ∈ u_ws Rz_Y Tz_Y 6, w ∈ AW_ := fun w hw => by
  obtain ⟨k, hk, rfl⟩ := List.mem_map.mp hw
  have hk := List.mem_range.mp hk
  rcases (show k = 0 ∨ k = 1 ∨ k = 2 ∨ k = 3 ∨ k = 4 ∨ k = 5 by omega) with rfl | rfl | rfl | rfl | rfl | rfl
  · exact kw_70
  · exact kw_72
  · exact kw_74
  · exact kw_76
  · exact kw_78
  · exact kw_80
def Rz_C : String := "StagedParsers$Code"
def Tz_C : u_T := fun k => match k with
  | 0 => ("StagedParsers$Code", "operations", "[I", true)
  | 1 => ("StagedParsers$Code", "ps", "[I", true)
  | 2 => ("StagedParsers$Code", "qs", "[I", true)
  | 3 => ("StagedParsers$Code", "pieceOf", "[I", true)
  | 4 => ("StagedParsers$Code", "entryOf", "[I", true)
  | _ => ("StagedParsers$Code", "size", "I", false)
def tz_C : Nat → FieldType := fun k => match k with
  | 0 => .array .int
  | 1 => .array .int
  | 2 => .array .int
  | 3 => .array .int
  | 4 => .array .int
  | _ => .int
theorem nz_C : ∀ a, a < 6 → ∀ b, b < 6 → a ≠ b → (Tz_C a).2.1 ≠ (Tz_C b).2.1 := by decide +kernel
theorem tz_C_ok : ∀ k, k < 6 → parseFieldDescriptor (Tz_C k).2.2.1 = some (tz_C k) := by decide +kernel
theorem uz_C : ∀ w ∈ u_ws Rz_C Tz_C 6, w ∈ AW_ := fun w hw => by
  obtain ⟨k, hk, rfl⟩ := List.mem_map.mp hw
  have hk := List.mem_range.mp hk
  rcases (show k = 0 ∨ k = 1 ∨ k = 2 ∨ k = 3 ∨ k = 4 ∨ k = 5 by omega) with rfl | rfl | rfl | rfl | rfl | rfl
  · exact kw_96
  · exact kw_98
  · exact kw_100
  · exact kw_102
  · exact kw_104
  · exact kw_106
def Rz_T : String := "StagedParsers$Text"
def Tz_T : u_T := fun k => match k with
  | 0 => ("StagedParsers$Text", "signs", "[C", true)
  | _ => ("StagedParsers$Text", "size", "I", false)
def tz_T : Nat → FieldType := fun k => match k with
  | 0 => .array .char
  | _ => .int
theorem nz_T : ∀ a, a < 2 → ∀ b, b < 2 → a ≠ b → (Tz_T a).2.1 ≠ (Tz_T b).2.1 := by decide +kernel
theorem tz_T_ok : ∀ k, k < 2 → parseFieldDescriptor (Tz_T k).2.2.1 = some (tz_T k) := by decide +kernel
theorem uz_T : ∀ w ∈ u_ws Rz_T Tz_T 2, w ∈ AW_ := fun w hw => by
  obtain ⟨k, hk, rfl⟩ := List.mem_map.mp hw
  have hk := List.mem_range.mp hk
  rcases (show k = 0 ∨ k = 1 by omega) with rfl | rfl
  · exact kw_117
  · exact kw_119
def Rz_M : String := "StagedParsers$Machine"
def Tz_M : u_T := fun k => match k with
  | 0 => ("StagedParsers$Machine", "code", "LStagedParsers$Code;", true)
  | 1 => ("StagedParsers$Machine", "text", "LStagedParsers$Text;", true)
  | 2 => ("StagedParsers$Machine", "frames", "LStagedParsers$Frames;", true)
  | 3 => ("StagedParsers$Machine", "answers", "[I", true)
  | 4 => ("StagedParsers$Machine", "registers", "[I", true)
  | 5 => ("StagedParsers$Machine", "answerCount", "I", false)
  | 6 => ("StagedParsers$Machine", "state", "I", false)
  | 7 => ("StagedParsers$Machine", "next", "I", false)
  | 8 => ("StagedParsers$Machine", "place", "I", false)
  | 9 => ("StagedParsers$Machine", "looks", "I", false)
  | 10 => ("StagedParsers$Machine", "far", "I", false)
  | 11 => ("StagedParsers$Machine", "bodies", "I", false)
  | 12 => ("StagedParsers$Machine", "depth", "I", false)
  | _ => ("StagedParsers$Machine", "ran", "Z", false)
def tz_M : Nat → FieldType := fun k => match k with
  | 0 => .object "StagedParsers$Code"
  | 1 => .object "StagedParsers$Text"
  | 2 => .object "StagedParsers$Frames"
  | 3 => .array .int
  | 4 => .array .int
  | 5 => .int
  | 6 => .int
  | 7 => .int
  | 8 => .int
  | 9 => .int
  | 10 => .int
  | 11 => .int
  | 12 => .int
  | _ => .boolean
theorem nz_M : ∀ a, a < 14 → ∀ b, b < 14 → a ≠ b → (Tz_M a).2.1 ≠ (Tz_M b).2.1 := by decide +kernel
theorem tz_M_ok : ∀ k, k < 14 → parseFieldDescriptor (Tz_M k).2.2.1 = some (tz_M k) := by decide +kernel
theorem uz_M : ∀ w ∈ u_ws Rz_M Tz_M 14, w ∈ AW_ := fun w hw => by
  obtain ⟨k, hk, rfl⟩ := List.mem_map.mp hw
  have hk := List.mem_range.mp hk
  rcases (show k = 0 ∨ k = 1 ∨ k = 2 ∨ k = 3 ∨ k = 4 ∨ k = 5 ∨ k = 6 ∨ k = 7 ∨ k = 8 ∨ k = 9 ∨ k = 10 ∨ k = 11 ∨ k = 12 ∨ k = 13 by omega) with rfl | rfl | rfl | rfl | rfl | rfl | rfl | rfl | rfl | rfl | rfl | rfl | rfl | rfl
  · exact kw_165
  · exact kw_167
  · exact kw_169
  · exact kw_171
  · exact kw_173
  · exact kw_175
  · exact kw_177
  · exact kw_179
  · exact kw_181
  · exact kw_183
  · exact kw_185
  · exact kw_187
  · exact kw_189
  · exact kw_191
def Rz_F : String := "StagedParsers$Frames"
def Tz_F : u_T := fun k => match k with
  | 0 => ("StagedParsers$Frames", "manners", "[I", true)
  | 1 => ("StagedParsers$Frames", "targets", "[I", true)
  | 2 => ("StagedParsers$Frames", "places", "[I", true)
  | 3 => ("StagedParsers$Frames", "heights", "[I", true)
  | _ => ("StagedParsers$Frames", "size", "I", false)
def tz_F : Nat → FieldType := fun k => match k with
  | 0 => .array .int
  | 1 => .array .int
  | 2 => .array .int
  | 3 => .array .int
  | _ => .int
theorem nz_F : ∀ a, a < 5 → ∀ b, b < 5 → a ≠ b → (Tz_F a).2.1 ≠ (Tz_F b).2.1 := by decide +kernel
theorem tz_F_ok : ∀ k, k < 5 → parseFieldDescriptor (Tz_F k).2.2.1 = some (tz_F k) := by decide +kernel
theorem uz_F : ∀ w ∈ u_ws Rz_F Tz_F 5, w ∈ AW_ := fun w hw => by
  obtain ⟨k, hk, rfl⟩ := List.mem_map.mp hw
  have hk := List.mem_range.mp hk
  rcases (show k = 0 ∨ k = 1 ∨ k = 2 ∨ k = 3 ∨ k = 4 by omega) with rfl | rfl | rfl | rfl | rfl
  · exact kw_140
  · exact kw_142
  · exact kw_144
  · exact kw_146
  · exact kw_148
def Rz_R : String := "StagedParsersModel"
def Tz_R : u_T := fun k => match k with
  | 0 => ("StagedParsersModel", "thrown", "I", false)
  | 1 => ("StagedParsersModel", "nodes", "I", false)
  | 2 => ("StagedParsersModel", "kind", "[I", true)
  | 3 => ("StagedParsersModel", "one", "[I", true)
  | 4 => ("StagedParsersModel", "two", "[I", true)
  | 5 => ("StagedParsersModel", "three", "[I", true)
  | 6 => ("StagedParsersModel", "high", "[I", true)
  | 7 => ("StagedParsersModel", "bodies", "[I", true)
  | 8 => ("StagedParsersModel", "staged", "Z", false)
  | 9 => ("StagedParsersModel", "text", "[I", true)
  | 10 => ("StagedParsersModel", "length", "I", false)
  | 11 => ("StagedParsersModel", "isEmpty", "[Z", true)
  | 12 => ("StagedParsersModel", "isBeginning", "[Z", true)
  | 13 => ("StagedParsersModel", "leading", "[I", true)
  | 14 => ("StagedParsersModel", "within", "[Z", true)
  | 15 => ("StagedParsersModel", "open", "I", false)
  | 16 => ("StagedParsersModel", "which", "[I", true)
  | 17 => ("StagedParsersModel", "state", "[I", true)
  | 18 => ("StagedParsersModel", "start", "[I", true)
  | 19 => ("StagedParsersModel", "answer", "[I", true)
  | 20 => ("StagedParsersModel", "mark", "[I", true)
  | 21 => ("StagedParsersModel", "sign", "[I", true)
  | 22 => ("StagedParsersModel", "good", "Z", false)
  | 23 => ("StagedParsersModel", "at", "I", false)
  | 24 => ("StagedParsersModel", "value", "I", false)
  | 25 => ("StagedParsersModel", "tired", "Z", false)
  | 26 => ("StagedParsersModel", "running", "I", false)
  | 27 => ("StagedParsersModel", "bodiesRun", "I", false)
  | 28 => ("StagedParsersModel", "looks", "I", false)
  | 29 => ("StagedParsersModel", "far", "I", false)
  | 30 => ("StagedParsersModel", "registers", "[I", true)
  | 31 => ("StagedParsersModel", "parsed", "Z", false)
  | 32 => ("StagedParsersModel", "lastPlace", "I", false)
  | _ => ("StagedParsersModel", "lastGood", "Z", false)
def tz_R : Nat → FieldType := fun k => match k with
  | 0 => .int
  | 1 => .int
  | 2 => .array .int
  | 3 => .array .int
  | 4 => .array .int
  | 5 => .array .int
  | 6 => .array .int
  | 7 => .array .int
  | 8 => .boolean
  | 9 => .array .int
  | 10 => .int
  | 11 => .array .boolean
  | 12 => .array .boolean
  | 13 => .array .int
  | 14 => .array .boolean
  | 15 => .int
  | 16 => .array .int
  | 17 => .array .int
  | 18 => .array .int
  | 19 => .array .int
  | 20 => .array .int
  | 21 => .array .int
  | 22 => .boolean
  | 23 => .int
  | 24 => .int
  | 25 => .boolean
  | 26 => .int
  | 27 => .int
  | 28 => .int
  | 29 => .int
  | 30 => .array .int
  | 31 => .boolean
  | 32 => .int
  | _ => .boolean
theorem nz_R : ∀ a, a < 34 → ∀ b, b < 34 → a ≠ b → (Tz_R a).2.1 ≠ (Tz_R b).2.1 := by decide +kernel
theorem tz_R_ok : ∀ k, k < 34 → parseFieldDescriptor (Tz_R k).2.2.1 = some (tz_R k) := by decide +kernel
theorem uz_R : ∀ w ∈ u_ws Rz_R Tz_R 34, w ∈ AW_ := fun w hw => by
  obtain ⟨k, hk, rfl⟩ := List.mem_map.mp hw
  have hk := List.mem_range.mp hk
  rcases (show k = 0 ∨ k = 1 ∨ k = 2 ∨ k = 3 ∨ k = 4 ∨ k = 5 ∨ k = 6 ∨ k = 7 ∨ k = 8 ∨ k = 9 ∨ k = 10 ∨ k = 11 ∨ k = 12 ∨ k = 13 ∨ k = 14 ∨ k = 15 ∨ k = 16 ∨ k = 17 ∨ k = 18 ∨ k = 19 ∨ k = 20 ∨ k = 21 ∨ k = 22 ∨ k = 23 ∨ k = 24 ∨ k = 25 ∨ k = 26 ∨ k = 27 ∨ k = 28 ∨ k = 29 ∨ k = 30 ∨ k = 31 ∨ k = 32 ∨ k = 33 by omega) with rfl | rfl | rfl | rfl | rfl | rfl | rfl | rfl | rfl | rfl | rfl | rfl | rfl | rfl | rfl | rfl | rfl | rfl | rfl | rfl | rfl | rfl | rfl | rfl | rfl | rfl | rfl | rfl | rfl | rfl | rfl | rfl | rfl | rfl
  · exact kw_845
  · exact kw_847
  · exact kw_849
  · exact kw_851
  · exact kw_853
  · exact kw_855
  · exact kw_857
  · exact kw_859
  · exact kw_861
  · exact kw_863
  · exact kw_865
  · exact kw_867
  · exact kw_869
  · exact kw_871
  · exact kw_873
  · exact kw_875
  · exact kw_877
  · exact kw_879
  · exact kw_881
  · exact kw_883
  · exact kw_885
  · exact kw_887
  · exact kw_889
  · exact kw_891
  · exact kw_893
  · exact kw_895
  · exact kw_897
  · exact kw_899
  · exact kw_901
  · exact kw_903
  · exact kw_905
  · exact kw_907
  · exact kw_909
  · exact kw_911
abbrev cls_ : List vw_C := [(Rz_S, Tz_S, 6), (Rz_G, Tz_G, 7), (Rz_Y, Tz_Y, 6), (Rz_C, Tz_C, 6), (Rz_T, Tz_T, 2), (Rz_M, Tz_M, 14), (Rz_F, Tz_F, 5), (Rz_R, Tz_R, 34)]
def wX (q : Nat → Nat) (cA : Nat → ClassId) (σ : MZ_) : va_W := [(q 0, .inr (0, [.ref (q 1), .ref (q 8), .ref (q 14), .ref (q 20), .ref (q 22), .int (σ 30 0)])),
  (q 1, .inr (1, [.ref (q 2), .ref (q 3), .ref (q 4), .ref (q 5), .ref (q 6), .ref (q 7), .int (σ 31 0)])),
  (q 2, .inl (cA 2, 80, .inl (σ 2))),
  (q 3, .inl (cA 3, 80, .inl (σ 3))),
  (q 4, .inl (cA 4, 80, .inl (σ 4))),
  (q 5, .inl (cA 5, 80, .inl (σ 5))),
  (q 6, .inl (cA 6, 80, .inl (σ 6))),
  (q 7, .inl (cA 7, 6, .inl (σ 7))),
  (q 8, .inr (2, [.ref (q 1), .ref (q 9), .ref (q 10), .ref (q 11), .ref (q 12), .ref (q 13)])),
  (q 9, .inl (cA 9, 80, .inl (σ 9))),
  (q 10, .inl (cA 10, 80, .inl (σ 10))),
  (q 11, .inl (cA 11, 80, .inl (σ 11))),
  (q 12, .inl (cA 12, 80, .inl (σ 12))),
  (q 13, .inl (cA 13, 6, .inl (σ 13))),
  (q 14, .inr (3, [.ref (q 15), .ref (q 16), .ref (q 17), .ref (q 18), .ref (q 19), .int (σ 32 0)])),
  (q 15, .inl (cA 15, 561, .inl (σ 15))),
  (q 16, .inl (cA 16, 561, .inl (σ 16))),
  (q 17, .inl (cA 17, 561, .inl (σ 17))),
  (q 18, .inl (cA 18, 80, .inl (σ 18))),
  (q 19, .inl (cA 19, 6, .inl (σ 19))),
  (q 20, .inr (4, [.ref (q 21), .int (σ 33 0)])),
  (q 21, .inl (cA 21, 40, .inl (σ 21))),
  (q 22, .inr (5, [.ref (q 14), .ref (q 20), .ref (q 25), .ref (q 23), .ref (q 24), .int (σ 34 0), .int (σ 35 0), .int (σ 36 0), .int (σ 37 0), .int (σ 38 0), .int (σ 39 0), .int (σ 40 0), .int (σ 41 0), .int (σ 42 0)])),
  (q 23, .inl (cA 23, 642, .inl (σ 23))),
  (q 24, .inl (cA 24, 4, .inl (σ 24))),
  (q 25, .inr (6, [.ref (q 26), .ref (q 27), .ref (q 28), .ref (q 29), .int (σ 43 0)])),
  (q 26, .inl (cA 26, 640, .inl (σ 26))),
  (q 27, .inl (cA 27, 640, .inl (σ 27))),
  (q 28, .inl (cA 28, 640, .inl (σ 28))),
  (q 29, .inl (cA 29, 640, .inl (σ 29)))]
def tyX (cA : Nat → ClassId) : List (ClassId × FieldType) := [(cA 2, .int), (cA 3, .int), (cA 4, .int), (cA 5, .int), (cA 6, .int), (cA 7, .int), (cA 9, .boolean), (cA 10, .boolean), (cA 11, .boolean), (cA 12, .int), (cA 13, .int), (cA 15, .int), (cA 16, .int), (cA 17, .int), (cA 18, .int), (cA 19, .int), (cA 21, .char), (cA 23, .int), (cA 24, .int), (cA 26, .int), (cA 27, .int), (cA 28, .int), (cA 29, .int)]
/-- the cells of the system -/
def AX (q : Nat → Nat) : Nat → Prop := fun a => ∃ i, i < 30 ∧ a = q i
theorem wX_f (q : Nat → Nat) (cA : Nat → ClassId) (σ σ2 : MZ_) : (wX q cA σ).map Prod.fst = (wX q cA σ2).map Prod.fst := rfl
theorem wX_a (q : Nat → Nat) (cA : Nat → ClassId) (σ : MZ_) : (wX q cA σ).map Prod.fst = (List.range 30).map q := rfl
def wR (q : Nat → Nat) (cA : Nat → ClassId) (σ : MZ_) : va_W := [(q 0, .inr (7, [.int (σ 30 0), .int (σ 31 0), .ref (q 1), .ref (q 2), .ref (q 3), .ref (q 4), .ref (q 5), .ref (q 6), .int (σ 32 0), .ref (q 7), .int (σ 33 0), .ref (q 8), .ref (q 9), .ref (q 10), .ref (q 11), .int (σ 34 0), .ref (q 12), .ref (q 13), .ref (q 14), .ref (q 15), .ref (q 16), .ref (q 17), .int (σ 35 0), .int (σ 36 0), .int (σ 37 0), .int (σ 38 0), .int (σ 39 0), .int (σ 40 0), .int (σ 41 0), .int (σ 42 0), .ref (q 18), .int (σ 43 0), .int (σ 44 0), .int (σ 45 0)])),
  (q 1, .inl (cA 1, 80, .inl (σ 1))),
  (q 2, .inl (cA 2, 80, .inl (σ 2))),
  (q 3, .inl (cA 3, 80, .inl (σ 3))),
  (q 4, .inl (cA 4, 80, .inl (σ 4))),
  (q 5, .inl (cA 5, 80, .inl (σ 5))),
  (q 6, .inl (cA 6, 6, .inl (σ 6))),
  (q 7, .inl (cA 7, 40, .inl (σ 7))),
  (q 8, .inl (cA 8, 80, .inl (σ 8))),
  (q 9, .inl (cA 9, 80, .inl (σ 9))),
  (q 10, .inl (cA 10, 80, .inl (σ 10))),
  (q 11, .inl (cA 11, 80, .inl (σ 11))),
  (q 12, .inl (cA 12, 400, .inl (σ 12))),
  (q 13, .inl (cA 13, 400, .inl (σ 13))),
  (q 14, .inl (cA 14, 400, .inl (σ 14))),
  (q 15, .inl (cA 15, 400, .inl (σ 15))),
  (q 16, .inl (cA 16, 400, .inl (σ 16))),
  (q 17, .inl (cA 17, 400, .inl (σ 17))),
  (q 18, .inl (cA 18, 4, .inl (σ 18)))]
def tyR (cA : Nat → ClassId) : List (ClassId × FieldType) := [(cA 1, .int), (cA 2, .int), (cA 3, .int), (cA 4, .int), (cA 5, .int), (cA 6, .int), (cA 7, .int), (cA 8, .boolean), (cA 9, .boolean), (cA 10, .int), (cA 11, .boolean), (cA 12, .int), (cA 13, .int), (cA 14, .int), (cA 15, .int), (cA 16, .int), (cA 17, .int), (cA 18, .int)]
/-- the cells of the system -/
def AR (q : Nat → Nat) : Nat → Prop := fun a => ∃ i, i < 19 ∧ a = q i
theorem wR_f (q : Nat → Nat) (cA : Nat → ClassId) (σ σ2 : MZ_) : (wR q cA σ).map Prod.fst = (wR q cA σ2).map Prod.fst := rfl
theorem wR_a (q : Nat → Nat) (cA : Nat → ClassId) (σ : MZ_) : (wR q cA σ).map Prod.fst = (List.range 19).map q := rfl
theorem dd_re {A : Nat → Prop} {w w2 : va_W} (h : w.map Prod.fst = w2.map Prod.fst) (hD : va_D A w) : va_D A w2 := by
  have key : ∀ (k : Nat) (x : Nat × va_E), w2[k]? = some x → ∃ y : Nat × va_E, w[k]? = some y ∧ y.1 = x.1 := by
    intro k x hk
    have e1 : (w2.map Prod.fst)[k]? = some x.1 := by rw [List.getElem?_map, hk]; rfl
    rw [← h, List.getElem?_map] at e1
    cases hw : w[k]? with
    | none => rw [hw] at e1; cases e1
    | some y => rw [hw] at e1; exact ⟨y, rfl, Option.some.inj e1⟩
  refine ⟨fun i j a b hi hj hab => ?_, fun k x hk => ?_⟩
  · obtain ⟨a', h1, h2⟩ := key i a hi
    obtain ⟨b', h3, h4⟩ := key j b hj
    exact hD.1 i j a' b' h1 h3 (by rw [h2, h4]; exact hab)
  · obtain ⟨y, h1, h2⟩ := key k x hk
    rw [← h2]
    exact hD.2 k y h1
theorem dd_in {N : Nat} {q : Nat → Nat} {A0 : Nat → Prop} {w : va_W} (h : w.map Prod.fst = (List.range N).map q) (hD : va_D A0 w) : va_D (fun a => ∃ i, i < N ∧ a = q i) w := by
  refine ⟨hD.1, fun k x hk => ?_⟩
  have e1 : (w.map Prod.fst)[k]? = some x.1 := by rw [List.getElem?_map, hk]; rfl
  rw [h, List.getElem?_map] at e1
  cases hr : (List.range N)[k]? with
  | none => rw [hr] at e1; cases e1
  | some j =>
    rw [hr] at e1
    have hj : j < N := List.mem_range.mp (List.mem_of_getElem? hr)
    exact ⟨j, hj, (Option.some.inj e1).symm⟩
section ROWSA
variable {p : Program} {l : Launch} {e : Env} {R : Room} {s : State} {m : MethodId} {args : Array Value} {below : List Frame} {meth : Method} {c : Code} {H : Heap} {locs : List Loc} {cells slots : Nat} {Q : State → Prop}
variable {cc : ByteArray} {pc : Nat} {ls : Array Slot} {rest : List Value} {dC : Nat → ClassId} {dI : Nat → Nat → Nat} {q : Nat → Nat} {cA : Nat → ClassId} {σ : MZ_} {H0 : Heap} {A : Nat → Prop}

theorem al_X_2 (hx : p.tables.exec = Jvm.exec) (hb : c.code = cc) (hK : va_K (dC, dI) cls_ (tyX cA) s) (hP : va_P (dC, dI) cls_ (wX q cA σ) H) {i : Int32} (hin : vp_in i 80) (hdg : decode cc pc = .ok (.iaload, 1)) (kk : W p l e R s m args below meth c H locs cells slots Q (F0 m (pc + 1) ls (.int (σ 2 i.toNatClampNeg) :: rest))) : W p l e R s m args below meth c H locs cells slots Q (F0 m pc ls (.int i :: .ref (q 2) :: rest)) :=
  va_iald (D := (dC, dI)) (cl := cls_) (ws := wX q cA σ) (tys := tyX cA) hx hb hK hP 2 0 rfl rfl hin hdg kk
theorem as_X_2 (hx : p.tables.exec = Jvm.exec) (hb : c.code = cc) (hK : va_K (dC, dI) cls_ (tyX cA) s) (hP : va_P (dC, dI) cls_ (wX q cA σ) H) (hD : va_D A (wX q cA σ)) (hS : va_S A H0 H locs) {i x : Int32} (hin : vp_in i 80) (hdg : decode cc pc = .ok (.iastore, 1)) (kk : ∀ (H1 : Heap) (locs1 : List Loc), va_P (dC, dI) cls_ (wX q cA (va_up σ 2 (upd (σ 2) i.toNatClampNeg x))) H1 → va_S A H0 H1 locs1 → W p l e R s m args below meth c H1 locs1 cells slots Q (F0 m (pc + 1) ls rest)) : W p l e R s m args below meth c H locs cells slots Q (F0 m pc ls (.int x :: .int i :: .ref (q 2) :: rest)) :=
  va_iast (D := (dC, dI)) (cl := cls_) (ws := wX q cA σ) (tys := tyX cA) hx hb hK hP hD hS 2 0 rfl rfl hin hdg (fun H1 locs1 hP _ hS => kk H1 locs1 hP hS)
theorem al_X_3 (hx : p.tables.exec = Jvm.exec) (hb : c.code = cc) (hK : va_K (dC, dI) cls_ (tyX cA) s) (hP : va_P (dC, dI) cls_ (wX q cA σ) H) {i : Int32} (hin : vp_in i 80) (hdg : decode cc pc = .ok (.iaload, 1)) (kk : W p l e R s m args below meth c H locs cells slots Q (F0 m (pc + 1) ls (.int (σ 3 i.toNatClampNeg) :: rest))) : W p l e R s m args below meth c H locs cells slots Q (F0 m pc ls (.int i :: .ref (q 3) :: rest)) :=
  va_iald (D := (dC, dI)) (cl := cls_) (ws := wX q cA σ) (tys := tyX cA) hx hb hK hP 3 1 rfl rfl hin hdg kk
theorem as_X_3 (hx : p.tables.exec = Jvm.exec) (hb : c.code = cc) (hK : va_K (dC, dI) cls_ (tyX cA) s) (hP : va_P (dC, dI) cls_ (wX q cA σ) H) (hD : va_D A (wX q cA σ)) (hS : va_S A H0 H locs) {i x : Int32} (hin : vp_in i 80) (hdg : decode cc pc = .ok (.iastore, 1)) (kk : ∀ (H1 : Heap) (locs1 : List Loc), va_P (dC, dI) cls_ (wX q cA (va_up σ 3 (upd (σ 3) i.toNatClampNeg x))) H1 → va_S A H0 H1 locs1 → W p l e R s m args below meth c H1 locs1 cells slots Q (F0 m (pc + 1) ls rest)) : W p l e R s m args below meth c H locs cells slots Q (F0 m pc ls (.int x :: .int i :: .ref (q 3) :: rest)) :=
  va_iast (D := (dC, dI)) (cl := cls_) (ws := wX q cA σ) (tys := tyX cA) hx hb hK hP hD hS 3 1 rfl rfl hin hdg (fun H1 locs1 hP _ hS => kk H1 locs1 hP hS)
theorem al_X_4 (hx : p.tables.exec = Jvm.exec) (hb : c.code = cc) (hK : va_K (dC, dI) cls_ (tyX cA) s) (hP : va_P (dC, dI) cls_ (wX q cA σ) H) {i : Int32} (hin : vp_in i 80) (hdg : decode cc pc = .ok (.iaload, 1)) (kk : W p l e R s m args below meth c H locs cells slots Q (F0 m (pc + 1) ls (.int (σ 4 i.toNatClampNeg) :: rest))) : W p l e R s m args below meth c H locs cells slots Q (F0 m pc ls (.int i :: .ref (q 4) :: rest)) :=
  va_iald (D := (dC, dI)) (cl := cls_) (ws := wX q cA σ) (tys := tyX cA) hx hb hK hP 4 2 rfl rfl hin hdg kk
theorem as_X_4 (hx : p.tables.exec = Jvm.exec) (hb : c.code = cc) (hK : va_K (dC, dI) cls_ (tyX cA) s) (hP : va_P (dC, dI) cls_ (wX q cA σ) H) (hD : va_D A (wX q cA σ)) (hS : va_S A H0 H locs) {i x : Int32} (hin : vp_in i 80) (hdg : decode cc pc = .ok (.iastore, 1)) (kk : ∀ (H1 : Heap) (locs1 : List Loc), va_P (dC, dI) cls_ (wX q cA (va_up σ 4 (upd (σ 4) i.toNatClampNeg x))) H1 → va_S A H0 H1 locs1 → W p l e R s m args below meth c H1 locs1 cells slots Q (F0 m (pc + 1) ls rest)) : W p l e R s m args below meth c H locs cells slots Q (F0 m pc ls (.int x :: .int i :: .ref (q 4) :: rest)) :=
  va_iast (D := (dC, dI)) (cl := cls_) (ws := wX q cA σ) (tys := tyX cA) hx hb hK hP hD hS 4 2 rfl rfl hin hdg (fun H1 locs1 hP _ hS => kk H1 locs1 hP hS)
theorem al_X_5 (hx : p.tables.exec = Jvm.exec) (hb : c.code = cc) (hK : va_K (dC, dI) cls_ (tyX cA) s) (hP : va_P (dC, dI) cls_ (wX q cA σ) H) {i : Int32} (hin : vp_in i 80) (hdg : decode cc pc = .ok (.iaload, 1)) (kk : W p l e R s m args below meth c H locs cells slots Q (F0 m (pc + 1) ls (.int (σ 5 i.toNatClampNeg) :: rest))) : W p l e R s m args below meth c H locs cells slots Q (F0 m pc ls (.int i :: .ref (q 5) :: rest)) :=
  va_iald (D := (dC, dI)) (cl := cls_) (ws := wX q cA σ) (tys := tyX cA) hx hb hK hP 5 3 rfl rfl hin hdg kk
theorem as_X_5 (hx : p.tables.exec = Jvm.exec) (hb : c.code = cc) (hK : va_K (dC, dI) cls_ (tyX cA) s) (hP : va_P (dC, dI) cls_ (wX q cA σ) H) (hD : va_D A (wX q cA σ)) (hS : va_S A H0 H locs) {i x : Int32} (hin : vp_in i 80) (hdg : decode cc pc = .ok (.iastore, 1)) (kk : ∀ (H1 : Heap) (locs1 : List Loc), va_P (dC, dI) cls_ (wX q cA (va_up σ 5 (upd (σ 5) i.toNatClampNeg x))) H1 → va_S A H0 H1 locs1 → W p l e R s m args below meth c H1 locs1 cells slots Q (F0 m (pc + 1) ls rest)) : W p l e R s m args below meth c H locs cells slots Q (F0 m pc ls (.int x :: .int i :: .ref (q 5) :: rest)) :=
  va_iast (D := (dC, dI)) (cl := cls_) (ws := wX q cA σ) (tys := tyX cA) hx hb hK hP hD hS 5 3 rfl rfl hin hdg (fun H1 locs1 hP _ hS => kk H1 locs1 hP hS)
theorem al_X_6 (hx : p.tables.exec = Jvm.exec) (hb : c.code = cc) (hK : va_K (dC, dI) cls_ (tyX cA) s) (hP : va_P (dC, dI) cls_ (wX q cA σ) H) {i : Int32} (hin : vp_in i 80) (hdg : decode cc pc = .ok (.iaload, 1)) (kk : W p l e R s m args below meth c H locs cells slots Q (F0 m (pc + 1) ls (.int (σ 6 i.toNatClampNeg) :: rest))) : W p l e R s m args below meth c H locs cells slots Q (F0 m pc ls (.int i :: .ref (q 6) :: rest)) :=
  va_iald (D := (dC, dI)) (cl := cls_) (ws := wX q cA σ) (tys := tyX cA) hx hb hK hP 6 4 rfl rfl hin hdg kk
theorem as_X_6 (hx : p.tables.exec = Jvm.exec) (hb : c.code = cc) (hK : va_K (dC, dI) cls_ (tyX cA) s) (hP : va_P (dC, dI) cls_ (wX q cA σ) H) (hD : va_D A (wX q cA σ)) (hS : va_S A H0 H locs) {i x : Int32} (hin : vp_in i 80) (hdg : decode cc pc = .ok (.iastore, 1)) (kk : ∀ (H1 : Heap) (locs1 : List Loc), va_P (dC, dI) cls_ (wX q cA (va_up σ 6 (upd (σ 6) i.toNatClampNeg x))) H1 → va_S A H0 H1 locs1 → W p l e R s m args below meth c H1 locs1 cells slots Q (F0 m (pc + 1) ls rest)) : W p l e R s m args below meth c H locs cells slots Q (F0 m pc ls (.int x :: .int i :: .ref (q 6) :: rest)) :=
  va_iast (D := (dC, dI)) (cl := cls_) (ws := wX q cA σ) (tys := tyX cA) hx hb hK hP hD hS 6 4 rfl rfl hin hdg (fun H1 locs1 hP _ hS => kk H1 locs1 hP hS)
theorem al_X_7 (hx : p.tables.exec = Jvm.exec) (hb : c.code = cc) (hK : va_K (dC, dI) cls_ (tyX cA) s) (hP : va_P (dC, dI) cls_ (wX q cA σ) H) {i : Int32} (hin : vp_in i 6) (hdg : decode cc pc = .ok (.iaload, 1)) (kk : W p l e R s m args below meth c H locs cells slots Q (F0 m (pc + 1) ls (.int (σ 7 i.toNatClampNeg) :: rest))) : W p l e R s m args below meth c H locs cells slots Q (F0 m pc ls (.int i :: .ref (q 7) :: rest)) :=
  va_iald (D := (dC, dI)) (cl := cls_) (ws := wX q cA σ) (tys := tyX cA) hx hb hK hP 7 5 rfl rfl hin hdg kk
theorem as_X_7 (hx : p.tables.exec = Jvm.exec) (hb : c.code = cc) (hK : va_K (dC, dI) cls_ (tyX cA) s) (hP : va_P (dC, dI) cls_ (wX q cA σ) H) (hD : va_D A (wX q cA σ)) (hS : va_S A H0 H locs) {i x : Int32} (hin : vp_in i 6) (hdg : decode cc pc = .ok (.iastore, 1)) (kk : ∀ (H1 : Heap) (locs1 : List Loc), va_P (dC, dI) cls_ (wX q cA (va_up σ 7 (upd (σ 7) i.toNatClampNeg x))) H1 → va_S A H0 H1 locs1 → W p l e R s m args below meth c H1 locs1 cells slots Q (F0 m (pc + 1) ls rest)) : W p l e R s m args below meth c H locs cells slots Q (F0 m pc ls (.int x :: .int i :: .ref (q 7) :: rest)) :=
  va_iast (D := (dC, dI)) (cl := cls_) (ws := wX q cA σ) (tys := tyX cA) hx hb hK hP hD hS 7 5 rfl rfl hin hdg (fun H1 locs1 hP _ hS => kk H1 locs1 hP hS)
theorem an_X_7 (hx : p.tables.exec = Jvm.exec) (hb : c.code = cc) (hK : va_K (dC, dI) cls_ (tyX cA) s) (hP : va_P (dC, dI) cls_ (wX q cA σ) H) (hdg : decode cc pc = .ok (.arraylength, 1)) (kk : W p l e R s m args below meth c H locs cells slots Q (F0 m (pc + 1) ls (.int 6 :: rest))) : W p l e R s m args below meth c H locs cells slots Q (F0 m pc ls (.ref (q 7) :: rest)) :=
  va_alen (D := (dC, dI)) (cl := cls_) (ws := wX q cA σ) (tys := tyX cA) hx hb hK hP 7 5 rfl rfl (show Int32.ofNat 6 = 6 by decide) hdg kk
theorem al_X_9 (hx : p.tables.exec = Jvm.exec) (hb : c.code = cc) (hK : va_K (dC, dI) cls_ (tyX cA) s) (hP : va_P (dC, dI) cls_ (wX q cA σ) H) {i : Int32} (hin : vp_in i 80) (hdg : decode cc pc = .ok (.baload, 1)) (kk : W p l e R s m args below meth c H locs cells slots Q (F0 m (pc + 1) ls (.int (σ 9 i.toNatClampNeg) :: rest))) : W p l e R s m args below meth c H locs cells slots Q (F0 m pc ls (.int i :: .ref (q 9) :: rest)) :=
  va_zald (D := (dC, dI)) (cl := cls_) (ws := wX q cA σ) (tys := tyX cA) hx hb hK hP 9 6 rfl rfl hin hdg kk
theorem as_X_9 (hx : p.tables.exec = Jvm.exec) (hb : c.code = cc) (hK : va_K (dC, dI) cls_ (tyX cA) s) (hP : va_P (dC, dI) cls_ (wX q cA σ) H) (hD : va_D A (wX q cA σ)) (hS : va_S A H0 H locs) {i x : Int32} (hin : vp_in i 80) (hdg : decode cc pc = .ok (.bastore, 1)) (kk : ∀ (H1 : Heap) (locs1 : List Loc), va_P (dC, dI) cls_ (wX q cA (va_up σ 9 (upd (σ 9) i.toNatClampNeg (vp_nar .boolean x)))) H1 → va_S A H0 H1 locs1 → W p l e R s m args below meth c H1 locs1 cells slots Q (F0 m (pc + 1) ls rest)) : W p l e R s m args below meth c H locs cells slots Q (F0 m pc ls (.int x :: .int i :: .ref (q 9) :: rest)) :=
  va_zast (D := (dC, dI)) (cl := cls_) (ws := wX q cA σ) (tys := tyX cA) hx hb hK hP hD hS 9 6 rfl rfl hin hdg (fun H1 locs1 hP _ hS => kk H1 locs1 hP hS)
theorem al_X_10 (hx : p.tables.exec = Jvm.exec) (hb : c.code = cc) (hK : va_K (dC, dI) cls_ (tyX cA) s) (hP : va_P (dC, dI) cls_ (wX q cA σ) H) {i : Int32} (hin : vp_in i 80) (hdg : decode cc pc = .ok (.baload, 1)) (kk : W p l e R s m args below meth c H locs cells slots Q (F0 m (pc + 1) ls (.int (σ 10 i.toNatClampNeg) :: rest))) : W p l e R s m args below meth c H locs cells slots Q (F0 m pc ls (.int i :: .ref (q 10) :: rest)) :=
  va_zald (D := (dC, dI)) (cl := cls_) (ws := wX q cA σ) (tys := tyX cA) hx hb hK hP 10 7 rfl rfl hin hdg kk
theorem as_X_10 (hx : p.tables.exec = Jvm.exec) (hb : c.code = cc) (hK : va_K (dC, dI) cls_ (tyX cA) s) (hP : va_P (dC, dI) cls_ (wX q cA σ) H) (hD : va_D A (wX q cA σ)) (hS : va_S A H0 H locs) {i x : Int32} (hin : vp_in i 80) (hdg : decode cc pc = .ok (.bastore, 1)) (kk : ∀ (H1 : Heap) (locs1 : List Loc), va_P (dC, dI) cls_ (wX q cA (va_up σ 10 (upd (σ 10) i.toNatClampNeg (vp_nar .boolean x)))) H1 → va_S A H0 H1 locs1 → W p l e R s m args below meth c H1 locs1 cells slots Q (F0 m (pc + 1) ls rest)) : W p l e R s m args below meth c H locs cells slots Q (F0 m pc ls (.int x :: .int i :: .ref (q 10) :: rest)) :=
  va_zast (D := (dC, dI)) (cl := cls_) (ws := wX q cA σ) (tys := tyX cA) hx hb hK hP hD hS 10 7 rfl rfl hin hdg (fun H1 locs1 hP _ hS => kk H1 locs1 hP hS)
theorem al_X_11 (hx : p.tables.exec = Jvm.exec) (hb : c.code = cc) (hK : va_K (dC, dI) cls_ (tyX cA) s) (hP : va_P (dC, dI) cls_ (wX q cA σ) H) {i : Int32} (hin : vp_in i 80) (hdg : decode cc pc = .ok (.baload, 1)) (kk : W p l e R s m args below meth c H locs cells slots Q (F0 m (pc + 1) ls (.int (σ 11 i.toNatClampNeg) :: rest))) : W p l e R s m args below meth c H locs cells slots Q (F0 m pc ls (.int i :: .ref (q 11) :: rest)) :=
  va_zald (D := (dC, dI)) (cl := cls_) (ws := wX q cA σ) (tys := tyX cA) hx hb hK hP 11 8 rfl rfl hin hdg kk
theorem as_X_11 (hx : p.tables.exec = Jvm.exec) (hb : c.code = cc) (hK : va_K (dC, dI) cls_ (tyX cA) s) (hP : va_P (dC, dI) cls_ (wX q cA σ) H) (hD : va_D A (wX q cA σ)) (hS : va_S A H0 H locs) {i x : Int32} (hin : vp_in i 80) (hdg : decode cc pc = .ok (.bastore, 1)) (kk : ∀ (H1 : Heap) (locs1 : List Loc), va_P (dC, dI) cls_ (wX q cA (va_up σ 11 (upd (σ 11) i.toNatClampNeg (vp_nar .boolean x)))) H1 → va_S A H0 H1 locs1 → W p l e R s m args below meth c H1 locs1 cells slots Q (F0 m (pc + 1) ls rest)) : W p l e R s m args below meth c H locs cells slots Q (F0 m pc ls (.int x :: .int i :: .ref (q 11) :: rest)) :=
  va_zast (D := (dC, dI)) (cl := cls_) (ws := wX q cA σ) (tys := tyX cA) hx hb hK hP hD hS 11 8 rfl rfl hin hdg (fun H1 locs1 hP _ hS => kk H1 locs1 hP hS)
theorem al_X_12 (hx : p.tables.exec = Jvm.exec) (hb : c.code = cc) (hK : va_K (dC, dI) cls_ (tyX cA) s) (hP : va_P (dC, dI) cls_ (wX q cA σ) H) {i : Int32} (hin : vp_in i 80) (hdg : decode cc pc = .ok (.iaload, 1)) (kk : W p l e R s m args below meth c H locs cells slots Q (F0 m (pc + 1) ls (.int (σ 12 i.toNatClampNeg) :: rest))) : W p l e R s m args below meth c H locs cells slots Q (F0 m pc ls (.int i :: .ref (q 12) :: rest)) :=
  va_iald (D := (dC, dI)) (cl := cls_) (ws := wX q cA σ) (tys := tyX cA) hx hb hK hP 12 9 rfl rfl hin hdg kk
theorem as_X_12 (hx : p.tables.exec = Jvm.exec) (hb : c.code = cc) (hK : va_K (dC, dI) cls_ (tyX cA) s) (hP : va_P (dC, dI) cls_ (wX q cA σ) H) (hD : va_D A (wX q cA σ)) (hS : va_S A H0 H locs) {i x : Int32} (hin : vp_in i 80) (hdg : decode cc pc = .ok (.iastore, 1)) (kk : ∀ (H1 : Heap) (locs1 : List Loc), va_P (dC, dI) cls_ (wX q cA (va_up σ 12 (upd (σ 12) i.toNatClampNeg x))) H1 → va_S A H0 H1 locs1 → W p l e R s m args below meth c H1 locs1 cells slots Q (F0 m (pc + 1) ls rest)) : W p l e R s m args below meth c H locs cells slots Q (F0 m pc ls (.int x :: .int i :: .ref (q 12) :: rest)) :=
  va_iast (D := (dC, dI)) (cl := cls_) (ws := wX q cA σ) (tys := tyX cA) hx hb hK hP hD hS 12 9 rfl rfl hin hdg (fun H1 locs1 hP _ hS => kk H1 locs1 hP hS)
theorem al_X_13 (hx : p.tables.exec = Jvm.exec) (hb : c.code = cc) (hK : va_K (dC, dI) cls_ (tyX cA) s) (hP : va_P (dC, dI) cls_ (wX q cA σ) H) {i : Int32} (hin : vp_in i 6) (hdg : decode cc pc = .ok (.iaload, 1)) (kk : W p l e R s m args below meth c H locs cells slots Q (F0 m (pc + 1) ls (.int (σ 13 i.toNatClampNeg) :: rest))) : W p l e R s m args below meth c H locs cells slots Q (F0 m pc ls (.int i :: .ref (q 13) :: rest)) :=
  va_iald (D := (dC, dI)) (cl := cls_) (ws := wX q cA σ) (tys := tyX cA) hx hb hK hP 13 10 rfl rfl hin hdg kk
theorem as_X_13 (hx : p.tables.exec = Jvm.exec) (hb : c.code = cc) (hK : va_K (dC, dI) cls_ (tyX cA) s) (hP : va_P (dC, dI) cls_ (wX q cA σ) H) (hD : va_D A (wX q cA σ)) (hS : va_S A H0 H locs) {i x : Int32} (hin : vp_in i 6) (hdg : decode cc pc = .ok (.iastore, 1)) (kk : ∀ (H1 : Heap) (locs1 : List Loc), va_P (dC, dI) cls_ (wX q cA (va_up σ 13 (upd (σ 13) i.toNatClampNeg x))) H1 → va_S A H0 H1 locs1 → W p l e R s m args below meth c H1 locs1 cells slots Q (F0 m (pc + 1) ls rest)) : W p l e R s m args below meth c H locs cells slots Q (F0 m pc ls (.int x :: .int i :: .ref (q 13) :: rest)) :=
  va_iast (D := (dC, dI)) (cl := cls_) (ws := wX q cA σ) (tys := tyX cA) hx hb hK hP hD hS 13 10 rfl rfl hin hdg (fun H1 locs1 hP _ hS => kk H1 locs1 hP hS)
theorem al_X_15 (hx : p.tables.exec = Jvm.exec) (hb : c.code = cc) (hK : va_K (dC, dI) cls_ (tyX cA) s) (hP : va_P (dC, dI) cls_ (wX q cA σ) H) {i : Int32} (hin : vp_in i 561) (hdg : decode cc pc = .ok (.iaload, 1)) (kk : W p l e R s m args below meth c H locs cells slots Q (F0 m (pc + 1) ls (.int (σ 15 i.toNatClampNeg) :: rest))) : W p l e R s m args below meth c H locs cells slots Q (F0 m pc ls (.int i :: .ref (q 15) :: rest)) :=
  va_iald (D := (dC, dI)) (cl := cls_) (ws := wX q cA σ) (tys := tyX cA) hx hb hK hP 15 11 rfl rfl hin hdg kk
theorem as_X_15 (hx : p.tables.exec = Jvm.exec) (hb : c.code = cc) (hK : va_K (dC, dI) cls_ (tyX cA) s) (hP : va_P (dC, dI) cls_ (wX q cA σ) H) (hD : va_D A (wX q cA σ)) (hS : va_S A H0 H locs) {i x : Int32} (hin : vp_in i 561) (hdg : decode cc pc = .ok (.iastore, 1)) (kk : ∀ (H1 : Heap) (locs1 : List Loc), va_P (dC, dI) cls_ (wX q cA (va_up σ 15 (upd (σ 15) i.toNatClampNeg x))) H1 → va_S A H0 H1 locs1 → W p l e R s m args below meth c H1 locs1 cells slots Q (F0 m (pc + 1) ls rest)) : W p l e R s m args below meth c H locs cells slots Q (F0 m pc ls (.int x :: .int i :: .ref (q 15) :: rest)) :=
  va_iast (D := (dC, dI)) (cl := cls_) (ws := wX q cA σ) (tys := tyX cA) hx hb hK hP hD hS 15 11 rfl rfl hin hdg (fun H1 locs1 hP _ hS => kk H1 locs1 hP hS)
theorem al_X_16 (hx : p.tables.exec = Jvm.exec) (hb : c.code = cc) (hK : va_K (dC, dI) cls_ (tyX cA) s) (hP : va_P (dC, dI) cls_ (wX q cA σ) H) {i : Int32} (hin : vp_in i 561) (hdg : decode cc pc = .ok (.iaload, 1)) (kk : W p l e R s m args below meth c H locs cells slots Q (F0 m (pc + 1) ls (.int (σ 16 i.toNatClampNeg) :: rest))) : W p l e R s m args below meth c H locs cells slots Q (F0 m pc ls (.int i :: .ref (q 16) :: rest)) :=
  va_iald (D := (dC, dI)) (cl := cls_) (ws := wX q cA σ) (tys := tyX cA) hx hb hK hP 16 12 rfl rfl hin hdg kk
theorem as_X_16 (hx : p.tables.exec = Jvm.exec) (hb : c.code = cc) (hK : va_K (dC, dI) cls_ (tyX cA) s) (hP : va_P (dC, dI) cls_ (wX q cA σ) H) (hD : va_D A (wX q cA σ)) (hS : va_S A H0 H locs) {i x : Int32} (hin : vp_in i 561) (hdg : decode cc pc = .ok (.iastore, 1)) (kk : ∀ (H1 : Heap) (locs1 : List Loc), va_P (dC, dI) cls_ (wX q cA (va_up σ 16 (upd (σ 16) i.toNatClampNeg x))) H1 → va_S A H0 H1 locs1 → W p l e R s m args below meth c H1 locs1 cells slots Q (F0 m (pc + 1) ls rest)) : W p l e R s m args below meth c H locs cells slots Q (F0 m pc ls (.int x :: .int i :: .ref (q 16) :: rest)) :=
  va_iast (D := (dC, dI)) (cl := cls_) (ws := wX q cA σ) (tys := tyX cA) hx hb hK hP hD hS 16 12 rfl rfl hin hdg (fun H1 locs1 hP _ hS => kk H1 locs1 hP hS)
theorem al_X_17 (hx : p.tables.exec = Jvm.exec) (hb : c.code = cc) (hK : va_K (dC, dI) cls_ (tyX cA) s) (hP : va_P (dC, dI) cls_ (wX q cA σ) H) {i : Int32} (hin : vp_in i 561) (hdg : decode cc pc = .ok (.iaload, 1)) (kk : W p l e R s m args below meth c H locs cells slots Q (F0 m (pc + 1) ls (.int (σ 17 i.toNatClampNeg) :: rest))) : W p l e R s m args below meth c H locs cells slots Q (F0 m pc ls (.int i :: .ref (q 17) :: rest)) :=
  va_iald (D := (dC, dI)) (cl := cls_) (ws := wX q cA σ) (tys := tyX cA) hx hb hK hP 17 13 rfl rfl hin hdg kk
theorem as_X_17 (hx : p.tables.exec = Jvm.exec) (hb : c.code = cc) (hK : va_K (dC, dI) cls_ (tyX cA) s) (hP : va_P (dC, dI) cls_ (wX q cA σ) H) (hD : va_D A (wX q cA σ)) (hS : va_S A H0 H locs) {i x : Int32} (hin : vp_in i 561) (hdg : decode cc pc = .ok (.iastore, 1)) (kk : ∀ (H1 : Heap) (locs1 : List Loc), va_P (dC, dI) cls_ (wX q cA (va_up σ 17 (upd (σ 17) i.toNatClampNeg x))) H1 → va_S A H0 H1 locs1 → W p l e R s m args below meth c H1 locs1 cells slots Q (F0 m (pc + 1) ls rest)) : W p l e R s m args below meth c H locs cells slots Q (F0 m pc ls (.int x :: .int i :: .ref (q 17) :: rest)) :=
  va_iast (D := (dC, dI)) (cl := cls_) (ws := wX q cA σ) (tys := tyX cA) hx hb hK hP hD hS 17 13 rfl rfl hin hdg (fun H1 locs1 hP _ hS => kk H1 locs1 hP hS)
theorem al_X_18 (hx : p.tables.exec = Jvm.exec) (hb : c.code = cc) (hK : va_K (dC, dI) cls_ (tyX cA) s) (hP : va_P (dC, dI) cls_ (wX q cA σ) H) {i : Int32} (hin : vp_in i 80) (hdg : decode cc pc = .ok (.iaload, 1)) (kk : W p l e R s m args below meth c H locs cells slots Q (F0 m (pc + 1) ls (.int (σ 18 i.toNatClampNeg) :: rest))) : W p l e R s m args below meth c H locs cells slots Q (F0 m pc ls (.int i :: .ref (q 18) :: rest)) :=
  va_iald (D := (dC, dI)) (cl := cls_) (ws := wX q cA σ) (tys := tyX cA) hx hb hK hP 18 14 rfl rfl hin hdg kk
theorem as_X_18 (hx : p.tables.exec = Jvm.exec) (hb : c.code = cc) (hK : va_K (dC, dI) cls_ (tyX cA) s) (hP : va_P (dC, dI) cls_ (wX q cA σ) H) (hD : va_D A (wX q cA σ)) (hS : va_S A H0 H locs) {i x : Int32} (hin : vp_in i 80) (hdg : decode cc pc = .ok (.iastore, 1)) (kk : ∀ (H1 : Heap) (locs1 : List Loc), va_P (dC, dI) cls_ (wX q cA (va_up σ 18 (upd (σ 18) i.toNatClampNeg x))) H1 → va_S A H0 H1 locs1 → W p l e R s m args below meth c H1 locs1 cells slots Q (F0 m (pc + 1) ls rest)) : W p l e R s m args below meth c H locs cells slots Q (F0 m pc ls (.int x :: .int i :: .ref (q 18) :: rest)) :=
  va_iast (D := (dC, dI)) (cl := cls_) (ws := wX q cA σ) (tys := tyX cA) hx hb hK hP hD hS 18 14 rfl rfl hin hdg (fun H1 locs1 hP _ hS => kk H1 locs1 hP hS)
theorem al_X_19 (hx : p.tables.exec = Jvm.exec) (hb : c.code = cc) (hK : va_K (dC, dI) cls_ (tyX cA) s) (hP : va_P (dC, dI) cls_ (wX q cA σ) H) {i : Int32} (hin : vp_in i 6) (hdg : decode cc pc = .ok (.iaload, 1)) (kk : W p l e R s m args below meth c H locs cells slots Q (F0 m (pc + 1) ls (.int (σ 19 i.toNatClampNeg) :: rest))) : W p l e R s m args below meth c H locs cells slots Q (F0 m pc ls (.int i :: .ref (q 19) :: rest)) :=
  va_iald (D := (dC, dI)) (cl := cls_) (ws := wX q cA σ) (tys := tyX cA) hx hb hK hP 19 15 rfl rfl hin hdg kk
theorem as_X_19 (hx : p.tables.exec = Jvm.exec) (hb : c.code = cc) (hK : va_K (dC, dI) cls_ (tyX cA) s) (hP : va_P (dC, dI) cls_ (wX q cA σ) H) (hD : va_D A (wX q cA σ)) (hS : va_S A H0 H locs) {i x : Int32} (hin : vp_in i 6) (hdg : decode cc pc = .ok (.iastore, 1)) (kk : ∀ (H1 : Heap) (locs1 : List Loc), va_P (dC, dI) cls_ (wX q cA (va_up σ 19 (upd (σ 19) i.toNatClampNeg x))) H1 → va_S A H0 H1 locs1 → W p l e R s m args below meth c H1 locs1 cells slots Q (F0 m (pc + 1) ls rest)) : W p l e R s m args below meth c H locs cells slots Q (F0 m pc ls (.int x :: .int i :: .ref (q 19) :: rest)) :=
  va_iast (D := (dC, dI)) (cl := cls_) (ws := wX q cA σ) (tys := tyX cA) hx hb hK hP hD hS 19 15 rfl rfl hin hdg (fun H1 locs1 hP _ hS => kk H1 locs1 hP hS)
theorem al_X_21 (hx : p.tables.exec = Jvm.exec) (hb : c.code = cc) (hK : va_K (dC, dI) cls_ (tyX cA) s) (hP : va_P (dC, dI) cls_ (wX q cA σ) H) {i : Int32} (hin : vp_in i 40) (hdg : decode cc pc = .ok (.caload, 1)) (kk : W p l e R s m args below meth c H locs cells slots Q (F0 m (pc + 1) ls (.int (σ 21 i.toNatClampNeg) :: rest))) : W p l e R s m args below meth c H locs cells slots Q (F0 m pc ls (.int i :: .ref (q 21) :: rest)) :=
  va_cald (D := (dC, dI)) (cl := cls_) (ws := wX q cA σ) (tys := tyX cA) hx hb hK hP 21 16 rfl rfl hin hdg kk
theorem as_X_21 (hx : p.tables.exec = Jvm.exec) (hb : c.code = cc) (hK : va_K (dC, dI) cls_ (tyX cA) s) (hP : va_P (dC, dI) cls_ (wX q cA σ) H) (hD : va_D A (wX q cA σ)) (hS : va_S A H0 H locs) {i x : Int32} (hin : vp_in i 40) (hdg : decode cc pc = .ok (.castore, 1)) (kk : ∀ (H1 : Heap) (locs1 : List Loc), va_P (dC, dI) cls_ (wX q cA (va_up σ 21 (upd (σ 21) i.toNatClampNeg (vp_nar .char x)))) H1 → va_S A H0 H1 locs1 → W p l e R s m args below meth c H1 locs1 cells slots Q (F0 m (pc + 1) ls rest)) : W p l e R s m args below meth c H locs cells slots Q (F0 m pc ls (.int x :: .int i :: .ref (q 21) :: rest)) :=
  va_cast (D := (dC, dI)) (cl := cls_) (ws := wX q cA σ) (tys := tyX cA) hx hb hK hP hD hS 21 16 rfl rfl hin hdg (fun H1 locs1 hP _ hS => kk H1 locs1 hP hS)
theorem al_X_23 (hx : p.tables.exec = Jvm.exec) (hb : c.code = cc) (hK : va_K (dC, dI) cls_ (tyX cA) s) (hP : va_P (dC, dI) cls_ (wX q cA σ) H) {i : Int32} (hin : vp_in i 642) (hdg : decode cc pc = .ok (.iaload, 1)) (kk : W p l e R s m args below meth c H locs cells slots Q (F0 m (pc + 1) ls (.int (σ 23 i.toNatClampNeg) :: rest))) : W p l e R s m args below meth c H locs cells slots Q (F0 m pc ls (.int i :: .ref (q 23) :: rest)) :=
  va_iald (D := (dC, dI)) (cl := cls_) (ws := wX q cA σ) (tys := tyX cA) hx hb hK hP 23 17 rfl rfl hin hdg kk
theorem as_X_23 (hx : p.tables.exec = Jvm.exec) (hb : c.code = cc) (hK : va_K (dC, dI) cls_ (tyX cA) s) (hP : va_P (dC, dI) cls_ (wX q cA σ) H) (hD : va_D A (wX q cA σ)) (hS : va_S A H0 H locs) {i x : Int32} (hin : vp_in i 642) (hdg : decode cc pc = .ok (.iastore, 1)) (kk : ∀ (H1 : Heap) (locs1 : List Loc), va_P (dC, dI) cls_ (wX q cA (va_up σ 23 (upd (σ 23) i.toNatClampNeg x))) H1 → va_S A H0 H1 locs1 → W p l e R s m args below meth c H1 locs1 cells slots Q (F0 m (pc + 1) ls rest)) : W p l e R s m args below meth c H locs cells slots Q (F0 m pc ls (.int x :: .int i :: .ref (q 23) :: rest)) :=
  va_iast (D := (dC, dI)) (cl := cls_) (ws := wX q cA σ) (tys := tyX cA) hx hb hK hP hD hS 23 17 rfl rfl hin hdg (fun H1 locs1 hP _ hS => kk H1 locs1 hP hS)
theorem al_X_24 (hx : p.tables.exec = Jvm.exec) (hb : c.code = cc) (hK : va_K (dC, dI) cls_ (tyX cA) s) (hP : va_P (dC, dI) cls_ (wX q cA σ) H) {i : Int32} (hin : vp_in i 4) (hdg : decode cc pc = .ok (.iaload, 1)) (kk : W p l e R s m args below meth c H locs cells slots Q (F0 m (pc + 1) ls (.int (σ 24 i.toNatClampNeg) :: rest))) : W p l e R s m args below meth c H locs cells slots Q (F0 m pc ls (.int i :: .ref (q 24) :: rest)) :=
  va_iald (D := (dC, dI)) (cl := cls_) (ws := wX q cA σ) (tys := tyX cA) hx hb hK hP 24 18 rfl rfl hin hdg kk
theorem as_X_24 (hx : p.tables.exec = Jvm.exec) (hb : c.code = cc) (hK : va_K (dC, dI) cls_ (tyX cA) s) (hP : va_P (dC, dI) cls_ (wX q cA σ) H) (hD : va_D A (wX q cA σ)) (hS : va_S A H0 H locs) {i x : Int32} (hin : vp_in i 4) (hdg : decode cc pc = .ok (.iastore, 1)) (kk : ∀ (H1 : Heap) (locs1 : List Loc), va_P (dC, dI) cls_ (wX q cA (va_up σ 24 (upd (σ 24) i.toNatClampNeg x))) H1 → va_S A H0 H1 locs1 → W p l e R s m args below meth c H1 locs1 cells slots Q (F0 m (pc + 1) ls rest)) : W p l e R s m args below meth c H locs cells slots Q (F0 m pc ls (.int x :: .int i :: .ref (q 24) :: rest)) :=
  va_iast (D := (dC, dI)) (cl := cls_) (ws := wX q cA σ) (tys := tyX cA) hx hb hK hP hD hS 24 18 rfl rfl hin hdg (fun H1 locs1 hP _ hS => kk H1 locs1 hP hS)
theorem an_X_24 (hx : p.tables.exec = Jvm.exec) (hb : c.code = cc) (hK : va_K (dC, dI) cls_ (tyX cA) s) (hP : va_P (dC, dI) cls_ (wX q cA σ) H) (hdg : decode cc pc = .ok (.arraylength, 1)) (kk : W p l e R s m args below meth c H locs cells slots Q (F0 m (pc + 1) ls (.int 4 :: rest))) : W p l e R s m args below meth c H locs cells slots Q (F0 m pc ls (.ref (q 24) :: rest)) :=
  va_alen (D := (dC, dI)) (cl := cls_) (ws := wX q cA σ) (tys := tyX cA) hx hb hK hP 24 18 rfl rfl (show Int32.ofNat 4 = 4 by decide) hdg kk
theorem al_X_26 (hx : p.tables.exec = Jvm.exec) (hb : c.code = cc) (hK : va_K (dC, dI) cls_ (tyX cA) s) (hP : va_P (dC, dI) cls_ (wX q cA σ) H) {i : Int32} (hin : vp_in i 640) (hdg : decode cc pc = .ok (.iaload, 1)) (kk : W p l e R s m args below meth c H locs cells slots Q (F0 m (pc + 1) ls (.int (σ 26 i.toNatClampNeg) :: rest))) : W p l e R s m args below meth c H locs cells slots Q (F0 m pc ls (.int i :: .ref (q 26) :: rest)) :=
  va_iald (D := (dC, dI)) (cl := cls_) (ws := wX q cA σ) (tys := tyX cA) hx hb hK hP 26 19 rfl rfl hin hdg kk
theorem as_X_26 (hx : p.tables.exec = Jvm.exec) (hb : c.code = cc) (hK : va_K (dC, dI) cls_ (tyX cA) s) (hP : va_P (dC, dI) cls_ (wX q cA σ) H) (hD : va_D A (wX q cA σ)) (hS : va_S A H0 H locs) {i x : Int32} (hin : vp_in i 640) (hdg : decode cc pc = .ok (.iastore, 1)) (kk : ∀ (H1 : Heap) (locs1 : List Loc), va_P (dC, dI) cls_ (wX q cA (va_up σ 26 (upd (σ 26) i.toNatClampNeg x))) H1 → va_S A H0 H1 locs1 → W p l e R s m args below meth c H1 locs1 cells slots Q (F0 m (pc + 1) ls rest)) : W p l e R s m args below meth c H locs cells slots Q (F0 m pc ls (.int x :: .int i :: .ref (q 26) :: rest)) :=
  va_iast (D := (dC, dI)) (cl := cls_) (ws := wX q cA σ) (tys := tyX cA) hx hb hK hP hD hS 26 19 rfl rfl hin hdg (fun H1 locs1 hP _ hS => kk H1 locs1 hP hS)
theorem al_X_27 (hx : p.tables.exec = Jvm.exec) (hb : c.code = cc) (hK : va_K (dC, dI) cls_ (tyX cA) s) (hP : va_P (dC, dI) cls_ (wX q cA σ) H) {i : Int32} (hin : vp_in i 640) (hdg : decode cc pc = .ok (.iaload, 1)) (kk : W p l e R s m args below meth c H locs cells slots Q (F0 m (pc + 1) ls (.int (σ 27 i.toNatClampNeg) :: rest))) : W p l e R s m args below meth c H locs cells slots Q (F0 m pc ls (.int i :: .ref (q 27) :: rest)) :=
  va_iald (D := (dC, dI)) (cl := cls_) (ws := wX q cA σ) (tys := tyX cA) hx hb hK hP 27 20 rfl rfl hin hdg kk
theorem as_X_27 (hx : p.tables.exec = Jvm.exec) (hb : c.code = cc) (hK : va_K (dC, dI) cls_ (tyX cA) s) (hP : va_P (dC, dI) cls_ (wX q cA σ) H) (hD : va_D A (wX q cA σ)) (hS : va_S A H0 H locs) {i x : Int32} (hin : vp_in i 640) (hdg : decode cc pc = .ok (.iastore, 1)) (kk : ∀ (H1 : Heap) (locs1 : List Loc), va_P (dC, dI) cls_ (wX q cA (va_up σ 27 (upd (σ 27) i.toNatClampNeg x))) H1 → va_S A H0 H1 locs1 → W p l e R s m args below meth c H1 locs1 cells slots Q (F0 m (pc + 1) ls rest)) : W p l e R s m args below meth c H locs cells slots Q (F0 m pc ls (.int x :: .int i :: .ref (q 27) :: rest)) :=
  va_iast (D := (dC, dI)) (cl := cls_) (ws := wX q cA σ) (tys := tyX cA) hx hb hK hP hD hS 27 20 rfl rfl hin hdg (fun H1 locs1 hP _ hS => kk H1 locs1 hP hS)
theorem al_X_28 (hx : p.tables.exec = Jvm.exec) (hb : c.code = cc) (hK : va_K (dC, dI) cls_ (tyX cA) s) (hP : va_P (dC, dI) cls_ (wX q cA σ) H) {i : Int32} (hin : vp_in i 640) (hdg : decode cc pc = .ok (.iaload, 1)) (kk : W p l e R s m args below meth c H locs cells slots Q (F0 m (pc + 1) ls (.int (σ 28 i.toNatClampNeg) :: rest))) : W p l e R s m args below meth c H locs cells slots Q (F0 m pc ls (.int i :: .ref (q 28) :: rest)) :=
  va_iald (D := (dC, dI)) (cl := cls_) (ws := wX q cA σ) (tys := tyX cA) hx hb hK hP 28 21 rfl rfl hin hdg kk
theorem as_X_28 (hx : p.tables.exec = Jvm.exec) (hb : c.code = cc) (hK : va_K (dC, dI) cls_ (tyX cA) s) (hP : va_P (dC, dI) cls_ (wX q cA σ) H) (hD : va_D A (wX q cA σ)) (hS : va_S A H0 H locs) {i x : Int32} (hin : vp_in i 640) (hdg : decode cc pc = .ok (.iastore, 1)) (kk : ∀ (H1 : Heap) (locs1 : List Loc), va_P (dC, dI) cls_ (wX q cA (va_up σ 28 (upd (σ 28) i.toNatClampNeg x))) H1 → va_S A H0 H1 locs1 → W p l e R s m args below meth c H1 locs1 cells slots Q (F0 m (pc + 1) ls rest)) : W p l e R s m args below meth c H locs cells slots Q (F0 m pc ls (.int x :: .int i :: .ref (q 28) :: rest)) :=
  va_iast (D := (dC, dI)) (cl := cls_) (ws := wX q cA σ) (tys := tyX cA) hx hb hK hP hD hS 28 21 rfl rfl hin hdg (fun H1 locs1 hP _ hS => kk H1 locs1 hP hS)
theorem al_X_29 (hx : p.tables.exec = Jvm.exec) (hb : c.code = cc) (hK : va_K (dC, dI) cls_ (tyX cA) s) (hP : va_P (dC, dI) cls_ (wX q cA σ) H) {i : Int32} (hin : vp_in i 640) (hdg : decode cc pc = .ok (.iaload, 1)) (kk : W p l e R s m args below meth c H locs cells slots Q (F0 m (pc + 1) ls (.int (σ 29 i.toNatClampNeg) :: rest))) : W p l e R s m args below meth c H locs cells slots Q (F0 m pc ls (.int i :: .ref (q 29) :: rest)) :=
  va_iald (D := (dC, dI)) (cl := cls_) (ws := wX q cA σ) (tys := tyX cA) hx hb hK hP 29 22 rfl rfl hin hdg kk
theorem as_X_29 (hx : p.tables.exec = Jvm.exec) (hb : c.code = cc) (hK : va_K (dC, dI) cls_ (tyX cA) s) (hP : va_P (dC, dI) cls_ (wX q cA σ) H) (hD : va_D A (wX q cA σ)) (hS : va_S A H0 H locs) {i x : Int32} (hin : vp_in i 640) (hdg : decode cc pc = .ok (.iastore, 1)) (kk : ∀ (H1 : Heap) (locs1 : List Loc), va_P (dC, dI) cls_ (wX q cA (va_up σ 29 (upd (σ 29) i.toNatClampNeg x))) H1 → va_S A H0 H1 locs1 → W p l e R s m args below meth c H1 locs1 cells slots Q (F0 m (pc + 1) ls rest)) : W p l e R s m args below meth c H locs cells slots Q (F0 m pc ls (.int x :: .int i :: .ref (q 29) :: rest)) :=
  va_iast (D := (dC, dI)) (cl := cls_) (ws := wX q cA σ) (tys := tyX cA) hx hb hK hP hD hS 29 22 rfl rfl hin hdg (fun H1 locs1 hP _ hS => kk H1 locs1 hP hS)
theorem al_R_1 (hx : p.tables.exec = Jvm.exec) (hb : c.code = cc) (hK : va_K (dC, dI) cls_ (tyR cA) s) (hP : va_P (dC, dI) cls_ (wR q cA σ) H) {i : Int32} (hin : vp_in i 80) (hdg : decode cc pc = .ok (.iaload, 1)) (kk : W p l e R s m args below meth c H locs cells slots Q (F0 m (pc + 1) ls (.int (σ 1 i.toNatClampNeg) :: rest))) : W p l e R s m args below meth c H locs cells slots Q (F0 m pc ls (.int i :: .ref (q 1) :: rest)) :=
  va_iald (D := (dC, dI)) (cl := cls_) (ws := wR q cA σ) (tys := tyR cA) hx hb hK hP 1 0 rfl rfl hin hdg kk
theorem as_R_1 (hx : p.tables.exec = Jvm.exec) (hb : c.code = cc) (hK : va_K (dC, dI) cls_ (tyR cA) s) (hP : va_P (dC, dI) cls_ (wR q cA σ) H) (hD : va_D A (wR q cA σ)) (hS : va_S A H0 H locs) {i x : Int32} (hin : vp_in i 80) (hdg : decode cc pc = .ok (.iastore, 1)) (kk : ∀ (H1 : Heap) (locs1 : List Loc), va_P (dC, dI) cls_ (wR q cA (va_up σ 1 (upd (σ 1) i.toNatClampNeg x))) H1 → va_S A H0 H1 locs1 → W p l e R s m args below meth c H1 locs1 cells slots Q (F0 m (pc + 1) ls rest)) : W p l e R s m args below meth c H locs cells slots Q (F0 m pc ls (.int x :: .int i :: .ref (q 1) :: rest)) :=
  va_iast (D := (dC, dI)) (cl := cls_) (ws := wR q cA σ) (tys := tyR cA) hx hb hK hP hD hS 1 0 rfl rfl hin hdg (fun H1 locs1 hP _ hS => kk H1 locs1 hP hS)
theorem al_R_2 (hx : p.tables.exec = Jvm.exec) (hb : c.code = cc) (hK : va_K (dC, dI) cls_ (tyR cA) s) (hP : va_P (dC, dI) cls_ (wR q cA σ) H) {i : Int32} (hin : vp_in i 80) (hdg : decode cc pc = .ok (.iaload, 1)) (kk : W p l e R s m args below meth c H locs cells slots Q (F0 m (pc + 1) ls (.int (σ 2 i.toNatClampNeg) :: rest))) : W p l e R s m args below meth c H locs cells slots Q (F0 m pc ls (.int i :: .ref (q 2) :: rest)) :=
  va_iald (D := (dC, dI)) (cl := cls_) (ws := wR q cA σ) (tys := tyR cA) hx hb hK hP 2 1 rfl rfl hin hdg kk
theorem as_R_2 (hx : p.tables.exec = Jvm.exec) (hb : c.code = cc) (hK : va_K (dC, dI) cls_ (tyR cA) s) (hP : va_P (dC, dI) cls_ (wR q cA σ) H) (hD : va_D A (wR q cA σ)) (hS : va_S A H0 H locs) {i x : Int32} (hin : vp_in i 80) (hdg : decode cc pc = .ok (.iastore, 1)) (kk : ∀ (H1 : Heap) (locs1 : List Loc), va_P (dC, dI) cls_ (wR q cA (va_up σ 2 (upd (σ 2) i.toNatClampNeg x))) H1 → va_S A H0 H1 locs1 → W p l e R s m args below meth c H1 locs1 cells slots Q (F0 m (pc + 1) ls rest)) : W p l e R s m args below meth c H locs cells slots Q (F0 m pc ls (.int x :: .int i :: .ref (q 2) :: rest)) :=
  va_iast (D := (dC, dI)) (cl := cls_) (ws := wR q cA σ) (tys := tyR cA) hx hb hK hP hD hS 2 1 rfl rfl hin hdg (fun H1 locs1 hP _ hS => kk H1 locs1 hP hS)
theorem al_R_3 (hx : p.tables.exec = Jvm.exec) (hb : c.code = cc) (hK : va_K (dC, dI) cls_ (tyR cA) s) (hP : va_P (dC, dI) cls_ (wR q cA σ) H) {i : Int32} (hin : vp_in i 80) (hdg : decode cc pc = .ok (.iaload, 1)) (kk : W p l e R s m args below meth c H locs cells slots Q (F0 m (pc + 1) ls (.int (σ 3 i.toNatClampNeg) :: rest))) : W p l e R s m args below meth c H locs cells slots Q (F0 m pc ls (.int i :: .ref (q 3) :: rest)) :=
  va_iald (D := (dC, dI)) (cl := cls_) (ws := wR q cA σ) (tys := tyR cA) hx hb hK hP 3 2 rfl rfl hin hdg kk
theorem as_R_3 (hx : p.tables.exec = Jvm.exec) (hb : c.code = cc) (hK : va_K (dC, dI) cls_ (tyR cA) s) (hP : va_P (dC, dI) cls_ (wR q cA σ) H) (hD : va_D A (wR q cA σ)) (hS : va_S A H0 H locs) {i x : Int32} (hin : vp_in i 80) (hdg : decode cc pc = .ok (.iastore, 1)) (kk : ∀ (H1 : Heap) (locs1 : List Loc), va_P (dC, dI) cls_ (wR q cA (va_up σ 3 (upd (σ 3) i.toNatClampNeg x))) H1 → va_S A H0 H1 locs1 → W p l e R s m args below meth c H1 locs1 cells slots Q (F0 m (pc + 1) ls rest)) : W p l e R s m args below meth c H locs cells slots Q (F0 m pc ls (.int x :: .int i :: .ref (q 3) :: rest)) :=
  va_iast (D := (dC, dI)) (cl := cls_) (ws := wR q cA σ) (tys := tyR cA) hx hb hK hP hD hS 3 2 rfl rfl hin hdg (fun H1 locs1 hP _ hS => kk H1 locs1 hP hS)
theorem al_R_4 (hx : p.tables.exec = Jvm.exec) (hb : c.code = cc) (hK : va_K (dC, dI) cls_ (tyR cA) s) (hP : va_P (dC, dI) cls_ (wR q cA σ) H) {i : Int32} (hin : vp_in i 80) (hdg : decode cc pc = .ok (.iaload, 1)) (kk : W p l e R s m args below meth c H locs cells slots Q (F0 m (pc + 1) ls (.int (σ 4 i.toNatClampNeg) :: rest))) : W p l e R s m args below meth c H locs cells slots Q (F0 m pc ls (.int i :: .ref (q 4) :: rest)) :=
  va_iald (D := (dC, dI)) (cl := cls_) (ws := wR q cA σ) (tys := tyR cA) hx hb hK hP 4 3 rfl rfl hin hdg kk
theorem as_R_4 (hx : p.tables.exec = Jvm.exec) (hb : c.code = cc) (hK : va_K (dC, dI) cls_ (tyR cA) s) (hP : va_P (dC, dI) cls_ (wR q cA σ) H) (hD : va_D A (wR q cA σ)) (hS : va_S A H0 H locs) {i x : Int32} (hin : vp_in i 80) (hdg : decode cc pc = .ok (.iastore, 1)) (kk : ∀ (H1 : Heap) (locs1 : List Loc), va_P (dC, dI) cls_ (wR q cA (va_up σ 4 (upd (σ 4) i.toNatClampNeg x))) H1 → va_S A H0 H1 locs1 → W p l e R s m args below meth c H1 locs1 cells slots Q (F0 m (pc + 1) ls rest)) : W p l e R s m args below meth c H locs cells slots Q (F0 m pc ls (.int x :: .int i :: .ref (q 4) :: rest)) :=
  va_iast (D := (dC, dI)) (cl := cls_) (ws := wR q cA σ) (tys := tyR cA) hx hb hK hP hD hS 4 3 rfl rfl hin hdg (fun H1 locs1 hP _ hS => kk H1 locs1 hP hS)
theorem al_R_5 (hx : p.tables.exec = Jvm.exec) (hb : c.code = cc) (hK : va_K (dC, dI) cls_ (tyR cA) s) (hP : va_P (dC, dI) cls_ (wR q cA σ) H) {i : Int32} (hin : vp_in i 80) (hdg : decode cc pc = .ok (.iaload, 1)) (kk : W p l e R s m args below meth c H locs cells slots Q (F0 m (pc + 1) ls (.int (σ 5 i.toNatClampNeg) :: rest))) : W p l e R s m args below meth c H locs cells slots Q (F0 m pc ls (.int i :: .ref (q 5) :: rest)) :=
  va_iald (D := (dC, dI)) (cl := cls_) (ws := wR q cA σ) (tys := tyR cA) hx hb hK hP 5 4 rfl rfl hin hdg kk
theorem as_R_5 (hx : p.tables.exec = Jvm.exec) (hb : c.code = cc) (hK : va_K (dC, dI) cls_ (tyR cA) s) (hP : va_P (dC, dI) cls_ (wR q cA σ) H) (hD : va_D A (wR q cA σ)) (hS : va_S A H0 H locs) {i x : Int32} (hin : vp_in i 80) (hdg : decode cc pc = .ok (.iastore, 1)) (kk : ∀ (H1 : Heap) (locs1 : List Loc), va_P (dC, dI) cls_ (wR q cA (va_up σ 5 (upd (σ 5) i.toNatClampNeg x))) H1 → va_S A H0 H1 locs1 → W p l e R s m args below meth c H1 locs1 cells slots Q (F0 m (pc + 1) ls rest)) : W p l e R s m args below meth c H locs cells slots Q (F0 m pc ls (.int x :: .int i :: .ref (q 5) :: rest)) :=
  va_iast (D := (dC, dI)) (cl := cls_) (ws := wR q cA σ) (tys := tyR cA) hx hb hK hP hD hS 5 4 rfl rfl hin hdg (fun H1 locs1 hP _ hS => kk H1 locs1 hP hS)
theorem al_R_6 (hx : p.tables.exec = Jvm.exec) (hb : c.code = cc) (hK : va_K (dC, dI) cls_ (tyR cA) s) (hP : va_P (dC, dI) cls_ (wR q cA σ) H) {i : Int32} (hin : vp_in i 6) (hdg : decode cc pc = .ok (.iaload, 1)) (kk : W p l e R s m args below meth c H locs cells slots Q (F0 m (pc + 1) ls (.int (σ 6 i.toNatClampNeg) :: rest))) : W p l e R s m args below meth c H locs cells slots Q (F0 m pc ls (.int i :: .ref (q 6) :: rest)) :=
  va_iald (D := (dC, dI)) (cl := cls_) (ws := wR q cA σ) (tys := tyR cA) hx hb hK hP 6 5 rfl rfl hin hdg kk
theorem as_R_6 (hx : p.tables.exec = Jvm.exec) (hb : c.code = cc) (hK : va_K (dC, dI) cls_ (tyR cA) s) (hP : va_P (dC, dI) cls_ (wR q cA σ) H) (hD : va_D A (wR q cA σ)) (hS : va_S A H0 H locs) {i x : Int32} (hin : vp_in i 6) (hdg : decode cc pc = .ok (.iastore, 1)) (kk : ∀ (H1 : Heap) (locs1 : List Loc), va_P (dC, dI) cls_ (wR q cA (va_up σ 6 (upd (σ 6) i.toNatClampNeg x))) H1 → va_S A H0 H1 locs1 → W p l e R s m args below meth c H1 locs1 cells slots Q (F0 m (pc + 1) ls rest)) : W p l e R s m args below meth c H locs cells slots Q (F0 m pc ls (.int x :: .int i :: .ref (q 6) :: rest)) :=
  va_iast (D := (dC, dI)) (cl := cls_) (ws := wR q cA σ) (tys := tyR cA) hx hb hK hP hD hS 6 5 rfl rfl hin hdg (fun H1 locs1 hP _ hS => kk H1 locs1 hP hS)
theorem al_R_7 (hx : p.tables.exec = Jvm.exec) (hb : c.code = cc) (hK : va_K (dC, dI) cls_ (tyR cA) s) (hP : va_P (dC, dI) cls_ (wR q cA σ) H) {i : Int32} (hin : vp_in i 40) (hdg : decode cc pc = .ok (.iaload, 1)) (kk : W p l e R s m args below meth c H locs cells slots Q (F0 m (pc + 1) ls (.int (σ 7 i.toNatClampNeg) :: rest))) : W p l e R s m args below meth c H locs cells slots Q (F0 m pc ls (.int i :: .ref (q 7) :: rest)) :=
  va_iald (D := (dC, dI)) (cl := cls_) (ws := wR q cA σ) (tys := tyR cA) hx hb hK hP 7 6 rfl rfl hin hdg kk
theorem as_R_7 (hx : p.tables.exec = Jvm.exec) (hb : c.code = cc) (hK : va_K (dC, dI) cls_ (tyR cA) s) (hP : va_P (dC, dI) cls_ (wR q cA σ) H) (hD : va_D A (wR q cA σ)) (hS : va_S A H0 H locs) {i x : Int32} (hin : vp_in i 40) (hdg : decode cc pc = .ok (.iastore, 1)) (kk : ∀ (H1 : Heap) (locs1 : List Loc), va_P (dC, dI) cls_ (wR q cA (va_up σ 7 (upd (σ 7) i.toNatClampNeg x))) H1 → va_S A H0 H1 locs1 → W p l e R s m args below meth c H1 locs1 cells slots Q (F0 m (pc + 1) ls rest)) : W p l e R s m args below meth c H locs cells slots Q (F0 m pc ls (.int x :: .int i :: .ref (q 7) :: rest)) :=
  va_iast (D := (dC, dI)) (cl := cls_) (ws := wR q cA σ) (tys := tyR cA) hx hb hK hP hD hS 7 6 rfl rfl hin hdg (fun H1 locs1 hP _ hS => kk H1 locs1 hP hS)
theorem al_R_8 (hx : p.tables.exec = Jvm.exec) (hb : c.code = cc) (hK : va_K (dC, dI) cls_ (tyR cA) s) (hP : va_P (dC, dI) cls_ (wR q cA σ) H) {i : Int32} (hin : vp_in i 80) (hdg : decode cc pc = .ok (.baload, 1)) (kk : W p l e R s m args below meth c H locs cells slots Q (F0 m (pc + 1) ls (.int (σ 8 i.toNatClampNeg) :: rest))) : W p l e R s m args below meth c H locs cells slots Q (F0 m pc ls (.int i :: .ref (q 8) :: rest)) :=
  va_zald (D := (dC, dI)) (cl := cls_) (ws := wR q cA σ) (tys := tyR cA) hx hb hK hP 8 7 rfl rfl hin hdg kk
theorem as_R_8 (hx : p.tables.exec = Jvm.exec) (hb : c.code = cc) (hK : va_K (dC, dI) cls_ (tyR cA) s) (hP : va_P (dC, dI) cls_ (wR q cA σ) H) (hD : va_D A (wR q cA σ)) (hS : va_S A H0 H locs) {i x : Int32} (hin : vp_in i 80) (hdg : decode cc pc = .ok (.bastore, 1)) (kk : ∀ (H1 : Heap) (locs1 : List Loc), va_P (dC, dI) cls_ (wR q cA (va_up σ 8 (upd (σ 8) i.toNatClampNeg (vp_nar .boolean x)))) H1 → va_S A H0 H1 locs1 → W p l e R s m args below meth c H1 locs1 cells slots Q (F0 m (pc + 1) ls rest)) : W p l e R s m args below meth c H locs cells slots Q (F0 m pc ls (.int x :: .int i :: .ref (q 8) :: rest)) :=
  va_zast (D := (dC, dI)) (cl := cls_) (ws := wR q cA σ) (tys := tyR cA) hx hb hK hP hD hS 8 7 rfl rfl hin hdg (fun H1 locs1 hP _ hS => kk H1 locs1 hP hS)
theorem al_R_9 (hx : p.tables.exec = Jvm.exec) (hb : c.code = cc) (hK : va_K (dC, dI) cls_ (tyR cA) s) (hP : va_P (dC, dI) cls_ (wR q cA σ) H) {i : Int32} (hin : vp_in i 80) (hdg : decode cc pc = .ok (.baload, 1)) (kk : W p l e R s m args below meth c H locs cells slots Q (F0 m (pc + 1) ls (.int (σ 9 i.toNatClampNeg) :: rest))) : W p l e R s m args below meth c H locs cells slots Q (F0 m pc ls (.int i :: .ref (q 9) :: rest)) :=
  va_zald (D := (dC, dI)) (cl := cls_) (ws := wR q cA σ) (tys := tyR cA) hx hb hK hP 9 8 rfl rfl hin hdg kk
theorem as_R_9 (hx : p.tables.exec = Jvm.exec) (hb : c.code = cc) (hK : va_K (dC, dI) cls_ (tyR cA) s) (hP : va_P (dC, dI) cls_ (wR q cA σ) H) (hD : va_D A (wR q cA σ)) (hS : va_S A H0 H locs) {i x : Int32} (hin : vp_in i 80) (hdg : decode cc pc = .ok (.bastore, 1)) (kk : ∀ (H1 : Heap) (locs1 : List Loc), va_P (dC, dI) cls_ (wR q cA (va_up σ 9 (upd (σ 9) i.toNatClampNeg (vp_nar .boolean x)))) H1 → va_S A H0 H1 locs1 → W p l e R s m args below meth c H1 locs1 cells slots Q (F0 m (pc + 1) ls rest)) : W p l e R s m args below meth c H locs cells slots Q (F0 m pc ls (.int x :: .int i :: .ref (q 9) :: rest)) :=
  va_zast (D := (dC, dI)) (cl := cls_) (ws := wR q cA σ) (tys := tyR cA) hx hb hK hP hD hS 9 8 rfl rfl hin hdg (fun H1 locs1 hP _ hS => kk H1 locs1 hP hS)
theorem al_R_10 (hx : p.tables.exec = Jvm.exec) (hb : c.code = cc) (hK : va_K (dC, dI) cls_ (tyR cA) s) (hP : va_P (dC, dI) cls_ (wR q cA σ) H) {i : Int32} (hin : vp_in i 80) (hdg : decode cc pc = .ok (.iaload, 1)) (kk : W p l e R s m args below meth c H locs cells slots Q (F0 m (pc + 1) ls (.int (σ 10 i.toNatClampNeg) :: rest))) : W p l e R s m args below meth c H locs cells slots Q (F0 m pc ls (.int i :: .ref (q 10) :: rest)) :=
  va_iald (D := (dC, dI)) (cl := cls_) (ws := wR q cA σ) (tys := tyR cA) hx hb hK hP 10 9 rfl rfl hin hdg kk
theorem as_R_10 (hx : p.tables.exec = Jvm.exec) (hb : c.code = cc) (hK : va_K (dC, dI) cls_ (tyR cA) s) (hP : va_P (dC, dI) cls_ (wR q cA σ) H) (hD : va_D A (wR q cA σ)) (hS : va_S A H0 H locs) {i x : Int32} (hin : vp_in i 80) (hdg : decode cc pc = .ok (.iastore, 1)) (kk : ∀ (H1 : Heap) (locs1 : List Loc), va_P (dC, dI) cls_ (wR q cA (va_up σ 10 (upd (σ 10) i.toNatClampNeg x))) H1 → va_S A H0 H1 locs1 → W p l e R s m args below meth c H1 locs1 cells slots Q (F0 m (pc + 1) ls rest)) : W p l e R s m args below meth c H locs cells slots Q (F0 m pc ls (.int x :: .int i :: .ref (q 10) :: rest)) :=
  va_iast (D := (dC, dI)) (cl := cls_) (ws := wR q cA σ) (tys := tyR cA) hx hb hK hP hD hS 10 9 rfl rfl hin hdg (fun H1 locs1 hP _ hS => kk H1 locs1 hP hS)
theorem al_R_11 (hx : p.tables.exec = Jvm.exec) (hb : c.code = cc) (hK : va_K (dC, dI) cls_ (tyR cA) s) (hP : va_P (dC, dI) cls_ (wR q cA σ) H) {i : Int32} (hin : vp_in i 80) (hdg : decode cc pc = .ok (.baload, 1)) (kk : W p l e R s m args below meth c H locs cells slots Q (F0 m (pc + 1) ls (.int (σ 11 i.toNatClampNeg) :: rest))) : W p l e R s m args below meth c H locs cells slots Q (F0 m pc ls (.int i :: .ref (q 11) :: rest)) :=
  va_zald (D := (dC, dI)) (cl := cls_) (ws := wR q cA σ) (tys := tyR cA) hx hb hK hP 11 10 rfl rfl hin hdg kk
theorem as_R_11 (hx : p.tables.exec = Jvm.exec) (hb : c.code = cc) (hK : va_K (dC, dI) cls_ (tyR cA) s) (hP : va_P (dC, dI) cls_ (wR q cA σ) H) (hD : va_D A (wR q cA σ)) (hS : va_S A H0 H locs) {i x : Int32} (hin : vp_in i 80) (hdg : decode cc pc = .ok (.bastore, 1)) (kk : ∀ (H1 : Heap) (locs1 : List Loc), va_P (dC, dI) cls_ (wR q cA (va_up σ 11 (upd (σ 11) i.toNatClampNeg (vp_nar .boolean x)))) H1 → va_S A H0 H1 locs1 → W p l e R s m args below meth c H1 locs1 cells slots Q (F0 m (pc + 1) ls rest)) : W p l e R s m args below meth c H locs cells slots Q (F0 m pc ls (.int x :: .int i :: .ref (q 11) :: rest)) :=
  va_zast (D := (dC, dI)) (cl := cls_) (ws := wR q cA σ) (tys := tyR cA) hx hb hK hP hD hS 11 10 rfl rfl hin hdg (fun H1 locs1 hP _ hS => kk H1 locs1 hP hS)
theorem al_R_12 (hx : p.tables.exec = Jvm.exec) (hb : c.code = cc) (hK : va_K (dC, dI) cls_ (tyR cA) s) (hP : va_P (dC, dI) cls_ (wR q cA σ) H) {i : Int32} (hin : vp_in i 400) (hdg : decode cc pc = .ok (.iaload, 1)) (kk : W p l e R s m args below meth c H locs cells slots Q (F0 m (pc + 1) ls (.int (σ 12 i.toNatClampNeg) :: rest))) : W p l e R s m args below meth c H locs cells slots Q (F0 m pc ls (.int i :: .ref (q 12) :: rest)) :=
  va_iald (D := (dC, dI)) (cl := cls_) (ws := wR q cA σ) (tys := tyR cA) hx hb hK hP 12 11 rfl rfl hin hdg kk
theorem as_R_12 (hx : p.tables.exec = Jvm.exec) (hb : c.code = cc) (hK : va_K (dC, dI) cls_ (tyR cA) s) (hP : va_P (dC, dI) cls_ (wR q cA σ) H) (hD : va_D A (wR q cA σ)) (hS : va_S A H0 H locs) {i x : Int32} (hin : vp_in i 400) (hdg : decode cc pc = .ok (.iastore, 1)) (kk : ∀ (H1 : Heap) (locs1 : List Loc), va_P (dC, dI) cls_ (wR q cA (va_up σ 12 (upd (σ 12) i.toNatClampNeg x))) H1 → va_S A H0 H1 locs1 → W p l e R s m args below meth c H1 locs1 cells slots Q (F0 m (pc + 1) ls rest)) : W p l e R s m args below meth c H locs cells slots Q (F0 m pc ls (.int x :: .int i :: .ref (q 12) :: rest)) :=
  va_iast (D := (dC, dI)) (cl := cls_) (ws := wR q cA σ) (tys := tyR cA) hx hb hK hP hD hS 12 11 rfl rfl hin hdg (fun H1 locs1 hP _ hS => kk H1 locs1 hP hS)
theorem al_R_13 (hx : p.tables.exec = Jvm.exec) (hb : c.code = cc) (hK : va_K (dC, dI) cls_ (tyR cA) s) (hP : va_P (dC, dI) cls_ (wR q cA σ) H) {i : Int32} (hin : vp_in i 400) (hdg : decode cc pc = .ok (.iaload, 1)) (kk : W p l e R s m args below meth c H locs cells slots Q (F0 m (pc + 1) ls (.int (σ 13 i.toNatClampNeg) :: rest))) : W p l e R s m args below meth c H locs cells slots Q (F0 m pc ls (.int i :: .ref (q 13) :: rest)) :=
  va_iald (D := (dC, dI)) (cl := cls_) (ws := wR q cA σ) (tys := tyR cA) hx hb hK hP 13 12 rfl rfl hin hdg kk
theorem as_R_13 (hx : p.tables.exec = Jvm.exec) (hb : c.code = cc) (hK : va_K (dC, dI) cls_ (tyR cA) s) (hP : va_P (dC, dI) cls_ (wR q cA σ) H) (hD : va_D A (wR q cA σ)) (hS : va_S A H0 H locs) {i x : Int32} (hin : vp_in i 400) (hdg : decode cc pc = .ok (.iastore, 1)) (kk : ∀ (H1 : Heap) (locs1 : List Loc), va_P (dC, dI) cls_ (wR q cA (va_up σ 13 (upd (σ 13) i.toNatClampNeg x))) H1 → va_S A H0 H1 locs1 → W p l e R s m args below meth c H1 locs1 cells slots Q (F0 m (pc + 1) ls rest)) : W p l e R s m args below meth c H locs cells slots Q (F0 m pc ls (.int x :: .int i :: .ref (q 13) :: rest)) :=
  va_iast (D := (dC, dI)) (cl := cls_) (ws := wR q cA σ) (tys := tyR cA) hx hb hK hP hD hS 13 12 rfl rfl hin hdg (fun H1 locs1 hP _ hS => kk H1 locs1 hP hS)
theorem al_R_14 (hx : p.tables.exec = Jvm.exec) (hb : c.code = cc) (hK : va_K (dC, dI) cls_ (tyR cA) s) (hP : va_P (dC, dI) cls_ (wR q cA σ) H) {i : Int32} (hin : vp_in i 400) (hdg : decode cc pc = .ok (.iaload, 1)) (kk : W p l e R s m args below meth c H locs cells slots Q (F0 m (pc + 1) ls (.int (σ 14 i.toNatClampNeg) :: rest))) : W p l e R s m args below meth c H locs cells slots Q (F0 m pc ls (.int i :: .ref (q 14) :: rest)) :=
  va_iald (D := (dC, dI)) (cl := cls_) (ws := wR q cA σ) (tys := tyR cA) hx hb hK hP 14 13 rfl rfl hin hdg kk
theorem as_R_14 (hx : p.tables.exec = Jvm.exec) (hb : c.code = cc) (hK : va_K (dC, dI) cls_ (tyR cA) s) (hP : va_P (dC, dI) cls_ (wR q cA σ) H) (hD : va_D A (wR q cA σ)) (hS : va_S A H0 H locs) {i x : Int32} (hin : vp_in i 400) (hdg : decode cc pc = .ok (.iastore, 1)) (kk : ∀ (H1 : Heap) (locs1 : List Loc), va_P (dC, dI) cls_ (wR q cA (va_up σ 14 (upd (σ 14) i.toNatClampNeg x))) H1 → va_S A H0 H1 locs1 → W p l e R s m args below meth c H1 locs1 cells slots Q (F0 m (pc + 1) ls rest)) : W p l e R s m args below meth c H locs cells slots Q (F0 m pc ls (.int x :: .int i :: .ref (q 14) :: rest)) :=
  va_iast (D := (dC, dI)) (cl := cls_) (ws := wR q cA σ) (tys := tyR cA) hx hb hK hP hD hS 14 13 rfl rfl hin hdg (fun H1 locs1 hP _ hS => kk H1 locs1 hP hS)
theorem al_R_15 (hx : p.tables.exec = Jvm.exec) (hb : c.code = cc) (hK : va_K (dC, dI) cls_ (tyR cA) s) (hP : va_P (dC, dI) cls_ (wR q cA σ) H) {i : Int32} (hin : vp_in i 400) (hdg : decode cc pc = .ok (.iaload, 1)) (kk : W p l e R s m args below meth c H locs cells slots Q (F0 m (pc + 1) ls (.int (σ 15 i.toNatClampNeg) :: rest))) : W p l e R s m args below meth c H locs cells slots Q (F0 m pc ls (.int i :: .ref (q 15) :: rest)) :=
  va_iald (D := (dC, dI)) (cl := cls_) (ws := wR q cA σ) (tys := tyR cA) hx hb hK hP 15 14 rfl rfl hin hdg kk
theorem as_R_15 (hx : p.tables.exec = Jvm.exec) (hb : c.code = cc) (hK : va_K (dC, dI) cls_ (tyR cA) s) (hP : va_P (dC, dI) cls_ (wR q cA σ) H) (hD : va_D A (wR q cA σ)) (hS : va_S A H0 H locs) {i x : Int32} (hin : vp_in i 400) (hdg : decode cc pc = .ok (.iastore, 1)) (kk : ∀ (H1 : Heap) (locs1 : List Loc), va_P (dC, dI) cls_ (wR q cA (va_up σ 15 (upd (σ 15) i.toNatClampNeg x))) H1 → va_S A H0 H1 locs1 → W p l e R s m args below meth c H1 locs1 cells slots Q (F0 m (pc + 1) ls rest)) : W p l e R s m args below meth c H locs cells slots Q (F0 m pc ls (.int x :: .int i :: .ref (q 15) :: rest)) :=
  va_iast (D := (dC, dI)) (cl := cls_) (ws := wR q cA σ) (tys := tyR cA) hx hb hK hP hD hS 15 14 rfl rfl hin hdg (fun H1 locs1 hP _ hS => kk H1 locs1 hP hS)
theorem al_R_16 (hx : p.tables.exec = Jvm.exec) (hb : c.code = cc) (hK : va_K (dC, dI) cls_ (tyR cA) s) (hP : va_P (dC, dI) cls_ (wR q cA σ) H) {i : Int32} (hin : vp_in i 400) (hdg : decode cc pc = .ok (.iaload, 1)) (kk : W p l e R s m args below meth c H locs cells slots Q (F0 m (pc + 1) ls (.int (σ 16 i.toNatClampNeg) :: rest))) : W p l e R s m args below meth c H locs cells slots Q (F0 m pc ls (.int i :: .ref (q 16) :: rest)) :=
  va_iald (D := (dC, dI)) (cl := cls_) (ws := wR q cA σ) (tys := tyR cA) hx hb hK hP 16 15 rfl rfl hin hdg kk
theorem as_R_16 (hx : p.tables.exec = Jvm.exec) (hb : c.code = cc) (hK : va_K (dC, dI) cls_ (tyR cA) s) (hP : va_P (dC, dI) cls_ (wR q cA σ) H) (hD : va_D A (wR q cA σ)) (hS : va_S A H0 H locs) {i x : Int32} (hin : vp_in i 400) (hdg : decode cc pc = .ok (.iastore, 1)) (kk : ∀ (H1 : Heap) (locs1 : List Loc), va_P (dC, dI) cls_ (wR q cA (va_up σ 16 (upd (σ 16) i.toNatClampNeg x))) H1 → va_S A H0 H1 locs1 → W p l e R s m args below meth c H1 locs1 cells slots Q (F0 m (pc + 1) ls rest)) : W p l e R s m args below meth c H locs cells slots Q (F0 m pc ls (.int x :: .int i :: .ref (q 16) :: rest)) :=
  va_iast (D := (dC, dI)) (cl := cls_) (ws := wR q cA σ) (tys := tyR cA) hx hb hK hP hD hS 16 15 rfl rfl hin hdg (fun H1 locs1 hP _ hS => kk H1 locs1 hP hS)
theorem al_R_17 (hx : p.tables.exec = Jvm.exec) (hb : c.code = cc) (hK : va_K (dC, dI) cls_ (tyR cA) s) (hP : va_P (dC, dI) cls_ (wR q cA σ) H) {i : Int32} (hin : vp_in i 400) (hdg : decode cc pc = .ok (.iaload, 1)) (kk : W p l e R s m args below meth c H locs cells slots Q (F0 m (pc + 1) ls (.int (σ 17 i.toNatClampNeg) :: rest))) : W p l e R s m args below meth c H locs cells slots Q (F0 m pc ls (.int i :: .ref (q 17) :: rest)) :=
  va_iald (D := (dC, dI)) (cl := cls_) (ws := wR q cA σ) (tys := tyR cA) hx hb hK hP 17 16 rfl rfl hin hdg kk
theorem as_R_17 (hx : p.tables.exec = Jvm.exec) (hb : c.code = cc) (hK : va_K (dC, dI) cls_ (tyR cA) s) (hP : va_P (dC, dI) cls_ (wR q cA σ) H) (hD : va_D A (wR q cA σ)) (hS : va_S A H0 H locs) {i x : Int32} (hin : vp_in i 400) (hdg : decode cc pc = .ok (.iastore, 1)) (kk : ∀ (H1 : Heap) (locs1 : List Loc), va_P (dC, dI) cls_ (wR q cA (va_up σ 17 (upd (σ 17) i.toNatClampNeg x))) H1 → va_S A H0 H1 locs1 → W p l e R s m args below meth c H1 locs1 cells slots Q (F0 m (pc + 1) ls rest)) : W p l e R s m args below meth c H locs cells slots Q (F0 m pc ls (.int x :: .int i :: .ref (q 17) :: rest)) :=
  va_iast (D := (dC, dI)) (cl := cls_) (ws := wR q cA σ) (tys := tyR cA) hx hb hK hP hD hS 17 16 rfl rfl hin hdg (fun H1 locs1 hP _ hS => kk H1 locs1 hP hS)
theorem al_R_18 (hx : p.tables.exec = Jvm.exec) (hb : c.code = cc) (hK : va_K (dC, dI) cls_ (tyR cA) s) (hP : va_P (dC, dI) cls_ (wR q cA σ) H) {i : Int32} (hin : vp_in i 4) (hdg : decode cc pc = .ok (.iaload, 1)) (kk : W p l e R s m args below meth c H locs cells slots Q (F0 m (pc + 1) ls (.int (σ 18 i.toNatClampNeg) :: rest))) : W p l e R s m args below meth c H locs cells slots Q (F0 m pc ls (.int i :: .ref (q 18) :: rest)) :=
  va_iald (D := (dC, dI)) (cl := cls_) (ws := wR q cA σ) (tys := tyR cA) hx hb hK hP 18 17 rfl rfl hin hdg kk
theorem as_R_18 (hx : p.tables.exec = Jvm.exec) (hb : c.code = cc) (hK : va_K (dC, dI) cls_ (tyR cA) s) (hP : va_P (dC, dI) cls_ (wR q cA σ) H) (hD : va_D A (wR q cA σ)) (hS : va_S A H0 H locs) {i x : Int32} (hin : vp_in i 4) (hdg : decode cc pc = .ok (.iastore, 1)) (kk : ∀ (H1 : Heap) (locs1 : List Loc), va_P (dC, dI) cls_ (wR q cA (va_up σ 18 (upd (σ 18) i.toNatClampNeg x))) H1 → va_S A H0 H1 locs1 → W p l e R s m args below meth c H1 locs1 cells slots Q (F0 m (pc + 1) ls rest)) : W p l e R s m args below meth c H locs cells slots Q (F0 m pc ls (.int x :: .int i :: .ref (q 18) :: rest)) :=
  va_iast (D := (dC, dI)) (cl := cls_) (ws := wR q cA σ) (tys := tyR cA) hx hb hK hP hD hS 18 17 rfl rfl hin hdg (fun H1 locs1 hP _ hS => kk H1 locs1 hP hS)
end ROWSA
def NW_ : List Cond := [(.methodLinkNest "StagedParsers" 27 ⟨"StagedParsers$Code", "<init>", "()V"⟩ "StagedParsers"), (.methodLinkNest "StagedParsers" 34 ⟨"StagedParsers$Text", "<init>", "()V"⟩ "StagedParsers"), (.methodLinkNest "StagedParsers$Machine" 11 ⟨"StagedParsers$Frames", "<init>", "()V"⟩ "StagedParsers"), (.fieldLinkNest "StagedParsers$Study" 102 "StagedParsers" "PARTS" "[I" "StagedParsers"), (.methodLinkNest "StagedParsers$Machine" 50 ⟨"StagedParsers", "isRegister", "(I)Z"⟩ "StagedParsers"), (.methodLinkNest "StagedParsers$Grammar" 50 ⟨"StagedParsers", "isSign", "(I)Z"⟩ "StagedParsers"), (.methodLinkNest "StagedParsers$Grammar" 59 ⟨"StagedParsers", "isRegister", "(I)Z"⟩ "StagedParsers"), (.fieldLinkNest "StagedParsers$Grammar" 70 "StagedParsers" "PARTS" "[I" "StagedParsers"), (.methodLinkNest "StagedParsers$Machine" 140 ⟨"StagedParsers", "joined", "(III)I"⟩ "StagedParsers"), (.methodLinkNest "StagedParsers$Machine" 144 ⟨"StagedParsers", "wayOfSign", "(I)I"⟩ "StagedParsers")]
/-! what a method of a system finds, and how it is handed on -/
section PXS
theorem bo_fit {v : Int32} (h : v = 0 ∨ v = 1) : fits .boolean (.int v) = true := by rcases h with rfl | rfl <;> rfl
def PT_ : Nat → Int32 := fun k => ([0, 0, 0, 0, 2, 2, 1, 1, 1, 1, 2, 0, 1, 0] : List Int32).getD k 0
def SX_ (q : Nat → Nat) (pt : Nat) (U : State) (H : Heap) : Prop := va_Z "StagedParsers" "PARTS" "[I" (.ref pt) (AX q) U H ∧ va_T .int pt 14 (fun j => .int (PT_ j)) (AX q) U H
theorem nw_warm {s U : State} (hW : s.WarmedH U.vm) (h : ∀ w ∈ NW_, va_Nw w s) : ∀ w ∈ NW_, va_Nw w U := by
  intro w hw
  have h1 := h w hw
  unfold NW_ at hw
  simp only [List.mem_cons, List.not_mem_nil, or_false] at hw
  rcases hw with rfl | rfl | rfl | rfl | rfl | rfl | rfl | rfl | rfl | rfl <;> first | exact va_Nw.warmM hW h1 | exact va_Nw.warmF hW h1
theorem nw_same {s U : State} (hv : s.vm = U.vm) (h : ∀ w ∈ NW_, va_Nw w s) : ∀ w ∈ NW_, va_Nw w U := by
  intro w hw
  have h1 := h w hw
  unfold NW_ at hw
  simp only [List.mem_cons, List.not_mem_nil, or_false] at hw
  rcases hw with rfl | rfl | rfl | rfl | rfl | rfl | rfl | rfl | rfl | rfl <;> exact va_Nw.same rfl hv h1
def PX_ (dC : Nat → ClassId) (dI : Nat → Nat → Nat) (q : Nat → Nat) (cA : Nat → ClassId) (pt : Nat) (σ : MZ_) (U : State) : Prop := va_P (dC, dI) cls_ (wX q cA σ) U.heap ∧ va_K (dC, dI) cls_ (tyX cA) U ∧ va_D (AX q) (wX q cA σ) ∧ (∀ w ∈ NW_, va_Nw w U) ∧ SX_ q pt U U.heap
theorem pxX_B {av : List Value} {dC : Nat → ClassId} {dI : Nat → Nat → Nat} {q : Nat → Nat} {cA : Nat → ClassId} {pt : Nat} {σ : MZ_} : FrameBlind (va_Pc av (PX_ dC dI q cA pt σ)) := by
  intro a U g mrk hq
  obtain ⟨q0, qP, qK, qD, qN, qZ⟩ := hq
  exact ⟨q0, qP, va_K.moved (u := U) (U := U.calling g mrk a) (Vm.Alike.refl U.vm) qK, qD, nw_same (s := U) (U := U.calling g mrk a) rfl qN, va_Z.moved (u := U) (U := U.calling g mrk a) (Vm.Alike.refl U.vm) qZ.1, va_T.moved (u := U) (U := U.calling g mrk a) (Vm.Alike.refl U.vm) qZ.2⟩
theorem pxX_U {av : List Value} {dC : Nat → ClassId} {dI : Nat → Nat → Nat} {q : Nat → Nat} {cA : Nat → ClassId} {pt : Nat} {σ : MZ_} {s : State} {H : Heap} {locs : List Loc} (hP : va_P (dC, dI) cls_ (wX q cA σ) H) (hK : va_K (dC, dI) cls_ (tyX cA) s) (hD : va_D (AX q) (wX q cA σ)) (hN : ∀ w ∈ NW_, va_Nw w s) (hZ : SX_ q pt s s.heap) (hS : va_S (AX q) s.heap H locs) :
    ∀ U : State, U.heap = H → s.WarmedH U.vm → va_Pc av (PX_ dC dI q cA pt σ) av.toArray U := by
  intro U hU hW
  refine ⟨rfl, by rw [hU]; exact hP, va_K.moved hW.alike hK, hD, nw_warm hW hN, ?_, ?_⟩
  · rw [hU]; exact va_Z.moved hW.alike (hZ.1.kept hS.2.1)
  · rw [hU]; exact va_T.moved hW.alike (hZ.2.kept hS.2.1)

def PRx_ (dC : Nat → ClassId) (dI : Nat → Nat → Nat) (q : Nat → Nat) (cA : Nat → ClassId) (σ : MZ_) (U : State) : Prop := va_P (dC, dI) cls_ (wR q cA σ) U.heap ∧ va_K (dC, dI) cls_ (tyR cA) U ∧ va_D (AR q) (wR q cA σ) ∧ True ∧ True
theorem pxR_B {av : List Value} {dC : Nat → ClassId} {dI : Nat → Nat → Nat} {q : Nat → Nat} {cA : Nat → ClassId} {σ : MZ_} : FrameBlind (va_Pc av (PRx_ dC dI q cA σ)) := by
  intro a U g mrk hq
  obtain ⟨q0, qP, qK, qD, -, -⟩ := hq
  exact ⟨q0, qP, va_K.moved (u := U) (U := U.calling g mrk a) (Vm.Alike.refl U.vm) qK, qD, trivial, trivial⟩
theorem pxR_U {av : List Value} {dC : Nat → ClassId} {dI : Nat → Nat → Nat} {q : Nat → Nat} {cA : Nat → ClassId} {σ : MZ_} {s : State} {H : Heap} {locs : List Loc} (hP : va_P (dC, dI) cls_ (wR q cA σ) H) (hK : va_K (dC, dI) cls_ (tyR cA) s) (hD : va_D (AR q) (wR q cA σ)) (_ : True) (_ : True) (hS : va_S (AR q) s.heap H locs) :
    ∀ U : State, U.heap = H → s.WarmedH U.vm → va_Pc av (PRx_ dC dI q cA σ) av.toArray U := by
  intro U hU hW
  exact ⟨rfl, by rw [hU]; exact hP, va_K.moved hW.alike hK, hD, trivial, trivial⟩
variable {p : Program} {l : Launch} {e : Env} {R : Room} {s : State} {m : MethodId} {args : Array Value} {below : List Frame} {meth : Method} {c : Code} {H : Heap} {locs : List Loc} {cells slots : Nat} {Q : State → Prop}
variable {cc : ByteArray} {pc : Nat} {ls : Array Slot} {rest st0 : List Value} {q : Nat → Nat} {pt : Nat} {a : Array Value}
theorem va_pget_ (hx : p.tables.exec = Jvm.exec) (hb : c.code = cc) {own : String} {index : Nat} (hown : s.vm.findClass own = some m.cls) (hlink : va_Nw (.fieldLinkNest own index "StagedParsers" "PARTS" "[I" "StagedParsers") s) (hZ : SX_ q pt s s.heap) (hS : va_S (AX q) s.heap H locs) (hdg : decode cc pc = .ok (.getstatic index, 3)) (kk : W p l e R s m args below meth c H locs cells slots Q (F0 m (pc + 3) ls (.ref pt :: rest))) : W p l e R s m args below meth c H locs cells slots Q (F0 m pc ls rest) :=
  va_getsN hx hb hZ.1 hS hown (va_Nw.use rfl hlink) (fun _ h => h) hdg kk
theorem va_tald_ (hx : p.tables.exec = Jvm.exec) (hb : c.code = cc) (hZ : SX_ q pt s s.heap) (hS : va_S (AX q) s.heap H locs) {i : Int32} (hin : vp_in i 14) (hdg : decode cc pc = .ok (.iaload, 1)) (kk : W p l e R s m args below meth c H locs cells slots Q (F0 m (pc + 1) ls (.int (PT_ i.toNatClampNeg) :: rest))) : W p l e R s m args below meth c H locs cells slots Q (F0 m pc ls (.int i :: .ref pt :: rest)) :=
  va_ti hx hb hZ.2 hS hin rfl hdg kk
theorem sw_in (hx : p.tables.exec = Jvm.exec) (hb : c.code = cc) {dflt lo hi : Int} {offs : Array Int} {len : Nat} {x k : Int32} {off : Int} {tgt : Nat} (hdg : decode cc pc = .ok (.tableswitch dflt lo hi offs, len)) (hk : x = k) (h1 : ¬ k.toInt < lo) (h2 : ¬ hi < k.toInt) (ho : offs[(k.toInt - lo).toNat]? = some off) (ht : (pc : Int) + off = (tgt : Int)) (kk : W p l e R s m args below meth c H locs cells slots Q (F0 m tgt ls rest)) : W p l e R s m args below meth c H locs cells slots Q (F0 m pc ls (.int x :: rest)) := by
  subst hk
  exact lv_tableIn hx hb hdg h1 h2 ho ht kk
theorem sw_lk (hx : p.tables.exec = Jvm.exec) (hb : c.code = cc) {dflt : Int} {ps : Array (Int × Int)} {len : Nat} {x k : Int32} {off : Int} {tgt : Nat} (hdg : decode cc pc = .ok (.lookupswitch dflt ps, len)) (hp : (ps.toList.zip (ps.toList.drop 1)).all (fun (a, next) => a.1 < next.1) = true) (hk : x = k) (ho : Op.lookupswitch.offset ps.toList dflt k.toInt = off) (ht : (pc : Int) + off = (tgt : Int)) (kk : W p l e R s m args below meth c H locs cells slots Q (F0 m tgt ls rest)) : W p l e R s m args below meth c H locs cells slots Q (F0 m pc ls (.int x :: rest)) := by
  subst hk
  exact lv_lookup hx hb hdg hp ho ht kk
theorem cx_wrv {B : Heap → Prop} {A A0 : Nat → Prop} {H0 : Heap} (hr : va_Run p l e R s m args below meth c H locs cells slots 0 0 (F0 m pc ls st0) rest (QW_ none B A a) A) (hS : va_S A0 H0 H locs) (hA : ∀ q, A q → A0 q)
    (kk : ∀ (H1 : Heap) (locs1 : List Loc), B H1 → va_S A0 H0 H1 locs1 → W p l e R s m args below meth c H1 locs1 cells slots Q (F0 m (pc + 3) ls rest)) : W p l e R s m args below meth c H locs cells slots Q (F0 m pc ls st0) :=
  cx_wr hr hS hA (fun H1 locs1 hB _ hS => kk H1 locs1 hB hS)
theorem cx_wri {v : Int32} {B : Heap → Prop} {A A0 : Nat → Prop} {H0 : Heap} (hr : va_Run p l e R s m args below meth c H locs cells slots 0 0 (F0 m pc ls st0) rest (QW_ (some (.int v)) B A a) A) (hS : va_S A0 H0 H locs) (hA : ∀ q, A q → A0 q)
    (kk : ∀ (H1 : Heap) (locs1 : List Loc), B H1 → va_S A0 H0 H1 locs1 → W p l e R s m args below meth c H1 locs1 cells slots Q (F0 m (pc + 3) ls (.int v :: rest))) : W p l e R s m args below meth c H locs cells slots Q (F0 m pc ls st0) :=
  cx_wr hr hS hA (fun H1 locs1 hB _ hS => kk H1 locs1 hB hS)
end PXS
end
section
/-! Text -/
def y_T_isFull : MethodName := ⟨"StagedParsers$Text", "isFull", "()Z"⟩
def w_T_isFull : List Cond := .code y_T_isFull prog_7_method_2_code 1 (some .boolean) :: AW_
def rm_T_isFull : Room := { frames := 0, cells := 0, slots := 0, locals := 0 }
theorem d_T_isFull_0 : decode prog_7_method_2_code 0 = .ok (.aload_n 0, 1) := by decide +kernel
theorem d_T_isFull_1 : decode prog_7_method_2_code 1 = .ok (.getfield 15, 3) := by decide +kernel
theorem d_T_isFull_4 : decode prog_7_method_2_code 4 = .ok (.bipush 40, 2) := by decide +kernel
theorem d_T_isFull_6 : decode prog_7_method_2_code 6 = .ok (.if_icmp .lt 7, 3) := by decide +kernel
theorem d_T_isFull_9 : decode prog_7_method_2_code 9 = .ok (.iconst 1, 1) := by decide +kernel
theorem d_T_isFull_10 : decode prog_7_method_2_code 10 = .ok (.goto 4, 3) := by decide +kernel
theorem d_T_isFull_13 : decode prog_7_method_2_code 13 = .ok (.iconst 0, 1) := by decide +kernel
theorem d_T_isFull_14 : decode prog_7_method_2_code 14 = .ok (.ireturn, 1) := by decide +kernel
section RW
variable {p : Program} {l : Launch} {e : Env} {R : Room} {s : State} {m : MethodId} {args : Array Value} {below : List Frame} {meth : Method} {c : Code} {H : Heap} {locs : List Loc} {cells slots : Nat} {Q : State → Prop}
variable {cc : ByteArray} {pc : Nat} {ls : Array Slot} {rest : List Value} {dC : Nat → ClassId} {dI : Nat → Nat → Nat} {q : Nat → Nat} {cA : Nat → ClassId} {σ : MZ_} {H0 : Heap} {A : Nat → Prop}

theorem gf_T_15 (hx : p.tables.exec = Jvm.exec) (hb : c.code = cc) (hts : ∀ w ∈ AW_, w.before args s = true) (hown : s.vm.findClass "StagedParsers$Text" = some m.cls) (hK : va_K (dC, dI) cls_ (tyX cA) s) (hP : va_P (dC, dI) cls_ (wX q cA σ) H) (hdg : decode cc pc = .ok (.getfield 15, 3)) (kk : W p l e R s m args below meth c H locs cells slots Q (F0 m (pc + 3) ls (.int (σ 33 0) :: rest))) : W p l e R s m args below meth c H locs cells slots Q (F0 m pc ls (.ref (q 20) :: rest)) :=
  va_get (D := (dC, dI)) (cl := cls_) (ci := 4) (v := .int (σ 33 0)) (ws := wX q cA σ) (tys := tyX cA) (C := Rz_T) (T := Tz_T) (N := 2) hx hb hts uz_T hown hK hP 20 rfl rfl 1 (by decide) (hts _ kw_116) (fun _ h9 => h9) rfl hdg kk
end RW
def f_T_isFull (σ : MZ_) : Option (Int32) :=
  if (σ 33 0) < 40 then some 0
  else some 1
set_option maxHeartbeats 4000000 in
set_option maxRecDepth 100000 in
theorem c_T_isFull (l : Launch) (dC : Nat → ClassId) (dI : Nat → Nat → Nat) (q : Nat → Nat) (cA : Nat → ClassId) (pt : Nat) (σ : MZ_) (u : Int32) (h : f_T_isFull σ = some u) : Met l y_T_isFull w_T_isFull rm_T_isFull (va_Pc [.ref (q 20)] (PX_ dC dI q cA pt σ)) (QcRead u) 0 0 (fun _ => False) := by
  refine Met.ofW (cc := prog_7_method_2_code) (maxL := 1) (ret := (some .boolean)) (by decide) rfl ?_
  intro p e s m args below meth c s₁ B hml hv
  obtain ⟨rfl, hP, hK, hD, hN, hZ⟩ := hv
  have hx := B.exec
  have hb := B.bytes
  have hr := B.returns
  have hts : ∀ w ∈ AW_, w.before _ s = true := fun w h => atoms_spec (ws := w_T_isFull) B.pre w (List.mem_cons_of_mem _ h)
  have hown : s.vm.findClass "StagedParsers$Text" = some m.cls := findClass_of_methodNamed B.named
  have hlocks := B.notSynchronized
  have hS : va_S (AX q) s.heap s.heap [] := va_S.rf
  have hl := lv_entry ([.ref (q 20)]) (n := 1) (Nat.le_of_ble_eq_true rfl)
  rw [lg_entry_eq]
  generalize (lg_sl ([.ref (q 20)]) ++ List.replicate (1 - (lg_sl ([.ref (q 20)])).length) Slot.unset).toArray = ls at hl ⊢
  have hl : lv_has ls 1 [(0, .ref (q 20))] := hl
  rw [f_T_isFull] at h
  refine lv_aload_n hx hb d_T_isFull_0 rfl (lv_at hl 0 rfl) ?_
  refine gf_T_15 hx hb hts hown hK hP d_T_isFull_1 ?_
  refine lv_bipush (v := 40) hx hb d_T_isFull_4 (by decide) ?_
  refine lv_icmp_lt (tgt := 13) hx hb d_T_isFull_6 rfl (fun hc => ?_) (fun hc => ?_)
  · have h := if_t hc h
    refine lv_iconst (v := 0) hx hb d_T_isFull_13 (by decide) ?_
    obtain rfl := Option.some.inj h
    exact W.zret hx hb hr rfl (fun t ht hW => ⟨rfl, ht⟩) (fun _ h9 => nomatch h9) d_T_isFull_14
  · have h := if_f hc h
    refine lv_iconst (v := 1) hx hb d_T_isFull_9 (by decide) ?_
    refine lv_goto (tgt := 14) hx hb d_T_isFull_10 rfl ?_
    obtain rfl := Option.some.inj h
    exact W.zret hx hb hr rfl (fun t ht hW => ⟨rfl, ht⟩) (fun _ h9 => nomatch h9) d_T_isFull_14
def y_T_size : MethodName := ⟨"StagedParsers$Text", "size", "()I"⟩
def w_T_size : List Cond := .code y_T_size prog_7_method_3_code 1 (some .int) :: AW_
def rm_T_size : Room := { frames := 0, cells := 0, slots := 0, locals := 0 }
theorem d_T_size_0 : decode prog_7_method_3_code 0 = .ok (.aload_n 0, 1) := by decide +kernel
theorem d_T_size_1 : decode prog_7_method_3_code 1 = .ok (.getfield 15, 3) := by decide +kernel
theorem d_T_size_4 : decode prog_7_method_3_code 4 = .ok (.ireturn, 1) := by decide +kernel
def f_T_size (σ : MZ_) : Option (Int32) :=
  some (σ 33 0)
set_option maxHeartbeats 4000000 in
set_option maxRecDepth 100000 in
theorem c_T_size (l : Launch) (dC : Nat → ClassId) (dI : Nat → Nat → Nat) (q : Nat → Nat) (cA : Nat → ClassId) (pt : Nat) (σ : MZ_) (u : Int32) (h : f_T_size σ = some u) : Met l y_T_size w_T_size rm_T_size (va_Pc [.ref (q 20)] (PX_ dC dI q cA pt σ)) (QcRead u) 0 0 (fun _ => False) := by
  refine Met.ofW (cc := prog_7_method_3_code) (maxL := 1) (ret := (some .int)) (by decide) rfl ?_
  intro p e s m args below meth c s₁ B hml hv
  obtain ⟨rfl, hP, hK, hD, hN, hZ⟩ := hv
  have hx := B.exec
  have hb := B.bytes
  have hr := B.returns
  have hts : ∀ w ∈ AW_, w.before _ s = true := fun w h => atoms_spec (ws := w_T_size) B.pre w (List.mem_cons_of_mem _ h)
  have hown : s.vm.findClass "StagedParsers$Text" = some m.cls := findClass_of_methodNamed B.named
  have hlocks := B.notSynchronized
  have hS : va_S (AX q) s.heap s.heap [] := va_S.rf
  have hl := lv_entry ([.ref (q 20)]) (n := 1) (Nat.le_of_ble_eq_true rfl)
  rw [lg_entry_eq]
  generalize (lg_sl ([.ref (q 20)]) ++ List.replicate (1 - (lg_sl ([.ref (q 20)])).length) Slot.unset).toArray = ls at hl ⊢
  have hl : lv_has ls 1 [(0, .ref (q 20))] := hl
  rw [f_T_size] at h
  refine lv_aload_n hx hb d_T_size_0 rfl (lv_at hl 0 rfl) ?_
  refine gf_T_15 hx hb hts hown hK hP d_T_size_1 ?_
  obtain rfl := Option.some.inj h
  exact W.iret hx hb hr (fun t ht hW => ⟨rfl, ht⟩) (fun _ h9 => nomatch h9) d_T_size_4
def y_T_append : MethodName := ⟨"StagedParsers$Text", "append", "(C)V"⟩
def w_T_append : List Cond := .code y_T_append prog_7_method_4_code 2 none :: AW_
def rm_T_append : Room := { frames := 0, cells := 0, slots := 0, locals := 0 }
theorem d_T_append_0 : decode prog_7_method_4_code 0 = .ok (.aload_n 0, 1) := by decide +kernel
theorem d_T_append_1 : decode prog_7_method_4_code 1 = .ok (.getfield 15, 3) := by decide +kernel
theorem d_T_append_4 : decode prog_7_method_4_code 4 = .ok (.bipush 40, 2) := by decide +kernel
theorem d_T_append_6 : decode prog_7_method_4_code 6 = .ok (.if_icmp .ge 23, 3) := by decide +kernel
theorem d_T_append_9 : decode prog_7_method_4_code 9 = .ok (.aload_n 0, 1) := by decide +kernel
theorem d_T_append_10 : decode prog_7_method_4_code 10 = .ok (.getfield 9, 3) := by decide +kernel
theorem d_T_append_13 : decode prog_7_method_4_code 13 = .ok (.aload_n 0, 1) := by decide +kernel
theorem d_T_append_14 : decode prog_7_method_4_code 14 = .ok (.getfield 15, 3) := by decide +kernel
theorem d_T_append_17 : decode prog_7_method_4_code 17 = .ok (.iload_n 1, 1) := by decide +kernel
theorem d_T_append_18 : decode prog_7_method_4_code 18 = .ok (.castore, 1) := by decide +kernel
theorem d_T_append_19 : decode prog_7_method_4_code 19 = .ok (.aload_n 0, 1) := by decide +kernel
theorem d_T_append_20 : decode prog_7_method_4_code 20 = .ok (.dup, 1) := by decide +kernel
theorem d_T_append_21 : decode prog_7_method_4_code 21 = .ok (.getfield 15, 3) := by decide +kernel
theorem d_T_append_24 : decode prog_7_method_4_code 24 = .ok (.iconst 1, 1) := by decide +kernel
theorem d_T_append_25 : decode prog_7_method_4_code 25 = .ok (.iadd, 1) := by decide +kernel
theorem d_T_append_26 : decode prog_7_method_4_code 26 = .ok (.putfield 15, 3) := by decide +kernel
theorem d_T_append_29 : decode prog_7_method_4_code 29 = .ok (.return_, 1) := by decide +kernel
section RW
variable {p : Program} {l : Launch} {e : Env} {R : Room} {s : State} {m : MethodId} {args : Array Value} {below : List Frame} {meth : Method} {c : Code} {H : Heap} {locs : List Loc} {cells slots : Nat} {Q : State → Prop}
variable {cc : ByteArray} {pc : Nat} {ls : Array Slot} {rest : List Value} {dC : Nat → ClassId} {dI : Nat → Nat → Nat} {q : Nat → Nat} {cA : Nat → ClassId} {σ : MZ_} {H0 : Heap} {A : Nat → Prop}

theorem gf_T_9 (hx : p.tables.exec = Jvm.exec) (hb : c.code = cc) (hts : ∀ w ∈ AW_, w.before args s = true) (hown : s.vm.findClass "StagedParsers$Text" = some m.cls) (hK : va_K (dC, dI) cls_ (tyX cA) s) (hP : va_P (dC, dI) cls_ (wX q cA σ) H) (hdg : decode cc pc = .ok (.getfield 9, 3)) (kk : W p l e R s m args below meth c H locs cells slots Q (F0 m (pc + 3) ls (.ref (q 21) :: rest))) : W p l e R s m args below meth c H locs cells slots Q (F0 m pc ls (.ref (q 20) :: rest)) :=
  va_get (D := (dC, dI)) (cl := cls_) (ci := 4) (v := .ref (q 21)) (ws := wX q cA σ) (tys := tyX cA) (C := Rz_T) (T := Tz_T) (N := 2) hx hb hts uz_T hown hK hP 20 rfl rfl 0 (by decide) (hts _ kw_115) (fun _ h9 => h9) rfl hdg kk
theorem pf_T_15 (hx : p.tables.exec = Jvm.exec) (hb : c.code = cc) (hts : ∀ w ∈ AW_, w.before args s = true) (hown : s.vm.findClass "StagedParsers$Text" = some m.cls) (hK : va_K (dC, dI) cls_ (tyX cA) s) (hP : va_P (dC, dI) cls_ (wX q cA σ) H) (hD : va_D A (wX q cA σ)) (hS : va_S A H0 H locs) {v : Int32} (hdg : decode cc pc = .ok (.putfield 15, 3)) (kk : ∀ (H1 : Heap) (locs1 : List Loc), va_P (dC, dI) cls_ (wX q cA (va_up σ 33 (fun _ => v))) H1 → va_S A H0 H1 locs1 → W p l e R s m args below meth c H1 locs1 cells slots Q (F0 m (pc + 3) ls rest)) : W p l e R s m args below meth c H locs cells slots Q (F0 m pc ls (.int v :: .ref (q 20) :: rest)) :=
  va_put (D := (dC, dI)) (cl := cls_) (ci := 4) (v := .int v) (ty := .int) (ws := wX q cA σ) (tys := tyX cA) (C := Rz_T) (T := Tz_T) (N := 2) hx hb hts uz_T tz_T tz_T_ok nz_T hown hK hP hD hS 20 rfl rfl 1 (by decide) (hts _ kw_116) (fun _ h9 => h9) rfl (by decide +kernel) rfl rfl (Nat.le_of_ble_eq_true rfl) hdg (fun H1 locs1 hP _ hS => kk H1 locs1 hP hS)
end RW
def f_T_append (σ : MZ_) (x1 : Int32) : Option (MZ_) :=
  if 40 ≤ (σ 33 0) then some σ
  else gd_ (σ 33 0) 40 (st_ (va_up σ 21 (upd (σ 21) (σ 33 0).toNatClampNeg (vp_nar .char x1))) fun σ1 => st_ (va_up σ1 33 (fun _ => (σ1 33 0) + 1)) fun σ2 => some σ2)
set_option maxHeartbeats 4000000 in
set_option maxRecDepth 100000 in
theorem c_T_append (l : Launch) (dC : Nat → ClassId) (dI : Nat → Nat → Nat) (q : Nat → Nat) (cA : Nat → ClassId) (pt : Nat) (σ : MZ_) (x1 : Int32) (u : MZ_) (h : f_T_append σ x1 = some u) : Met l y_T_append w_T_append rm_T_append (va_Pc [.ref (q 20), .int x1] (PX_ dC dI q cA pt σ)) (QW_ none (fun H => va_P (dC, dI) cls_ (wX q cA u) H) (AX q)) 0 0 (AX q) := by
  refine Met.ofW (cc := prog_7_method_4_code) (maxL := 2) (ret := none) (by decide) rfl ?_
  intro p e s m args below meth c s₁ B hml hv
  obtain ⟨rfl, hP, hK, hD, hN, hZ⟩ := hv
  have hx := B.exec
  have hb := B.bytes
  have hr := B.returns
  have hts : ∀ w ∈ AW_, w.before _ s = true := fun w h => atoms_spec (ws := w_T_append) B.pre w (List.mem_cons_of_mem _ h)
  have hown : s.vm.findClass "StagedParsers$Text" = some m.cls := findClass_of_methodNamed B.named
  have hlocks := B.notSynchronized
  have hS : va_S (AX q) s.heap s.heap [] := va_S.rf
  have hl := lv_entry ([.ref (q 20), .int x1]) (n := 2) (Nat.le_of_ble_eq_true rfl)
  rw [lg_entry_eq]
  generalize (lg_sl ([.ref (q 20), .int x1]) ++ List.replicate (2 - (lg_sl ([.ref (q 20), .int x1])).length) Slot.unset).toArray = ls at hl ⊢
  have hl : lv_has ls 2 [(0, .ref (q 20)), (1, .int x1)] := hl
  rw [f_T_append] at h
  refine lv_aload_n hx hb d_T_append_0 rfl (lv_at hl 0 rfl) ?_
  refine gf_T_15 hx hb hts hown hK hP d_T_append_1 ?_
  refine lv_bipush (v := 40) hx hb d_T_append_4 (by decide) ?_
  refine lv_icmp_ge (tgt := 29) hx hb d_T_append_6 rfl (fun hc => ?_) (fun hc => ?_)
  · have h := if_t hc h
    obtain rfl := Option.some.inj h
    exact W.vret hx hb hr (fun t ht hW => ⟨rfl, by rw [ht]; exact hP, hS.F ht⟩) hS.2.2 d_T_append_29
  · have h := if_f hc h
    refine lv_aload_n hx hb d_T_append_9 rfl (lv_at hl 0 rfl) ?_
    refine gf_T_9 hx hb hts hown hK hP d_T_append_10 ?_
    refine lv_aload_n hx hb d_T_append_13 rfl (lv_at hl 0 rfl) ?_
    refine gf_T_15 hx hb hts hown hK hP d_T_append_14 ?_
    refine lv_iload_n hx hb d_T_append_17 rfl (lv_at hl 1 rfl) ?_
    obtain ⟨hgd, h⟩ := gd_some h
    refine as_X_21 hx hb hK hP hD hS hgd d_T_append_18 (fun H locs hP hS => ?_)
    obtain ⟨σ1, eσ1, h⟩ := st_some h
    rw [← eσ1] at hP
    have hD : va_D (AX q) (wX q cA σ1) := dd_re (wX_f _ _ _ _) hD
    refine lv_aload_n hx hb d_T_append_19 rfl (lv_at hl 0 rfl) ?_
    refine lv_dup hx hb d_T_append_20 rfl ?_
    refine gf_T_15 hx hb hts hown hK hP d_T_append_21 ?_
    refine lv_iconst (v := 1) hx hb d_T_append_24 (by decide) ?_
    refine lv_iadd hx hb d_T_append_25 ?_
    refine pf_T_15 hx hb hts hown hK hP hD hS d_T_append_26 (fun H locs hP hS => ?_)
    obtain ⟨σ2, eσ2, h⟩ := st_some h
    rw [← eσ2] at hP
    have hD : va_D (AX q) (wX q cA σ2) := dd_re (wX_f _ _ _ _) hD
    obtain rfl := Option.some.inj h
    exact W.vret hx hb hr (fun t ht hW => ⟨rfl, by rw [ht]; exact hP, hS.F ht⟩) hS.2.2 d_T_append_29
def y_T_erase : MethodName := ⟨"StagedParsers$Text", "erase", "()V"⟩
def w_T_erase : List Cond := .code y_T_erase prog_7_method_5_code 1 none :: AW_
def rm_T_erase : Room := { frames := 0, cells := 0, slots := 0, locals := 0 }
theorem d_T_erase_0 : decode prog_7_method_5_code 0 = .ok (.aload_n 0, 1) := by decide +kernel
theorem d_T_erase_1 : decode prog_7_method_5_code 1 = .ok (.iconst 0, 1) := by decide +kernel
theorem d_T_erase_2 : decode prog_7_method_5_code 2 = .ok (.putfield 15, 3) := by decide +kernel
theorem d_T_erase_5 : decode prog_7_method_5_code 5 = .ok (.return_, 1) := by decide +kernel
def f_T_erase (σ : MZ_) : Option (MZ_) :=
  st_ (va_up σ 33 (fun _ => 0)) fun σ1 => some σ1
set_option maxHeartbeats 4000000 in
set_option maxRecDepth 100000 in
theorem c_T_erase (l : Launch) (dC : Nat → ClassId) (dI : Nat → Nat → Nat) (q : Nat → Nat) (cA : Nat → ClassId) (pt : Nat) (σ : MZ_) (u : MZ_) (h : f_T_erase σ = some u) : Met l y_T_erase w_T_erase rm_T_erase (va_Pc [.ref (q 20)] (PX_ dC dI q cA pt σ)) (QW_ none (fun H => va_P (dC, dI) cls_ (wX q cA u) H) (AX q)) 0 0 (AX q) := by
  refine Met.ofW (cc := prog_7_method_5_code) (maxL := 1) (ret := none) (by decide) rfl ?_
  intro p e s m args below meth c s₁ B hml hv
  obtain ⟨rfl, hP, hK, hD, hN, hZ⟩ := hv
  have hx := B.exec
  have hb := B.bytes
  have hr := B.returns
  have hts : ∀ w ∈ AW_, w.before _ s = true := fun w h => atoms_spec (ws := w_T_erase) B.pre w (List.mem_cons_of_mem _ h)
  have hown : s.vm.findClass "StagedParsers$Text" = some m.cls := findClass_of_methodNamed B.named
  have hlocks := B.notSynchronized
  have hS : va_S (AX q) s.heap s.heap [] := va_S.rf
  have hl := lv_entry ([.ref (q 20)]) (n := 1) (Nat.le_of_ble_eq_true rfl)
  rw [lg_entry_eq]
  generalize (lg_sl ([.ref (q 20)]) ++ List.replicate (1 - (lg_sl ([.ref (q 20)])).length) Slot.unset).toArray = ls at hl ⊢
  have hl : lv_has ls 1 [(0, .ref (q 20))] := hl
  rw [f_T_erase] at h
  refine lv_aload_n hx hb d_T_erase_0 rfl (lv_at hl 0 rfl) ?_
  refine lv_iconst (v := 0) hx hb d_T_erase_1 (by decide) ?_
  refine pf_T_15 hx hb hts hown hK hP hD hS d_T_erase_2 (fun H locs hP hS => ?_)
  obtain ⟨σ1, eσ1, h⟩ := st_some h
  rw [← eσ1] at hP
  have hD : va_D (AX q) (wX q cA σ1) := dd_re (wX_f _ _ _ _) hD
  obtain rfl := Option.some.inj h
  exact W.vret hx hb hr (fun t ht hW => ⟨rfl, by rw [ht]; exact hP, hS.F ht⟩) hS.2.2 d_T_erase_5
def y_T_signAt : MethodName := ⟨"StagedParsers$Text", "signAt", "(I)I"⟩
def w_T_signAt : List Cond := .code y_T_signAt prog_7_method_6_code 2 (some .int) :: AW_
def rm_T_signAt : Room := { frames := 0, cells := 0, slots := 0, locals := 0 }
theorem d_T_signAt_0 : decode prog_7_method_6_code 0 = .ok (.iload_n 1, 1) := by decide +kernel
theorem d_T_signAt_1 : decode prog_7_method_6_code 1 = .ok (.ifCond .lt 20, 3) := by decide +kernel
theorem d_T_signAt_4 : decode prog_7_method_6_code 4 = .ok (.iload_n 1, 1) := by decide +kernel
theorem d_T_signAt_5 : decode prog_7_method_6_code 5 = .ok (.aload_n 0, 1) := by decide +kernel
theorem d_T_signAt_6 : decode prog_7_method_6_code 6 = .ok (.getfield 15, 3) := by decide +kernel
theorem d_T_signAt_9 : decode prog_7_method_6_code 9 = .ok (.if_icmp .ge 12, 3) := by decide +kernel
theorem d_T_signAt_12 : decode prog_7_method_6_code 12 = .ok (.aload_n 0, 1) := by decide +kernel
theorem d_T_signAt_13 : decode prog_7_method_6_code 13 = .ok (.getfield 9, 3) := by decide +kernel
theorem d_T_signAt_16 : decode prog_7_method_6_code 16 = .ok (.iload_n 1, 1) := by decide +kernel
theorem d_T_signAt_17 : decode prog_7_method_6_code 17 = .ok (.caload, 1) := by decide +kernel
theorem d_T_signAt_18 : decode prog_7_method_6_code 18 = .ok (.goto 4, 3) := by decide +kernel
theorem d_T_signAt_21 : decode prog_7_method_6_code 21 = .ok (.iconst (-1), 1) := by decide +kernel
theorem d_T_signAt_22 : decode prog_7_method_6_code 22 = .ok (.ireturn, 1) := by decide +kernel
def f_T_signAt (σ : MZ_) (x1 : Int32) : Option (Int32) :=
  if x1 < 0 then some (-1)
  else if (σ 33 0) ≤ x1 then some (-1)
  else gd_ x1 40 (some (σ 21 x1.toNatClampNeg))
set_option maxHeartbeats 4000000 in
set_option maxRecDepth 100000 in
theorem c_T_signAt (l : Launch) (dC : Nat → ClassId) (dI : Nat → Nat → Nat) (q : Nat → Nat) (cA : Nat → ClassId) (pt : Nat) (σ : MZ_) (x1 : Int32) (u : Int32) (h : f_T_signAt σ x1 = some u) : Met l y_T_signAt w_T_signAt rm_T_signAt (va_Pc [.ref (q 20), .int x1] (PX_ dC dI q cA pt σ)) (QcRead u) 0 0 (fun _ => False) := by
  refine Met.ofW (cc := prog_7_method_6_code) (maxL := 2) (ret := (some .int)) (by decide) rfl ?_
  intro p e s m args below meth c s₁ B hml hv
  obtain ⟨rfl, hP, hK, hD, hN, hZ⟩ := hv
  have hx := B.exec
  have hb := B.bytes
  have hr := B.returns
  have hts : ∀ w ∈ AW_, w.before _ s = true := fun w h => atoms_spec (ws := w_T_signAt) B.pre w (List.mem_cons_of_mem _ h)
  have hown : s.vm.findClass "StagedParsers$Text" = some m.cls := findClass_of_methodNamed B.named
  have hlocks := B.notSynchronized
  have hS : va_S (AX q) s.heap s.heap [] := va_S.rf
  have hl := lv_entry ([.ref (q 20), .int x1]) (n := 2) (Nat.le_of_ble_eq_true rfl)
  rw [lg_entry_eq]
  generalize (lg_sl ([.ref (q 20), .int x1]) ++ List.replicate (2 - (lg_sl ([.ref (q 20), .int x1])).length) Slot.unset).toArray = ls at hl ⊢
  have hl : lv_has ls 2 [(0, .ref (q 20)), (1, .int x1)] := hl
  rw [f_T_signAt] at h
  refine lv_iload_n hx hb d_T_signAt_0 rfl (lv_at hl 1 rfl) ?_
  refine lv_if_lt (tgt := 21) hx hb d_T_signAt_1 rfl (fun hc => ?_) (fun hc => ?_)
  · have h := if_t hc h
    refine lv_iconst (v := (-1)) hx hb d_T_signAt_21 (by decide) ?_
    obtain rfl := Option.some.inj h
    exact W.iret hx hb hr (fun t ht hW => ⟨rfl, ht⟩) (fun _ h9 => nomatch h9) d_T_signAt_22
  · have h := if_f hc h
    refine lv_iload_n hx hb d_T_signAt_4 rfl (lv_at hl 1 rfl) ?_
    refine lv_aload_n hx hb d_T_signAt_5 rfl (lv_at hl 0 rfl) ?_
    refine gf_T_15 hx hb hts hown hK hP d_T_signAt_6 ?_
    refine lv_icmp_ge (tgt := 21) hx hb d_T_signAt_9 rfl (fun hc => ?_) (fun hc => ?_)
    · have h := if_t hc h
      refine lv_iconst (v := (-1)) hx hb d_T_signAt_21 (by decide) ?_
      obtain rfl := Option.some.inj h
      exact W.iret hx hb hr (fun t ht hW => ⟨rfl, ht⟩) (fun _ h9 => nomatch h9) d_T_signAt_22
    · have h := if_f hc h
      refine lv_aload_n hx hb d_T_signAt_12 rfl (lv_at hl 0 rfl) ?_
      refine gf_T_9 hx hb hts hown hK hP d_T_signAt_13 ?_
      refine lv_iload_n hx hb d_T_signAt_16 rfl (lv_at hl 1 rfl) ?_
      obtain ⟨hgd, h⟩ := gd_some h
      refine al_X_21 hx hb hK hP hgd d_T_signAt_17 ?_
      refine lv_goto (tgt := 22) hx hb d_T_signAt_18 rfl ?_
      obtain rfl := Option.some.inj h
      exact W.iret hx hb hr (fun t ht hW => ⟨rfl, ht⟩) (fun _ h9 => nomatch h9) d_T_signAt_22
end
