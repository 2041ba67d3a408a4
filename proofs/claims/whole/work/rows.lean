section
-- ===== PART A: goes FIRST, ahead of the names: the tables' words, and 'selects' of the private methods out of them =====
/-- a private method of a class that the tables say can be made, by its rows of tables_1 -/
def lw_okq (q : MethodName × Nat) : Prop := (q.1.cls ≠ "java/lang/invoke/MethodHandle" ∧ q.1.cls ≠ "java/lang/invoke/VarHandle") ∧ Cond.instantiable q.1.cls q.2 ∈ tables_1 ∧ Cond.privateMethod q.1 ∈ tables_1 ∧ Cond.instanceMethod q.1 ∈ tables_1
theorem lw_p0 : lw_okq (⟨"StagedParsers$Study", "findNodesInBodies", "()V"⟩, 6) := ⟨⟨by decide +kernel, by decide +kernel⟩, List.mem_of_getElem? (i := 59) (by decide +kernel), List.mem_of_getElem? (i := 222) (by decide +kernel), List.mem_of_getElem? (i := 223) (by decide +kernel)⟩
theorem lw_p1 : lw_okq (⟨"StagedParsers$Study", "unmark", "([Z)V"⟩, 6) := ⟨⟨by decide +kernel, by decide +kernel⟩, List.mem_of_getElem? (i := 59) (by decide +kernel), List.mem_of_getElem? (i := 226) (by decide +kernel), List.mem_of_getElem? (i := 227) (by decide +kernel)⟩
theorem lw_p2 : lw_okq (⟨"StagedParsers$Study", "markInBodies", "(I)V"⟩, 6) := ⟨⟨by decide +kernel, by decide +kernel⟩, List.mem_of_getElem? (i := 59) (by decide +kernel), List.mem_of_getElem? (i := 238) (by decide +kernel), List.mem_of_getElem? (i := 239) (by decide +kernel)⟩
theorem lw_p3 : lw_okq (⟨"StagedParsers$Study", "findLeads", "()V"⟩, 6) := ⟨⟨by decide +kernel, by decide +kernel⟩, List.mem_of_getElem? (i := 59) (by decide +kernel), List.mem_of_getElem? (i := 265) (by decide +kernel), List.mem_of_getElem? (i := 266) (by decide +kernel)⟩
theorem lw_p4 : lw_okq (⟨"StagedParsers$Study", "findEmptyNodes", "()V"⟩, 6) := ⟨⟨by decide +kernel, by decide +kernel⟩, List.mem_of_getElem? (i := 59) (by decide +kernel), List.mem_of_getElem? (i := 269) (by decide +kernel), List.mem_of_getElem? (i := 270) (by decide +kernel)⟩
theorem lw_p5 : lw_okq (⟨"StagedParsers$Study", "emptyByParts", "(I)Z"⟩, 6) := ⟨⟨by decide +kernel, by decide +kernel⟩, List.mem_of_getElem? (i := 59) (by decide +kernel), List.mem_of_getElem? (i := 273) (by decide +kernel), List.mem_of_getElem? (i := 274) (by decide +kernel)⟩
theorem lw_p6 : lw_okq (⟨"StagedParsers$Study", "marked", "([ZI)Z"⟩, 6) := ⟨⟨by decide +kernel, by decide +kernel⟩, List.mem_of_getElem? (i := 59) (by decide +kernel), List.mem_of_getElem? (i := 277) (by decide +kernel), List.mem_of_getElem? (i := 278) (by decide +kernel)⟩
theorem lw_p7 : lw_okq (⟨"StagedParsers$Study", "leadsByParts", "(I)I"⟩, 6) := ⟨⟨by decide +kernel, by decide +kernel⟩, List.mem_of_getElem? (i := 59) (by decide +kernel), List.mem_of_getElem? (i := 281) (by decide +kernel), List.mem_of_getElem? (i := 282) (by decide +kernel)⟩
theorem lw_p8 : lw_okq (⟨"StagedParsers$Study", "leadsOf", "(I)I"⟩, 6) := ⟨⟨by decide +kernel, by decide +kernel⟩, List.mem_of_getElem? (i := 59) (by decide +kernel), List.mem_of_getElem? (i := 285) (by decide +kernel), List.mem_of_getElem? (i := 286) (by decide +kernel)⟩
theorem lw_p9 : lw_okq (⟨"StagedParsers$Study", "hasRuleWithoutBody", "()Z"⟩, 6) := ⟨⟨by decide +kernel, by decide +kernel⟩, List.mem_of_getElem? (i := 59) (by decide +kernel), List.mem_of_getElem? (i := 289) (by decide +kernel), List.mem_of_getElem? (i := 290) (by decide +kernel)⟩
theorem lw_p10 : lw_okq (⟨"StagedParsers$Study", "hasEndlessLoop", "()Z"⟩, 6) := ⟨⟨by decide +kernel, by decide +kernel⟩, List.mem_of_getElem? (i := 59) (by decide +kernel), List.mem_of_getElem? (i := 297) (by decide +kernel), List.mem_of_getElem? (i := 298) (by decide +kernel)⟩
theorem lw_p11 : lw_okq (⟨"StagedParsers$Study", "couldLoop", "(I)Z"⟩, 6) := ⟨⟨by decide +kernel, by decide +kernel⟩, List.mem_of_getElem? (i := 59) (by decide +kernel), List.mem_of_getElem? (i := 301) (by decide +kernel), List.mem_of_getElem? (i := 302) (by decide +kernel)⟩
theorem lw_p12 : lw_okq (⟨"StagedParsers$Study", "hasRuleThatLeadsToItself", "()Z"⟩, 6) := ⟨⟨by decide +kernel, by decide +kernel⟩, List.mem_of_getElem? (i := 59) (by decide +kernel), List.mem_of_getElem? (i := 305) (by decide +kernel), List.mem_of_getElem? (i := 306) (by decide +kernel)⟩
theorem lw_p13 : lw_okq (⟨"StagedParsers$Code", "put", "(III)V"⟩, 6) := ⟨⟨by decide +kernel, by decide +kernel⟩, List.mem_of_getElem? (i := 85) (by decide +kernel), List.mem_of_getElem? (i := 313) (by decide +kernel), List.mem_of_getElem? (i := 314) (by decide +kernel)⟩
theorem lw_p14 : lw_okq (⟨"StagedParsers$Code", "writePiece", "(IIII)V"⟩, 6) := ⟨⟨by decide +kernel, by decide +kernel⟩, List.mem_of_getElem? (i := 85) (by decide +kernel), List.mem_of_getElem? (i := 329) (by decide +kernel), List.mem_of_getElem? (i := 330) (by decide +kernel)⟩
theorem lw_p15 : lw_okq (⟨"StagedParsers$Code", "putCall", "(I)V"⟩, 6) := ⟨⟨by decide +kernel, by decide +kernel⟩, List.mem_of_getElem? (i := 85) (by decide +kernel), List.mem_of_getElem? (i := 333) (by decide +kernel), List.mem_of_getElem? (i := 334) (by decide +kernel)⟩
def lw_privs_1 : List (MethodName × Nat) := [(⟨"StagedParsers$Study", "findNodesInBodies", "()V"⟩, 6), (⟨"StagedParsers$Study", "unmark", "([Z)V"⟩, 6), (⟨"StagedParsers$Study", "markInBodies", "(I)V"⟩, 6), (⟨"StagedParsers$Study", "findLeads", "()V"⟩, 6), (⟨"StagedParsers$Study", "findEmptyNodes", "()V"⟩, 6), (⟨"StagedParsers$Study", "emptyByParts", "(I)Z"⟩, 6), (⟨"StagedParsers$Study", "marked", "([ZI)Z"⟩, 6), (⟨"StagedParsers$Study", "leadsByParts", "(I)I"⟩, 6), (⟨"StagedParsers$Study", "leadsOf", "(I)I"⟩, 6), (⟨"StagedParsers$Study", "hasRuleWithoutBody", "()Z"⟩, 6), (⟨"StagedParsers$Study", "hasEndlessLoop", "()Z"⟩, 6), (⟨"StagedParsers$Study", "couldLoop", "(I)Z"⟩, 6), (⟨"StagedParsers$Study", "hasRuleThatLeadsToItself", "()Z"⟩, 6), (⟨"StagedParsers$Code", "put", "(III)V"⟩, 6), (⟨"StagedParsers$Code", "writePiece", "(IIII)V"⟩, 6), (⟨"StagedParsers$Code", "putCall", "(I)V"⟩, 6)]
theorem lw_r1 : ∀ q ∈ lw_privs_1, lw_okq q := List.forall_mem_cons.mpr ⟨lw_p0, List.forall_mem_cons.mpr ⟨lw_p1, List.forall_mem_cons.mpr ⟨lw_p2, List.forall_mem_cons.mpr ⟨lw_p3, List.forall_mem_cons.mpr ⟨lw_p4, List.forall_mem_cons.mpr ⟨lw_p5, List.forall_mem_cons.mpr ⟨lw_p6, List.forall_mem_cons.mpr ⟨lw_p7, List.forall_mem_cons.mpr ⟨lw_p8, List.forall_mem_cons.mpr ⟨lw_p9, List.forall_mem_cons.mpr ⟨lw_p10, List.forall_mem_cons.mpr ⟨lw_p11, List.forall_mem_cons.mpr ⟨lw_p12, List.forall_mem_cons.mpr ⟨lw_p13, List.forall_mem_cons.mpr ⟨lw_p14, List.forall_mem_cons.mpr ⟨lw_p15, fun _ h => absurd h List.not_mem_nil⟩⟩⟩⟩⟩⟩⟩⟩⟩⟩⟩⟩⟩⟩⟩⟩
theorem lw_p16 : lw_okq (⟨"StagedParsers$Code", "piece", "(I)I"⟩, 6) := ⟨⟨by decide +kernel, by decide +kernel⟩, List.mem_of_getElem? (i := 85) (by decide +kernel), List.mem_of_getElem? (i := 337) (by decide +kernel), List.mem_of_getElem? (i := 338) (by decide +kernel)⟩
theorem lw_p17 : lw_okq (⟨"StagedParsers$Code", "writeOr", "(II)V"⟩, 6) := ⟨⟨by decide +kernel, by decide +kernel⟩, List.mem_of_getElem? (i := 85) (by decide +kernel), List.mem_of_getElem? (i := 341) (by decide +kernel), List.mem_of_getElem? (i := 342) (by decide +kernel)⟩
theorem lw_p18 : lw_okq (⟨"StagedParsers$Code", "writeNot", "(I)V"⟩, 6) := ⟨⟨by decide +kernel, by decide +kernel⟩, List.mem_of_getElem? (i := 85) (by decide +kernel), List.mem_of_getElem? (i := 345) (by decide +kernel), List.mem_of_getElem? (i := 346) (by decide +kernel)⟩
theorem lw_p19 : lw_okq (⟨"StagedParsers$Code", "writeMany", "(II)V"⟩, 6) := ⟨⟨by decide +kernel, by decide +kernel⟩, List.mem_of_getElem? (i := 85) (by decide +kernel), List.mem_of_getElem? (i := 349) (by decide +kernel), List.mem_of_getElem? (i := 350) (by decide +kernel)⟩
theorem lw_p20 : lw_okq (⟨"StagedParsers$Code", "writeChain", "(II)V"⟩, 6) := ⟨⟨by decide +kernel, by decide +kernel⟩, List.mem_of_getElem? (i := 85) (by decide +kernel), List.mem_of_getElem? (i := 353) (by decide +kernel), List.mem_of_getElem? (i := 354) (by decide +kernel)⟩
theorem lw_p21 : lw_okq (⟨"StagedParsers$Grammar", "canBePart", "(I)Z"⟩, 7) := ⟨⟨by decide +kernel, by decide +kernel⟩, List.mem_of_getElem? (i := 27) (by decide +kernel), List.mem_of_getElem? (i := 436) (by decide +kernel), List.mem_of_getElem? (i := 437) (by decide +kernel)⟩
theorem lw_p22 : lw_okq (⟨"java/lang/Throwable", "fillInStackTrace", "(I)Ljava/lang/Throwable;"⟩, 6) := ⟨⟨by decide +kernel, by decide +kernel⟩, List.mem_of_getElem? (i := 483) (by decide +kernel), List.mem_of_getElem? (i := 481) (by decide +kernel), List.mem_of_getElem? (i := 482) (by decide +kernel)⟩
theorem lw_p23 : lw_okq (⟨"StagedParsers$Study", "findBeginners", "(I)V"⟩, 6) := ⟨⟨by decide +kernel, by decide +kernel⟩, List.mem_of_getElem? (i := 59) (by decide +kernel), List.mem_of_getElem? (i := 582) (by decide +kernel), List.mem_of_getElem? (i := 583) (by decide +kernel)⟩
theorem lw_p24 : lw_okq (⟨"StagedParsers$Study", "beginsByParts", "(II)Z"⟩, 6) := ⟨⟨by decide +kernel, by decide +kernel⟩, List.mem_of_getElem? (i := 59) (by decide +kernel), List.mem_of_getElem? (i := 586) (by decide +kernel), List.mem_of_getElem? (i := 587) (by decide +kernel)⟩
theorem lw_p25 : lw_okq (⟨"StagedParsers$Machine", "reset", "()V"⟩, 14) := ⟨⟨by decide +kernel, by decide +kernel⟩, List.mem_of_getElem? (i := 124) (by decide +kernel), List.mem_of_getElem? (i := 635) (by decide +kernel), List.mem_of_getElem? (i := 636) (by decide +kernel)⟩
theorem lw_p26 : lw_okq (⟨"StagedParsers$Machine", "callBody", "(I)V"⟩, 14) := ⟨⟨by decide +kernel, by decide +kernel⟩, List.mem_of_getElem? (i := 124) (by decide +kernel), List.mem_of_getElem? (i := 644) (by decide +kernel), List.mem_of_getElem? (i := 645) (by decide +kernel)⟩
theorem lw_p27 : lw_okq (⟨"StagedParsers$Machine", "pushFrame", "(II)V"⟩, 14) := ⟨⟨by decide +kernel, by decide +kernel⟩, List.mem_of_getElem? (i := 124) (by decide +kernel), List.mem_of_getElem? (i := 648) (by decide +kernel), List.mem_of_getElem? (i := 649) (by decide +kernel)⟩
theorem lw_p28 : lw_okq (⟨"StagedParsers$Machine", "obey", "(III)V"⟩, 14) := ⟨⟨by decide +kernel, by decide +kernel⟩, List.mem_of_getElem? (i := 124) (by decide +kernel), List.mem_of_getElem? (i := 677) (by decide +kernel), List.mem_of_getElem? (i := 678) (by decide +kernel)⟩
theorem lw_p29 : lw_okq (⟨"StagedParsers$Machine", "give", "(I)V"⟩, 14) := ⟨⟨by decide +kernel, by decide +kernel⟩, List.mem_of_getElem? (i := 124) (by decide +kernel), List.mem_of_getElem? (i := 681) (by decide +kernel), List.mem_of_getElem? (i := 682) (by decide +kernel)⟩
theorem lw_p30 : lw_okq (⟨"StagedParsers$Machine", "take", "(II)V"⟩, 14) := ⟨⟨by decide +kernel, by decide +kernel⟩, List.mem_of_getElem? (i := 124) (by decide +kernel), List.mem_of_getElem? (i := 685) (by decide +kernel), List.mem_of_getElem? (i := 686) (by decide +kernel)⟩
theorem lw_p31 : lw_okq (⟨"StagedParsers$Machine", "failAt", "(I)V"⟩, 14) := ⟨⟨by decide +kernel, by decide +kernel⟩, List.mem_of_getElem? (i := 124) (by decide +kernel), List.mem_of_getElem? (i := 694) (by decide +kernel), List.mem_of_getElem? (i := 695) (by decide +kernel)⟩
def lw_privs_2 : List (MethodName × Nat) := [(⟨"StagedParsers$Code", "piece", "(I)I"⟩, 6), (⟨"StagedParsers$Code", "writeOr", "(II)V"⟩, 6), (⟨"StagedParsers$Code", "writeNot", "(I)V"⟩, 6), (⟨"StagedParsers$Code", "writeMany", "(II)V"⟩, 6), (⟨"StagedParsers$Code", "writeChain", "(II)V"⟩, 6), (⟨"StagedParsers$Grammar", "canBePart", "(I)Z"⟩, 7), (⟨"java/lang/Throwable", "fillInStackTrace", "(I)Ljava/lang/Throwable;"⟩, 6), (⟨"StagedParsers$Study", "findBeginners", "(I)V"⟩, 6), (⟨"StagedParsers$Study", "beginsByParts", "(II)Z"⟩, 6), (⟨"StagedParsers$Machine", "reset", "()V"⟩, 14), (⟨"StagedParsers$Machine", "callBody", "(I)V"⟩, 14), (⟨"StagedParsers$Machine", "pushFrame", "(II)V"⟩, 14), (⟨"StagedParsers$Machine", "obey", "(III)V"⟩, 14), (⟨"StagedParsers$Machine", "give", "(I)V"⟩, 14), (⟨"StagedParsers$Machine", "take", "(II)V"⟩, 14), (⟨"StagedParsers$Machine", "failAt", "(I)V"⟩, 14)]
theorem lw_r2 : ∀ q ∈ lw_privs_2, lw_okq q := List.forall_mem_cons.mpr ⟨lw_p16, List.forall_mem_cons.mpr ⟨lw_p17, List.forall_mem_cons.mpr ⟨lw_p18, List.forall_mem_cons.mpr ⟨lw_p19, List.forall_mem_cons.mpr ⟨lw_p20, List.forall_mem_cons.mpr ⟨lw_p21, List.forall_mem_cons.mpr ⟨lw_p22, List.forall_mem_cons.mpr ⟨lw_p23, List.forall_mem_cons.mpr ⟨lw_p24, List.forall_mem_cons.mpr ⟨lw_p25, List.forall_mem_cons.mpr ⟨lw_p26, List.forall_mem_cons.mpr ⟨lw_p27, List.forall_mem_cons.mpr ⟨lw_p28, List.forall_mem_cons.mpr ⟨lw_p29, List.forall_mem_cons.mpr ⟨lw_p30, List.forall_mem_cons.mpr ⟨lw_p31, fun _ h => absurd h List.not_mem_nil⟩⟩⟩⟩⟩⟩⟩⟩⟩⟩⟩⟩⟩⟩⟩⟩
theorem lw_p32 : lw_okq (⟨"StagedParsers$Machine", "stops", "(I)Z"⟩, 14) := ⟨⟨by decide +kernel, by decide +kernel⟩, List.mem_of_getElem? (i := 124) (by decide +kernel), List.mem_of_getElem? (i := 702) (by decide +kernel), List.mem_of_getElem? (i := 703) (by decide +kernel)⟩
theorem lw_p33 : lw_okq (⟨"StagedParsers$Machine", "goOnFromGuard", "()V"⟩, 14) := ⟨⟨by decide +kernel, by decide +kernel⟩, List.mem_of_getElem? (i := 124) (by decide +kernel), List.mem_of_getElem? (i := 714) (by decide +kernel), List.mem_of_getElem? (i := 715) (by decide +kernel)⟩
theorem lw_p34 : lw_okq (⟨"StagedParsers$Machine", "dropFrame", "()V"⟩, 14) := ⟨⟨by decide +kernel, by decide +kernel⟩, List.mem_of_getElem? (i := 124) (by decide +kernel), List.mem_of_getElem? (i := 733) (by decide +kernel), List.mem_of_getElem? (i := 734) (by decide +kernel)⟩
theorem lw_p35 : lw_okq (⟨"StagedParsers$Machine", "goBack", "()V"⟩, 14) := ⟨⟨by decide +kernel, by decide +kernel⟩, List.mem_of_getElem? (i := 124) (by decide +kernel), List.mem_of_getElem? (i := 737) (by decide +kernel), List.mem_of_getElem? (i := 738) (by decide +kernel)⟩
theorem lw_p36 : lw_okq (⟨"StagedParsers$Machine", "joinLastTwo", "(I)I"⟩, 14) := ⟨⟨by decide +kernel, by decide +kernel⟩, List.mem_of_getElem? (i := 124) (by decide +kernel), List.mem_of_getElem? (i := 741) (by decide +kernel), List.mem_of_getElem? (i := 742) (by decide +kernel)⟩
theorem lw_p37 : lw_okq (⟨"StagedParsers$Machine", "withdraw", "()I"⟩, 14) := ⟨⟨by decide +kernel, by decide +kernel⟩, List.mem_of_getElem? (i := 124) (by decide +kernel), List.mem_of_getElem? (i := 745) (by decide +kernel), List.mem_of_getElem? (i := 746) (by decide +kernel)⟩
theorem lw_p38 : lw_okq (⟨"StagedParsers$Machine", "linkLastThree", "()I"⟩, 14) := ⟨⟨by decide +kernel, by decide +kernel⟩, List.mem_of_getElem? (i := 124) (by decide +kernel), List.mem_of_getElem? (i := 757) (by decide +kernel), List.mem_of_getElem? (i := 758) (by decide +kernel)⟩
theorem lw_p39 : lw_okq (⟨"StagedParsers$Machine", "store", "(II)V"⟩, 14) := ⟨⟨by decide +kernel, by decide +kernel⟩, List.mem_of_getElem? (i := 124) (by decide +kernel), List.mem_of_getElem? (i := 768) (by decide +kernel), List.mem_of_getElem? (i := 769) (by decide +kernel)⟩
theorem lw_p40 : lw_okq (⟨"StagedParsersModel", "fits", "(IIII)Z"⟩, 34) := ⟨⟨by decide +kernel, by decide +kernel⟩, List.mem_of_getElem? (i := 806) (by decide +kernel), List.mem_of_getElem? (i := 923) (by decide +kernel), List.mem_of_getElem? (i := 924) (by decide +kernel)⟩
theorem lw_p41 : lw_okq (⟨"StagedParsersModel", "isNode", "(I)Z"⟩, 34) := ⟨⟨by decide +kernel, by decide +kernel⟩, List.mem_of_getElem? (i := 806) (by decide +kernel), List.mem_of_getElem? (i := 930) (by decide +kernel), List.mem_of_getElem? (i := 931) (by decide +kernel)⟩
theorem lw_p42 : lw_okq (⟨"StagedParsersModel", "height", "(III)I"⟩, 34) := ⟨⟨by decide +kernel, by decide +kernel⟩, List.mem_of_getElem? (i := 806) (by decide +kernel), List.mem_of_getElem? (i := 940) (by decide +kernel), List.mem_of_getElem? (i := 941) (by decide +kernel)⟩
theorem lw_p43 : lw_okq (⟨"StagedParsersModel", "fails", "(I)I"⟩, 34) := ⟨⟨by decide +kernel, by decide +kernel⟩, List.mem_of_getElem? (i := 806) (by decide +kernel), List.mem_of_getElem? (i := 944) (by decide +kernel), List.mem_of_getElem? (i := 945) (by decide +kernel)⟩
theorem lw_p44 : lw_okq (⟨"StagedParsersModel", "bodied", "()I"⟩, 34) := ⟨⟨by decide +kernel, by decide +kernel⟩, List.mem_of_getElem? (i := 806) (by decide +kernel), List.mem_of_getElem? (i := 952) (by decide +kernel), List.mem_of_getElem? (i := 953) (by decide +kernel)⟩
theorem lw_p45 : lw_okq (⟨"StagedParsersModel", "findEmpty", "()V"⟩, 34) := ⟨⟨by decide +kernel, by decide +kernel⟩, List.mem_of_getElem? (i := 806) (by decide +kernel), List.mem_of_getElem? (i := 960) (by decide +kernel), List.mem_of_getElem? (i := 961) (by decide +kernel)⟩
theorem lw_p46 : lw_okq (⟨"StagedParsersModel", "emptyNow", "(I)Z"⟩, 34) := ⟨⟨by decide +kernel, by decide +kernel⟩, List.mem_of_getElem? (i := 806) (by decide +kernel), List.mem_of_getElem? (i := 964) (by decide +kernel), List.mem_of_getElem? (i := 965) (by decide +kernel)⟩
theorem lw_p47 : lw_okq (⟨"StagedParsersModel", "findBeginning", "(I)V"⟩, 34) := ⟨⟨by decide +kernel, by decide +kernel⟩, List.mem_of_getElem? (i := 806) (by decide +kernel), List.mem_of_getElem? (i := 972) (by decide +kernel), List.mem_of_getElem? (i := 973) (by decide +kernel)⟩
def lw_privs_3 : List (MethodName × Nat) := [(⟨"StagedParsers$Machine", "stops", "(I)Z"⟩, 14), (⟨"StagedParsers$Machine", "goOnFromGuard", "()V"⟩, 14), (⟨"StagedParsers$Machine", "dropFrame", "()V"⟩, 14), (⟨"StagedParsers$Machine", "goBack", "()V"⟩, 14), (⟨"StagedParsers$Machine", "joinLastTwo", "(I)I"⟩, 14), (⟨"StagedParsers$Machine", "withdraw", "()I"⟩, 14), (⟨"StagedParsers$Machine", "linkLastThree", "()I"⟩, 14), (⟨"StagedParsers$Machine", "store", "(II)V"⟩, 14), (⟨"StagedParsersModel", "fits", "(IIII)Z"⟩, 34), (⟨"StagedParsersModel", "isNode", "(I)Z"⟩, 34), (⟨"StagedParsersModel", "height", "(III)I"⟩, 34), (⟨"StagedParsersModel", "fails", "(I)I"⟩, 34), (⟨"StagedParsersModel", "bodied", "()I"⟩, 34), (⟨"StagedParsersModel", "findEmpty", "()V"⟩, 34), (⟨"StagedParsersModel", "emptyNow", "(I)Z"⟩, 34), (⟨"StagedParsersModel", "findBeginning", "(I)V"⟩, 34)]
theorem lw_r3 : ∀ q ∈ lw_privs_3, lw_okq q := List.forall_mem_cons.mpr ⟨lw_p32, List.forall_mem_cons.mpr ⟨lw_p33, List.forall_mem_cons.mpr ⟨lw_p34, List.forall_mem_cons.mpr ⟨lw_p35, List.forall_mem_cons.mpr ⟨lw_p36, List.forall_mem_cons.mpr ⟨lw_p37, List.forall_mem_cons.mpr ⟨lw_p38, List.forall_mem_cons.mpr ⟨lw_p39, List.forall_mem_cons.mpr ⟨lw_p40, List.forall_mem_cons.mpr ⟨lw_p41, List.forall_mem_cons.mpr ⟨lw_p42, List.forall_mem_cons.mpr ⟨lw_p43, List.forall_mem_cons.mpr ⟨lw_p44, List.forall_mem_cons.mpr ⟨lw_p45, List.forall_mem_cons.mpr ⟨lw_p46, List.forall_mem_cons.mpr ⟨lw_p47, fun _ h => absurd h List.not_mem_nil⟩⟩⟩⟩⟩⟩⟩⟩⟩⟩⟩⟩⟩⟩⟩⟩
theorem lw_p48 : lw_okq (⟨"StagedParsersModel", "beginsNow", "(II)Z"⟩, 34) := ⟨⟨by decide +kernel, by decide +kernel⟩, List.mem_of_getElem? (i := 806) (by decide +kernel), List.mem_of_getElem? (i := 976) (by decide +kernel), List.mem_of_getElem? (i := 977) (by decide +kernel)⟩
theorem lw_p49 : lw_okq (⟨"StagedParsersModel", "allLeads", "(I)I"⟩, 34) := ⟨⟨by decide +kernel, by decide +kernel⟩, List.mem_of_getElem? (i := 806) (by decide +kernel), List.mem_of_getElem? (i := 984) (by decide +kernel), List.mem_of_getElem? (i := 985) (by decide +kernel)⟩
theorem lw_p50 : lw_okq (⟨"StagedParsersModel", "leadsNow", "(I)I"⟩, 34) := ⟨⟨by decide +kernel, by decide +kernel⟩, List.mem_of_getElem? (i := 806) (by decide +kernel), List.mem_of_getElem? (i := 988) (by decide +kernel), List.mem_of_getElem? (i := 989) (by decide +kernel)⟩
theorem lw_p51 : lw_okq (⟨"StagedParsersModel", "fault", "()I"⟩, 34) := ⟨⟨by decide +kernel, by decide +kernel⟩, List.mem_of_getElem? (i := 806) (by decide +kernel), List.mem_of_getElem? (i := 996) (by decide +kernel), List.mem_of_getElem? (i := 997) (by decide +kernel)⟩
theorem lw_p52 : lw_okq (⟨"StagedParsersModel", "findWithin", "()V"⟩, 34) := ⟨⟨by decide +kernel, by decide +kernel⟩, List.mem_of_getElem? (i := 806) (by decide +kernel), List.mem_of_getElem? (i := 1000) (by decide +kernel), List.mem_of_getElem? (i := 1001) (by decide +kernel)⟩
theorem lw_p53 : lw_okq (⟨"StagedParsersModel", "isRound", "(I)Z"⟩, 34) := ⟨⟨by decide +kernel, by decide +kernel⟩, List.mem_of_getElem? (i := 806) (by decide +kernel), List.mem_of_getElem? (i := 1004) (by decide +kernel), List.mem_of_getElem? (i := 1005) (by decide +kernel)⟩
theorem lw_p54 : lw_okq (⟨"StagedParsersModel", "run", "(I)V"⟩, 34) := ⟨⟨by decide +kernel, by decide +kernel⟩, List.mem_of_getElem? (i := 806) (by decide +kernel), List.mem_of_getElem? (i := 1020) (by decide +kernel), List.mem_of_getElem? (i := 1021) (by decide +kernel)⟩
theorem lw_p55 : lw_okq (⟨"StagedParsersModel", "enter", "(I)V"⟩, 34) := ⟨⟨by decide +kernel, by decide +kernel⟩, List.mem_of_getElem? (i := 806) (by decide +kernel), List.mem_of_getElem? (i := 1024) (by decide +kernel), List.mem_of_getElem? (i := 1025) (by decide +kernel)⟩
theorem lw_p56 : lw_okq (⟨"StagedParsersModel", "begin", "(I)V"⟩, 34) := ⟨⟨by decide +kernel, by decide +kernel⟩, List.mem_of_getElem? (i := 806) (by decide +kernel), List.mem_of_getElem? (i := 1028) (by decide +kernel), List.mem_of_getElem? (i := 1029) (by decide +kernel)⟩
theorem lw_p57 : lw_okq (⟨"StagedParsersModel", "succeed", "(I)V"⟩, 34) := ⟨⟨by decide +kernel, by decide +kernel⟩, List.mem_of_getElem? (i := 806) (by decide +kernel), List.mem_of_getElem? (i := 1032) (by decide +kernel), List.mem_of_getElem? (i := 1033) (by decide +kernel)⟩
theorem lw_p58 : lw_okq (⟨"StagedParsersModel", "looked", "(II)V"⟩, 34) := ⟨⟨by decide +kernel, by decide +kernel⟩, List.mem_of_getElem? (i := 806) (by decide +kernel), List.mem_of_getElem? (i := 1036) (by decide +kernel), List.mem_of_getElem? (i := 1037) (by decide +kernel)⟩
theorem lw_p59 : lw_okq (⟨"StagedParsersModel", "fail", "()V"⟩, 34) := ⟨⟨by decide +kernel, by decide +kernel⟩, List.mem_of_getElem? (i := 806) (by decide +kernel), List.mem_of_getElem? (i := 1040) (by decide +kernel), List.mem_of_getElem? (i := 1041) (by decide +kernel)⟩
theorem lw_p60 : lw_okq (⟨"StagedParsersModel", "goOn", "(I)V"⟩, 34) := ⟨⟨by decide +kernel, by decide +kernel⟩, List.mem_of_getElem? (i := 806) (by decide +kernel), List.mem_of_getElem? (i := 1044) (by decide +kernel), List.mem_of_getElem? (i := 1045) (by decide +kernel)⟩
theorem lw_p61 : lw_okq (⟨"StagedParsersModel", "then", "(I)V"⟩, 34) := ⟨⟨by decide +kernel, by decide +kernel⟩, List.mem_of_getElem? (i := 806) (by decide +kernel), List.mem_of_getElem? (i := 1048) (by decide +kernel), List.mem_of_getElem? (i := 1049) (by decide +kernel)⟩
theorem lw_p62 : lw_okq (⟨"StagedParsersModel", "many", "(I)V"⟩, 34) := ⟨⟨by decide +kernel, by decide +kernel⟩, List.mem_of_getElem? (i := 806) (by decide +kernel), List.mem_of_getElem? (i := 1055) (by decide +kernel), List.mem_of_getElem? (i := 1056) (by decide +kernel)⟩
theorem lw_p63 : lw_okq (⟨"StagedParsersModel", "ends", "(I)V"⟩, 34) := ⟨⟨by decide +kernel, by decide +kernel⟩, List.mem_of_getElem? (i := 806) (by decide +kernel), List.mem_of_getElem? (i := 1059) (by decide +kernel), List.mem_of_getElem? (i := 1060) (by decide +kernel)⟩
def lw_privs_4 : List (MethodName × Nat) := [(⟨"StagedParsersModel", "beginsNow", "(II)Z"⟩, 34), (⟨"StagedParsersModel", "allLeads", "(I)I"⟩, 34), (⟨"StagedParsersModel", "leadsNow", "(I)I"⟩, 34), (⟨"StagedParsersModel", "fault", "()I"⟩, 34), (⟨"StagedParsersModel", "findWithin", "()V"⟩, 34), (⟨"StagedParsersModel", "isRound", "(I)Z"⟩, 34), (⟨"StagedParsersModel", "run", "(I)V"⟩, 34), (⟨"StagedParsersModel", "enter", "(I)V"⟩, 34), (⟨"StagedParsersModel", "begin", "(I)V"⟩, 34), (⟨"StagedParsersModel", "succeed", "(I)V"⟩, 34), (⟨"StagedParsersModel", "looked", "(II)V"⟩, 34), (⟨"StagedParsersModel", "fail", "()V"⟩, 34), (⟨"StagedParsersModel", "goOn", "(I)V"⟩, 34), (⟨"StagedParsersModel", "then", "(I)V"⟩, 34), (⟨"StagedParsersModel", "many", "(I)V"⟩, 34), (⟨"StagedParsersModel", "ends", "(I)V"⟩, 34)]
theorem lw_r4 : ∀ q ∈ lw_privs_4, lw_okq q := List.forall_mem_cons.mpr ⟨lw_p48, List.forall_mem_cons.mpr ⟨lw_p49, List.forall_mem_cons.mpr ⟨lw_p50, List.forall_mem_cons.mpr ⟨lw_p51, List.forall_mem_cons.mpr ⟨lw_p52, List.forall_mem_cons.mpr ⟨lw_p53, List.forall_mem_cons.mpr ⟨lw_p54, List.forall_mem_cons.mpr ⟨lw_p55, List.forall_mem_cons.mpr ⟨lw_p56, List.forall_mem_cons.mpr ⟨lw_p57, List.forall_mem_cons.mpr ⟨lw_p58, List.forall_mem_cons.mpr ⟨lw_p59, List.forall_mem_cons.mpr ⟨lw_p60, List.forall_mem_cons.mpr ⟨lw_p61, List.forall_mem_cons.mpr ⟨lw_p62, List.forall_mem_cons.mpr ⟨lw_p63, fun _ h => absurd h List.not_mem_nil⟩⟩⟩⟩⟩⟩⟩⟩⟩⟩⟩⟩⟩⟩⟩⟩
theorem lw_p64 : lw_okq (⟨"StagedParsersModel", "chain", "(I)V"⟩, 34) := ⟨⟨by decide +kernel, by decide +kernel⟩, List.mem_of_getElem? (i := 806) (by decide +kernel), List.mem_of_getElem? (i := 1063) (by decide +kernel), List.mem_of_getElem? (i := 1064) (by decide +kernel)⟩
def lw_privs_5 : List (MethodName × Nat) := [(⟨"StagedParsersModel", "chain", "(I)V"⟩, 34)]
theorem lw_r5 : ∀ q ∈ lw_privs_5, lw_okq q := List.forall_mem_cons.mpr ⟨lw_p64, fun _ h => absurd h List.not_mem_nil⟩
def lw_privs : List (MethodName × Nat) := lw_privs_1 ++ (lw_privs_2 ++ (lw_privs_3 ++ (lw_privs_4 ++ (lw_privs_5))))
def lw_tbl : List Cond := k2_sels lw_privs ++ tables_1
theorem lw_privs_ok : ∀ q ∈ lw_privs, lw_okq q := by
  show ∀ q ∈ lw_privs_1 ++ (lw_privs_2 ++ (lw_privs_3 ++ (lw_privs_4 ++ (lw_privs_5)))), lw_okq q
  exact List.forall_mem_append.mpr ⟨lw_r1, List.forall_mem_append.mpr ⟨lw_r2, List.forall_mem_append.mpr ⟨lw_r3, List.forall_mem_append.mpr ⟨lw_r4, lw_r5⟩⟩⟩⟩
end
section
/-! small words for methods told as functions: a place in range, a named value, what a call answers -/
section MZB
abbrev MZ_ : Type := Nat → Nat → Int32
def gd_ {α : Type} (i : Int32) (n : Nat) (k : Option α) : Option α := if i < 0 ∨ n ≤ i.toNatClampNeg then none else k
theorem gd_some {α : Type} {i : Int32} {n : Nat} {k : Option α} {r : α} (h : gd_ i n k = some r) : vp_in i n ∧ k = some r := by
  unfold gd_ at h
  split at h
  · cases h
  · next hn => exact ⟨hn, h⟩
theorem gd_in {α : Type} {i : Int32} {n : Nat} {k : Option α} (h : vp_in i n) : gd_ i n k = k := by
  unfold gd_
  exact if_neg h
def st_ {α β : Type} (e : β) (k : β → Option α) : Option α := k e
theorem st_some {α β : Type} {e : β} {k : β → Option α} {r : α} (h : st_ e k = some r) : ∃ x, x = e ∧ k x = some r := ⟨e, rfl, h⟩
theorem bd_some {α β : Type} {o : Option β} {k : β → Option α} {r : α} (h : o.bind k = some r) : ∃ x, o = some x ∧ k x = some r := by
  cases o with
  | none => cases h
  | some x => exact ⟨x, rfl, h⟩
def bo_ {α : Type} (v : Int32) (k : Option α) : Option α := if v = 0 ∨ v = 1 then k else none
theorem bo_some {α : Type} {v : Int32} {k : Option α} {r : α} (h : bo_ v k = some r) : (v = 0 ∨ v = 1) ∧ k = some r := by
  unfold bo_ at h
  split at h
  · next hn => exact ⟨hn, h⟩
  · cases h
theorem bo_nar {v : Int32} (h : v = 0 ∨ v = 1) : narrow .boolean (.int v) = .int v := by rcases h with rfl | rfl <;> rfl
theorem if_t {α : Type} {c : Prop} [Decidable c] {x y : Option α} {r : α} (hc : c) (h : (if c then x else y) = some r) : x = some r := by rw [if_pos hc] at h; exact h
theorem if_f {α : Type} {c : Prop} [Decidable c] {x y : Option α} {r : α} (hc : ¬ c) (h : (if c then x else y) = some r) : y = some r := by rw [if_neg hc] at h; exact h
end MZB
section MZC
variable {p : Program} {l : Launch} {e : Env} {R : Room} {s : State} {m : MethodId} {args : Array Value} {below : List Frame} {meth : Method} {c : Code} {H : Heap} {locs : List Loc} {cells slots : Nat} {Q : State → Prop}
variable {pc : Nat} {ls : Array Slot} {rest st0 : List Value} {a : Array Value}
/-- a call that only reads -/
theorem cx_read {r : Int32} (hr : va_Run p l e R s m args below meth c H locs cells slots 0 0 (F0 m pc ls st0) rest (QcRead r a) (fun _ => False)) (kk : W p l e R s m args below meth c H locs cells slots Q (F0 m (pc + 3) ls (.int r :: rest))) : W p l e R s m args below meth c H locs cells slots Q (F0 m pc ls st0) := by
  intro T hT X
  obtain ⟨v, st₀, t, T', L, h0, X', hL, e1, e2, ⟨hv, hh⟩, st⟩ := hr T hT X
  cases hv
  have hLn : L = [] := by
    cases L with
    | nil => rfl
    | cons q L => exact (hL q List.mem_cons_self).elim
  subst hLn
  rw [List.append_nil] at X'
  obtain ⟨t2, a1, b1⟩ := kk T' (by rw [e1, hh, h0]) X'
  exact ⟨t2, st t2 a1, b1⟩
/-- a call that writes: what it says of the end -/
def QW_ (rv : Option Value) (B : Heap → Prop) (A : Nat → Prop) : Array Value → State → Outcome → State → Prop := fun _ st oc t => oc = .returned rv ∧ B t.heap ∧ va_F A st t
theorem cx_wr {rv : Option Value} {B : Heap → Prop} {A A0 : Nat → Prop} {H0 : Heap} (hr : va_Run p l e R s m args below meth c H locs cells slots 0 0 (F0 m pc ls st0) rest (QW_ rv B A a) A) (hS : va_S A0 H0 H locs) (hA : ∀ q, A q → A0 q)
    (kk : ∀ (H1 : Heap) (locs1 : List Loc), B H1 → va_F A { s with heap := H } { s with heap := H1 } → va_S A0 H0 H1 locs1 → W p l e R s m args below meth c H1 locs1 cells slots Q (F0 m (pc + 3) ls (rv.toList ++ rest))) : W p l e R s m args below meth c H locs cells slots Q (F0 m pc ls st0) := by
  intro T hT X
  obtain ⟨v, st₀, t, T', L, h0, X', hL, e1, e2, ⟨hv, hB, hz, hk⟩, st⟩ := hr T hT X
  cases hv
  rw [h0] at hz hk
  obtain ⟨t2, a1, b1⟩ := kk T'.heap (locs ++ L) (by rw [e1]; exact hB) ⟨by rw [e1]; exact hz, fun q h1 h2 => by show T'.heap[q]? = H[q]?; rw [e1]; exact hk q h1 h2⟩
    ⟨Nat.le_trans hS.1 (by rw [e1]; exact hz), fun q h1 h2 => by rw [e1, hk q (Nat.lt_of_lt_of_le h1 hS.1) (fun z => h2 (hA q z))]; exact hS.2.1 q h1 h2, fun q hq => by
      rcases List.mem_append.mp hq with h | h
      · exact hS.2.2 q h
      · exact hA _ (hL q h)⟩ T' rfl X'
  exact ⟨t2, st t2 a1, b1⟩
end MZC
/-! the tables' words that may be handed on to a callee -/
section AWW
def AW_ : List Cond := lw_tbl.filter goodWord
theorem aw_t {w : Cond} (h : w ∈ tables_1) (hg : goodWord w = true) : w ∈ AW_ := List.mem_filter.mpr ⟨List.mem_append_right _ h, hg⟩
theorem aw_1 {w : Cond} (i : Nat) (h : tables_1_1[i]? = some w) (hg : goodWord w = true) : w ∈ AW_ := aw_t (List.mem_append_left _ (List.mem_of_getElem? h)) hg
theorem aw_2 {w : Cond} (i : Nat) (h : tables_1_2[i]? = some w) (hg : goodWord w = true) : w ∈ AW_ := aw_t (List.mem_append_right _ (List.mem_append_left _ (List.mem_of_getElem? h))) hg
theorem aw_3 {w : Cond} (i : Nat) (h : tables_1_3[i]? = some w) (hg : goodWord w = true) : w ∈ AW_ := aw_t (List.mem_append_right _ (List.mem_append_right _ (List.mem_append_left _ (List.mem_of_getElem? h)))) hg
theorem aw_4 {w : Cond} (i : Nat) (h : tables_1_4[i]? = some w) (hg : goodWord w = true) : w ∈ AW_ := aw_t (List.mem_append_right _ (List.mem_append_right _ (List.mem_append_right _ (List.mem_append_left _ (List.mem_of_getElem? h))))) hg
theorem aw_5 {w : Cond} (i : Nat) (h : tables_1_5[i]? = some w) (hg : goodWord w = true) : w ∈ AW_ := aw_t (List.mem_append_right _ (List.mem_append_right _ (List.mem_append_right _ (List.mem_append_right _ (List.mem_of_getElem? h))))) hg
theorem aw_sel {q : MethodName × Nat} (i : Nat) (h : lw_privs[i]? = some q) : Cond.selects q.1.cls q.1 q.1 ∈ AW_ := List.mem_filter.mpr ⟨List.mem_append_left _ (List.mem_map.mpr ⟨q, List.mem_of_getElem? h, rfl⟩), rfl⟩
theorem aw_in {y : MethodName} {bs : ByteArray} {n : Nat} {r : Option FieldType} (h : Cond.code y bs n r ∈ AW_) : GoodIn AW_ (Cond.code y bs n r :: AW_) := by
  intro w hw
  have hm : w ∈ AW_ := by
    rcases List.mem_cons.mp hw with rfl | hw
    · exact h
    · exact hw
  exact ⟨hm, good_of_word (List.mem_filter.mp hm).2⟩
end AWW
end
section
/-! words by their places -/
theorem kw_1 : ((.initialized "StagedParsers") : Cond) ∈ AW_ := aw_1 1 rfl rfl
theorem kw_2 : ((.initialized "StagedParsers$Grammar") : Cond) ∈ AW_ := aw_1 2 rfl rfl
theorem kw_15 : ((.initialized "java/lang/Math") : Cond) ∈ AW_ := aw_1 15 rfl rfl
theorem kw_35 : ((.fieldLink "StagedParsers$Grammar" 9 "StagedParsers$Grammar" "kinds" "[I") : Cond) ∈ AW_ := aw_1 35 rfl rfl
theorem kw_36 : ((.fieldLink "StagedParsers$Grammar" 15 "StagedParsers$Grammar" "as" "[I") : Cond) ∈ AW_ := aw_1 36 rfl rfl
theorem kw_37 : ((.fieldLink "StagedParsers$Grammar" 18 "StagedParsers$Grammar" "bs" "[I") : Cond) ∈ AW_ := aw_1 37 rfl rfl
theorem kw_38 : ((.fieldLink "StagedParsers$Grammar" 21 "StagedParsers$Grammar" "cs" "[I") : Cond) ∈ AW_ := aw_1 38 rfl rfl
theorem kw_39 : ((.fieldLink "StagedParsers$Grammar" 24 "StagedParsers$Grammar" "heights" "[I") : Cond) ∈ AW_ := aw_1 39 rfl rfl
theorem kw_40 : ((.fieldLink "StagedParsers$Grammar" 27 "StagedParsers$Grammar" "bodyOf" "[I") : Cond) ∈ AW_ := aw_1 40 rfl rfl
theorem kw_41 : ((.fieldLink "StagedParsers$Grammar" 36 "StagedParsers$Grammar" "size" "I") : Cond) ∈ AW_ := aw_1 41 rfl rfl
theorem kw_42 : ((.laysFinal "StagedParsers$Grammar" "StagedParsers$Grammar" "kinds" "[I") : Cond) ∈ AW_ := aw_1 42 rfl rfl
theorem kw_44 : ((.laysFinal "StagedParsers$Grammar" "StagedParsers$Grammar" "as" "[I") : Cond) ∈ AW_ := aw_1 44 rfl rfl
theorem kw_46 : ((.laysFinal "StagedParsers$Grammar" "StagedParsers$Grammar" "bs" "[I") : Cond) ∈ AW_ := aw_1 46 rfl rfl
theorem kw_48 : ((.laysFinal "StagedParsers$Grammar" "StagedParsers$Grammar" "cs" "[I") : Cond) ∈ AW_ := aw_1 48 rfl rfl
theorem kw_50 : ((.laysFinal "StagedParsers$Grammar" "StagedParsers$Grammar" "heights" "[I") : Cond) ∈ AW_ := aw_1 50 rfl rfl
theorem kw_52 : ((.laysFinal "StagedParsers$Grammar" "StagedParsers$Grammar" "bodyOf" "[I") : Cond) ∈ AW_ := aw_1 52 rfl rfl
theorem kw_54 : ((.lays "StagedParsers$Grammar" "StagedParsers$Grammar" "size" "I") : Cond) ∈ AW_ := aw_1 54 rfl rfl
theorem kw_70 : ((.laysFinal "StagedParsers$Study" "StagedParsers$Study" "grammar" "LStagedParsers$Grammar;") : Cond) ∈ AW_ := aw_1 70 rfl rfl
theorem kw_72 : ((.laysFinal "StagedParsers$Study" "StagedParsers$Study" "emptyNodes" "[Z") : Cond) ∈ AW_ := aw_1 72 rfl rfl
theorem kw_74 : ((.laysFinal "StagedParsers$Study" "StagedParsers$Study" "beginners" "[Z") : Cond) ∈ AW_ := aw_1 74 rfl rfl
theorem kw_76 : ((.laysFinal "StagedParsers$Study" "StagedParsers$Study" "inBodies" "[Z") : Cond) ∈ AW_ := aw_1 76 rfl rfl
theorem kw_78 : ((.laysFinal "StagedParsers$Study" "StagedParsers$Study" "nodeLeads" "[I") : Cond) ∈ AW_ := aw_1 78 rfl rfl
theorem kw_80 : ((.laysFinal "StagedParsers$Study" "StagedParsers$Study" "ruleLeads" "[I") : Cond) ∈ AW_ := aw_1 80 rfl rfl
theorem kw_96 : ((.laysFinal "StagedParsers$Code" "StagedParsers$Code" "operations" "[I") : Cond) ∈ AW_ := aw_1 96 rfl rfl
theorem kw_98 : ((.laysFinal "StagedParsers$Code" "StagedParsers$Code" "ps" "[I") : Cond) ∈ AW_ := aw_1 98 rfl rfl
theorem kw_100 : ((.laysFinal "StagedParsers$Code" "StagedParsers$Code" "qs" "[I") : Cond) ∈ AW_ := aw_1 100 rfl rfl
theorem kw_102 : ((.laysFinal "StagedParsers$Code" "StagedParsers$Code" "pieceOf" "[I") : Cond) ∈ AW_ := aw_1 102 rfl rfl
theorem kw_104 : ((.laysFinal "StagedParsers$Code" "StagedParsers$Code" "entryOf" "[I") : Cond) ∈ AW_ := aw_1 104 rfl rfl
theorem kw_106 : ((.lays "StagedParsers$Code" "StagedParsers$Code" "size" "I") : Cond) ∈ AW_ := aw_1 106 rfl rfl
theorem kw_115 : ((.fieldLink "StagedParsers$Text" 9 "StagedParsers$Text" "signs" "[C") : Cond) ∈ AW_ := aw_1 115 rfl rfl
theorem kw_116 : ((.fieldLink "StagedParsers$Text" 15 "StagedParsers$Text" "size" "I") : Cond) ∈ AW_ := aw_1 116 rfl rfl
theorem kw_117 : ((.laysFinal "StagedParsers$Text" "StagedParsers$Text" "signs" "[C") : Cond) ∈ AW_ := aw_1 117 rfl rfl
theorem kw_119 : ((.lays "StagedParsers$Text" "StagedParsers$Text" "size" "I") : Cond) ∈ AW_ := aw_1 119 rfl rfl
theorem kw_135 : ((.fieldLink "StagedParsers$Frames" 9 "StagedParsers$Frames" "manners" "[I") : Cond) ∈ AW_ := aw_1 135 rfl rfl
theorem kw_136 : ((.fieldLink "StagedParsers$Frames" 15 "StagedParsers$Frames" "targets" "[I") : Cond) ∈ AW_ := aw_1 136 rfl rfl
theorem kw_137 : ((.fieldLink "StagedParsers$Frames" 18 "StagedParsers$Frames" "places" "[I") : Cond) ∈ AW_ := aw_1 137 rfl rfl
theorem kw_138 : ((.fieldLink "StagedParsers$Frames" 21 "StagedParsers$Frames" "heights" "[I") : Cond) ∈ AW_ := aw_1 138 rfl rfl
theorem kw_139 : ((.fieldLink "StagedParsers$Frames" 24 "StagedParsers$Frames" "size" "I") : Cond) ∈ AW_ := aw_1 139 rfl rfl
theorem kw_140 : ((.laysFinal "StagedParsers$Frames" "StagedParsers$Frames" "manners" "[I") : Cond) ∈ AW_ := aw_1 140 rfl rfl
theorem kw_142 : ((.laysFinal "StagedParsers$Frames" "StagedParsers$Frames" "targets" "[I") : Cond) ∈ AW_ := aw_1 142 rfl rfl
theorem kw_144 : ((.laysFinal "StagedParsers$Frames" "StagedParsers$Frames" "places" "[I") : Cond) ∈ AW_ := aw_1 144 rfl rfl
theorem kw_146 : ((.laysFinal "StagedParsers$Frames" "StagedParsers$Frames" "heights" "[I") : Cond) ∈ AW_ := aw_1 146 rfl rfl
theorem kw_148 : ((.lays "StagedParsers$Frames" "StagedParsers$Frames" "size" "I") : Cond) ∈ AW_ := aw_1 148 rfl rfl
theorem kw_165 : ((.laysFinal "StagedParsers$Machine" "StagedParsers$Machine" "code" "LStagedParsers$Code;") : Cond) ∈ AW_ := aw_1 165 rfl rfl
theorem kw_167 : ((.laysFinal "StagedParsers$Machine" "StagedParsers$Machine" "text" "LStagedParsers$Text;") : Cond) ∈ AW_ := aw_1 167 rfl rfl
theorem kw_169 : ((.laysFinal "StagedParsers$Machine" "StagedParsers$Machine" "frames" "LStagedParsers$Frames;") : Cond) ∈ AW_ := aw_1 169 rfl rfl
theorem kw_171 : ((.laysFinal "StagedParsers$Machine" "StagedParsers$Machine" "answers" "[I") : Cond) ∈ AW_ := aw_1 171 rfl rfl
theorem kw_173 : ((.laysFinal "StagedParsers$Machine" "StagedParsers$Machine" "registers" "[I") : Cond) ∈ AW_ := aw_1 173 rfl rfl
theorem kw_175 : ((.lays "StagedParsers$Machine" "StagedParsers$Machine" "answerCount" "I") : Cond) ∈ AW_ := aw_1 175 rfl rfl
theorem kw_177 : ((.lays "StagedParsers$Machine" "StagedParsers$Machine" "state" "I") : Cond) ∈ AW_ := aw_1 177 rfl rfl
theorem kw_179 : ((.lays "StagedParsers$Machine" "StagedParsers$Machine" "next" "I") : Cond) ∈ AW_ := aw_1 179 rfl rfl
theorem kw_181 : ((.lays "StagedParsers$Machine" "StagedParsers$Machine" "place" "I") : Cond) ∈ AW_ := aw_1 181 rfl rfl
theorem kw_183 : ((.lays "StagedParsers$Machine" "StagedParsers$Machine" "looks" "I") : Cond) ∈ AW_ := aw_1 183 rfl rfl
theorem kw_185 : ((.lays "StagedParsers$Machine" "StagedParsers$Machine" "far" "I") : Cond) ∈ AW_ := aw_1 185 rfl rfl
theorem kw_187 : ((.lays "StagedParsers$Machine" "StagedParsers$Machine" "bodies" "I") : Cond) ∈ AW_ := aw_1 187 rfl rfl
theorem kw_189 : ((.lays "StagedParsers$Machine" "StagedParsers$Machine" "depth" "I") : Cond) ∈ AW_ := aw_1 189 rfl rfl
theorem kw_191 : ((.lays "StagedParsers$Machine" "StagedParsers$Machine" "ran" "Z") : Cond) ∈ AW_ := aw_1 191 rfl rfl
theorem kw_200 : ((.laysFinal "StagedParsers" "StagedParsers" "grammar" "LStagedParsers$Grammar;") : Cond) ∈ AW_ := aw_1 200 rfl rfl
theorem kw_202 : ((.laysFinal "StagedParsers" "StagedParsers" "study" "LStagedParsers$Study;") : Cond) ∈ AW_ := aw_1 202 rfl rfl
theorem kw_204 : ((.laysFinal "StagedParsers" "StagedParsers" "code" "LStagedParsers$Code;") : Cond) ∈ AW_ := aw_1 204 rfl rfl
theorem kw_206 : ((.laysFinal "StagedParsers" "StagedParsers" "text" "LStagedParsers$Text;") : Cond) ∈ AW_ := aw_1 206 rfl rfl
theorem kw_208 : ((.laysFinal "StagedParsers" "StagedParsers" "machine" "LStagedParsers$Machine;") : Cond) ∈ AW_ := aw_1 208 rfl rfl
theorem kw_210 : ((.lays "StagedParsers" "StagedParsers" "staged" "Z") : Cond) ∈ AW_ := aw_1 210 rfl rfl
theorem kw_232 : ((.code ⟨"StagedParsers$Grammar", "body", "(I)I"⟩ prog_4_method_7_code 2 (some .int)) : Cond) ∈ AW_ := aw_1 232 rfl rfl
theorem kw_233 : ((.methodLink "StagedParsers$Grammar" 40 ⟨"StagedParsers$Grammar", "isRule", "(I)Z"⟩) : Cond) ∈ AW_ := aw_1 233 rfl rfl
theorem kw_234 : ((.instanceMethod ⟨"StagedParsers$Grammar", "isRule", "(I)Z"⟩) : Cond) ∈ AW_ := aw_1 234 rfl rfl
theorem kw_235 : ((.selects "StagedParsers$Grammar" ⟨"StagedParsers$Grammar", "isRule", "(I)Z"⟩ ⟨"StagedParsers$Grammar", "isRule", "(I)Z"⟩) : Cond) ∈ AW_ := aw_1 235 rfl rfl
theorem kw_236 : ((.code ⟨"StagedParsers$Grammar", "isRule", "(I)Z"⟩ prog_4_method_5_code 2 (some .boolean)) : Cond) ∈ AW_ := aw_1 236 rfl rfl
theorem kw_242 : ((.instanceMethod ⟨"StagedParsers$Grammar", "isNode", "(I)Z"⟩) : Cond) ∈ AW_ := aw_2 2 rfl rfl
theorem kw_243 : ((.selects "StagedParsers$Grammar" ⟨"StagedParsers$Grammar", "isNode", "(I)Z"⟩ ⟨"StagedParsers$Grammar", "isNode", "(I)Z"⟩) : Cond) ∈ AW_ := aw_2 3 rfl rfl
theorem kw_244 : ((.code ⟨"StagedParsers$Grammar", "isNode", "(I)Z"⟩ prog_4_method_4_code 2 (some .boolean)) : Cond) ∈ AW_ := aw_2 4 rfl rfl
theorem kw_248 : ((.code ⟨"StagedParsers$Grammar", "size", "()I"⟩ prog_4_method_2_code 1 (some .int)) : Cond) ∈ AW_ := aw_2 8 rfl rfl
theorem kw_254 : ((.code ⟨"StagedParsers$Grammar", "kind", "(I)I"⟩ prog_4_method_10_code 2 (some .int)) : Cond) ∈ AW_ := aw_2 14 rfl rfl
theorem kw_255 : ((.methodLink "StagedParsers$Grammar" 44 ⟨"StagedParsers$Grammar", "isNode", "(I)Z"⟩) : Cond) ∈ AW_ := aw_2 15 rfl rfl
theorem kw_259 : ((.code ⟨"StagedParsers$Grammar", "a", "(I)I"⟩ prog_4_method_11_code 2 (some .int)) : Cond) ∈ AW_ := aw_2 19 rfl rfl
theorem kw_263 : ((.code ⟨"StagedParsers$Grammar", "b", "(I)I"⟩ prog_4_method_12_code 2 (some .int)) : Cond) ∈ AW_ := aw_2 23 rfl rfl
theorem kw_293 : ((.instanceMethod ⟨"StagedParsers$Grammar", "hasBody", "(I)Z"⟩) : Cond) ∈ AW_ := aw_2 53 rfl rfl
theorem kw_294 : ((.selects "StagedParsers$Grammar" ⟨"StagedParsers$Grammar", "hasBody", "(I)Z"⟩ ⟨"StagedParsers$Grammar", "hasBody", "(I)Z"⟩) : Cond) ∈ AW_ := aw_2 54 rfl rfl
theorem kw_295 : ((.code ⟨"StagedParsers$Grammar", "hasBody", "(I)Z"⟩ prog_4_method_6_code 2 (some .boolean)) : Cond) ∈ AW_ := aw_2 55 rfl rfl
theorem kw_327 : ((.code ⟨"StagedParsers$Grammar", "c", "(I)I"⟩ prog_4_method_13_code 2 (some .int)) : Cond) ∈ AW_ := aw_2 87 rfl rfl
theorem kw_364 : ((.code ⟨"StagedParsers$Text", "size", "()I"⟩ prog_7_method_3_code 1 (some .int)) : Cond) ∈ AW_ := aw_2 124 rfl rfl
theorem kw_368 : ((.code ⟨"StagedParsers$Text", "erase", "()V"⟩ prog_7_method_5_code 1 none) : Cond) ∈ AW_ := aw_2 128 rfl rfl
theorem kw_402 : ((.static ⟨"StagedParsers", "isRegister", "(I)Z"⟩) : Cond) ∈ AW_ := aw_2 162 rfl rfl
theorem kw_403 : ((.code ⟨"StagedParsers", "isRegister", "(I)Z"⟩ prog_1_method_15_code 1 (some .boolean)) : Cond) ∈ AW_ := aw_2 163 rfl rfl
theorem kw_417 : ((.code ⟨"StagedParsers$Grammar", "bodies", "()I"⟩ prog_4_method_9_code 3 (some .int)) : Cond) ∈ AW_ := aw_2 177 rfl rfl
theorem kw_418 : ((.methodLink "StagedParsers$Grammar" 47 ⟨"StagedParsers$Grammar", "hasBody", "(I)Z"⟩) : Cond) ∈ AW_ := aw_2 178 rfl rfl
theorem kw_429 : ((.instanceMethod ⟨"StagedParsers$Grammar", "allows", "(IIII)Z"⟩) : Cond) ∈ AW_ := aw_2 189 rfl rfl
theorem kw_430 : ((.selects "StagedParsers$Grammar" ⟨"StagedParsers$Grammar", "allows", "(IIII)Z"⟩ ⟨"StagedParsers$Grammar", "allows", "(IIII)Z"⟩) : Cond) ∈ AW_ := aw_2 190 rfl rfl
theorem kw_431 : ((.code ⟨"StagedParsers$Grammar", "allows", "(IIII)Z"⟩ prog_4_method_14_code 5 (some .boolean)) : Cond) ∈ AW_ := aw_2 191 rfl rfl
theorem kw_433 : ((.static ⟨"StagedParsers", "isSign", "(I)Z"⟩) : Cond) ∈ AW_ := aw_2 193 rfl rfl
theorem kw_434 : ((.code ⟨"StagedParsers", "isSign", "(I)Z"⟩ prog_1_method_14_code 1 (some .boolean)) : Cond) ∈ AW_ := aw_2 194 rfl rfl
theorem kw_435 : ((.methodLink "StagedParsers$Grammar" 53 ⟨"StagedParsers$Grammar", "canBePart", "(I)Z"⟩) : Cond) ∈ AW_ := aw_2 195 rfl rfl
theorem kw_437 : ((.instanceMethod ⟨"StagedParsers$Grammar", "canBePart", "(I)Z"⟩) : Cond) ∈ AW_ := aw_2 197 rfl rfl
theorem kw_438 : ((.code ⟨"StagedParsers$Grammar", "canBePart", "(I)Z"⟩ prog_4_method_16_code 2 (some .boolean)) : Cond) ∈ AW_ := aw_2 198 rfl rfl
theorem kw_439 : ((.methodLink "StagedParsers$Grammar" 56 ⟨"StagedParsers$Grammar", "isWay", "(I)Z"⟩) : Cond) ∈ AW_ := aw_2 199 rfl rfl
theorem kw_440 : ((.static ⟨"StagedParsers$Grammar", "isWay", "(I)Z"⟩) : Cond) ∈ AW_ := aw_2 200 rfl rfl
theorem kw_441 : ((.code ⟨"StagedParsers$Grammar", "isWay", "(I)Z"⟩ prog_4_method_17_code 1 (some .boolean)) : Cond) ∈ AW_ := aw_2 201 rfl rfl
theorem kw_513 : ((.instanceMethod ⟨"StagedParsers$Grammar", "isFull", "()Z"⟩) : Cond) ∈ AW_ := aw_3 33 rfl rfl
theorem kw_514 : ((.selects "StagedParsers$Grammar" ⟨"StagedParsers$Grammar", "isFull", "()Z"⟩ ⟨"StagedParsers$Grammar", "isFull", "()Z"⟩) : Cond) ∈ AW_ := aw_3 34 rfl rfl
theorem kw_515 : ((.code ⟨"StagedParsers$Grammar", "isFull", "()Z"⟩ prog_4_method_3_code 1 (some .boolean)) : Cond) ∈ AW_ := aw_3 35 rfl rfl
theorem kw_535 : ((.code ⟨"StagedParsers$Grammar", "add", "(IIII)I"⟩ prog_4_method_15_code 6 (some .int)) : Cond) ∈ AW_ := aw_3 55 rfl rfl
theorem kw_536 : ((.methodLink "StagedParsers$Grammar" 62 ⟨"StagedParsers$Grammar", "isFull", "()Z"⟩) : Cond) ∈ AW_ := aw_3 56 rfl rfl
theorem kw_537 : ((.methodLink "StagedParsers$Grammar" 66 ⟨"StagedParsers$Grammar", "allows", "(IIII)Z"⟩) : Cond) ∈ AW_ := aw_3 57 rfl rfl
theorem kw_539 : ((.methodLink "StagedParsers$Grammar" 73 ⟨"java/lang/Math", "max", "(II)I"⟩) : Cond) ∈ AW_ := aw_3 59 rfl rfl
theorem kw_540 : ((.static ⟨"java/lang/Math", "max", "(II)I"⟩) : Cond) ∈ AW_ := aw_3 60 rfl rfl
theorem kw_541 : ((.code ⟨"java/lang/Math", "max", "(II)I"⟩ prog_13_method_65_code 2 (some .int)) : Cond) ∈ AW_ := aw_3 61 rfl rfl
theorem kw_555 : ((.code ⟨"StagedParsers$Grammar", "setBody", "(II)V"⟩ prog_4_method_8_code 3 none) : Cond) ∈ AW_ := aw_3 75 rfl rfl
theorem kw_612 : ((.code ⟨"StagedParsers$Text", "isFull", "()Z"⟩ prog_7_method_2_code 1 (some .boolean)) : Cond) ∈ AW_ := aw_3 132 rfl rfl
theorem kw_617 : ((.code ⟨"StagedParsers$Text", "append", "(C)V"⟩ prog_7_method_4_code 2 none) : Cond) ∈ AW_ := aw_3 137 rfl rfl
theorem kw_641 : ((.code ⟨"StagedParsers$Frames", "reset", "()V"⟩ prog_3_method_2_code 1 none) : Cond) ∈ AW_ := aw_3 161 rfl rfl
theorem kw_654 : ((.code ⟨"StagedParsers$Frames", "isFull", "()Z"⟩ prog_3_method_3_code 1 (some .boolean)) : Cond) ∈ AW_ := aw_3 174 rfl rfl
theorem kw_658 : ((.code ⟨"StagedParsers$Frames", "push", "(IIII)V"⟩ prog_3_method_5_code 5 none) : Cond) ∈ AW_ := aw_3 178 rfl rfl
theorem kw_691 : ((.code ⟨"StagedParsers$Text", "signAt", "(I)I"⟩ prog_7_method_6_code 2 (some .int)) : Cond) ∈ AW_ := aw_3 211 rfl rfl
theorem kw_700 : ((.code ⟨"StagedParsers$Frames", "size", "()I"⟩ prog_3_method_4_code 1 (some .int)) : Cond) ∈ AW_ := aw_3 220 rfl rfl
theorem kw_708 : ((.code ⟨"StagedParsers$Frames", "manner", "()I"⟩ prog_3_method_8_code 1 (some .int)) : Cond) ∈ AW_ := aw_3 228 rfl rfl
theorem kw_712 : ((.code ⟨"StagedParsers$Frames", "place", "()I"⟩ prog_3_method_10_code 1 (some .int)) : Cond) ∈ AW_ := aw_3 232 rfl rfl
theorem kw_720 : ((.code ⟨"StagedParsers$Frames", "height", "()I"⟩ prog_3_method_11_code 1 (some .int)) : Cond) ∈ AW_ := aw_4 0 rfl rfl
theorem kw_727 : ((.code ⟨"StagedParsers$Frames", "target", "()I"⟩ prog_3_method_9_code 1 (some .int)) : Cond) ∈ AW_ := aw_4 7 rfl rfl
theorem kw_731 : ((.code ⟨"StagedParsers$Frames", "pop", "()V"⟩ prog_3_method_6_code 1 none) : Cond) ∈ AW_ := aw_4 11 rfl rfl
theorem kw_766 : ((.code ⟨"StagedParsers$Frames", "movePlace", "(I)V"⟩ prog_3_method_7_code 2 none) : Cond) ∈ AW_ := aw_4 46 rfl rfl
theorem kw_845 : ((.lays "StagedParsersModel" "StagedParsersModel" "thrown" "I") : Cond) ∈ AW_ := aw_4 125 rfl rfl
theorem kw_847 : ((.lays "StagedParsersModel" "StagedParsersModel" "nodes" "I") : Cond) ∈ AW_ := aw_4 127 rfl rfl
theorem kw_849 : ((.laysFinal "StagedParsersModel" "StagedParsersModel" "kind" "[I") : Cond) ∈ AW_ := aw_4 129 rfl rfl
theorem kw_851 : ((.laysFinal "StagedParsersModel" "StagedParsersModel" "one" "[I") : Cond) ∈ AW_ := aw_4 131 rfl rfl
theorem kw_853 : ((.laysFinal "StagedParsersModel" "StagedParsersModel" "two" "[I") : Cond) ∈ AW_ := aw_4 133 rfl rfl
theorem kw_855 : ((.laysFinal "StagedParsersModel" "StagedParsersModel" "three" "[I") : Cond) ∈ AW_ := aw_4 135 rfl rfl
theorem kw_857 : ((.laysFinal "StagedParsersModel" "StagedParsersModel" "high" "[I") : Cond) ∈ AW_ := aw_4 137 rfl rfl
theorem kw_859 : ((.laysFinal "StagedParsersModel" "StagedParsersModel" "bodies" "[I") : Cond) ∈ AW_ := aw_4 139 rfl rfl
theorem kw_861 : ((.lays "StagedParsersModel" "StagedParsersModel" "staged" "Z") : Cond) ∈ AW_ := aw_4 141 rfl rfl
theorem kw_863 : ((.laysFinal "StagedParsersModel" "StagedParsersModel" "text" "[I") : Cond) ∈ AW_ := aw_4 143 rfl rfl
theorem kw_865 : ((.lays "StagedParsersModel" "StagedParsersModel" "length" "I") : Cond) ∈ AW_ := aw_4 145 rfl rfl
theorem kw_867 : ((.laysFinal "StagedParsersModel" "StagedParsersModel" "isEmpty" "[Z") : Cond) ∈ AW_ := aw_4 147 rfl rfl
theorem kw_869 : ((.laysFinal "StagedParsersModel" "StagedParsersModel" "isBeginning" "[Z") : Cond) ∈ AW_ := aw_4 149 rfl rfl
theorem kw_871 : ((.laysFinal "StagedParsersModel" "StagedParsersModel" "leading" "[I") : Cond) ∈ AW_ := aw_4 151 rfl rfl
theorem kw_873 : ((.laysFinal "StagedParsersModel" "StagedParsersModel" "within" "[Z") : Cond) ∈ AW_ := aw_4 153 rfl rfl
theorem kw_875 : ((.lays "StagedParsersModel" "StagedParsersModel" "open" "I") : Cond) ∈ AW_ := aw_4 155 rfl rfl
theorem kw_877 : ((.laysFinal "StagedParsersModel" "StagedParsersModel" "which" "[I") : Cond) ∈ AW_ := aw_4 157 rfl rfl
theorem kw_879 : ((.laysFinal "StagedParsersModel" "StagedParsersModel" "state" "[I") : Cond) ∈ AW_ := aw_4 159 rfl rfl
theorem kw_881 : ((.laysFinal "StagedParsersModel" "StagedParsersModel" "start" "[I") : Cond) ∈ AW_ := aw_4 161 rfl rfl
theorem kw_883 : ((.laysFinal "StagedParsersModel" "StagedParsersModel" "answer" "[I") : Cond) ∈ AW_ := aw_4 163 rfl rfl
theorem kw_885 : ((.laysFinal "StagedParsersModel" "StagedParsersModel" "mark" "[I") : Cond) ∈ AW_ := aw_4 165 rfl rfl
theorem kw_887 : ((.laysFinal "StagedParsersModel" "StagedParsersModel" "sign" "[I") : Cond) ∈ AW_ := aw_4 167 rfl rfl
theorem kw_889 : ((.lays "StagedParsersModel" "StagedParsersModel" "good" "Z") : Cond) ∈ AW_ := aw_4 169 rfl rfl
theorem kw_891 : ((.lays "StagedParsersModel" "StagedParsersModel" "at" "I") : Cond) ∈ AW_ := aw_4 171 rfl rfl
theorem kw_893 : ((.lays "StagedParsersModel" "StagedParsersModel" "value" "I") : Cond) ∈ AW_ := aw_4 173 rfl rfl
theorem kw_895 : ((.lays "StagedParsersModel" "StagedParsersModel" "tired" "Z") : Cond) ∈ AW_ := aw_4 175 rfl rfl
theorem kw_897 : ((.lays "StagedParsersModel" "StagedParsersModel" "running" "I") : Cond) ∈ AW_ := aw_4 177 rfl rfl
theorem kw_899 : ((.lays "StagedParsersModel" "StagedParsersModel" "bodiesRun" "I") : Cond) ∈ AW_ := aw_4 179 rfl rfl
theorem kw_901 : ((.lays "StagedParsersModel" "StagedParsersModel" "looks" "I") : Cond) ∈ AW_ := aw_4 181 rfl rfl
theorem kw_903 : ((.lays "StagedParsersModel" "StagedParsersModel" "far" "I") : Cond) ∈ AW_ := aw_4 183 rfl rfl
theorem kw_905 : ((.laysFinal "StagedParsersModel" "StagedParsersModel" "registers" "[I") : Cond) ∈ AW_ := aw_4 185 rfl rfl
theorem kw_907 : ((.lays "StagedParsersModel" "StagedParsersModel" "parsed" "Z") : Cond) ∈ AW_ := aw_4 187 rfl rfl
theorem kw_909 : ((.lays "StagedParsersModel" "StagedParsersModel" "lastPlace" "I") : Cond) ∈ AW_ := aw_4 189 rfl rfl
theorem kw_911 : ((.lays "StagedParsersModel" "StagedParsersModel" "lastGood" "Z") : Cond) ∈ AW_ := aw_4 191 rfl rfl
theorem ks_0 : (.selects "StagedParsers$Study" ⟨"StagedParsers$Study", "findNodesInBodies", "()V"⟩ ⟨"StagedParsers$Study", "findNodesInBodies", "()V"⟩ : Cond) ∈ AW_ := aw_sel (q := (⟨"StagedParsers$Study", "findNodesInBodies", "()V"⟩, 6)) 0 rfl
theorem ks_1 : (.selects "StagedParsers$Study" ⟨"StagedParsers$Study", "unmark", "([Z)V"⟩ ⟨"StagedParsers$Study", "unmark", "([Z)V"⟩ : Cond) ∈ AW_ := aw_sel (q := (⟨"StagedParsers$Study", "unmark", "([Z)V"⟩, 6)) 1 rfl
theorem ks_2 : (.selects "StagedParsers$Study" ⟨"StagedParsers$Study", "markInBodies", "(I)V"⟩ ⟨"StagedParsers$Study", "markInBodies", "(I)V"⟩ : Cond) ∈ AW_ := aw_sel (q := (⟨"StagedParsers$Study", "markInBodies", "(I)V"⟩, 6)) 2 rfl
theorem ks_3 : (.selects "StagedParsers$Study" ⟨"StagedParsers$Study", "findLeads", "()V"⟩ ⟨"StagedParsers$Study", "findLeads", "()V"⟩ : Cond) ∈ AW_ := aw_sel (q := (⟨"StagedParsers$Study", "findLeads", "()V"⟩, 6)) 3 rfl
theorem ks_4 : (.selects "StagedParsers$Study" ⟨"StagedParsers$Study", "findEmptyNodes", "()V"⟩ ⟨"StagedParsers$Study", "findEmptyNodes", "()V"⟩ : Cond) ∈ AW_ := aw_sel (q := (⟨"StagedParsers$Study", "findEmptyNodes", "()V"⟩, 6)) 4 rfl
theorem ks_5 : (.selects "StagedParsers$Study" ⟨"StagedParsers$Study", "emptyByParts", "(I)Z"⟩ ⟨"StagedParsers$Study", "emptyByParts", "(I)Z"⟩ : Cond) ∈ AW_ := aw_sel (q := (⟨"StagedParsers$Study", "emptyByParts", "(I)Z"⟩, 6)) 5 rfl
theorem ks_6 : (.selects "StagedParsers$Study" ⟨"StagedParsers$Study", "marked", "([ZI)Z"⟩ ⟨"StagedParsers$Study", "marked", "([ZI)Z"⟩ : Cond) ∈ AW_ := aw_sel (q := (⟨"StagedParsers$Study", "marked", "([ZI)Z"⟩, 6)) 6 rfl
theorem ks_7 : (.selects "StagedParsers$Study" ⟨"StagedParsers$Study", "leadsByParts", "(I)I"⟩ ⟨"StagedParsers$Study", "leadsByParts", "(I)I"⟩ : Cond) ∈ AW_ := aw_sel (q := (⟨"StagedParsers$Study", "leadsByParts", "(I)I"⟩, 6)) 7 rfl
theorem ks_8 : (.selects "StagedParsers$Study" ⟨"StagedParsers$Study", "leadsOf", "(I)I"⟩ ⟨"StagedParsers$Study", "leadsOf", "(I)I"⟩ : Cond) ∈ AW_ := aw_sel (q := (⟨"StagedParsers$Study", "leadsOf", "(I)I"⟩, 6)) 8 rfl
theorem ks_9 : (.selects "StagedParsers$Study" ⟨"StagedParsers$Study", "hasRuleWithoutBody", "()Z"⟩ ⟨"StagedParsers$Study", "hasRuleWithoutBody", "()Z"⟩ : Cond) ∈ AW_ := aw_sel (q := (⟨"StagedParsers$Study", "hasRuleWithoutBody", "()Z"⟩, 6)) 9 rfl
theorem ks_10 : (.selects "StagedParsers$Study" ⟨"StagedParsers$Study", "hasEndlessLoop", "()Z"⟩ ⟨"StagedParsers$Study", "hasEndlessLoop", "()Z"⟩ : Cond) ∈ AW_ := aw_sel (q := (⟨"StagedParsers$Study", "hasEndlessLoop", "()Z"⟩, 6)) 10 rfl
theorem ks_11 : (.selects "StagedParsers$Study" ⟨"StagedParsers$Study", "couldLoop", "(I)Z"⟩ ⟨"StagedParsers$Study", "couldLoop", "(I)Z"⟩ : Cond) ∈ AW_ := aw_sel (q := (⟨"StagedParsers$Study", "couldLoop", "(I)Z"⟩, 6)) 11 rfl
theorem ks_12 : (.selects "StagedParsers$Study" ⟨"StagedParsers$Study", "hasRuleThatLeadsToItself", "()Z"⟩ ⟨"StagedParsers$Study", "hasRuleThatLeadsToItself", "()Z"⟩ : Cond) ∈ AW_ := aw_sel (q := (⟨"StagedParsers$Study", "hasRuleThatLeadsToItself", "()Z"⟩, 6)) 12 rfl
theorem ks_13 : (.selects "StagedParsers$Code" ⟨"StagedParsers$Code", "put", "(III)V"⟩ ⟨"StagedParsers$Code", "put", "(III)V"⟩ : Cond) ∈ AW_ := aw_sel (q := (⟨"StagedParsers$Code", "put", "(III)V"⟩, 6)) 13 rfl
theorem ks_14 : (.selects "StagedParsers$Code" ⟨"StagedParsers$Code", "writePiece", "(IIII)V"⟩ ⟨"StagedParsers$Code", "writePiece", "(IIII)V"⟩ : Cond) ∈ AW_ := aw_sel (q := (⟨"StagedParsers$Code", "writePiece", "(IIII)V"⟩, 6)) 14 rfl
theorem ks_15 : (.selects "StagedParsers$Code" ⟨"StagedParsers$Code", "putCall", "(I)V"⟩ ⟨"StagedParsers$Code", "putCall", "(I)V"⟩ : Cond) ∈ AW_ := aw_sel (q := (⟨"StagedParsers$Code", "putCall", "(I)V"⟩, 6)) 15 rfl
theorem ks_16 : (.selects "StagedParsers$Code" ⟨"StagedParsers$Code", "piece", "(I)I"⟩ ⟨"StagedParsers$Code", "piece", "(I)I"⟩ : Cond) ∈ AW_ := aw_sel (q := (⟨"StagedParsers$Code", "piece", "(I)I"⟩, 6)) 16 rfl
theorem ks_17 : (.selects "StagedParsers$Code" ⟨"StagedParsers$Code", "writeOr", "(II)V"⟩ ⟨"StagedParsers$Code", "writeOr", "(II)V"⟩ : Cond) ∈ AW_ := aw_sel (q := (⟨"StagedParsers$Code", "writeOr", "(II)V"⟩, 6)) 17 rfl
theorem ks_18 : (.selects "StagedParsers$Code" ⟨"StagedParsers$Code", "writeNot", "(I)V"⟩ ⟨"StagedParsers$Code", "writeNot", "(I)V"⟩ : Cond) ∈ AW_ := aw_sel (q := (⟨"StagedParsers$Code", "writeNot", "(I)V"⟩, 6)) 18 rfl
theorem ks_19 : (.selects "StagedParsers$Code" ⟨"StagedParsers$Code", "writeMany", "(II)V"⟩ ⟨"StagedParsers$Code", "writeMany", "(II)V"⟩ : Cond) ∈ AW_ := aw_sel (q := (⟨"StagedParsers$Code", "writeMany", "(II)V"⟩, 6)) 19 rfl
theorem ks_20 : (.selects "StagedParsers$Code" ⟨"StagedParsers$Code", "writeChain", "(II)V"⟩ ⟨"StagedParsers$Code", "writeChain", "(II)V"⟩ : Cond) ∈ AW_ := aw_sel (q := (⟨"StagedParsers$Code", "writeChain", "(II)V"⟩, 6)) 20 rfl
theorem ks_21 : (.selects "StagedParsers$Grammar" ⟨"StagedParsers$Grammar", "canBePart", "(I)Z"⟩ ⟨"StagedParsers$Grammar", "canBePart", "(I)Z"⟩ : Cond) ∈ AW_ := aw_sel (q := (⟨"StagedParsers$Grammar", "canBePart", "(I)Z"⟩, 7)) 21 rfl
theorem ks_23 : (.selects "StagedParsers$Study" ⟨"StagedParsers$Study", "findBeginners", "(I)V"⟩ ⟨"StagedParsers$Study", "findBeginners", "(I)V"⟩ : Cond) ∈ AW_ := aw_sel (q := (⟨"StagedParsers$Study", "findBeginners", "(I)V"⟩, 6)) 23 rfl
theorem ks_24 : (.selects "StagedParsers$Study" ⟨"StagedParsers$Study", "beginsByParts", "(II)Z"⟩ ⟨"StagedParsers$Study", "beginsByParts", "(II)Z"⟩ : Cond) ∈ AW_ := aw_sel (q := (⟨"StagedParsers$Study", "beginsByParts", "(II)Z"⟩, 6)) 24 rfl
theorem ks_25 : (.selects "StagedParsers$Machine" ⟨"StagedParsers$Machine", "reset", "()V"⟩ ⟨"StagedParsers$Machine", "reset", "()V"⟩ : Cond) ∈ AW_ := aw_sel (q := (⟨"StagedParsers$Machine", "reset", "()V"⟩, 14)) 25 rfl
theorem ks_26 : (.selects "StagedParsers$Machine" ⟨"StagedParsers$Machine", "callBody", "(I)V"⟩ ⟨"StagedParsers$Machine", "callBody", "(I)V"⟩ : Cond) ∈ AW_ := aw_sel (q := (⟨"StagedParsers$Machine", "callBody", "(I)V"⟩, 14)) 26 rfl
theorem ks_27 : (.selects "StagedParsers$Machine" ⟨"StagedParsers$Machine", "pushFrame", "(II)V"⟩ ⟨"StagedParsers$Machine", "pushFrame", "(II)V"⟩ : Cond) ∈ AW_ := aw_sel (q := (⟨"StagedParsers$Machine", "pushFrame", "(II)V"⟩, 14)) 27 rfl
theorem ks_28 : (.selects "StagedParsers$Machine" ⟨"StagedParsers$Machine", "obey", "(III)V"⟩ ⟨"StagedParsers$Machine", "obey", "(III)V"⟩ : Cond) ∈ AW_ := aw_sel (q := (⟨"StagedParsers$Machine", "obey", "(III)V"⟩, 14)) 28 rfl
theorem ks_29 : (.selects "StagedParsers$Machine" ⟨"StagedParsers$Machine", "give", "(I)V"⟩ ⟨"StagedParsers$Machine", "give", "(I)V"⟩ : Cond) ∈ AW_ := aw_sel (q := (⟨"StagedParsers$Machine", "give", "(I)V"⟩, 14)) 29 rfl
theorem ks_30 : (.selects "StagedParsers$Machine" ⟨"StagedParsers$Machine", "take", "(II)V"⟩ ⟨"StagedParsers$Machine", "take", "(II)V"⟩ : Cond) ∈ AW_ := aw_sel (q := (⟨"StagedParsers$Machine", "take", "(II)V"⟩, 14)) 30 rfl
theorem ks_31 : (.selects "StagedParsers$Machine" ⟨"StagedParsers$Machine", "failAt", "(I)V"⟩ ⟨"StagedParsers$Machine", "failAt", "(I)V"⟩ : Cond) ∈ AW_ := aw_sel (q := (⟨"StagedParsers$Machine", "failAt", "(I)V"⟩, 14)) 31 rfl
theorem ks_32 : (.selects "StagedParsers$Machine" ⟨"StagedParsers$Machine", "stops", "(I)Z"⟩ ⟨"StagedParsers$Machine", "stops", "(I)Z"⟩ : Cond) ∈ AW_ := aw_sel (q := (⟨"StagedParsers$Machine", "stops", "(I)Z"⟩, 14)) 32 rfl
theorem ks_33 : (.selects "StagedParsers$Machine" ⟨"StagedParsers$Machine", "goOnFromGuard", "()V"⟩ ⟨"StagedParsers$Machine", "goOnFromGuard", "()V"⟩ : Cond) ∈ AW_ := aw_sel (q := (⟨"StagedParsers$Machine", "goOnFromGuard", "()V"⟩, 14)) 33 rfl
theorem ks_34 : (.selects "StagedParsers$Machine" ⟨"StagedParsers$Machine", "dropFrame", "()V"⟩ ⟨"StagedParsers$Machine", "dropFrame", "()V"⟩ : Cond) ∈ AW_ := aw_sel (q := (⟨"StagedParsers$Machine", "dropFrame", "()V"⟩, 14)) 34 rfl
theorem ks_35 : (.selects "StagedParsers$Machine" ⟨"StagedParsers$Machine", "goBack", "()V"⟩ ⟨"StagedParsers$Machine", "goBack", "()V"⟩ : Cond) ∈ AW_ := aw_sel (q := (⟨"StagedParsers$Machine", "goBack", "()V"⟩, 14)) 35 rfl
theorem ks_36 : (.selects "StagedParsers$Machine" ⟨"StagedParsers$Machine", "joinLastTwo", "(I)I"⟩ ⟨"StagedParsers$Machine", "joinLastTwo", "(I)I"⟩ : Cond) ∈ AW_ := aw_sel (q := (⟨"StagedParsers$Machine", "joinLastTwo", "(I)I"⟩, 14)) 36 rfl
theorem ks_37 : (.selects "StagedParsers$Machine" ⟨"StagedParsers$Machine", "withdraw", "()I"⟩ ⟨"StagedParsers$Machine", "withdraw", "()I"⟩ : Cond) ∈ AW_ := aw_sel (q := (⟨"StagedParsers$Machine", "withdraw", "()I"⟩, 14)) 37 rfl
theorem ks_38 : (.selects "StagedParsers$Machine" ⟨"StagedParsers$Machine", "linkLastThree", "()I"⟩ ⟨"StagedParsers$Machine", "linkLastThree", "()I"⟩ : Cond) ∈ AW_ := aw_sel (q := (⟨"StagedParsers$Machine", "linkLastThree", "()I"⟩, 14)) 38 rfl
theorem ks_39 : (.selects "StagedParsers$Machine" ⟨"StagedParsers$Machine", "store", "(II)V"⟩ ⟨"StagedParsers$Machine", "store", "(II)V"⟩ : Cond) ∈ AW_ := aw_sel (q := (⟨"StagedParsers$Machine", "store", "(II)V"⟩, 14)) 39 rfl
theorem ks_40 : (.selects "StagedParsersModel" ⟨"StagedParsersModel", "fits", "(IIII)Z"⟩ ⟨"StagedParsersModel", "fits", "(IIII)Z"⟩ : Cond) ∈ AW_ := aw_sel (q := (⟨"StagedParsersModel", "fits", "(IIII)Z"⟩, 34)) 40 rfl
theorem ks_41 : (.selects "StagedParsersModel" ⟨"StagedParsersModel", "isNode", "(I)Z"⟩ ⟨"StagedParsersModel", "isNode", "(I)Z"⟩ : Cond) ∈ AW_ := aw_sel (q := (⟨"StagedParsersModel", "isNode", "(I)Z"⟩, 34)) 41 rfl
theorem ks_42 : (.selects "StagedParsersModel" ⟨"StagedParsersModel", "height", "(III)I"⟩ ⟨"StagedParsersModel", "height", "(III)I"⟩ : Cond) ∈ AW_ := aw_sel (q := (⟨"StagedParsersModel", "height", "(III)I"⟩, 34)) 42 rfl
theorem ks_43 : (.selects "StagedParsersModel" ⟨"StagedParsersModel", "fails", "(I)I"⟩ ⟨"StagedParsersModel", "fails", "(I)I"⟩ : Cond) ∈ AW_ := aw_sel (q := (⟨"StagedParsersModel", "fails", "(I)I"⟩, 34)) 43 rfl
theorem ks_44 : (.selects "StagedParsersModel" ⟨"StagedParsersModel", "bodied", "()I"⟩ ⟨"StagedParsersModel", "bodied", "()I"⟩ : Cond) ∈ AW_ := aw_sel (q := (⟨"StagedParsersModel", "bodied", "()I"⟩, 34)) 44 rfl
theorem ks_45 : (.selects "StagedParsersModel" ⟨"StagedParsersModel", "findEmpty", "()V"⟩ ⟨"StagedParsersModel", "findEmpty", "()V"⟩ : Cond) ∈ AW_ := aw_sel (q := (⟨"StagedParsersModel", "findEmpty", "()V"⟩, 34)) 45 rfl
theorem ks_46 : (.selects "StagedParsersModel" ⟨"StagedParsersModel", "emptyNow", "(I)Z"⟩ ⟨"StagedParsersModel", "emptyNow", "(I)Z"⟩ : Cond) ∈ AW_ := aw_sel (q := (⟨"StagedParsersModel", "emptyNow", "(I)Z"⟩, 34)) 46 rfl
theorem ks_47 : (.selects "StagedParsersModel" ⟨"StagedParsersModel", "findBeginning", "(I)V"⟩ ⟨"StagedParsersModel", "findBeginning", "(I)V"⟩ : Cond) ∈ AW_ := aw_sel (q := (⟨"StagedParsersModel", "findBeginning", "(I)V"⟩, 34)) 47 rfl
theorem ks_48 : (.selects "StagedParsersModel" ⟨"StagedParsersModel", "beginsNow", "(II)Z"⟩ ⟨"StagedParsersModel", "beginsNow", "(II)Z"⟩ : Cond) ∈ AW_ := aw_sel (q := (⟨"StagedParsersModel", "beginsNow", "(II)Z"⟩, 34)) 48 rfl
theorem ks_49 : (.selects "StagedParsersModel" ⟨"StagedParsersModel", "allLeads", "(I)I"⟩ ⟨"StagedParsersModel", "allLeads", "(I)I"⟩ : Cond) ∈ AW_ := aw_sel (q := (⟨"StagedParsersModel", "allLeads", "(I)I"⟩, 34)) 49 rfl
theorem ks_50 : (.selects "StagedParsersModel" ⟨"StagedParsersModel", "leadsNow", "(I)I"⟩ ⟨"StagedParsersModel", "leadsNow", "(I)I"⟩ : Cond) ∈ AW_ := aw_sel (q := (⟨"StagedParsersModel", "leadsNow", "(I)I"⟩, 34)) 50 rfl
theorem ks_51 : (.selects "StagedParsersModel" ⟨"StagedParsersModel", "fault", "()I"⟩ ⟨"StagedParsersModel", "fault", "()I"⟩ : Cond) ∈ AW_ := aw_sel (q := (⟨"StagedParsersModel", "fault", "()I"⟩, 34)) 51 rfl
theorem ks_52 : (.selects "StagedParsersModel" ⟨"StagedParsersModel", "findWithin", "()V"⟩ ⟨"StagedParsersModel", "findWithin", "()V"⟩ : Cond) ∈ AW_ := aw_sel (q := (⟨"StagedParsersModel", "findWithin", "()V"⟩, 34)) 52 rfl
theorem ks_53 : (.selects "StagedParsersModel" ⟨"StagedParsersModel", "isRound", "(I)Z"⟩ ⟨"StagedParsersModel", "isRound", "(I)Z"⟩ : Cond) ∈ AW_ := aw_sel (q := (⟨"StagedParsersModel", "isRound", "(I)Z"⟩, 34)) 53 rfl
theorem ks_54 : (.selects "StagedParsersModel" ⟨"StagedParsersModel", "run", "(I)V"⟩ ⟨"StagedParsersModel", "run", "(I)V"⟩ : Cond) ∈ AW_ := aw_sel (q := (⟨"StagedParsersModel", "run", "(I)V"⟩, 34)) 54 rfl
theorem ks_55 : (.selects "StagedParsersModel" ⟨"StagedParsersModel", "enter", "(I)V"⟩ ⟨"StagedParsersModel", "enter", "(I)V"⟩ : Cond) ∈ AW_ := aw_sel (q := (⟨"StagedParsersModel", "enter", "(I)V"⟩, 34)) 55 rfl
theorem ks_56 : (.selects "StagedParsersModel" ⟨"StagedParsersModel", "begin", "(I)V"⟩ ⟨"StagedParsersModel", "begin", "(I)V"⟩ : Cond) ∈ AW_ := aw_sel (q := (⟨"StagedParsersModel", "begin", "(I)V"⟩, 34)) 56 rfl
theorem ks_57 : (.selects "StagedParsersModel" ⟨"StagedParsersModel", "succeed", "(I)V"⟩ ⟨"StagedParsersModel", "succeed", "(I)V"⟩ : Cond) ∈ AW_ := aw_sel (q := (⟨"StagedParsersModel", "succeed", "(I)V"⟩, 34)) 57 rfl
theorem ks_58 : (.selects "StagedParsersModel" ⟨"StagedParsersModel", "looked", "(II)V"⟩ ⟨"StagedParsersModel", "looked", "(II)V"⟩ : Cond) ∈ AW_ := aw_sel (q := (⟨"StagedParsersModel", "looked", "(II)V"⟩, 34)) 58 rfl
theorem ks_59 : (.selects "StagedParsersModel" ⟨"StagedParsersModel", "fail", "()V"⟩ ⟨"StagedParsersModel", "fail", "()V"⟩ : Cond) ∈ AW_ := aw_sel (q := (⟨"StagedParsersModel", "fail", "()V"⟩, 34)) 59 rfl
theorem ks_60 : (.selects "StagedParsersModel" ⟨"StagedParsersModel", "goOn", "(I)V"⟩ ⟨"StagedParsersModel", "goOn", "(I)V"⟩ : Cond) ∈ AW_ := aw_sel (q := (⟨"StagedParsersModel", "goOn", "(I)V"⟩, 34)) 60 rfl
theorem ks_61 : (.selects "StagedParsersModel" ⟨"StagedParsersModel", "then", "(I)V"⟩ ⟨"StagedParsersModel", "then", "(I)V"⟩ : Cond) ∈ AW_ := aw_sel (q := (⟨"StagedParsersModel", "then", "(I)V"⟩, 34)) 61 rfl
theorem ks_62 : (.selects "StagedParsersModel" ⟨"StagedParsersModel", "many", "(I)V"⟩ ⟨"StagedParsersModel", "many", "(I)V"⟩ : Cond) ∈ AW_ := aw_sel (q := (⟨"StagedParsersModel", "many", "(I)V"⟩, 34)) 62 rfl
theorem ks_63 : (.selects "StagedParsersModel" ⟨"StagedParsersModel", "ends", "(I)V"⟩ ⟨"StagedParsersModel", "ends", "(I)V"⟩ : Cond) ∈ AW_ := aw_sel (q := (⟨"StagedParsersModel", "ends", "(I)V"⟩, 34)) 63 rfl
theorem ks_64 : (.selects "StagedParsersModel" ⟨"StagedParsersModel", "chain", "(I)V"⟩ ⟨"StagedParsersModel", "chain", "(I)V"⟩ : Cond) ∈ AW_ := aw_sel (q := (⟨"StagedParsersModel", "chain", "(I)V"⟩, 34)) 64 rfl
end
section
/-! names, fields, the worlds of the two systems -/
def Rz_S : String := "StagedParsers"
def Tz_S : u_T := fun k => match k with
  | 0 => ("StagedParsers", "grammar", "LStagedParsers$Grammar;", true)
  | 1 => ("StagedParsers", "study", "LStagedParsers$Study;", true)
  | 2 => ("StagedParsers", "code", "LStagedParsers$Code;", true)
  | 3 => ("StagedParsers", "text", "LStagedParsers$Text;", true)
  | 4 => ("StagedParsers", "machine", "LStagedParsers$Machine;", true)
  | _ => ("StagedParsers", "staged", "Z", false)
def tz_S : Nat → FieldType := fun k => match k with
  | 0 => .object "StagedParsers$Grammar"
  | 1 => .object "StagedParsers$Study"
  | 2 => .object "StagedParsers$Code"
  | 3 => .object "StagedParsers$Text"
  | 4 => .object "StagedParsers$Machine"
  | _ => .boolean
theorem nz_S : ∀ a, a < 6 → ∀ b, b < 6 → a ≠ b → (Tz_S a).2.1 ≠ (Tz_S b).2.1 := by decide +kernel
theorem tz_S_ok : ∀ k, k < 6 → parseFieldDescriptor (Tz_S k).2.2.1 = some (tz_S k) := by decide +kernel
theorem uz_S : ∀ w ∈ u_ws Rz_S Tz_S 6, w ∈ AW_ := fun w hw => by
  obtain ⟨k, hk, rfl⟩ := List.mem_map.mp hw
  have hk := List.mem_range.mp hk
  rcases (show k = 0 ∨ k = 1 ∨ k = 2 ∨ k = 3 ∨ k = 4 ∨ k = 5 by omega) with rfl | rfl | rfl | rfl | rfl | rfl
  · exact kw_200
  · exact kw_202
  · exact kw_204
  · exact kw_206
  · exact kw_208
  · exact kw_210
def Rz_G : String := "StagedParsers$Grammar"
def Tz_G : u_T := fun k => match k with
  | 0 => ("StagedParsers$Grammar", "kinds", "[I", true)
  | 1 => ("StagedParsers$Grammar", "as", "[I", true)
  | 2 => ("StagedParsers$Grammar", "bs", "[I", true)
  | 3 => ("StagedParsers$Grammar", "cs", "[I", true)
  | 4 => ("StagedParsers$Grammar", "heights", "[I", true)
  | 5 => ("StagedParsers$Grammar", "bodyOf", "[I", true)
  | _ => ("StagedParsers$Grammar", "size", "I", false)
def tz_G : Nat → FieldType := fun k => match k with
  | 0 => .array .int
  | 1 => .array .int
  | 2 => .array .int
  | 3 => .array .int
  | 4 => .array .int
  | 5 => .array .int
  | _ => .int
theorem nz_G : ∀ a, a < 7 → ∀ b, b < 7 → a ≠ b → (Tz_G a).2.1 ≠ (Tz_G b).2.1 := by decide +kernel
theorem tz_G_ok : ∀ k, k < 7 → parseFieldDescriptor (Tz_G k).2.2.1 = some (tz_G k) := by decide +kernel
theorem uz_G : ∀ w ∈ u_ws Rz_G Tz_G 7, w ∈ AW_ := fun w hw => by
  obtain ⟨k, hk, rfl⟩ := List.mem_map.mp hw
  have hk := List.mem_range.mp hk
  rcases (show k = 0 ∨ k = 1 ∨ k = 2 ∨ k = 3 ∨ k = 4 ∨ k = 5 ∨ k = 6 by omega) with rfl | rfl | rfl | rfl | rfl | rfl | rfl
  · exact kw_42
  · exact kw_44
  · exact kw_46
  · exact kw_48
  · exact kw_50
  · exact kw_52
  · exact kw_54
def Rz_Y : String := "StagedParsers$Study"
def Tz_Y : u_T := fun k => match k with
  | 0 => ("StagedParsers$Study", "grammar", "LStagedParsers$Grammar;", true)
  | 1 => ("StagedParsers$Study", "emptyNodes", "[Z", true)
  | 2 => ("StagedParsers$Study", "beginners", "[Z", true)
  | 3 => ("StagedParsers$Study", "inBodies", "[Z", true)
  | 4 => ("StagedParsers$Study", "nodeLeads", "[I", true)
  | _ => ("StagedParsers$Study", "ruleLeads", "[I", true)
def tz_Y : Nat → FieldType := fun k => match k with
  | 0 => .object "StagedParsers$Grammar"
  | 1 => .array .boolean
  | 2 => .array .boolean
  | 3 => .array .boolean
  | 4 => .array .int
  | _ => .array .int
theorem nz_Y : ∀ a, a < 6 → ∀ b, b < 6 → a ≠ b → (Tz_Y a).2.1 ≠ (Tz_Y b).2.1 := by decide +kernel
theorem tz_Y_ok : ∀ k, k < 6 → parseFieldDescriptor (Tz_Y k).2.2.1 = some (tz_Y k) := by decide +kernel
theorem uz_Y : ∀ w ∈ u_ws Rz_Y Tz_Y 6, w ∈ AW_ := fun w hw => by
  obtain ⟨k, hk, rfl⟩ := List.mem_map.mp hw
  have hk := List.mem_range.mp hk
  rcases (show k = 0 ∨ k = 1 ∨ k = 2 ∨ k = 3 ∨ k = 4 ∨ k = 5 by omega) with rfl | rfl | rfl | rfl | rfl | rfl
  · exact kw_70
  · exact kw_72
  · exact kw_74
  · exact kw_76
  · exact kw_78
  · exact kw_80
def Rz_C : String := "StagedParsers$Code"
def Tz_C : u_T := fun k => match k with
  | 0 => ("StagedParsers$Code", "operations", "[I", true)
  | 1 => ("StagedParsers$Code", "ps", "[I", true)
  | 2 => ("StagedParsers$Code", "qs", "[I", true)
  | 3 => ("StagedParsers$Code", "pieceOf", "[I", true)
  | 4 => ("StagedParsers$Code", "entryOf", "[I", true)
  | _ => ("StagedParsers$Code", "size", "I", false)
def tz_C : Nat → FieldType := fun k => match k with
  | 0 => .array .int
  | 1 => .array .int
  | 2 => .array .int
  | 3 => .array .int
  | 4 => .array .int
  | _ => .int
theorem nz_C : ∀ a, a < 6 → ∀ b, b < 6 → a ≠ b → (Tz_C a).2.1 ≠ (Tz_C b).2.1 := by decide +kernel
theorem tz_C_ok : ∀ k, k < 6 → parseFieldDescriptor (Tz_C k).2.2.1 = some (tz_C k) := by decide +kernel
theorem uz_C : ∀ w ∈ u_ws Rz_C Tz_C 6, w ∈ AW_ := fun w hw => by
  obtain ⟨k, hk, rfl⟩ := List.mem_map.mp hw
  have hk := List.mem_range.mp hk
  rcases (show k = 0 ∨ k = 1 ∨ k = 2 ∨ k = 3 ∨ k = 4 ∨ k = 5 by omega) with rfl | rfl | rfl | rfl | rfl | rfl
  · exact kw_96
  · exact kw_98
  · exact kw_100
  · exact kw_102
  · exact kw_104
  · exact kw_106
def Rz_T : String := "StagedParsers$Text"
def Tz_T : u_T := fun k => match k with
  | 0 => ("StagedParsers$Text", "signs", "[C", true)
  | _ => ("StagedParsers$Text", "size", "I", false)
def tz_T : Nat → FieldType := fun k => match k with
  | 0 => .array .char
  | _ => .int
theorem nz_T : ∀ a, a < 2 → ∀ b, b < 2 → a ≠ b → (Tz_T a).2.1 ≠ (Tz_T b).2.1 := by decide +kernel
theorem tz_T_ok : ∀ k, k < 2 → parseFieldDescriptor (Tz_T k).2.2.1 = some (tz_T k) := by decide +kernel
theorem uz_T : ∀ w ∈ u_ws Rz_T Tz_T 2, w ∈ AW_ := fun w hw => by
  obtain ⟨k, hk, rfl⟩ := List.mem_map.mp hw
  have hk := List.mem_range.mp hk
  rcases (show k = 0 ∨ k = 1 by omega) with rfl | rfl
  · exact kw_117
  · exact kw_119
def Rz_M : String := "StagedParsers$Machine"
def Tz_M : u_T := fun k => match k with
  | 0 => ("StagedParsers$Machine", "code", "LStagedParsers$Code;", true)
  | 1 => ("StagedParsers$Machine", "text", "LStagedParsers$Text;", true)
  | 2 => ("StagedParsers$Machine", "frames", "LStagedParsers$Frames;", true)
  | 3 => ("StagedParsers$Machine", "answers", "[I", true)
  | 4 => ("StagedParsers$Machine", "registers", "[I", true)
  | 5 => ("StagedParsers$Machine", "answerCount", "I", false)
  | 6 => ("StagedParsers$Machine", "state", "I", false)
  | 7 => ("StagedParsers$Machine", "next", "I", false)
  | 8 => ("StagedParsers$Machine", "place", "I", false)
  | 9 => ("StagedParsers$Machine", "looks", "I", false)
  | 10 => ("StagedParsers$Machine", "far", "I", false)
  | 11 => ("StagedParsers$Machine", "bodies", "I", false)
  | 12 => ("StagedParsers$Machine", "depth", "I", false)
  | _ => ("StagedParsers$Machine", "ran", "Z", false)
def tz_M : Nat → FieldType := fun k => match k with
  | 0 => .object "StagedParsers$Code"
  | 1 => .object "StagedParsers$Text"
  | 2 => .object "StagedParsers$Frames"
  | 3 => .array .int
  | 4 => .array .int
  | 5 => .int
  | 6 => .int
  | 7 => .int
  | 8 => .int
  | 9 => .int
  | 10 => .int
  | 11 => .int
  | 12 => .int
  | _ => .boolean
theorem nz_M : ∀ a, a < 14 → ∀ b, b < 14 → a ≠ b → (Tz_M a).2.1 ≠ (Tz_M b).2.1 := by decide +kernel
theorem tz_M_ok : ∀ k, k < 14 → parseFieldDescriptor (Tz_M k).2.2.1 = some (tz_M k) := by decide +kernel
theorem uz_M : ∀ w ∈ u_ws Rz_M Tz_M 14, w ∈ AW_ := fun w hw => by
  obtain ⟨k, hk, rfl⟩ := List.mem_map.mp hw
  have hk := List.mem_range.mp hk
  rcases (show k = 0 ∨ k = 1 ∨ k = 2 ∨ k = 3 ∨ k = 4 ∨ k = 5 ∨ k = 6 ∨ k = 7 ∨ k = 8 ∨ k = 9 ∨ k = 10 ∨ k = 11 ∨ k = 12 ∨ k = 13 by omega) with rfl | rfl | rfl | rfl | rfl | rfl | rfl | rfl | rfl | rfl | rfl | rfl | rfl | rfl
  · exact kw_165
  · exact kw_167
  · exact kw_169
  · exact kw_171
  · exact kw_173
  · exact kw_175
  · exact kw_177
  · exact kw_179
  · exact kw_181
  · exact kw_183
  · exact kw_185
  · exact kw_187
  · exact kw_189
  · exact kw_191
def Rz_F : String := "StagedParsers$Frames"
def Tz_F : u_T := fun k => match k with
  | 0 => ("StagedParsers$Frames", "manners", "[I", true)
  | 1 => ("StagedParsers$Frames", "targets", "[I", true)
  | 2 => ("StagedParsers$Frames", "places", "[I", true)
  | 3 => ("StagedParsers$Frames", "heights", "[I", true)
  | _ => ("StagedParsers$Frames", "size", "I", false)
def tz_F : Nat → FieldType := fun k => match k with
  | 0 => .array .int
  | 1 => .array .int
  | 2 => .array .int
  | 3 => .array .int
  | _ => .int
theorem nz_F : ∀ a, a < 5 → ∀ b, b < 5 → a ≠ b → (Tz_F a).2.1 ≠ (Tz_F b).2.1 := by decide +kernel
theorem tz_F_ok : ∀ k, k < 5 → parseFieldDescriptor (Tz_F k).2.2.1 = some (tz_F k) := by decide +kernel
theorem uz_F : ∀ w ∈ u_ws Rz_F Tz_F 5, w ∈ AW_ := fun w hw => by
  obtain ⟨k, hk, rfl⟩ := List.mem_map.mp hw
  have hk := List.mem_range.mp hk
  rcases (show k = 0 ∨ k = 1 ∨ k = 2 ∨ k = 3 ∨ k = 4 by omega) with rfl | rfl | rfl | rfl | rfl
  · exact kw_140
  · exact kw_142
  · exact kw_144
  · exact kw_146
  · exact kw_148
def Rz_R : String := "StagedParsersModel"
def Tz_R : u_T := fun k => match k with
  | 0 => ("StagedParsersModel", "thrown", "I", false)
  | 1 => ("StagedParsersModel", "nodes", "I", false)
  | 2 => ("StagedParsersModel", "kind", "[I", true)
  | 3 => ("StagedParsersModel", "one", "[I", true)
  | 4 => ("StagedParsersModel", "two", "[I", true)
  | 5 => ("StagedParsersModel", "three", "[I", true)
  | 6 => ("StagedParsersModel", "high", "[I", true)
  | 7 => ("StagedParsersModel", "bodies", "[I", true)
  | 8 => ("StagedParsersModel", "staged", "Z", false)
  | 9 => ("StagedParsersModel", "text", "[I", true)
  | 10 => ("StagedParsersModel", "length", "I", false)
  | 11 => ("StagedParsersModel", "isEmpty", "[Z", true)
  | 12 => ("StagedParsersModel", "isBeginning", "[Z", true)
  | 13 => ("StagedParsersModel", "leading", "[I", true)
  | 14 => ("StagedParsersModel", "within", "[Z", true)
  | 15 => ("StagedParsersModel", "open", "I", false)
  | 16 => ("StagedParsersModel", "which", "[I", true)
  | 17 => ("StagedParsersModel", "state", "[I", true)
  | 18 => ("StagedParsersModel", "start", "[I", true)
  | 19 => ("StagedParsersModel", "answer", "[I", true)
  | 20 => ("StagedParsersModel", "mark", "[I", true)
  | 21 => ("StagedParsersModel", "sign", "[I", true)
  | 22 => ("StagedParsersModel", "good", "Z", false)
  | 23 => ("StagedParsersModel", "at", "I", false)
  | 24 => ("StagedParsersModel", "value", "I", false)
  | 25 => ("StagedParsersModel", "tired", "Z", false)
  | 26 => ("StagedParsersModel", "running", "I", false)
  | 27 => ("StagedParsersModel", "bodiesRun", "I", false)
  | 28 => ("StagedParsersModel", "looks", "I", false)
  | 29 => ("StagedParsersModel", "far", "I", false)
  | 30 => ("StagedParsersModel", "registers", "[I", true)
  | 31 => ("StagedParsersModel", "parsed", "Z", false)
  | 32 => ("StagedParsersModel", "lastPlace", "I", false)
  | _ => ("StagedParsersModel", "lastGood", "Z", false)
def tz_R : Nat → FieldType := fun k => match k with
  | 0 => .int
  | 1 => .int
  | 2 => .array .int
  | 3 => .array .int
  | 4 => .array .int
  | 5 => .array .int
  | 6 => .array .int
  | 7 => .array .int
  | 8 => .boolean
  | 9 => .array .int
  | 10 => .int
  | 11 => .array .boolean
  | 12 => .array .boolean
  | 13 => .array .int
  | 14 => .array .boolean
  | 15 => .int
  | 16 => .array .int
  | 17 => .array .int
  | 18 => .array .int
  | 19 => .array .int
  | 20 => .array .int
  | 21 => .array .int
  | 22 => .boolean
  | 23 => .int
  | 24 => .int
  | 25 => .boolean
  | 26 => .int
  | 27 => .int
  | 28 => .int
  | 29 => .int
  | 30 => .array .int
  | 31 => .boolean
  | 32 => .int
  | _ => .boolean
theorem nz_R : ∀ a, a < 34 → ∀ b, b < 34 → a ≠ b → (Tz_R a).2.1 ≠ (Tz_R b).2.1 := by decide +kernel
theorem tz_R_ok : ∀ k, k < 34 → parseFieldDescriptor (Tz_R k).2.2.1 = some (tz_R k) := by decide +kernel
theorem uz_R : ∀ w ∈ u_ws Rz_R Tz_R 34, w ∈ AW_ := fun w hw => by
  obtain ⟨k, hk, rfl⟩ := List.mem_map.mp hw
  have hk := List.mem_range.mp hk
  rcases (show k = 0 ∨ k = 1 ∨ k = 2 ∨ k = 3 ∨ k = 4 ∨ k = 5 ∨ k = 6 ∨ k = 7 ∨ k = 8 ∨ k = 9 ∨ k = 10 ∨ k = 11 ∨ k = 12 ∨ k = 13 ∨ k = 14 ∨ k = 15 ∨ k = 16 ∨ k = 17 ∨ k = 18 ∨ k = 19 ∨ k = 20 ∨ k = 21 ∨ k = 22 ∨ k = 23 ∨ k = 24 ∨ k = 25 ∨ k = 26 ∨ k = 27 ∨ k = 28 ∨ k = 29 ∨ k = 30 ∨ k = 31 ∨ k = 32 ∨ k = 33 by omega) with rfl | rfl | rfl | rfl | rfl | rfl | rfl | rfl | rfl | rfl | rfl | rfl | rfl | rfl | rfl | rfl | rfl | rfl | rfl | rfl | rfl | rfl | rfl | rfl | rfl | rfl | rfl | rfl | rfl | rfl | rfl | rfl | rfl | rfl
  · exact kw_845
  · exact kw_847
  · exact kw_849
  · exact kw_851
  · exact kw_853
  · exact kw_855
  · exact kw_857
  · exact kw_859
  · exact kw_861
  · exact kw_863
  · exact kw_865
  · exact kw_867
  · exact kw_869
  · exact kw_871
  · exact kw_873
  · exact kw_875
  · exact kw_877
  · exact kw_879
  · exact kw_881
  · exact kw_883
  · exact kw_885
  · exact kw_887
  · exact kw_889
  · exact kw_891
  · exact kw_893
  · exact kw_895
  · exact kw_897
  · exact kw_899
  · exact kw_901
  · exact kw_903
  · exact kw_905
  · exact kw_907
  · exact kw_909
  · exact kw_911
abbrev cls_ : List vw_C := [(Rz_S, Tz_S, 6), (Rz_G, Tz_G, 7), (Rz_Y, Tz_Y, 6), (Rz_C, Tz_C, 6), (Rz_T, Tz_T, 2), (Rz_M, Tz_M, 14), (Rz_F, Tz_F, 5), (Rz_R, Tz_R, 34)]
def wX (q : Nat → Nat) (cA : Nat → ClassId) (σ : MZ_) : va_W := [(q 0, .inr (0, [.ref (q 1), .ref (q 8), .ref (q 14), .ref (q 20), .ref (q 22), .int (σ 30 0)])),
  (q 1, .inr (1, [.ref (q 2), .ref (q 3), .ref (q 4), .ref (q 5), .ref (q 6), .ref (q 7), .int (σ 31 0)])),
  (q 2, .inl (cA 2, 80, .inl (σ 2))),
  (q 3, .inl (cA 3, 80, .inl (σ 3))),
  (q 4, .inl (cA 4, 80, .inl (σ 4))),
  (q 5, .inl (cA 5, 80, .inl (σ 5))),
  (q 6, .inl (cA 6, 80, .inl (σ 6))),
  (q 7, .inl (cA 7, 6, .inl (σ 7))),
  (q 8, .inr (2, [.ref (q 1), .ref (q 9), .ref (q 10), .ref (q 11), .ref (q 12), .ref (q 13)])),
  (q 9, .inl (cA 9, 80, .inl (σ 9))),
  (q 10, .inl (cA 10, 80, .inl (σ 10))),
  (q 11, .inl (cA 11, 80, .inl (σ 11))),
  (q 12, .inl (cA 12, 80, .inl (σ 12))),
  (q 13, .inl (cA 13, 6, .inl (σ 13))),
  (q 14, .inr (3, [.ref (q 15), .ref (q 16), .ref (q 17), .ref (q 18), .ref (q 19), .int (σ 32 0)])),
  (q 15, .inl (cA 15, 561, .inl (σ 15))),
  (q 16, .inl (cA 16, 561, .inl (σ 16))),
  (q 17, .inl (cA 17, 561, .inl (σ 17))),
  (q 18, .inl (cA 18, 80, .inl (σ 18))),
  (q 19, .inl (cA 19, 6, .inl (σ 19))),
  (q 20, .inr (4, [.ref (q 21), .int (σ 33 0)])),
  (q 21, .inl (cA 21, 40, .inl (σ 21))),
  (q 22, .inr (5, [.ref (q 14), .ref (q 20), .ref (q 25), .ref (q 23), .ref (q 24), .int (σ 34 0), .int (σ 35 0), .int (σ 36 0), .int (σ 37 0), .int (σ 38 0), .int (σ 39 0), .int (σ 40 0), .int (σ 41 0), .int (σ 42 0)])),
  (q 23, .inl (cA 23, 642, .inl (σ 23))),
  (q 24, .inl (cA 24, 4, .inl (σ 24))),
  (q 25, .inr (6, [.ref (q 26), .ref (q 27), .ref (q 28), .ref (q 29), .int (σ 43 0)])),
  (q 26, .inl (cA 26, 640, .inl (σ 26))),
  (q 27, .inl (cA 27, 640, .inl (σ 27))),
  (q 28, .inl (cA 28, 640, .inl (σ 28))),
  (q 29, .inl (cA 29, 640, .inl (σ 29)))]
def tyX (cA : Nat → ClassId) : List (ClassId × FieldType) := [(cA 2, .int), (cA 3, .int), (cA 4, .int), (cA 5, .int), (cA 6, .int), (cA 7, .int), (cA 9, .boolean), (cA 10, .boolean), (cA 11, .boolean), (cA 12, .int), (cA 13, .int), (cA 15, .int), (cA 16, .int), (cA 17, .int), (cA 18, .int), (cA 19, .int), (cA 21, .char), (cA 23, .int), (cA 24, .int), (cA 26, .int), (cA 27, .int), (cA 28, .int), (cA 29, .int)]
/-- the cells of the system -/
def AX (q : Nat → Nat) : Nat → Prop := fun a => ∃ i, i < 30 ∧ a = q i
theorem wX_f (q : Nat → Nat) (cA : Nat → ClassId) (σ σ2 : MZ_) : (wX q cA σ).map Prod.fst = (wX q cA σ2).map Prod.fst := rfl
theorem wX_a (q : Nat → Nat) (cA : Nat → ClassId) (σ : MZ_) : (wX q cA σ).map Prod.fst = (List.range 30).map q := rfl
def wR (q : Nat → Nat) (cA : Nat → ClassId) (σ : MZ_) : va_W := [(q 0, .inr (7, [.int (σ 30 0), .int (σ 31 0), .ref (q 1), .ref (q 2), .ref (q 3), .ref (q 4), .ref (q 5), .ref (q 6), .int (σ 32 0), .ref (q 7), .int (σ 33 0), .ref (q 8), .ref (q 9), .ref (q 10), .ref (q 11), .int (σ 34 0), .ref (q 12), .ref (q 13), .ref (q 14), .ref (q 15), .ref (q 16), .ref (q 17), .int (σ 35 0), .int (σ 36 0), .int (σ 37 0), .int (σ 38 0), .int (σ 39 0), .int (σ 40 0), .int (σ 41 0), .int (σ 42 0), .ref (q 18), .int (σ 43 0), .int (σ 44 0), .int (σ 45 0)])),
  (q 1, .inl (cA 1, 80, .inl (σ 1))),
  (q 2, .inl (cA 2, 80, .inl (σ 2))),
  (q 3, .inl (cA 3, 80, .inl (σ 3))),
  (q 4, .inl (cA 4, 80, .inl (σ 4))),
  (q 5, .inl (cA 5, 80, .inl (σ 5))),
  (q 6, .inl (cA 6, 6, .inl (σ 6))),
  (q 7, .inl (cA 7, 40, .inl (σ 7))),
  (q 8, .inl (cA 8, 80, .inl (σ 8))),
  (q 9, .inl (cA 9, 80, .inl (σ 9))),
  (q 10, .inl (cA 10, 80, .inl (σ 10))),
  (q 11, .inl (cA 11, 80, .inl (σ 11))),
  (q 12, .inl (cA 12, 400, .inl (σ 12))),
  (q 13, .inl (cA 13, 400, .inl (σ 13))),
  (q 14, .inl (cA 14, 400, .inl (σ 14))),
  (q 15, .inl (cA 15, 400, .inl (σ 15))),
  (q 16, .inl (cA 16, 400, .inl (σ 16))),
  (q 17, .inl (cA 17, 400, .inl (σ 17))),
  (q 18, .inl (cA 18, 4, .inl (σ 18)))]
def tyR (cA : Nat → ClassId) : List (ClassId × FieldType) := [(cA 1, .int), (cA 2, .int), (cA 3, .int), (cA 4, .int), (cA 5, .int), (cA 6, .int), (cA 7, .int), (cA 8, .boolean), (cA 9, .boolean), (cA 10, .int), (cA 11, .boolean), (cA 12, .int), (cA 13, .int), (cA 14, .int), (cA 15, .int), (cA 16, .int), (cA 17, .int), (cA 18, .int)]
/-- the cells of the system -/
def AR (q : Nat → Nat) : Nat → Prop := fun a => ∃ i, i < 19 ∧ a = q i
theorem wR_f (q : Nat → Nat) (cA : Nat → ClassId) (σ σ2 : MZ_) : (wR q cA σ).map Prod.fst = (wR q cA σ2).map Prod.fst := rfl
theorem wR_a (q : Nat → Nat) (cA : Nat → ClassId) (σ : MZ_) : (wR q cA σ).map Prod.fst = (List.range 19).map q := rfl
theorem dd_re {A : Nat → Prop} {w w2 : va_W} (h : w.map Prod.fst = w2.map Prod.fst) (hD : va_D A w) : va_D A w2 := by
  have key : ∀ (k : Nat) (x : Nat × va_E), w2[k]? = some x → ∃ y : Nat × va_E, w[k]? = some y ∧ y.1 = x.1 := by
    intro k x hk
    have e1 : (w2.map Prod.fst)[k]? = some x.1 := by rw [List.getElem?_map, hk]; rfl
    rw [← h, List.getElem?_map] at e1
    cases hw : w[k]? with
    | none => rw [hw] at e1; cases e1
    | some y => rw [hw] at e1; exact ⟨y, rfl, Option.some.inj e1⟩
  refine ⟨fun i j a b hi hj hab => ?_, fun k x hk => ?_⟩
  · obtain ⟨a', h1, h2⟩ := key i a hi
    obtain ⟨b', h3, h4⟩ := key j b hj
    exact hD.1 i j a' b' h1 h3 (by rw [h2, h4]; exact hab)
  · obtain ⟨y, h1, h2⟩ := key k x hk
    rw [← h2]
    exact hD.2 k y h1
theorem dd_in {N : Nat} {q : Nat → Nat} {A0 : Nat → Prop} {w : va_W} (h : w.map Prod.fst = (List.range N).map q) (hD : va_D A0 w) : va_D (fun a => ∃ i, i < N ∧ a = q i) w := by
  refine ⟨hD.1, fun k x hk => ?_⟩
  have e1 : (w.map Prod.fst)[k]? = some x.1 := by rw [List.getElem?_map, hk]; rfl
  rw [h, List.getElem?_map] at e1
  cases hr : (List.range N)[k]? with
  | none => rw [hr] at e1; cases e1
  | some j =>
    rw [hr] at e1
    have hj : j < N := List.mem_range.mp (List.mem_of_getElem? hr)
    exact ⟨j, hj, (Option.some.inj e1).symm⟩
section ROWSA
variable {p : Program} {l : Launch} {e : Env} {R : Room} {s : State} {m : MethodId} {args : Array Value} {below : List Frame} {meth : Method} {c : Code} {H : Heap} {locs : List Loc} {cells slots : Nat} {Q : State → Prop}
variable {cc : ByteArray} {pc : Nat} {ls : Array Slot} {rest : List Value} {dC : Nat → ClassId} {dI : Nat → Nat → Nat} {q : Nat → Nat} {cA : Nat → ClassId} {σ : MZ_} {H0 : Heap} {A : Nat → Prop}

theorem al_X_2 (hx : p.tables.exec = Jvm.exec) (hb : c.code = cc) (hK : va_K (dC, dI) cls_ (tyX cA) s) (hP : va_P (dC, dI) cls_ (wX q cA σ) H) {i : Int32} (hin : vp_in i 80) (hdg : decode cc pc = .ok (.iaload, 1)) (kk : W p l e R s m args below meth c H locs cells slots Q (F0 m (pc + 1) ls (.int (σ 2 i.toNatClampNeg) :: rest))) : W p l e R s m args below meth c H locs cells slots Q (F0 m pc ls (.int i :: .ref (q 2) :: rest)) :=
  va_iald (D := (dC, dI)) (cl := cls_) (ws := wX q cA σ) (tys := tyX cA) hx hb hK hP 2 0 rfl rfl hin hdg kk
theorem as_X_2 (hx : p.tables.exec = Jvm.exec) (hb : c.code = cc) (hK : va_K (dC, dI) cls_ (tyX cA) s) (hP : va_P (dC, dI) cls_ (wX q cA σ) H) (hD : va_D A (wX q cA σ)) (hS : va_S A H0 H locs) {i x : Int32} (hin : vp_in i 80) (hdg : decode cc pc = .ok (.iastore, 1)) (kk : ∀ (H1 : Heap) (locs1 : List Loc), va_P (dC, dI) cls_ (wX q cA (va_up σ 2 (upd (σ 2) i.toNatClampNeg x))) H1 → va_S A H0 H1 locs1 → W p l e R s m args below meth c H1 locs1 cells slots Q (F0 m (pc + 1) ls rest)) : W p l e R s m args below meth c H locs cells slots Q (F0 m pc ls (.int x :: .int i :: .ref (q 2) :: rest)) :=
  va_iast (D := (dC, dI)) (cl := cls_) (ws := wX q cA σ) (tys := tyX cA) hx hb hK hP hD hS 2 0 rfl rfl hin hdg (fun H1 locs1 hP _ hS => kk H1 locs1 hP hS)
theorem al_X_3 (hx : p.tables.exec = Jvm.exec) (hb : c.code = cc) (hK : va_K (dC, dI) cls_ (tyX cA) s) (hP : va_P (dC, dI) cls_ (wX q cA σ) H) {i : Int32} (hin : vp_in i 80) (hdg : decode cc pc = .ok (.iaload, 1)) (kk : W p l e R s m args below meth c H locs cells slots Q (F0 m (pc + 1) ls (.int (σ 3 i.toNatClampNeg) :: rest))) : W p l e R s m args below meth c H locs cells slots Q (F0 m pc ls (.int i :: .ref (q 3) :: rest)) :=
  va_iald (D := (dC, dI)) (cl := cls_) (ws := wX q cA σ) (tys := tyX cA) hx hb hK hP 3 1 rfl rfl hin hdg kk
theorem as_X_3 (hx : p.tables.exec = Jvm.exec) (hb : c.code = cc) (hK : va_K (dC, dI) cls_ (tyX cA) s) (hP : va_P (dC, dI) cls_ (wX q cA σ) H) (hD : va_D A (wX q cA σ)) (hS : va_S A H0 H locs) {i x : Int32} (hin : vp_in i 80) (hdg : decode cc pc = .ok (.iastore, 1)) (kk : ∀ (H1 : Heap) (locs1 : List Loc), va_P (dC, dI) cls_ (wX q cA (va_up σ 3 (upd (σ 3) i.toNatClampNeg x))) H1 → va_S A H0 H1 locs1 → W p l e R s m args below meth c H1 locs1 cells slots Q (F0 m (pc + 1) ls rest)) : W p l e R s m args below meth c H locs cells slots Q (F0 m pc ls (.int x :: .int i :: .ref (q 3) :: rest)) :=
  va_iast (D := (dC, dI)) (cl := cls_) (ws := wX q cA σ) (tys := tyX cA) hx hb hK hP hD hS 3 1 rfl rfl hin hdg (fun H1 locs1 hP _ hS => kk H1 locs1 hP hS)
theorem al_X_4 (hx : p.tables.exec = Jvm.exec) (hb : c.code = cc) (hK : va_K (dC, dI) cls_ (tyX cA) s) (hP : va_P (dC, dI) cls_ (wX q cA σ) H) {i : Int32} (hin : vp_in i 80) (hdg : decode cc pc = .ok (.iaload, 1)) (kk : W p l e R s m args below meth c H locs cells slots Q (F0 m (pc + 1) ls (.int (σ 4 i.toNatClampNeg) :: rest))) : W p l e R s m args below meth c H locs cells slots Q (F0 m pc ls (.int i :: .ref (q 4) :: rest)) :=
  va_iald (D := (dC, dI)) (cl := cls_) (ws := wX q cA σ) (tys := tyX cA) hx hb hK hP 4 2 rfl rfl hin hdg kk
theorem as_X_4 (hx : p.tables.exec = Jvm.exec) (hb : c.code = cc) (hK : va_K (dC, dI) cls_ (tyX cA) s) (hP : va_P (dC, dI) cls_ (wX q cA σ) H) (hD : va_D A (wX q cA σ)) (hS : va_S A H0 H locs) {i x : Int32} (hin : vp_in i 80) (hdg : decode cc pc = .ok (.iastore, 1)) (kk : ∀ (H1 : Heap) (locs1 : List Loc), va_P (dC, dI) cls_ (wX q cA (va_up σ 4 (upd (σ 4) i.toNatClampNeg x))) H1 → va_S A H0 H1 locs1 → W p l e R s m args below meth c H1 locs1 cells slots Q (F0 m (pc + 1) ls rest)) : W p l e R s m args below meth c H locs cells slots Q (F0 m pc ls (.int x :: .int i :: .ref (q 4) :: rest)) :=
  va_iast (D := (dC, dI)) (cl := cls_) (ws := wX q cA σ) (tys := tyX cA) hx hb hK hP hD hS 4 2 rfl rfl hin hdg (fun H1 locs1 hP _ hS => kk H1 locs1 hP hS)
theorem al_X_5 (hx : p.tables.exec = Jvm.exec) (hb : c.code = cc) (hK : va_K (dC, dI) cls_ (tyX cA) s) (hP : va_P (dC, dI) cls_ (wX q cA σ) H) {i : Int32} (hin : vp_in i 80) (hdg : decode cc pc = .ok (.iaload, 1)) (kk : W p l e R s m args below meth c H locs cells slots Q (F0 m (pc + 1) ls (.int (σ 5 i.toNatClampNeg) :: rest))) : W p l e R s m args below meth c H locs cells slots Q (F0 m pc ls (.int i :: .ref (q 5) :: rest)) :=
  va_iald (D := (dC, dI)) (cl := cls_) (ws := wX q cA σ) (tys := tyX cA) hx hb hK hP 5 3 rfl rfl hin hdg kk
theorem as_X_5 (hx : p.tables.exec = Jvm.exec) (hb : c.code = cc) (hK : va_K (dC, dI) cls_ (tyX cA) s) (hP : va_P (dC, dI) cls_ (wX q cA σ) H) (hD : va_D A (wX q cA σ)) (hS : va_S A H0 H locs) {i x : Int32} (hin : vp_in i 80) (hdg : decode cc pc = .ok (.iastore, 1)) (kk : ∀ (H1 : Heap) (locs1 : List Loc), va_P (dC, dI) cls_ (wX q cA (va_up σ 5 (upd (σ 5) i.toNatClampNeg x))) H1 → va_S A H0 H1 locs1 → W p l e R s m args below meth c H1 locs1 cells slots Q (F0 m (pc + 1) ls rest)) : W p l e R s m args below meth c H locs cells slots Q (F0 m pc ls (.int x :: .int i :: .ref (q 5) :: rest)) :=
  va_iast (D := (dC, dI)) (cl := cls_) (ws := wX q cA σ) (tys := tyX cA) hx hb hK hP hD hS 5 3 rfl rfl hin hdg (fun H1 locs1 hP _ hS => kk H1 locs1 hP hS)
theorem al_X_6 (hx : p.tables.exec = Jvm.exec) (hb : c.code = cc) (hK : va_K (dC, dI) cls_ (tyX cA) s) (hP : va_P (dC, dI) cls_ (wX q cA σ) H) {i : Int32} (hin : vp_in i 80) (hdg : decode cc pc = .ok (.iaload, 1)) (kk : W p l e R s m args below meth c H locs cells slots Q (F0 m (pc + 1) ls (.int (σ 6 i.toNatClampNeg) :: rest))) : W p l e R s m args below meth c H locs cells slots Q (F0 m pc ls (.int i :: .ref (q 6) :: rest)) :=
  va_iald (D := (dC, dI)) (cl := cls_) (ws := wX q cA σ) (tys := tyX cA) hx hb hK hP 6 4 rfl rfl hin hdg kk
theorem as_X_6 (hx : p.tables.exec = Jvm.exec) (hb : c.code = cc) (hK : va_K (dC, dI) cls_ (tyX cA) s) (hP : va_P (dC, dI) cls_ (wX q cA σ) H) (hD : va_D A (wX q cA σ)) (hS : va_S A H0 H locs) {i x : Int32} (hin : vp_in i 80) (hdg : decode cc pc = .ok (.iastore, 1)) (kk : ∀ (H1 : Heap) (locs1 : List Loc), va_P (dC, dI) cls_ (wX q cA (va_up σ 6 (upd (σ 6) i.toNatClampNeg x))) H1 → va_S A H0 H1 locs1 → W p l e R s m args below meth c H1 locs1 cells slots Q (F0 m (pc + 1) ls rest)) : W p l e R s m args below meth c H locs cells slots Q (F0 m pc ls (.int x :: .int i :: .ref (q 6) :: rest)) :=
  va_iast (D := (dC, dI)) (cl := cls_) (ws := wX q cA σ) (tys := tyX cA) hx hb hK hP hD hS 6 4 rfl rfl hin hdg (fun H1 locs1 hP _ hS => kk H1 locs1 hP hS)
theorem al_X_7 (hx : p.tables.exec = Jvm.exec) (hb : c.code = cc) (hK : va_K (dC, dI) cls_ (tyX cA) s) (hP : va_P (dC, dI) cls_ (wX q cA σ) H) {i : Int32} (hin : vp_in i 6) (hdg : decode cc pc = .ok (.iaload, 1)) (kk : W p l e R s m args below meth c H locs cells slots Q (F0 m (pc + 1) ls (.int (σ 7 i.toNatClampNeg) :: rest))) : W p l e R s m args below meth c H locs cells slots Q (F0 m pc ls (.int i :: .ref (q 7) :: rest)) :=
  va_iald (D := (dC, dI)) (cl := cls_) (ws := wX q cA σ) (tys := tyX cA) hx hb hK hP 7 5 rfl rfl hin hdg kk
theorem as_X_7 (hx : p.tables.exec = Jvm.exec) (hb : c.code = cc) (hK : va_K (dC, dI) cls_ (tyX cA) s) (hP : va_P (dC, dI) cls_ (wX q cA σ) H) (hD : va_D A (wX q cA σ)) (hS : va_S A H0 H locs) {i x : Int32} (hin : vp_in i 6) (hdg : decode cc pc = .ok (.iastore, 1)) (kk : ∀ (H1 : Heap) (locs1 : List Loc), va_P (dC, dI) cls_ (wX q cA (va_up σ 7 (upd (σ 7) i.toNatClampNeg x))) H1 → va_S A H0 H1 locs1 → W p l e R s m args below meth c H1 locs1 cells slots Q (F0 m (pc + 1) ls rest)) : W p l e R s m args below meth c H locs cells slots Q (F0 m pc ls (.int x :: .int i :: .ref (q 7) :: rest)) :=
  va_iast (D := (dC, dI)) (cl := cls_) (ws := wX q cA σ) (tys := tyX cA) hx hb hK hP hD hS 7 5 rfl rfl hin hdg (fun H1 locs1 hP _ hS => kk H1 locs1 hP hS)
theorem an_X_7 (hx : p.tables.exec = Jvm.exec) (hb : c.code = cc) (hK : va_K (dC, dI) cls_ (tyX cA) s) (hP : va_P (dC, dI) cls_ (wX q cA σ) H) (hdg : decode cc pc = .ok (.arraylength, 1)) (kk : W p l e R s m args below meth c H locs cells slots Q (F0 m (pc + 1) ls (.int 6 :: rest))) : W p l e R s m args below meth c H locs cells slots Q (F0 m pc ls (.ref (q 7) :: rest)) :=
  va_alen (D := (dC, dI)) (cl := cls_) (ws := wX q cA σ) (tys := tyX cA) hx hb hK hP 7 5 rfl rfl (show Int32.ofNat 6 = 6 by decide) hdg kk
theorem al_X_9 (hx : p.tables.exec = Jvm.exec) (hb : c.code = cc) (hK : va_K (dC, dI) cls_ (tyX cA) s) (hP : va_P (dC, dI) cls_ (wX q cA σ) H) {i : Int32} (hin : vp_in i 80) (hdg : decode cc pc = .ok (.baload, 1)) (kk : W p l e R s m args below meth c H locs cells slots Q (F0 m (pc + 1) ls (.int (σ 9 i.toNatClampNeg) :: rest))) : W p l e R s m args below meth c H locs cells slots Q (F0 m pc ls (.int i :: .ref (q 9) :: rest)) :=
  va_zald (D := (dC, dI)) (cl := cls_) (ws := wX q cA σ) (tys := tyX cA) hx hb hK hP 9 6 rfl rfl hin hdg kk
theorem as_X_9 (hx : p.tables.exec = Jvm.exec) (hb : c.code = cc) (hK : va_K (dC, dI) cls_ (tyX cA) s) (hP : va_P (dC, dI) cls_ (wX q cA σ) H) (hD : va_D A (wX q cA σ)) (hS : va_S A H0 H locs) {i x : Int32} (hin : vp_in i 80) (hdg : decode cc pc = .ok (.bastore, 1)) (kk : ∀ (H1 : Heap) (locs1 : List Loc), va_P (dC, dI) cls_ (wX q cA (va_up σ 9 (upd (σ 9) i.toNatClampNeg (vp_nar .boolean x)))) H1 → va_S A H0 H1 locs1 → W p l e R s m args below meth c H1 locs1 cells slots Q (F0 m (pc + 1) ls rest)) : W p l e R s m args below meth c H locs cells slots Q (F0 m pc ls (.int x :: .int i :: .ref (q 9) :: rest)) :=
  va_zast (D := (dC, dI)) (cl := cls_) (ws := wX q cA σ) (tys := tyX cA) hx hb hK hP hD hS 9 6 rfl rfl hin hdg (fun H1 locs1 hP _ hS => kk H1 locs1 hP hS)
theorem al_X_10 (hx : p.tables.exec = Jvm.exec) (hb : c.code = cc) (hK : va_K (dC, dI) cls_ (tyX cA) s) (hP : va_P (dC, dI) cls_ (wX q cA σ) H) {i : Int32} (hin : vp_in i 80) (hdg : decode cc pc = .ok (.baload, 1)) (kk : W p l e R s m args below meth c H locs cells slots Q (F0 m (pc + 1) ls (.int (σ 10 i.toNatClampNeg) :: rest))) : W p l e R s m args below meth c H locs cells slots Q (F0 m pc ls (.int i :: .ref (q 10) :: rest)) :=
  va_zald (D := (dC, dI)) (cl := cls_) (ws := wX q cA σ) (tys := tyX cA) hx hb hK hP 10 7 rfl rfl hin hdg kk
theorem as_X_10 (hx : p.tables.exec = Jvm.exec) (hb : c.code = cc) (hK : va_K (dC, dI) cls_ (tyX cA) s) (hP : va_P (dC, dI) cls_ (wX q cA σ) H) (hD : va_D A (wX q cA σ)) (hS : va_S A H0 H locs) {i x : Int32} (hin : vp_in i 80) (hdg : decode cc pc = .ok (.bastore, 1)) (kk : ∀ (H1 : Heap) (locs1 : List Loc), va_P (dC, dI) cls_ (wX q cA (va_up σ 10 (upd (σ 10) i.toNatClampNeg (vp_nar .boolean x)))) H1 → va_S A H0 H1 locs1 → W p l e R s m args below meth c H1 locs1 cells slots Q (F0 m (pc + 1) ls rest)) : W p l e R s m args below meth c H locs cells slots Q (F0 m pc ls (.int x :: .int i :: .ref (q 10) :: rest)) :=
  va_zast (D := (dC, dI)) (cl := cls_) (ws := wX q cA σ) (tys := tyX cA) hx hb hK hP hD hS 10 7 rfl rfl hin hdg (fun H1 locs1 hP _ hS => kk H1 locs1 hP hS)
theorem al_X_11 (hx : p.tables.exec = Jvm.exec) (hb : c.code = cc) (hK : va_K (dC, dI) cls_ (tyX cA) s) (hP : va_P (dC, dI) cls_ (wX q cA σ) H) {i : Int32} (hin : vp_in i 80) (hdg : decode cc pc = .ok (.baload, 1)) (kk : W p l e R s m args below meth c H locs cells slots Q (F0 m (pc + 1) ls (.int (σ 11 i.toNatClampNeg) :: rest))) : W p l e R s m args below meth c H locs cells slots Q (F0 m pc ls (.int i :: .ref (q 11) :: rest)) :=
  va_zald (D := (dC, dI)) (cl := cls_) (ws := wX q cA σ) (tys := tyX cA) hx hb hK hP 11 8 rfl rfl hin hdg kk
theorem as_X_11 (hx : p.tables.exec = Jvm.exec) (hb : c.code = cc) (hK : va_K (dC, dI) cls_ (tyX cA) s) (hP : va_P (dC, dI) cls_ (wX q cA σ) H) (hD : va_D A (wX q cA σ)) (hS : va_S A H0 H locs) {i x : Int32} (hin : vp_in i 80) (hdg : decode cc pc = .ok (.bastore, 1)) (kk : ∀ (H1 : Heap) (locs1 : List Loc), va_P (dC, dI) cls_ (wX q cA (va_up σ 11 (upd (σ 11) i.toNatClampNeg (vp_nar .boolean x)))) H1 → va_S A H0 H1 locs1 → W p l e R s m args below meth c H1 locs1 cells slots Q (F0 m (pc + 1) ls rest)) : W p l e R s m args below meth c H locs cells slots Q (F0 m pc ls (.int x :: .int i :: .ref (q 11) :: rest)) :=
  va_zast (D := (dC, dI)) (cl := cls_) (ws := wX q cA σ) (tys := tyX cA) hx hb hK hP hD hS 11 8 rfl rfl hin hdg (fun H1 locs1 hP _ hS => kk H1 locs1 hP hS)
theorem al_X_12 (hx : p.tables.exec = Jvm.exec) (hb : c.code = cc) (hK : va_K (dC, dI) cls_ (tyX cA) s) (hP : va_P (dC, dI) cls_ (wX q cA σ) H) {i : Int32} (hin : vp_in i 80) (hdg : decode cc pc = .ok (.iaload, 1)) (kk : W p l e R s m args below meth c H locs cells slots Q (F0 m (pc + 1) ls (.int (σ 12 i.toNatClampNeg) :: rest))) : W p l e R s m args below meth c H locs cells slots Q (F0 m pc ls (.int i :: .ref (q 12) :: rest)) :=
  va_iald (D := (dC, dI)) (cl := cls_) (ws := wX q cA σ) (tys := tyX cA) hx hb hK hP 12 9 rfl rfl hin hdg kk
theorem as_X_12 (hx : p.tables.exec = Jvm.exec) (hb : c.code = cc) (hK : va_K (dC, dI) cls_ (tyX cA) s) (hP : va_P (dC, dI) cls_ (wX q cA σ) H) (hD : va_D A (wX q cA σ)) (hS : va_S A H0 H locs) {i x : Int32} (hin : vp_in i 80) (hdg : decode cc pc = .ok (.iastore, 1)) (kk : ∀ (H1 : Heap) (locs1 : List Loc), va_P (dC, dI) cls_ (wX q cA (va_up σ 12 (upd (σ 12) i.toNatClampNeg x))) H1 → va_S A H0 H1 locs1 → W p l e R s m args below meth c H1 locs1 cells slots Q (F0 m (pc + 1) ls rest)) : W p l e R s m args below meth c H locs cells slots Q (F0 m pc ls (.int x :: .int i :: .ref (q 12) :: rest)) :=
  va_iast (D := (dC, dI)) (cl := cls_) (ws := wX q cA σ) (tys := tyX cA) hx hb hK hP hD hS 12 9 rfl rfl hin hdg (fun H1 locs1 hP _ hS => kk H1 locs1 hP hS)
theorem al_X_13 (hx : p.tables.exec = Jvm.exec) (hb : c.code = cc) (hK : va_K (dC, dI) cls_ (tyX cA) s) (hP : va_P (dC, dI) cls_ (wX q cA σ) H) {i : Int32} (hin : vp_in i 6) (hdg : decode cc pc = .ok (.iaload, 1)) (kk : W p l e R s m args below meth c H locs cells slots Q (F0 m (pc + 1) ls (.int (σ 13 i.toNatClampNeg) :: rest))) : W p l e R s m args below meth c H locs cells slots Q (F0 m pc ls (.int i :: .ref (q 13) :: rest)) :=
  va_iald (D := (dC, dI)) (cl := cls_) (ws := wX q cA σ) (tys := tyX cA) hx hb hK hP 13 10 rfl rfl hin hdg kk
theorem as_X_13 (hx : p.tables.exec = Jvm.exec) (hb : c.code = cc) (hK : va_K (dC, dI) cls_ (tyX cA) s) (hP : va_P (dC, dI) cls_ (wX q cA σ) H) (hD : va_D A (wX q cA σ)) (hS : va_S A H0 H locs) {i x : Int32} (hin : vp_in i 6) (hdg : decode cc pc = .ok (.iastore, 1)) (kk : ∀ (H1 : Heap) (locs1 : List Loc), va_P (dC, dI) cls_ (wX q cA (va_up σ 13 (upd (σ 13) i.toNatClampNeg x))) H1 → va_S A H0 H1 locs1 → W p l e R s m args below meth c H1 locs1 cells slots Q (F0 m (pc + 1) ls rest)) : W p l e R s m args below meth c H locs cells slots Q (F0 m pc ls (.int x :: .int i :: .ref (q 13) :: rest)) :=
  va_iast (D := (dC, dI)) (cl := cls_) (ws := wX q cA σ) (tys := tyX cA) hx hb hK hP hD hS 13 10 rfl rfl hin hdg (fun H1 locs1 hP _ hS => kk H1 locs1 hP hS)
theorem al_X_15 (hx : p.tables.exec = Jvm.exec) (hb : c.code = cc) (hK : va_K (dC, dI) cls_ (tyX cA) s) (hP : va_P (dC, dI) cls_ (wX q cA σ) H) {i : Int32} (hin : vp_in i 561) (hdg : decode cc pc = .ok (.iaload, 1)) (kk : W p l e R s m args below meth c H locs cells slots Q (F0 m (pc + 1) ls (.int (σ 15 i.toNatClampNeg) :: rest))) : W p l e R s m args below meth c H locs cells slots Q (F0 m pc ls (.int i :: .ref (q 15) :: rest)) :=
  va_iald (D := (dC, dI)) (cl := cls_) (ws := wX q cA σ) (tys := tyX cA) hx hb hK hP 15 11 rfl rfl hin hdg kk
theorem as_X_15 (hx : p.tables.exec = Jvm.exec) (hb : c.code = cc) (hK : va_K (dC, dI) cls_ (tyX cA) s) (hP : va_P (dC, dI) cls_ (wX q cA σ) H) (hD : va_D A (wX q cA σ)) (hS : va_S A H0 H locs) {i x : Int32} (hin : vp_in i 561) (hdg : decode cc pc = .ok (.iastore, 1)) (kk : ∀ (H1 : Heap) (locs1 : List Loc), va_P (dC, dI) cls_ (wX q cA (va_up σ 15 (upd (σ 15) i.toNatClampNeg x))) H1 → va_S A H0 H1 locs1 → W p l e R s m args below meth c H1 locs1 cells slots Q (F0 m (pc + 1) ls rest)) : W p l e R s m args below meth c H locs cells slots Q (F0 m pc ls (.int x :: .int i :: .ref (q 15) :: rest)) :=
  va_iast (D := (dC, dI)) (cl := cls_) (ws := wX q cA σ) (tys := tyX cA) hx hb hK hP hD hS 15 11 rfl rfl hin hdg (fun H1 locs1 hP _ hS => kk H1 locs1 hP hS)
theorem al_X_16 (hx : p.tables.exec = Jvm.exec) (hb : c.code = cc) (hK : va_K (dC, dI) cls_ (tyX cA) s) (hP : va_P (dC, dI) cls_ (wX q cA σ) H) {i : Int32} (hin : vp_in i 561) (hdg : decode cc pc = .ok (.iaload, 1)) (kk : W p l e R s m args below meth c H locs cells slots Q (F0 m (pc + 1) ls (.int (σ 16 i.toNatClampNeg) :: rest))) : W p l e R s m args below meth c H locs cells slots Q (F0 m pc ls (.int i :: .ref (q 16) :: rest)) :=
  va_iald (D := (dC, dI)) (cl := cls_) (ws := wX q cA σ) (tys := tyX cA) hx hb hK hP 16 12 rfl rfl hin hdg kk
theorem as_X_16 (hx : p.tables.exec = Jvm.exec) (hb : c.code = cc) (hK : va_K (dC, dI) cls_ (tyX cA) s) (hP : va_P (dC, dI) cls_ (wX q cA σ) H) (hD : va_D A (wX q cA σ)) (hS : va_S A H0 H locs) {i x : Int32} (hin : vp_in i 561) (hdg : decode cc pc = .ok (.iastore, 1)) (kk : ∀ (H1 : Heap) (locs1 : List Loc), va_P (dC, dI) cls_ (wX q cA (va_up σ 16 (upd (σ 16) i.toNatClampNeg x))) H1 → va_S A H0 H1 locs1 → W p l e R s m args below meth c H1 locs1 cells slots Q (F0 m (pc + 1) ls rest)) : W p l e R s m args below meth c H locs cells slots Q (F0 m pc ls (.int x :: .int i :: .ref (q 16) :: rest)) :=
  va_iast (D := (dC, dI)) (cl := cls_) (ws := wX q cA σ) (tys := tyX cA) hx hb hK hP hD hS 16 12 rfl rfl hin hdg (fun H1 locs1 hP _ hS => kk H1 locs1 hP hS)
theorem al_X_17 (hx : p.tables.exec = Jvm.exec) (hb : c.code = cc) (hK : va_K (dC, dI) cls_ (tyX cA) s) (hP : va_P (dC, dI) cls_ (wX q cA σ) H) {i : Int32} (hin : vp_in i 561) (hdg : decode cc pc = .ok (.iaload, 1)) (kk : W p l e R s m args below meth c H locs cells slots Q (F0 m (pc + 1) ls (.int (σ 17 i.toNatClampNeg) :: rest))) : W p l e R s m args below meth c H locs cells slots Q (F0 m pc ls (.int i :: .ref (q 17) :: rest)) :=
  va_iald (D := (dC, dI)) (cl := cls_) (ws := wX q cA σ) (tys := tyX cA) hx hb hK hP 17 13 rfl rfl hin hdg kk
theorem as_X_17 (hx : p.tables.exec = Jvm.exec) (hb : c.code = cc) (hK : va_K (dC, dI) cls_ (tyX cA) s) (hP : va_P (dC, dI) cls_ (wX q cA σ) H) (hD : va_D A (wX q cA σ)) (hS : va_S A H0 H locs) {i x : Int32} (hin : vp_in i 561) (hdg : decode cc pc = .ok (.iastore, 1)) (kk : ∀ (H1 : Heap) (locs1 : List Loc), va_P (dC, dI) cls_ (wX q cA (va_up σ 17 (upd (σ 17) i.toNatClampNeg x))) H1 → va_S A H0 H1 locs1 → W p l e R s m args below meth c H1 locs1 cells slots Q (F0 m (pc + 1) ls rest)) : W p l e R s m args below meth c H locs cells slots Q (F0 m pc ls (.int x :: .int i :: .ref (q 17) :: rest)) :=
  va_iast (D := (dC, dI)) (cl := cls_) (ws := wX q cA σ) (tys := tyX cA) hx hb hK hP hD hS 17 13 rfl rfl hin hdg (fun H1 locs1 hP _ hS => kk H1 locs1 hP hS)
theorem al_X_18 (hx : p.tables.exec = Jvm.exec) (hb : c.code = cc) (hK : va_K (dC, dI) cls_ (tyX cA) s) (hP : va_P (dC, dI) cls_ (wX q cA σ) H) {i : Int32} (hin : vp_in i 80) (hdg : decode cc pc = .ok (.iaload, 1)) (kk : W p l e R s m args below meth c H locs cells slots Q (F0 m (pc + 1) ls (.int (σ 18 i.toNatClampNeg) :: rest))) : W p l e R s m args below meth c H locs cells slots Q (F0 m pc ls (.int i :: .ref (q 18) :: rest)) :=
  va_iald (D := (dC, dI)) (cl := cls_) (ws := wX q cA σ) (tys := tyX cA) hx hb hK hP 18 14 rfl rfl hin hdg kk
theorem as_X_18 (hx : p.tables.exec = Jvm.exec) (hb : c.code = cc) (hK : va_K (dC, dI) cls_ (tyX cA) s) (hP : va_P (dC, dI) cls_ (wX q cA σ) H) (hD : va_D A (wX q cA σ)) (hS : va_S A H0 H locs) {i x : Int32} (hin : vp_in i 80) (hdg : decode cc pc = .ok (.iastore, 1)) (kk : ∀ (H1 : Heap) (locs1 : List Loc), va_P (dC, dI) cls_ (wX q cA (va_up σ 18 (upd (σ 18) i.toNatClampNeg x))) H1 → va_S A H0 H1 locs1 → W p l e R s m args below meth c H1 locs1 cells slots Q (F0 m (pc + 1) ls rest)) : W p l e R s m args below meth c H locs cells slots Q (F0 m pc ls (.int x :: .int i :: .ref (q 18) :: rest)) :=
  va_iast (D := (dC, dI)) (cl := cls_) (ws := wX q cA σ) (tys := tyX cA) hx hb hK hP hD hS 18 14 rfl rfl hin hdg (fun H1 locs1 hP _ hS => kk H1 locs1 hP hS)
theorem al_X_19 (hx : p.tables.exec = Jvm.exec) (hb : c.code = cc) (hK : va_K (dC, dI) cls_ (tyX cA) s) (hP : va_P (dC, dI) cls_ (wX q cA σ) H) {i : Int32} (hin : vp_in i 6) (hdg : decode cc pc = .ok (.iaload, 1)) (kk : W p l e R s m args below meth c H locs cells slots Q (F0 m (pc + 1) ls (.int (σ 19 i.toNatClampNeg) :: rest))) : W p l e R s m args below meth c H locs cells slots Q (F0 m pc ls (.int i :: .ref (q 19) :: rest)) :=
  va_iald (D := (dC, dI)) (cl := cls_) (ws := wX q cA σ) (tys := tyX cA) hx hb hK hP 19 15 rfl rfl hin hdg kk
theorem as_X_19 (hx : p.tables.exec = Jvm.exec) (hb : c.code = cc) (hK : va_K (dC, dI) cls_ (tyX cA) s) (hP : va_P (dC, dI) cls_ (wX q cA σ) H) (hD : va_D A (wX q cA σ)) (hS : va_S A H0 H locs) {i x : Int32} (hin : vp_in i 6) (hdg : decode cc pc = .ok (.iastore, 1)) (kk : ∀ (H1 : Heap) (locs1 : List Loc), va_P (dC, dI) cls_ (wX q cA (va_up σ 19 (upd (σ 19) i.toNatClampNeg x))) H1 → va_S A H0 H1 locs1 → W p l e R s m args below meth c H1 locs1 cells slots Q (F0 m (pc + 1) ls rest)) : W p l e R s m args below meth c H locs cells slots Q (F0 m pc ls (.int x :: .int i :: .ref (q 19) :: rest)) :=
  va_iast (D := (dC, dI)) (cl := cls_) (ws := wX q cA σ) (tys := tyX cA) hx hb hK hP hD hS 19 15 rfl rfl hin hdg (fun H1 locs1 hP _ hS => kk H1 locs1 hP hS)
theorem al_X_21 (hx : p.tables.exec = Jvm.exec) (hb : c.code = cc) (hK : va_K (dC, dI) cls_ (tyX cA) s) (hP : va_P (dC, dI) cls_ (wX q cA σ) H) {i : Int32} (hin : vp_in i 40) (hdg : decode cc pc = .ok (.caload, 1)) (kk : W p l e R s m args below meth c H locs cells slots Q (F0 m (pc + 1) ls (.int (σ 21 i.toNatClampNeg) :: rest))) : W p l e R s m args below meth c H locs cells slots Q (F0 m pc ls (.int i :: .ref (q 21) :: rest)) :=
  va_cald (D := (dC, dI)) (cl := cls_) (ws := wX q cA σ) (tys := tyX cA) hx hb hK hP 21 16 rfl rfl hin hdg kk
theorem as_X_21 (hx : p.tables.exec = Jvm.exec) (hb : c.code = cc) (hK : va_K (dC, dI) cls_ (tyX cA) s) (hP : va_P (dC, dI) cls_ (wX q cA σ) H) (hD : va_D A (wX q cA σ)) (hS : va_S A H0 H locs) {i x : Int32} (hin : vp_in i 40) (hdg : decode cc pc = .ok (.castore, 1)) (kk : ∀ (H1 : Heap) (locs1 : List Loc), va_P (dC, dI) cls_ (wX q cA (va_up σ 21 (upd (σ 21) i.toNatClampNeg (vp_nar .char x)))) H1 → va_S A H0 H1 locs1 → W p l e R s m args below meth c H1 locs1 cells slots Q (F0 m (pc + 1) ls rest)) : W p l e R s m args below meth c H locs cells slots Q (F0 m pc ls (.int x :: .int i :: .ref (q 21) :: rest)) :=
  va_cast (D := (dC, dI)) (cl := cls_) (ws := wX q cA σ) (tys := tyX cA) hx hb hK hP hD hS 21 16 rfl rfl hin hdg (fun H1 locs1 hP _ hS => kk H1 locs1 hP hS)
theorem al_X_23 (hx : p.tables.exec = Jvm.exec) (hb : c.code = cc) (hK : va_K (dC, dI) cls_ (tyX cA) s) (hP : va_P (dC, dI) cls_ (wX q cA σ) H) {i : Int32} (hin : vp_in i 642) (hdg : decode cc pc = .ok (.iaload, 1)) (kk : W p l e R s m args below meth c H locs cells slots Q (F0 m (pc + 1) ls (.int (σ 23 i.toNatClampNeg) :: rest))) : W p l e R s m args below meth c H locs cells slots Q (F0 m pc ls (.int i :: .ref (q 23) :: rest)) :=
  va_iald (D := (dC, dI)) (cl := cls_) (ws := wX q cA σ) (tys := tyX cA) hx hb hK hP 23 17 rfl rfl hin hdg kk
theorem as_X_23 (hx : p.tables.exec = Jvm.exec) (hb : c.code = cc) (hK : va_K (dC, dI) cls_ (tyX cA) s) (hP : va_P (dC, dI) cls_ (wX q cA σ) H) (hD : va_D A (wX q cA σ)) (hS : va_S A H0 H locs) {i x : Int32} (hin : vp_in i 642) (hdg : decode cc pc = .ok (.iastore, 1)) (kk : ∀ (H1 : Heap) (locs1 : List Loc), va_P (dC, dI) cls_ (wX q cA (va_up σ 23 (upd (σ 23) i.toNatClampNeg x))) H1 → va_S A H0 H1 locs1 → W p l e R s m args below meth c H1 locs1 cells slots Q (F0 m (pc + 1) ls rest)) : W p l e R s m args below meth c H locs cells slots Q (F0 m pc ls (.int x :: .int i :: .ref (q 23) :: rest)) :=
  va_iast (D := (dC, dI)) (cl := cls_) (ws := wX q cA σ) (tys := tyX cA) hx hb hK hP hD hS 23 17 rfl rfl hin hdg (fun H1 locs1 hP _ hS => kk H1 locs1 hP hS)
theorem al_X_24 (hx : p.tables.exec = Jvm.exec) (hb : c.code = cc) (hK : va_K (dC, dI) cls_ (tyX cA) s) (hP : va_P (dC, dI) cls_ (wX q cA σ) H) {i : Int32} (hin : vp_in i 4) (hdg : decode cc pc = .ok (.iaload, 1)) (kk : W p l e R s m args below meth c H locs cells slots Q (F0 m (pc + 1) ls (.int (σ 24 i.toNatClampNeg) :: rest))) : W p l e R s m args below meth c H locs cells slots Q (F0 m pc ls (.int i :: .ref (q 24) :: rest)) :=
  va_iald (D := (dC, dI)) (cl := cls_) (ws := wX q cA σ) (tys := tyX cA) hx hb hK hP 24 18 rfl rfl hin hdg kk
theorem as_X_24 (hx : p.tables.exec = Jvm.exec) (hb : c.code = cc) (hK : va_K (dC, dI) cls_ (tyX cA) s) (hP : va_P (dC, dI) cls_ (wX q cA σ) H) (hD : va_D A (wX q cA σ)) (hS : va_S A H0 H locs) {i x : Int32} (hin : vp_in i 4) (hdg : decode cc pc = .ok (.iastore, 1)) (kk : ∀ (H1 : Heap) (locs1 : List Loc), va_P (dC, dI) cls_ (wX q cA (va_up σ 24 (upd (σ 24) i.toNatClampNeg x))) H1 → va_S A H0 H1 locs1 → W p l e R s m args below meth c H1 locs1 cells slots Q (F0 m (pc + 1) ls rest)) : W p l e R s m args below meth c H locs cells slots Q (F0 m pc ls (.int x :: .int i :: .ref (q 24) :: rest)) :=
  va_iast (D := (dC, dI)) (cl := cls_) (ws := wX q cA σ) (tys := tyX cA) hx hb hK hP hD hS 24 18 rfl rfl hin hdg (fun H1 locs1 hP _ hS => kk H1 locs1 hP hS)
theorem an_X_24 (hx : p.tables.exec = Jvm.exec) (hb : c.code = cc) (hK : va_K (dC, dI) cls_ (tyX cA) s) (hP : va_P (dC, dI) cls_ (wX q cA σ) H) (hdg : decode cc pc = .ok (.arraylength, 1)) (kk : W p l e R s m args below meth c H locs cells slots Q (F0 m (pc + 1) ls (.int 4 :: rest))) : W p l e R s m args below meth c H locs cells slots Q (F0 m pc ls (.ref (q 24) :: rest)) :=
  va_alen (D := (dC, dI)) (cl := cls_) (ws := wX q cA σ) (tys := tyX cA) hx hb hK hP 24 18 rfl rfl (show Int32.ofNat 4 = 4 by decide) hdg kk
theorem al_X_26 (hx : p.tables.exec = Jvm.exec) (hb : c.code = cc) (hK : va_K (dC, dI) cls_ (tyX cA) s) (hP : va_P (dC, dI) cls_ (wX q cA σ) H) {i : Int32} (hin : vp_in i 640) (hdg : decode cc pc = .ok (.iaload, 1)) (kk : W p l e R s m args below meth c H locs cells slots Q (F0 m (pc + 1) ls (.int (σ 26 i.toNatClampNeg) :: rest))) : W p l e R s m args below meth c H locs cells slots Q (F0 m pc ls (.int i :: .ref (q 26) :: rest)) :=
  va_iald (D := (dC, dI)) (cl := cls_) (ws := wX q cA σ) (tys := tyX cA) hx hb hK hP 26 19 rfl rfl hin hdg kk
theorem as_X_26 (hx : p.tables.exec = Jvm.exec) (hb : c.code = cc) (hK : va_K (dC, dI) cls_ (tyX cA) s) (hP : va_P (dC, dI) cls_ (wX q cA σ) H) (hD : va_D A (wX q cA σ)) (hS : va_S A H0 H locs) {i x : Int32} (hin : vp_in i 640) (hdg : decode cc pc = .ok (.iastore, 1)) (kk : ∀ (H1 : Heap) (locs1 : List Loc), va_P (dC, dI) cls_ (wX q cA (va_up σ 26 (upd (σ 26) i.toNatClampNeg x))) H1 → va_S A H0 H1 locs1 → W p l e R s m args below meth c H1 locs1 cells slots Q (F0 m (pc + 1) ls rest)) : W p l e R s m args below meth c H locs cells slots Q (F0 m pc ls (.int x :: .int i :: .ref (q 26) :: rest)) :=
  va_iast (D := (dC, dI)) (cl := cls_) (ws := wX q cA σ) (tys := tyX cA) hx hb hK hP hD hS 26 19 rfl rfl hin hdg (fun H1 locs1 hP _ hS => kk H1 locs1 hP hS)
theorem al_X_27 (hx : p.tables.exec = Jvm.exec) (hb : c.code = cc) (hK : va_K (dC, dI) cls_ (tyX cA) s) (hP : va_P (dC, dI) cls_ (wX q cA σ) H) {i : Int32} (hin : vp_in i 640) (hdg : decode cc pc = .ok (.iaload, 1)) (kk : W p l e R s m args below meth c H locs cells slots Q (F0 m (pc + 1) ls (.int (σ 27 i.toNatClampNeg) :: rest))) : W p l e R s m args below meth c H locs cells slots Q (F0 m pc ls (.int i :: .ref (q 27) :: rest)) :=
  va_iald (D := (dC, dI)) (cl := cls_) (ws := wX q cA σ) (tys := tyX cA) hx hb hK hP 27 20 rfl rfl hin hdg kk
theorem as_X_27 (hx : p.tables.exec = Jvm.exec) (hb : c.code = cc) (hK : va_K (dC, dI) cls_ (tyX cA) s) (hP : va_P (dC, dI) cls_ (wX q cA σ) H) (hD : va_D A (wX q cA σ)) (hS : va_S A H0 H locs) {i x : Int32} (hin : vp_in i 640) (hdg : decode cc pc = .ok (.iastore, 1)) (kk : ∀ (H1 : Heap) (locs1 : List Loc), va_P (dC, dI) cls_ (wX q cA (va_up σ 27 (upd (σ 27) i.toNatClampNeg x))) H1 → va_S A H0 H1 locs1 → W p l e R s m args below meth c H1 locs1 cells slots Q (F0 m (pc + 1) ls rest)) : W p l e R s m args below meth c H locs cells slots Q (F0 m pc ls (.int x :: .int i :: .ref (q 27) :: rest)) :=
  va_iast (D := (dC, dI)) (cl := cls_) (ws := wX q cA σ) (tys := tyX cA) hx hb hK hP hD hS 27 20 rfl rfl hin hdg (fun H1 locs1 hP _ hS => kk H1 locs1 hP hS)
theorem al_X_28 (hx : p.tables.exec = Jvm.exec) (hb : c.code = cc) (hK : va_K (dC, dI) cls_ (tyX cA) s) (hP : va_P (dC, dI) cls_ (wX q cA σ) H) {i : Int32} (hin : vp_in i 640) (hdg : decode cc pc = .ok (.iaload, 1)) (kk : W p l e R s m args below meth c H locs cells slots Q (F0 m (pc + 1) ls (.int (σ 28 i.toNatClampNeg) :: rest))) : W p l e R s m args below meth c H locs cells slots Q (F0 m pc ls (.int i :: .ref (q 28) :: rest)) :=
  va_iald (D := (dC, dI)) (cl := cls_) (ws := wX q cA σ) (tys := tyX cA) hx hb hK hP 28 21 rfl rfl hin hdg kk
theorem as_X_28 (hx : p.tables.exec = Jvm.exec) (hb : c.code = cc) (hK : va_K (dC, dI) cls_ (tyX cA) s) (hP : va_P (dC, dI) cls_ (wX q cA σ) H) (hD : va_D A (wX q cA σ)) (hS : va_S A H0 H locs) {i x : Int32} (hin : vp_in i 640) (hdg : decode cc pc = .ok (.iastore, 1)) (kk : ∀ (H1 : Heap) (locs1 : List Loc), va_P (dC, dI) cls_ (wX q cA (va_up σ 28 (upd (σ 28) i.toNatClampNeg x))) H1 → va_S A H0 H1 locs1 → W p l e R s m args below meth c H1 locs1 cells slots Q (F0 m (pc + 1) ls rest)) : W p l e R s m args below meth c H locs cells slots Q (F0 m pc ls (.int x :: .int i :: .ref (q 28) :: rest)) :=
  va_iast (D := (dC, dI)) (cl := cls_) (ws := wX q cA σ) (tys := tyX cA) hx hb hK hP hD hS 28 21 rfl rfl hin hdg (fun H1 locs1 hP _ hS => kk H1 locs1 hP hS)
theorem al_X_29 (hx : p.tables.exec = Jvm.exec) (hb : c.code = cc) (hK : va_K (dC, dI) cls_ (tyX cA) s) (hP : va_P (dC, dI) cls_ (wX q cA σ) H) {i : Int32} (hin : vp_in i 640) (hdg : decode cc pc = .ok (.iaload, 1)) (kk : W p l e R s m args below meth c H locs cells slots Q (F0 m (pc + 1) ls (.int (σ 29 i.toNatClampNeg) :: rest))) : W p l e R s m args below meth c H locs cells slots Q (F0 m pc ls (.int i :: .ref (q 29) :: rest)) :=
  va_iald (D := (dC, dI)) (cl := cls_) (ws := wX q cA σ) (tys := tyX cA) hx hb hK hP 29 22 rfl rfl hin hdg kk
theorem as_X_29 (hx : p.tables.exec = Jvm.exec) (hb : c.code = cc) (hK : va_K (dC, dI) cls_ (tyX cA) s) (hP : va_P (dC, dI) cls_ (wX q cA σ) H) (hD : va_D A (wX q cA σ)) (hS : va_S A H0 H locs) {i x : Int32} (hin : vp_in i 640) (hdg : decode cc pc = .ok (.iastore, 1)) (kk : ∀ (H1 : Heap) (locs1 : List Loc), va_P (dC, dI) cls_ (wX q cA (va_up σ 29 (upd (σ 29) i.toNatClampNeg x))) H1 → va_S A H0 H1 locs1 → W p l e R s m args below meth c H1 locs1 cells slots Q (F0 m (pc + 1) ls rest)) : W p l e R s m args below meth c H locs cells slots Q (F0 m pc ls (.int x :: .int i :: .ref (q 29) :: rest)) :=
  va_iast (D := (dC, dI)) (cl := cls_) (ws := wX q cA σ) (tys := tyX cA) hx hb hK hP hD hS 29 22 rfl rfl hin hdg (fun H1 locs1 hP _ hS => kk H1 locs1 hP hS)
theorem al_R_1 (hx : p.tables.exec = Jvm.exec) (hb : c.code = cc) (hK : va_K (dC, dI) cls_ (tyR cA) s) (hP : va_P (dC, dI) cls_ (wR q cA σ) H) {i : Int32} (hin : vp_in i 80) (hdg : decode cc pc = .ok (.iaload, 1)) (kk : W p l e R s m args below meth c H locs cells slots Q (F0 m (pc + 1) ls (.int (σ 1 i.toNatClampNeg) :: rest))) : W p l e R s m args below meth c H locs cells slots Q (F0 m pc ls (.int i :: .ref (q 1) :: rest)) :=
  va_iald (D := (dC, dI)) (cl := cls_) (ws := wR q cA σ) (tys := tyR cA) hx hb hK hP 1 0 rfl rfl hin hdg kk
theorem as_R_1 (hx : p.tables.exec = Jvm.exec) (hb : c.code = cc) (hK : va_K (dC, dI) cls_ (tyR cA) s) (hP : va_P (dC, dI) cls_ (wR q cA σ) H) (hD : va_D A (wR q cA σ)) (hS : va_S A H0 H locs) {i x : Int32} (hin : vp_in i 80) (hdg : decode cc pc = .ok (.iastore, 1)) (kk : ∀ (H1 : Heap) (locs1 : List Loc), va_P (dC, dI) cls_ (wR q cA (va_up σ 1 (upd (σ 1) i.toNatClampNeg x))) H1 → va_S A H0 H1 locs1 → W p l e R s m args below meth c H1 locs1 cells slots Q (F0 m (pc + 1) ls rest)) : W p l e R s m args below meth c H locs cells slots Q (F0 m pc ls (.int x :: .int i :: .ref (q 1) :: rest)) :=
  va_iast (D := (dC, dI)) (cl := cls_) (ws := wR q cA σ) (tys := tyR cA) hx hb hK hP hD hS 1 0 rfl rfl hin hdg (fun H1 locs1 hP _ hS => kk H1 locs1 hP hS)
theorem al_R_2 (hx : p.tables.exec = Jvm.exec) (hb : c.code = cc) (hK : va_K (dC, dI) cls_ (tyR cA) s) (hP : va_P (dC, dI) cls_ (wR q cA σ) H) {i : Int32} (hin : vp_in i 80) (hdg : decode cc pc = .ok (.iaload, 1)) (kk : W p l e R s m args below meth c H locs cells slots Q (F0 m (pc + 1) ls (.int (σ 2 i.toNatClampNeg) :: rest))) : W p l e R s m args below meth c H locs cells slots Q (F0 m pc ls (.int i :: .ref (q 2) :: rest)) :=
  va_iald (D := (dC, dI)) (cl := cls_) (ws := wR q cA σ) (tys := tyR cA) hx hb hK hP 2 1 rfl rfl hin hdg kk
theorem as_R_2 (hx : p.tables.exec = Jvm.exec) (hb : c.code = cc) (hK : va_K (dC, dI) cls_ (tyR cA) s) (hP : va_P (dC, dI) cls_ (wR q cA σ) H) (hD : va_D A (wR q cA σ)) (hS : va_S A H0 H locs) {i x : Int32} (hin : vp_in i 80) (hdg : decode cc pc = .ok (.iastore, 1)) (kk : ∀ (H1 : Heap) (locs1 : List Loc), va_P (dC, dI) cls_ (wR q cA (va_up σ 2 (upd (σ 2) i.toNatClampNeg x))) H1 → va_S A H0 H1 locs1 → W p l e R s m args below meth c H1 locs1 cells slots Q (F0 m (pc + 1) ls rest)) : W p l e R s m args below meth c H locs cells slots Q (F0 m pc ls (.int x :: .int i :: .ref (q 2) :: rest)) :=
  va_iast (D := (dC, dI)) (cl := cls_) (ws := wR q cA σ) (tys := tyR cA) hx hb hK hP hD hS 2 1 rfl rfl hin hdg (fun H1 locs1 hP _ hS => kk H1 locs1 hP hS)
theorem al_R_3 (hx : p.tables.exec = Jvm.exec) (hb : c.code = cc) (hK : va_K (dC, dI) cls_ (tyR cA) s) (hP : va_P (dC, dI) cls_ (wR q cA σ) H) {i : Int32} (hin : vp_in i 80) (hdg : decode cc pc = .ok (.iaload, 1)) (kk : W p l e R s m args below meth c H locs cells slots Q (F0 m (pc + 1) ls (.int (σ 3 i.toNatClampNeg) :: rest))) : W p l e R s m args below meth c H locs cells slots Q (F0 m pc ls (.int i :: .ref (q 3) :: rest)) :=
  va_iald (D := (dC, dI)) (cl := cls_) (ws := wR q cA σ) (tys := tyR cA) hx hb hK hP 3 2 rfl rfl hin hdg kk
theorem as_R_3 (hx : p.tables.exec = Jvm.exec) (hb : c.code = cc) (hK : va_K (dC, dI) cls_ (tyR cA) s) (hP : va_P (dC, dI) cls_ (wR q cA σ) H) (hD : va_D A (wR q cA σ)) (hS : va_S A H0 H locs) {i x : Int32} (hin : vp_in i 80) (hdg : decode cc pc = .ok (.iastore, 1)) (kk : ∀ (H1 : Heap) (locs1 : List Loc), va_P (dC, dI) cls_ (wR q cA (va_up σ 3 (upd (σ 3) i.toNatClampNeg x))) H1 → va_S A H0 H1 locs1 → W p l e R s m args below meth c H1 locs1 cells slots Q (F0 m (pc + 1) ls rest)) : W p l e R s m args below meth c H locs cells slots Q (F0 m pc ls (.int x :: .int i :: .ref (q 3) :: rest)) :=
  va_iast (D := (dC, dI)) (cl := cls_) (ws := wR q cA σ) (tys := tyR cA) hx hb hK hP hD hS 3 2 rfl rfl hin hdg (fun H1 locs1 hP _ hS => kk H1 locs1 hP hS)
theorem al_R_4 (hx : p.tables.exec = Jvm.exec) (hb : c.code = cc) (hK : va_K (dC, dI) cls_ (tyR cA) s) (hP : va_P (dC, dI) cls_ (wR q cA σ) H) {i : Int32} (hin : vp_in i 80) (hdg : decode cc pc = .ok (.iaload, 1)) (kk : W p l e R s m args below meth c H locs cells slots Q (F0 m (pc + 1) ls (.int (σ 4 i.toNatClampNeg) :: rest))) : W p l e R s m args below meth c H locs cells slots Q (F0 m pc ls (.int i :: .ref (q 4) :: rest)) :=
  va_iald (D := (dC, dI)) (cl := cls_) (ws := wR q cA σ) (tys := tyR cA) hx hb hK hP 4 3 rfl rfl hin hdg kk
theorem as_R_4 (hx : p.tables.exec = Jvm.exec) (hb : c.code = cc) (hK : va_K (dC, dI) cls_ (tyR cA) s) (hP : va_P (dC, dI) cls_ (wR q cA σ) H) (hD : va_D A (wR q cA σ)) (hS : va_S A H0 H locs) {i x : Int32} (hin : vp_in i 80) (hdg : decode cc pc = .ok (.iastore, 1)) (kk : ∀ (H1 : Heap) (locs1 : List Loc), va_P (dC, dI) cls_ (wR q cA (va_up σ 4 (upd (σ 4) i.toNatClampNeg x))) H1 → va_S A H0 H1 locs1 → W p l e R s m args below meth c H1 locs1 cells slots Q (F0 m (pc + 1) ls rest)) : W p l e R s m args below meth c H locs cells slots Q (F0 m pc ls (.int x :: .int i :: .ref (q 4) :: rest)) :=
  va_iast (D := (dC, dI)) (cl := cls_) (ws := wR q cA σ) (tys := tyR cA) hx hb hK hP hD hS 4 3 rfl rfl hin hdg (fun H1 locs1 hP _ hS => kk H1 locs1 hP hS)
theorem al_R_5 (hx : p.tables.exec = Jvm.exec) (hb : c.code = cc) (hK : va_K (dC, dI) cls_ (tyR cA) s) (hP : va_P (dC, dI) cls_ (wR q cA σ) H) {i : Int32} (hin : vp_in i 80) (hdg : decode cc pc = .ok (.iaload, 1)) (kk : W p l e R s m args below meth c H locs cells slots Q (F0 m (pc + 1) ls (.int (σ 5 i.toNatClampNeg) :: rest))) : W p l e R s m args below meth c H locs cells slots Q (F0 m pc ls (.int i :: .ref (q 5) :: rest)) :=
  va_iald (D := (dC, dI)) (cl := cls_) (ws := wR q cA σ) (tys := tyR cA) hx hb hK hP 5 4 rfl rfl hin hdg kk
theorem as_R_5 (hx : p.tables.exec = Jvm.exec) (hb : c.code = cc) (hK : va_K (dC, dI) cls_ (tyR cA) s) (hP : va_P (dC, dI) cls_ (wR q cA σ) H) (hD : va_D A (wR q cA σ)) (hS : va_S A H0 H locs) {i x : Int32} (hin : vp_in i 80) (hdg : decode cc pc = .ok (.iastore, 1)) (kk : ∀ (H1 : Heap) (locs1 : List Loc), va_P (dC, dI) cls_ (wR q cA (va_up σ 5 (upd (σ 5) i.toNatClampNeg x))) H1 → va_S A H0 H1 locs1 → W p l e R s m args below meth c H1 locs1 cells slots Q (F0 m (pc + 1) ls rest)) : W p l e R s m args below meth c H locs cells slots Q (F0 m pc ls (.int x :: .int i :: .ref (q 5) :: rest)) :=
  va_iast (D := (dC, dI)) (cl := cls_) (ws := wR q cA σ) (tys := tyR cA) hx hb hK hP hD hS 5 4 rfl rfl hin hdg (fun H1 locs1 hP _ hS => kk H1 locs1 hP hS)
theorem al_R_6 (hx : p.tables.exec = Jvm.exec) (hb : c.code = cc) (hK : va_K (dC, dI) cls_ (tyR cA) s) (hP : va_P (dC, dI) cls_ (wR q cA σ) H) {i : Int32} (hin : vp_in i 6) (hdg : decode cc pc = .ok (.iaload, 1)) (kk : W p l e R s m args below meth c H locs cells slots Q (F0 m (pc + 1) ls (.int (σ 6 i.toNatClampNeg) :: rest))) : W p l e R s m args below meth c H locs cells slots Q (F0 m pc ls (.int i :: .ref (q 6) :: rest)) :=
  va_iald (D := (dC, dI)) (cl := cls_) (ws := wR q cA σ) (tys := tyR cA) hx hb hK hP 6 5 rfl rfl hin hdg kk
theorem as_R_6 (hx : p.tables.exec = Jvm.exec) (hb : c.code = cc) (hK : va_K (dC, dI) cls_ (tyR cA) s) (hP : va_P (dC, dI) cls_ (wR q cA σ) H) (hD : va_D A (wR q cA σ)) (hS : va_S A H0 H locs) {i x : Int32} (hin : vp_in i 6) (hdg : decode cc pc = .ok (.iastore, 1)) (kk : ∀ (H1 : Heap) (locs1 : List Loc), va_P (dC, dI) cls_ (wR q cA (va_up σ 6 (upd (σ 6) i.toNatClampNeg x))) H1 → va_S A H0 H1 locs1 → W p l e R s m args below meth c H1 locs1 cells slots Q (F0 m (pc + 1) ls rest)) : W p l e R s m args below meth c H locs cells slots Q (F0 m pc ls (.int x :: .int i :: .ref (q 6) :: rest)) :=
  va_iast (D := (dC, dI)) (cl := cls_) (ws := wR q cA σ) (tys := tyR cA) hx hb hK hP hD hS 6 5 rfl rfl hin hdg (fun H1 locs1 hP _ hS => kk H1 locs1 hP hS)
theorem al_R_7 (hx : p.tables.exec = Jvm.exec) (hb : c.code = cc) (hK : va_K (dC, dI) cls_ (tyR cA) s) (hP : va_P (dC, dI) cls_ (wR q cA σ) H) {i : Int32} (hin : vp_in i 40) (hdg : decode cc pc = .ok (.iaload, 1)) (kk : W p l e R s m args below meth c H locs cells slots Q (F0 m (pc + 1) ls (.int (σ 7 i.toNatClampNeg) :: rest))) : W p l e R s m args below meth c H locs cells slots Q (F0 m pc ls (.int i :: .ref (q 7) :: rest)) :=
  va_iald (D := (dC, dI)) (cl := cls_) (ws := wR q cA σ) (tys := tyR cA) hx hb hK hP 7 6 rfl rfl hin hdg kk
theorem as_R_7 (hx : p.tables.exec = Jvm.exec) (hb : c.code = cc) (hK : va_K (dC, dI) cls_ (tyR cA) s) (hP : va_P (dC, dI) cls_ (wR q cA σ) H) (hD : va_D A (wR q cA σ)) (hS : va_S A H0 H locs) {i x : Int32} (hin : vp_in i 40) (hdg : decode cc pc = .ok (.iastore, 1)) (kk : ∀ (H1 : Heap) (locs1 : List Loc), va_P (dC, dI) cls_ (wR q cA (va_up σ 7 (upd (σ 7) i.toNatClampNeg x))) H1 → va_S A H0 H1 locs1 → W p l e R s m args below meth c H1 locs1 cells slots Q (F0 m (pc + 1) ls rest)) : W p l e R s m args below meth c H locs cells slots Q (F0 m pc ls (.int x :: .int i :: .ref (q 7) :: rest)) :=
  va_iast (D := (dC, dI)) (cl := cls_) (ws := wR q cA σ) (tys := tyR cA) hx hb hK hP hD hS 7 6 rfl rfl hin hdg (fun H1 locs1 hP _ hS => kk H1 locs1 hP hS)
theorem al_R_8 (hx : p.tables.exec = Jvm.exec) (hb : c.code = cc) (hK : va_K (dC, dI) cls_ (tyR cA) s) (hP : va_P (dC, dI) cls_ (wR q cA σ) H) {i : Int32} (hin : vp_in i 80) (hdg : decode cc pc = .ok (.baload, 1)) (kk : W p l e R s m args below meth c H locs cells slots Q (F0 m (pc + 1) ls (.int (σ 8 i.toNatClampNeg) :: rest))) : W p l e R s m args below meth c H locs cells slots Q (F0 m pc ls (.int i :: .ref (q 8) :: rest)) :=
  va_zald (D := (dC, dI)) (cl := cls_) (ws := wR q cA σ) (tys := tyR cA) hx hb hK hP 8 7 rfl rfl hin hdg kk
theorem as_R_8 (hx : p.tables.exec = Jvm.exec) (hb : c.code = cc) (hK : va_K (dC, dI) cls_ (tyR cA) s) (hP : va_P (dC, dI) cls_ (wR q cA σ) H) (hD : va_D A (wR q cA σ)) (hS : va_S A H0 H locs) {i x : Int32} (hin : vp_in i 80) (hdg : decode cc pc = .ok (.bastore, 1)) (kk : ∀ (H1 : Heap) (locs1 : List Loc), va_P (dC, dI) cls_ (wR q cA (va_up σ 8 (upd (σ 8) i.toNatClampNeg (vp_nar .boolean x)))) H1 → va_S A H0 H1 locs1 → W p l e R s m args below meth c H1 locs1 cells slots Q (F0 m (pc + 1) ls rest)) : W p l e R s m args below meth c H locs cells slots Q (F0 m pc ls (.int x :: .int i :: .ref (q 8) :: rest)) :=
  va_zast (D := (dC, dI)) (cl := cls_) (ws := wR q cA σ) (tys := tyR cA) hx hb hK hP hD hS 8 7 rfl rfl hin hdg (fun H1 locs1 hP _ hS => kk H1 locs1 hP hS)
theorem al_R_9 (hx : p.tables.exec = Jvm.exec) (hb : c.code = cc) (hK : va_K (dC, dI) cls_ (tyR cA) s) (hP : va_P (dC, dI) cls_ (wR q cA σ) H) {i : Int32} (hin : vp_in i 80) (hdg : decode cc pc = .ok (.baload, 1)) (kk : W p l e R s m args below meth c H locs cells slots Q (F0 m (pc + 1) ls (.int (σ 9 i.toNatClampNeg) :: rest))) : W p l e R s m args below meth c H locs cells slots Q (F0 m pc ls (.int i :: .ref (q 9) :: rest)) :=
  va_zald (D := (dC, dI)) (cl := cls_) (ws := wR q cA σ) (tys := tyR cA) hx hb hK hP 9 8 rfl rfl hin hdg kk
theorem as_R_9 (hx : p.tables.exec = Jvm.exec) (hb : c.code = cc) (hK : va_K (dC, dI) cls_ (tyR cA) s) (hP : va_P (dC, dI) cls_ (wR q cA σ) H) (hD : va_D A (wR q cA σ)) (hS : va_S A H0 H locs) {i x : Int32} (hin : vp_in i 80) (hdg : decode cc pc = .ok (.bastore, 1)) (kk : ∀ (H1 : Heap) (locs1 : List Loc), va_P (dC, dI) cls_ (wR q cA (va_up σ 9 (upd (σ 9) i.toNatClampNeg (vp_nar .boolean x)))) H1 → va_S A H0 H1 locs1 → W p l e R s m args below meth c H1 locs1 cells slots Q (F0 m (pc + 1) ls rest)) : W p l e R s m args below meth c H locs cells slots Q (F0 m pc ls (.int x :: .int i :: .ref (q 9) :: rest)) :=
  va_zast (D := (dC, dI)) (cl := cls_) (ws := wR q cA σ) (tys := tyR cA) hx hb hK hP hD hS 9 8 rfl rfl hin hdg (fun H1 locs1 hP _ hS => kk H1 locs1 hP hS)
theorem al_R_10 (hx : p.tables.exec = Jvm.exec) (hb : c.code = cc) (hK : va_K (dC, dI) cls_ (tyR cA) s) (hP : va_P (dC, dI) cls_ (wR q cA σ) H) {i : Int32} (hin : vp_in i 80) (hdg : decode cc pc = .ok (.iaload, 1)) (kk : W p l e R s m args below meth c H locs cells slots Q (F0 m (pc + 1) ls (.int (σ 10 i.toNatClampNeg) :: rest))) : W p l e R s m args below meth c H locs cells slots Q (F0 m pc ls (.int i :: .ref (q 10) :: rest)) :=
  va_iald (D := (dC, dI)) (cl := cls_) (ws := wR q cA σ) (tys := tyR cA) hx hb hK hP 10 9 rfl rfl hin hdg kk
theorem as_R_10 (hx : p.tables.exec = Jvm.exec) (hb : c.code = cc) (hK : va_K (dC, dI) cls_ (tyR cA) s) (hP : va_P (dC, dI) cls_ (wR q cA σ) H) (hD : va_D A (wR q cA σ)) (hS : va_S A H0 H locs) {i x : Int32} (hin : vp_in i 80) (hdg : decode cc pc = .ok (.iastore, 1)) (kk : ∀ (H1 : Heap) (locs1 : List Loc), va_P (dC, dI) cls_ (wR q cA (va_up σ 10 (upd (σ 10) i.toNatClampNeg x))) H1 → va_S A H0 H1 locs1 → W p l e R s m args below meth c H1 locs1 cells slots Q (F0 m (pc + 1) ls rest)) : W p l e R s m args below meth c H locs cells slots Q (F0 m pc ls (.int x :: .int i :: .ref (q 10) :: rest)) :=
  va_iast (D := (dC, dI)) (cl := cls_) (ws := wR q cA σ) (tys := tyR cA) hx hb hK hP hD hS 10 9 rfl rfl hin hdg (fun H1 locs1 hP _ hS => kk H1 locs1 hP hS)
theorem al_R_11 (hx : p.tables.exec = Jvm.exec) (hb : c.code = cc) (hK : va_K (dC, dI) cls_ (tyR cA) s) (hP : va_P (dC, dI) cls_ (wR q cA σ) H) {i : Int32} (hin : vp_in i 80) (hdg : decode cc pc = .ok (.baload, 1)) (kk : W p l e R s m args below meth c H locs cells slots Q (F0 m (pc + 1) ls (.int (σ 11 i.toNatClampNeg) :: rest))) : W p l e R s m args below meth c H locs cells slots Q (F0 m pc ls (.int i :: .ref (q 11) :: rest)) :=
  va_zald (D := (dC, dI)) (cl := cls_) (ws := wR q cA σ) (tys := tyR cA) hx hb hK hP 11 10 rfl rfl hin hdg kk
theorem as_R_11 (hx : p.tables.exec = Jvm.exec) (hb : c.code = cc) (hK : va_K (dC, dI) cls_ (tyR cA) s) (hP : va_P (dC, dI) cls_ (wR q cA σ) H) (hD : va_D A (wR q cA σ)) (hS : va_S A H0 H locs) {i x : Int32} (hin : vp_in i 80) (hdg : decode cc pc = .ok (.bastore, 1)) (kk : ∀ (H1 : Heap) (locs1 : List Loc), va_P (dC, dI) cls_ (wR q cA (va_up σ 11 (upd (σ 11) i.toNatClampNeg (vp_nar .boolean x)))) H1 → va_S A H0 H1 locs1 → W p l e R s m args below meth c H1 locs1 cells slots Q (F0 m (pc + 1) ls rest)) : W p l e R s m args below meth c H locs cells slots Q (F0 m pc ls (.int x :: .int i :: .ref (q 11) :: rest)) :=
  va_zast (D := (dC, dI)) (cl := cls_) (ws := wR q cA σ) (tys := tyR cA) hx hb hK hP hD hS 11 10 rfl rfl hin hdg (fun H1 locs1 hP _ hS => kk H1 locs1 hP hS)
theorem al_R_12 (hx : p.tables.exec = Jvm.exec) (hb : c.code = cc) (hK : va_K (dC, dI) cls_ (tyR cA) s) (hP : va_P (dC, dI) cls_ (wR q cA σ) H) {i : Int32} (hin : vp_in i 400) (hdg : decode cc pc = .ok (.iaload, 1)) (kk : W p l e R s m args below meth c H locs cells slots Q (F0 m (pc + 1) ls (.int (σ 12 i.toNatClampNeg) :: rest))) : W p l e R s m args below meth c H locs cells slots Q (F0 m pc ls (.int i :: .ref (q 12) :: rest)) :=
  va_iald (D := (dC, dI)) (cl := cls_) (ws := wR q cA σ) (tys := tyR cA) hx hb hK hP 12 11 rfl rfl hin hdg kk
theorem as_R_12 (hx : p.tables.exec = Jvm.exec) (hb : c.code = cc) (hK : va_K (dC, dI) cls_ (tyR cA) s) (hP : va_P (dC, dI) cls_ (wR q cA σ) H) (hD : va_D A (wR q cA σ)) (hS : va_S A H0 H locs) {i x : Int32} (hin : vp_in i 400) (hdg : decode cc pc = .ok (.iastore, 1)) (kk : ∀ (H1 : Heap) (locs1 : List Loc), va_P (dC, dI) cls_ (wR q cA (va_up σ 12 (upd (σ 12) i.toNatClampNeg x))) H1 → va_S A H0 H1 locs1 → W p l e R s m args below meth c H1 locs1 cells slots Q (F0 m (pc + 1) ls rest)) : W p l e R s m args below meth c H locs cells slots Q (F0 m pc ls (.int x :: .int i :: .ref (q 12) :: rest)) :=
  va_iast (D := (dC, dI)) (cl := cls_) (ws := wR q cA σ) (tys := tyR cA) hx hb hK hP hD hS 12 11 rfl rfl hin hdg (fun H1 locs1 hP _ hS => kk H1 locs1 hP hS)
theorem al_R_13 (hx : p.tables.exec = Jvm.exec) (hb : c.code = cc) (hK : va_K (dC, dI) cls_ (tyR cA) s) (hP : va_P (dC, dI) cls_ (wR q cA σ) H) {i : Int32} (hin : vp_in i 400) (hdg : decode cc pc = .ok (.iaload, 1)) (kk : W p l e R s m args below meth c H locs cells slots Q (F0 m (pc + 1) ls (.int (σ 13 i.toNatClampNeg) :: rest))) : W p l e R s m args below meth c H locs cells slots Q (F0 m pc ls (.int i :: .ref (q 13) :: rest)) :=
  va_iald (D := (dC, dI)) (cl := cls_) (ws := wR q cA σ) (tys := tyR cA) hx hb hK hP 13 12 rfl rfl hin hdg kk
theorem as_R_13 (hx : p.tables.exec = Jvm.exec) (hb : c.code = cc) (hK : va_K (dC, dI) cls_ (tyR cA) s) (hP : va_P (dC, dI) cls_ (wR q cA σ) H) (hD : va_D A (wR q cA σ)) (hS : va_S A H0 H locs) {i x : Int32} (hin : vp_in i 400) (hdg : decode cc pc = .ok (.iastore, 1)) (kk : ∀ (H1 : Heap) (locs1 : List Loc), va_P (dC, dI) cls_ (wR q cA (va_up σ 13 (upd (σ 13) i.toNatClampNeg x))) H1 → va_S A H0 H1 locs1 → W p l e R s m args below meth c H1 locs1 cells slots Q (F0 m (pc + 1) ls rest)) : W p l e R s m args below meth c H locs cells slots Q (F0 m pc ls (.int x :: .int i :: .ref (q 13) :: rest)) :=
  va_iast (D := (dC, dI)) (cl := cls_) (ws := wR q cA σ) (tys := tyR cA) hx hb hK hP hD hS 13 12 rfl rfl hin hdg (fun H1 locs1 hP _ hS => kk H1 locs1 hP hS)
theorem al_R_14 (hx : p.tables.exec = Jvm.exec) (hb : c.code = cc) (hK : va_K (dC, dI) cls_ (tyR cA) s) (hP : va_P (dC, dI) cls_ (wR q cA σ) H) {i : Int32} (hin : vp_in i 400) (hdg : decode cc pc = .ok (.iaload, 1)) (kk : W p l e R s m args below meth c H locs cells slots Q (F0 m (pc + 1) ls (.int (σ 14 i.toNatClampNeg) :: rest))) : W p l e R s m args below meth c H locs cells slots Q (F0 m pc ls (.int i :: .ref (q 14) :: rest)) :=
  va_iald (D := (dC, dI)) (cl := cls_) (ws := wR q cA σ) (tys := tyR cA) hx hb hK hP 14 13 rfl rfl hin hdg kk
theorem as_R_14 (hx : p.tables.exec = Jvm.exec) (hb : c.code = cc) (hK : va_K (dC, dI) cls_ (tyR cA) s) (hP : va_P (dC, dI) cls_ (wR q cA σ) H) (hD : va_D A (wR q cA σ)) (hS : va_S A H0 H locs) {i x : Int32} (hin : vp_in i 400) (hdg : decode cc pc = .ok (.iastore, 1)) (kk : ∀ (H1 : Heap) (locs1 : List Loc), va_P (dC, dI) cls_ (wR q cA (va_up σ 14 (upd (σ 14) i.toNatClampNeg x))) H1 → va_S A H0 H1 locs1 → W p l e R s m args below meth c H1 locs1 cells slots Q (F0 m (pc + 1) ls rest)) : W p l e R s m args below meth c H locs cells slots Q (F0 m pc ls (.int x :: .int i :: .ref (q 14) :: rest)) :=
  va_iast (D := (dC, dI)) (cl := cls_) (ws := wR q cA σ) (tys := tyR cA) hx hb hK hP hD hS 14 13 rfl rfl hin hdg (fun H1 locs1 hP _ hS => kk H1 locs1 hP hS)
theorem al_R_15 (hx : p.tables.exec = Jvm.exec) (hb : c.code = cc) (hK : va_K (dC, dI) cls_ (tyR cA) s) (hP : va_P (dC, dI) cls_ (wR q cA σ) H) {i : Int32} (hin : vp_in i 400) (hdg : decode cc pc = .ok (.iaload, 1)) (kk : W p l e R s m args below meth c H locs cells slots Q (F0 m (pc + 1) ls (.int (σ 15 i.toNatClampNeg) :: rest))) : W p l e R s m args below meth c H locs cells slots Q (F0 m pc ls (.int i :: .ref (q 15) :: rest)) :=
  va_iald (D := (dC, dI)) (cl := cls_) (ws := wR q cA σ) (tys := tyR cA) hx hb hK hP 15 14 rfl rfl hin hdg kk
theorem as_R_15 (hx : p.tables.exec = Jvm.exec) (hb : c.code = cc) (hK : va_K (dC, dI) cls_ (tyR cA) s) (hP : va_P (dC, dI) cls_ (wR q cA σ) H) (hD : va_D A (wR q cA σ)) (hS : va_S A H0 H locs) {i x : Int32} (hin : vp_in i 400) (hdg : decode cc pc = .ok (.iastore, 1)) (kk : ∀ (H1 : Heap) (locs1 : List Loc), va_P (dC, dI) cls_ (wR q cA (va_up σ 15 (upd (σ 15) i.toNatClampNeg x))) H1 → va_S A H0 H1 locs1 → W p l e R s m args below meth c H1 locs1 cells slots Q (F0 m (pc + 1) ls rest)) : W p l e R s m args below meth c H locs cells slots Q (F0 m pc ls (.int x :: .int i :: .ref (q 15) :: rest)) :=
  va_iast (D := (dC, dI)) (cl := cls_) (ws := wR q cA σ) (tys := tyR cA) hx hb hK hP hD hS 15 14 rfl rfl hin hdg (fun H1 locs1 hP _ hS => kk H1 locs1 hP hS)
theorem al_R_16 (hx : p.tables.exec = Jvm.exec) (hb : c.code = cc) (hK : va_K (dC, dI) cls_ (tyR cA) s) (hP : va_P (dC, dI) cls_ (wR q cA σ) H) {i : Int32} (hin : vp_in i 400) (hdg : decode cc pc = .ok (.iaload, 1)) (kk : W p l e R s m args below meth c H locs cells slots Q (F0 m (pc + 1) ls (.int (σ 16 i.toNatClampNeg) :: rest))) : W p l e R s m args below meth c H locs cells slots Q (F0 m pc ls (.int i :: .ref (q 16) :: rest)) :=
  va_iald (D := (dC, dI)) (cl := cls_) (ws := wR q cA σ) (tys := tyR cA) hx hb hK hP 16 15 rfl rfl hin hdg kk
theorem as_R_16 (hx : p.tables.exec = Jvm.exec) (hb : c.code = cc) (hK : va_K (dC, dI) cls_ (tyR cA) s) (hP : va_P (dC, dI) cls_ (wR q cA σ) H) (hD : va_D A (wR q cA σ)) (hS : va_S A H0 H locs) {i x : Int32} (hin : vp_in i 400) (hdg : decode cc pc = .ok (.iastore, 1)) (kk : ∀ (H1 : Heap) (locs1 : List Loc), va_P (dC, dI) cls_ (wR q cA (va_up σ 16 (upd (σ 16) i.toNatClampNeg x))) H1 → va_S A H0 H1 locs1 → W p l e R s m args below meth c H1 locs1 cells slots Q (F0 m (pc + 1) ls rest)) : W p l e R s m args below meth c H locs cells slots Q (F0 m pc ls (.int x :: .int i :: .ref (q 16) :: rest)) :=
  va_iast (D := (dC, dI)) (cl := cls_) (ws := wR q cA σ) (tys := tyR cA) hx hb hK hP hD hS 16 15 rfl rfl hin hdg (fun H1 locs1 hP _ hS => kk H1 locs1 hP hS)
theorem al_R_17 (hx : p.tables.exec = Jvm.exec) (hb : c.code = cc) (hK : va_K (dC, dI) cls_ (tyR cA) s) (hP : va_P (dC, dI) cls_ (wR q cA σ) H) {i : Int32} (hin : vp_in i 400) (hdg : decode cc pc = .ok (.iaload, 1)) (kk : W p l e R s m args below meth c H locs cells slots Q (F0 m (pc + 1) ls (.int (σ 17 i.toNatClampNeg) :: rest))) : W p l e R s m args below meth c H locs cells slots Q (F0 m pc ls (.int i :: .ref (q 17) :: rest)) :=
  va_iald (D := (dC, dI)) (cl := cls_) (ws := wR q cA σ) (tys := tyR cA) hx hb hK hP 17 16 rfl rfl hin hdg kk
theorem as_R_17 (hx : p.tables.exec = Jvm.exec) (hb : c.code = cc) (hK : va_K (dC, dI) cls_ (tyR cA) s) (hP : va_P (dC, dI) cls_ (wR q cA σ) H) (hD : va_D A (wR q cA σ)) (hS : va_S A H0 H locs) {i x : Int32} (hin : vp_in i 400) (hdg : decode cc pc = .ok (.iastore, 1)) (kk : ∀ (H1 : Heap) (locs1 : List Loc), va_P (dC, dI) cls_ (wR q cA (va_up σ 17 (upd (σ 17) i.toNatClampNeg x))) H1 → va_S A H0 H1 locs1 → W p l e R s m args below meth c H1 locs1 cells slots Q (F0 m (pc + 1) ls rest)) : W p l e R s m args below meth c H locs cells slots Q (F0 m pc ls (.int x :: .int i :: .ref (q 17) :: rest)) :=
  va_iast (D := (dC, dI)) (cl := cls_) (ws := wR q cA σ) (tys := tyR cA) hx hb hK hP hD hS 17 16 rfl rfl hin hdg (fun H1 locs1 hP _ hS => kk H1 locs1 hP hS)
theorem al_R_18 (hx : p.tables.exec = Jvm.exec) (hb : c.code = cc) (hK : va_K (dC, dI) cls_ (tyR cA) s) (hP : va_P (dC, dI) cls_ (wR q cA σ) H) {i : Int32} (hin : vp_in i 4) (hdg : decode cc pc = .ok (.iaload, 1)) (kk : W p l e R s m args below meth c H locs cells slots Q (F0 m (pc + 1) ls (.int (σ 18 i.toNatClampNeg) :: rest))) : W p l e R s m args below meth c H locs cells slots Q (F0 m pc ls (.int i :: .ref (q 18) :: rest)) :=
  va_iald (D := (dC, dI)) (cl := cls_) (ws := wR q cA σ) (tys := tyR cA) hx hb hK hP 18 17 rfl rfl hin hdg kk
theorem as_R_18 (hx : p.tables.exec = Jvm.exec) (hb : c.code = cc) (hK : va_K (dC, dI) cls_ (tyR cA) s) (hP : va_P (dC, dI) cls_ (wR q cA σ) H) (hD : va_D A (wR q cA σ)) (hS : va_S A H0 H locs) {i x : Int32} (hin : vp_in i 4) (hdg : decode cc pc = .ok (.iastore, 1)) (kk : ∀ (H1 : Heap) (locs1 : List Loc), va_P (dC, dI) cls_ (wR q cA (va_up σ 18 (upd (σ 18) i.toNatClampNeg x))) H1 → va_S A H0 H1 locs1 → W p l e R s m args below meth c H1 locs1 cells slots Q (F0 m (pc + 1) ls rest)) : W p l e R s m args below meth c H locs cells slots Q (F0 m pc ls (.int x :: .int i :: .ref (q 18) :: rest)) :=
  va_iast (D := (dC, dI)) (cl := cls_) (ws := wR q cA σ) (tys := tyR cA) hx hb hK hP hD hS 18 17 rfl rfl hin hdg (fun H1 locs1 hP _ hS => kk H1 locs1 hP hS)
end ROWSA
def NW_ : List Cond := [(.methodLinkNest "StagedParsers" 27 ⟨"StagedParsers$Code", "<init>", "()V"⟩ "StagedParsers"), (.methodLinkNest "StagedParsers" 34 ⟨"StagedParsers$Text", "<init>", "()V"⟩ "StagedParsers"), (.methodLinkNest "StagedParsers$Machine" 11 ⟨"StagedParsers$Frames", "<init>", "()V"⟩ "StagedParsers"), (.fieldLinkNest "StagedParsers$Study" 102 "StagedParsers" "PARTS" "[I" "StagedParsers"), (.methodLinkNest "StagedParsers$Machine" 50 ⟨"StagedParsers", "isRegister", "(I)Z"⟩ "StagedParsers"), (.methodLinkNest "StagedParsers$Grammar" 50 ⟨"StagedParsers", "isSign", "(I)Z"⟩ "StagedParsers"), (.methodLinkNest "StagedParsers$Grammar" 59 ⟨"StagedParsers", "isRegister", "(I)Z"⟩ "StagedParsers"), (.fieldLinkNest "StagedParsers$Grammar" 70 "StagedParsers" "PARTS" "[I" "StagedParsers"), (.methodLinkNest "StagedParsers$Machine" 140 ⟨"StagedParsers", "joined", "(III)I"⟩ "StagedParsers"), (.methodLinkNest "StagedParsers$Machine" 144 ⟨"StagedParsers", "wayOfSign", "(I)I"⟩ "StagedParsers")]
/-! what a method of a system finds, and how it is handed on -/
section PXS
theorem bo_fit {v : Int32} (h : v = 0 ∨ v = 1) : fits .boolean (.int v) = true := by rcases h with rfl | rfl <;> rfl
def PT_ : Nat → Int32 := fun k => ([0, 0, 0, 0, 2, 2, 1, 1, 1, 1, 2, 0, 1, 0] : List Int32).getD k 0
def SX_ (q : Nat → Nat) (pt : Nat) (U : State) (H : Heap) : Prop := va_Z "StagedParsers" "PARTS" "[I" (.ref pt) (AX q) U H ∧ va_T .int pt 14 (fun j => .int (PT_ j)) (AX q) U H
theorem nw_warm {s U : State} (hW : s.WarmedH U.vm) (h : ∀ w ∈ NW_, va_Nw w s) : ∀ w ∈ NW_, va_Nw w U := by
  intro w hw
  have h1 := h w hw
  unfold NW_ at hw
  simp only [List.mem_cons, List.not_mem_nil, or_false] at hw
  rcases hw with rfl | rfl | rfl | rfl | rfl | rfl | rfl | rfl | rfl | rfl <;> first | exact va_Nw.warmM hW h1 | exact va_Nw.warmF hW h1
theorem nw_same {s U : State} (hv : s.vm = U.vm) (h : ∀ w ∈ NW_, va_Nw w s) : ∀ w ∈ NW_, va_Nw w U := by
  intro w hw
  have h1 := h w hw
  unfold NW_ at hw
  simp only [List.mem_cons, List.not_mem_nil, or_false] at hw
  rcases hw with rfl | rfl | rfl | rfl | rfl | rfl | rfl | rfl | rfl | rfl <;> exact va_Nw.same rfl hv h1
def PX_ (dC : Nat → ClassId) (dI : Nat → Nat → Nat) (q : Nat → Nat) (cA : Nat → ClassId) (pt : Nat) (σ : MZ_) (U : State) : Prop := va_P (dC, dI) cls_ (wX q cA σ) U.heap ∧ va_K (dC, dI) cls_ (tyX cA) U ∧ va_D (AX q) (wX q cA σ) ∧ (∀ w ∈ NW_, va_Nw w U) ∧ SX_ q pt U U.heap
theorem pxX_B {av : List Value} {dC : Nat → ClassId} {dI : Nat → Nat → Nat} {q : Nat → Nat} {cA : Nat → ClassId} {pt : Nat} {σ : MZ_} : FrameBlind (va_Pc av (PX_ dC dI q cA pt σ)) := by
  intro a U g mrk hq
  obtain ⟨q0, qP, qK, qD, qN, qZ⟩ := hq
  exact ⟨q0, qP, va_K.moved (u := U) (U := U.calling g mrk a) (Vm.Alike.refl U.vm) qK, qD, nw_same (s := U) (U := U.calling g mrk a) rfl qN, va_Z.moved (u := U) (U := U.calling g mrk a) (Vm.Alike.refl U.vm) qZ.1, va_T.moved (u := U) (U := U.calling g mrk a) (Vm.Alike.refl U.vm) qZ.2⟩
theorem pxX_U {av : List Value} {dC : Nat → ClassId} {dI : Nat → Nat → Nat} {q : Nat → Nat} {cA : Nat → ClassId} {pt : Nat} {σ : MZ_} {s : State} {H : Heap} {locs : List Loc} (hP : va_P (dC, dI) cls_ (wX q cA σ) H) (hK : va_K (dC, dI) cls_ (tyX cA) s) (hD : va_D (AX q) (wX q cA σ)) (hN : ∀ w ∈ NW_, va_Nw w s) (hZ : SX_ q pt s s.heap) (hS : va_S (AX q) s.heap H locs) :
    ∀ U : State, U.heap = H → s.WarmedH U.vm → va_Pc av (PX_ dC dI q cA pt σ) av.toArray U := by
  intro U hU hW
  refine ⟨rfl, by rw [hU]; exact hP, va_K.moved hW.alike hK, hD, nw_warm hW hN, ?_, ?_⟩
  · rw [hU]; exact va_Z.moved hW.alike (hZ.1.kept hS.2.1)
  · rw [hU]; exact va_T.moved hW.alike (hZ.2.kept hS.2.1)

def PRx_ (dC : Nat → ClassId) (dI : Nat → Nat → Nat) (q : Nat → Nat) (cA : Nat → ClassId) (σ : MZ_) (U : State) : Prop := va_P (dC, dI) cls_ (wR q cA σ) U.heap ∧ va_K (dC, dI) cls_ (tyR cA) U ∧ va_D (AR q) (wR q cA σ) ∧ True ∧ True
theorem pxR_B {av : List Value} {dC : Nat → ClassId} {dI : Nat → Nat → Nat} {q : Nat → Nat} {cA : Nat → ClassId} {σ : MZ_} : FrameBlind (va_Pc av (PRx_ dC dI q cA σ)) := by
  intro a U g mrk hq
  obtain ⟨q0, qP, qK, qD, -, -⟩ := hq
  exact ⟨q0, qP, va_K.moved (u := U) (U := U.calling g mrk a) (Vm.Alike.refl U.vm) qK, qD, trivial, trivial⟩
theorem pxR_U {av : List Value} {dC : Nat → ClassId} {dI : Nat → Nat → Nat} {q : Nat → Nat} {cA : Nat → ClassId} {σ : MZ_} {s : State} {H : Heap} {locs : List Loc} (hP : va_P (dC, dI) cls_ (wR q cA σ) H) (hK : va_K (dC, dI) cls_ (tyR cA) s) (hD : va_D (AR q) (wR q cA σ)) (_ : True) (_ : True) (hS : va_S (AR q) s.heap H locs) :
    ∀ U : State, U.heap = H → s.WarmedH U.vm → va_Pc av (PRx_ dC dI q cA σ) av.toArray U := by
  intro U hU hW
  exact ⟨rfl, by rw [hU]; exact hP, va_K.moved hW.alike hK, hD, trivial, trivial⟩
variable {p : Program} {l : Launch} {e : Env} {R : Room} {s : State} {m : MethodId} {args : Array Value} {below : List Frame} {meth : Method} {c : Code} {H : Heap} {locs : List Loc} {cells slots : Nat} {Q : State → Prop}
variable {cc : ByteArray} {pc : Nat} {ls : Array Slot} {rest st0 : List Value} {q : Nat → Nat} {pt : Nat} {a : Array Value}
theorem va_pget_ (hx : p.tables.exec = Jvm.exec) (hb : c.code = cc) {own : String} {index : Nat} (hown : s.vm.findClass own = some m.cls) (hlink : va_Nw (.fieldLinkNest own index "StagedParsers" "PARTS" "[I" "StagedParsers") s) (hZ : SX_ q pt s s.heap) (hS : va_S (AX q) s.heap H locs) (hdg : decode cc pc = .ok (.getstatic index, 3)) (kk : W p l e R s m args below meth c H locs cells slots Q (F0 m (pc + 3) ls (.ref pt :: rest))) : W p l e R s m args below meth c H locs cells slots Q (F0 m pc ls rest) :=
  va_getsN hx hb hZ.1 hS hown (va_Nw.use rfl hlink) (fun _ h => h) hdg kk
theorem va_tald_ (hx : p.tables.exec = Jvm.exec) (hb : c.code = cc) (hZ : SX_ q pt s s.heap) (hS : va_S (AX q) s.heap H locs) {i : Int32} (hin : vp_in i 14) (hdg : decode cc pc = .ok (.iaload, 1)) (kk : W p l e R s m args below meth c H locs cells slots Q (F0 m (pc + 1) ls (.int (PT_ i.toNatClampNeg) :: rest))) : W p l e R s m args below meth c H locs cells slots Q (F0 m pc ls (.int i :: .ref pt :: rest)) :=
  va_ti hx hb hZ.2 hS hin rfl hdg kk
theorem sw_in (hx : p.tables.exec = Jvm.exec) (hb : c.code = cc) {dflt lo hi : Int} {offs : Array Int} {len : Nat} {x k : Int32} {off : Int} {tgt : Nat} (hdg : decode cc pc = .ok (.tableswitch dflt lo hi offs, len)) (hk : x = k) (h1 : ¬ k.toInt < lo) (h2 : ¬ hi < k.toInt) (ho : offs[(k.toInt - lo).toNat]? = some off) (ht : (pc : Int) + off = (tgt : Int)) (kk : W p l e R s m args below meth c H locs cells slots Q (F0 m tgt ls rest)) : W p l e R s m args below meth c H locs cells slots Q (F0 m pc ls (.int x :: rest)) := by
  subst hk
  exact lv_tableIn hx hb hdg h1 h2 ho ht kk
theorem sw_lk (hx : p.tables.exec = Jvm.exec) (hb : c.code = cc) {dflt : Int} {ps : Array (Int × Int)} {len : Nat} {x k : Int32} {off : Int} {tgt : Nat} (hdg : decode cc pc = .ok (.lookupswitch dflt ps, len)) (hp : (ps.toList.zip (ps.toList.drop 1)).all (fun (a, next) => a.1 < next.1) = true) (hk : x = k) (ho : Op.lookupswitch.offset ps.toList dflt k.toInt = off) (ht : (pc : Int) + off = (tgt : Int)) (kk : W p l e R s m args below meth c H locs cells slots Q (F0 m tgt ls rest)) : W p l e R s m args below meth c H locs cells slots Q (F0 m pc ls (.int x :: rest)) := by
  subst hk
  exact lv_lookup hx hb hdg hp ho ht kk
theorem cx_wrv {B : Heap → Prop} {A A0 : Nat → Prop} {H0 : Heap} (hr : va_Run p l e R s m args below meth c H locs cells slots 0 0 (F0 m pc ls st0) rest (QW_ none B A a) A) (hS : va_S A0 H0 H locs) (hA : ∀ q, A q → A0 q)
    (kk : ∀ (H1 : Heap) (locs1 : List Loc), B H1 → va_S A0 H0 H1 locs1 → W p l e R s m args below meth c H1 locs1 cells slots Q (F0 m (pc + 3) ls rest)) : W p l e R s m args below meth c H locs cells slots Q (F0 m pc ls st0) :=
  cx_wr hr hS hA (fun H1 locs1 hB _ hS => kk H1 locs1 hB hS)
theorem cx_wri {v : Int32} {B : Heap → Prop} {A A0 : Nat → Prop} {H0 : Heap} (hr : va_Run p l e R s m args below meth c H locs cells slots 0 0 (F0 m pc ls st0) rest (QW_ (some (.int v)) B A a) A) (hS : va_S A0 H0 H locs) (hA : ∀ q, A q → A0 q)
    (kk : ∀ (H1 : Heap) (locs1 : List Loc), B H1 → va_S A0 H0 H1 locs1 → W p l e R s m args below meth c H1 locs1 cells slots Q (F0 m (pc + 3) ls (.int v :: rest))) : W p l e R s m args below meth c H locs cells slots Q (F0 m pc ls st0) :=
  cx_wr hr hS hA (fun H1 locs1 hB _ hS => kk H1 locs1 hB hS)
end PXS
end
section
/-! Text -/
def y_T_isFull : MethodName := ⟨"StagedParsers$Text", "isFull", "()Z"⟩
def w_T_isFull : List Cond := .code y_T_isFull prog_7_method_2_code 1 (some .boolean) :: AW_
def rm_T_isFull : Room := { frames := 0, cells := 0, slots := 0, locals := 0 }
theorem d_T_isFull_0 : decode prog_7_method_2_code 0 = .ok (.aload_n 0, 1) := by decide +kernel
theorem d_T_isFull_1 : decode prog_7_method_2_code 1 = .ok (.getfield 15, 3) := by decide +kernel
theorem d_T_isFull_4 : decode prog_7_method_2_code 4 = .ok (.bipush 40, 2) := by decide +kernel
theorem d_T_isFull_6 : decode prog_7_method_2_code 6 = .ok (.if_icmp .lt 7, 3) := by decide +kernel
theorem d_T_isFull_9 : decode prog_7_method_2_code 9 = .ok (.iconst 1, 1) := by decide +kernel
theorem d_T_isFull_10 : decode prog_7_method_2_code 10 = .ok (.goto 4, 3) := by decide +kernel
theorem d_T_isFull_13 : decode prog_7_method_2_code 13 = .ok (.iconst 0, 1) := by decide +kernel
theorem d_T_isFull_14 : decode prog_7_method_2_code 14 = .ok (.ireturn, 1) := by decide +kernel
section RW
variable {p : Program} {l : Launch} {e : Env} {R : Room} {s : State} {m : MethodId} {args : Array Value} {below : List Frame} {meth : Method} {c : Code} {H : Heap} {locs : List Loc} {cells slots : Nat} {Q : State → Prop}
variable {cc : ByteArray} {pc : Nat} {ls : Array Slot} {rest : List Value} {dC : Nat → ClassId} {dI : Nat → Nat → Nat} {q : Nat → Nat} {cA : Nat → ClassId} {σ : MZ_} {H0 : Heap} {A : Nat → Prop}

theorem gf_T_15 (hx : p.tables.exec = Jvm.exec) (hb : c.code = cc) (hts : ∀ w ∈ AW_, w.before args s = true) (hown : s.vm.findClass "StagedParsers$Text" = some m.cls) (hK : va_K (dC, dI) cls_ (tyX cA) s) (hP : va_P (dC, dI) cls_ (wX q cA σ) H) (hdg : decode cc pc = .ok (.getfield 15, 3)) (kk : W p l e R s m args below meth c H locs cells slots Q (F0 m (pc + 3) ls (.int (σ 33 0) :: rest))) : W p l e R s m args below meth c H locs cells slots Q (F0 m pc ls (.ref (q 20) :: rest)) :=
  va_get (D := (dC, dI)) (cl := cls_) (ci := 4) (v := .int (σ 33 0)) (ws := wX q cA σ) (tys := tyX cA) (C := Rz_T) (T := Tz_T) (N := 2) hx hb hts uz_T hown hK hP 20 rfl rfl 1 (by decide) (hts _ kw_116) (fun _ h9 => h9) rfl hdg kk
end RW
def f_T_isFull (σ : MZ_) : Option (Int32) :=
  if (σ 33 0) < 40 then some 0
  else some 1
set_option maxHeartbeats 4000000 in
set_option maxRecDepth 100000 in
theorem c_T_isFull (l : Launch) (dC : Nat → ClassId) (dI : Nat → Nat → Nat) (q : Nat → Nat) (cA : Nat → ClassId) (pt : Nat) (σ : MZ_) (u : Int32) (h : f_T_isFull σ = some u) : Met l y_T_isFull w_T_isFull rm_T_isFull (va_Pc [.ref (q 20)] (PX_ dC dI q cA pt σ)) (QcRead u) 0 0 (fun _ => False) := by
  refine Met.ofW (cc := prog_7_method_2_code) (maxL := 1) (ret := (some .boolean)) (by decide) rfl ?_
  intro p e s m args below meth c s₁ B hml hv
  obtain ⟨rfl, hP, hK, hD, hN, hZ⟩ := hv
  have hx := B.exec
  have hb := B.bytes
  have hr := B.returns
  have hts : ∀ w ∈ AW_, w.before _ s = true := fun w h => atoms_spec (ws := w_T_isFull) B.pre w (List.mem_cons_of_mem _ h)
  have hown : s.vm.findClass "StagedParsers$Text" = some m.cls := findClass_of_methodNamed B.named
  have hlocks := B.notSynchronized
  have hS : va_S (AX q) s.heap s.heap [] := va_S.rf
  have hl := lv_entry ([.ref (q 20)]) (n := 1) (Nat.le_of_ble_eq_true rfl)
  rw [lg_entry_eq]
  generalize (lg_sl ([.ref (q 20)]) ++ List.replicate (1 - (lg_sl ([.ref (q 20)])).length) Slot.unset).toArray = ls at hl ⊢
  have hl : lv_has ls 1 [(0, .ref (q 20))] := hl
  rw [f_T_isFull] at h
  refine lv_aload_n hx hb d_T_isFull_0 rfl (lv_at hl 0 rfl) ?_
  refine gf_T_15 hx hb hts hown hK hP d_T_isFull_1 ?_
  refine lv_bipush (v := 40) hx hb d_T_isFull_4 (by decide) ?_
  refine lv_icmp_lt (tgt := 13) hx hb d_T_isFull_6 rfl (fun hc => ?_) (fun hc => ?_)
  · have h := if_t hc h
    refine lv_iconst (v := 0) hx hb d_T_isFull_13 (by decide) ?_
    obtain rfl := Option.some.inj h
    exact W.zret hx hb hr rfl (fun t ht hW => ⟨rfl, ht⟩) (fun _ h9 => nomatch h9) d_T_isFull_14
  · have h := if_f hc h
    refine lv_iconst (v := 1) hx hb d_T_isFull_9 (by decide) ?_
    refine lv_goto (tgt := 14) hx hb d_T_isFull_10 rfl ?_
    obtain rfl := Option.some.inj h
    exact W.zret hx hb hr rfl (fun t ht hW => ⟨rfl, ht⟩) (fun _ h9 => nomatch h9) d_T_isFull_14
def y_T_size : MethodName := ⟨"StagedParsers$Text", "size", "()I"⟩
def w_T_size : List Cond := .code y_T_size prog_7_method_3_code 1 (some .int) :: AW_
def rm_T_size : Room := { frames := 0, cells := 0, slots := 0, locals := 0 }
theorem d_T_size_0 : decode prog_7_method_3_code 0 = .ok (.aload_n 0, 1) := by decide +kernel
theorem d_T_size_1 : decode prog_7_method_3_code 1 = .ok (.getfield 15, 3) := by decide +kernel
theorem d_T_size_4 : decode prog_7_method_3_code 4 = .ok (.ireturn, 1) := by decide +kernel
def f_T_size (σ : MZ_) : Option (Int32) :=
  some (σ 33 0)
set_option maxHeartbeats 4000000 in
set_option maxRecDepth 100000 in
theorem c_T_size (l : Launch) (dC : Nat → ClassId) (dI : Nat → Nat → Nat) (q : Nat → Nat) (cA : Nat → ClassId) (pt : Nat) (σ : MZ_) (u : Int32) (h : f_T_size σ = some u) : Met l y_T_size w_T_size rm_T_size (va_Pc [.ref (q 20)] (PX_ dC dI q cA pt σ)) (QcRead u) 0 0 (fun _ => False) := by
  refine Met.ofW (cc := prog_7_method_3_code) (maxL := 1) (ret := (some .int)) (by decide) rfl ?_
  intro p e s m args below meth c s₁ B hml hv
  obtain ⟨rfl, hP, hK, hD, hN, hZ⟩ := hv
  have hx := B.exec
  have hb := B.bytes
  have hr := B.returns
  have hts : ∀ w ∈ AW_, w.before _ s = true := fun w h => atoms_spec (ws := w_T_size) B.pre w (List.mem_cons_of_mem _ h)
  have hown : s.vm.findClass "StagedParsers$Text" = some m.cls := findClass_of_methodNamed B.named
  have hlocks := B.notSynchronized
  have hS : va_S (AX q) s.heap s.heap [] := va_S.rf
  have hl := lv_entry ([.ref (q 20)]) (n := 1) (Nat.le_of_ble_eq_true rfl)
  rw [lg_entry_eq]
  generalize (lg_sl ([.ref (q 20)]) ++ List.replicate (1 - (lg_sl ([.ref (q 20)])).length) Slot.unset).toArray = ls at hl ⊢
  have hl : lv_has ls 1 [(0, .ref (q 20))] := hl
  rw [f_T_size] at h
  refine lv_aload_n hx hb d_T_size_0 rfl (lv_at hl 0 rfl) ?_
  refine gf_T_15 hx hb hts hown hK hP d_T_size_1 ?_
  obtain rfl := Option.some.inj h
  exact W.iret hx hb hr (fun t ht hW => ⟨rfl, ht⟩) (fun _ h9 => nomatch h9) d_T_size_4
def y_T_append : MethodName := ⟨"StagedParsers$Text", "append", "(C)V"⟩
def w_T_append : List Cond := .code y_T_append prog_7_method_4_code 2 none :: AW_
def rm_T_append : Room := { frames := 0, cells := 0, slots := 0, locals := 0 }
theorem d_T_append_0 : decode prog_7_method_4_code 0 = .ok (.aload_n 0, 1) := by decide +kernel
theorem d_T_append_1 : decode prog_7_method_4_code 1 = .ok (.getfield 15, 3) := by decide +kernel
theorem d_T_append_4 : decode prog_7_method_4_code 4 = .ok (.bipush 40, 2) := by decide +kernel
theorem d_T_append_6 : decode prog_7_method_4_code 6 = .ok (.if_icmp .ge 23, 3) := by decide +kernel
theorem d_T_append_9 : decode prog_7_method_4_code 9 = .ok (.aload_n 0, 1) := by decide +kernel
theorem d_T_append_10 : decode prog_7_method_4_code 10 = .ok (.getfield 9, 3) := by decide +kernel
theorem d_T_append_13 : decode prog_7_method_4_code 13 = .ok (.aload_n 0, 1) := by decide +kernel
theorem d_T_append_14 : decode prog_7_method_4_code 14 = .ok (.getfield 15, 3) := by decide +kernel
theorem d_T_append_17 : decode prog_7_method_4_code 17 = .ok (.iload_n 1, 1) := by decide +kernel
theorem d_T_append_18 : decode prog_7_method_4_code 18 = .ok (.castore, 1) := by decide +kernel
theorem d_T_append_19 : decode prog_7_method_4_code 19 = .ok (.aload_n 0, 1) := by decide +kernel
theorem d_T_append_20 : decode prog_7_method_4_code 20 = .ok (.dup, 1) := by decide +kernel
theorem d_T_append_21 : decode prog_7_method_4_code 21 = .ok (.getfield 15, 3) := by decide +kernel
theorem d_T_append_24 : decode prog_7_method_4_code 24 = .ok (.iconst 1, 1) := by decide +kernel
theorem d_T_append_25 : decode prog_7_method_4_code 25 = .ok (.iadd, 1) := by decide +kernel
theorem d_T_append_26 : decode prog_7_method_4_code 26 = .ok (.putfield 15, 3) := by decide +kernel
theorem d_T_append_29 : decode prog_7_method_4_code 29 = .ok (.return_, 1) := by decide +kernel
section RW
variable {p : Program} {l : Launch} {e : Env} {R : Room} {s : State} {m : MethodId} {args : Array Value} {below : List Frame} {meth : Method} {c : Code} {H : Heap} {locs : List Loc} {cells slots : Nat} {Q : State → Prop}
variable {cc : ByteArray} {pc : Nat} {ls : Array Slot} {rest : List Value} {dC : Nat → ClassId} {dI : Nat → Nat → Nat} {q : Nat → Nat} {cA : Nat → ClassId} {σ : MZ_} {H0 : Heap} {A : Nat → Prop}

theorem gf_T_9 (hx : p.tables.exec = Jvm.exec) (hb : c.code = cc) (hts : ∀ w ∈ AW_, w.before args s = true) (hown : s.vm.findClass "StagedParsers$Text" = some m.cls) (hK : va_K (dC, dI) cls_ (tyX cA) s) (hP : va_P (dC, dI) cls_ (wX q cA σ) H) (hdg : decode cc pc = .ok (.getfield 9, 3)) (kk : W p l e R s m args below meth c H locs cells slots Q (F0 m (pc + 3) ls (.ref (q 21) :: rest))) : W p l e R s m args below meth c H locs cells slots Q (F0 m pc ls (.ref (q 20) :: rest)) :=
  va_get (D := (dC, dI)) (cl := cls_) (ci := 4) (v := .ref (q 21)) (ws := wX q cA σ) (tys := tyX cA) (C := Rz_T) (T := Tz_T) (N := 2) hx hb hts uz_T hown hK hP 20 rfl rfl 0 (by decide) (hts _ kw_115) (fun _ h9 => h9) rfl hdg kk
theorem pf_T_15 (hx : p.tables.exec = Jvm.exec) (hb : c.code = cc) (hts : ∀ w ∈ AW_, w.before args s = true) (hown : s.vm.findClass "StagedParsers$Text" = some m.cls) (hK : va_K (dC, dI) cls_ (tyX cA) s) (hP : va_P (dC, dI) cls_ (wX q cA σ) H) (hD : va_D A (wX q cA σ)) (hS : va_S A H0 H locs) {v : Int32} (hdg : decode cc pc = .ok (.putfield 15, 3)) (kk : ∀ (H1 : Heap) (locs1 : List Loc), va_P (dC, dI) cls_ (wX q cA (va_up σ 33 (fun _ => v))) H1 → va_S A H0 H1 locs1 → W p l e R s m args below meth c H1 locs1 cells slots Q (F0 m (pc + 3) ls rest)) : W p l e R s m args below meth c H locs cells slots Q (F0 m pc ls (.int v :: .ref (q 20) :: rest)) :=
  va_put (D := (dC, dI)) (cl := cls_) (ci := 4) (v := .int v) (ty := .int) (ws := wX q cA σ) (tys := tyX cA) (C := Rz_T) (T := Tz_T) (N := 2) hx hb hts uz_T tz_T tz_T_ok nz_T hown hK hP hD hS 20 rfl rfl 1 (by decide) (hts _ kw_116) (fun _ h9 => h9) rfl (by decide +kernel) rfl rfl (Nat.le_of_ble_eq_true rfl) hdg (fun H1 locs1 hP _ hS => kk H1 locs1 hP hS)
end RW
def f_T_append (σ : MZ_) (x1 : Int32) : Option (MZ_) :=
  if 40 ≤ (σ 33 0) then some σ
  else gd_ (σ 33 0) 40 (st_ (va_up σ 21 (upd (σ 21) (σ 33 0).toNatClampNeg (vp_nar .char x1))) fun σ1 => st_ (va_up σ1 33 (fun _ => (σ1 33 0) + 1)) fun σ2 => some σ2)
set_option maxHeartbeats 4000000 in
set_option maxRecDepth 100000 in
theorem c_T_append (l : Launch) (dC : Nat → ClassId) (dI : Nat → Nat → Nat) (q : Nat → Nat) (cA : Nat → ClassId) (pt : Nat) (σ : MZ_) (x1 : Int32) (u : MZ_) (h : f_T_append σ x1 = some u) : Met l y_T_append w_T_append rm_T_append (va_Pc [.ref (q 20), .int x1] (PX_ dC dI q cA pt σ)) (QW_ none (fun H => va_P (dC, dI) cls_ (wX q cA u) H) (AX q)) 0 0 (AX q) := by
  refine Met.ofW (cc := prog_7_method_4_code) (maxL := 2) (ret := none) (by decide) rfl ?_
  intro p e s m args below meth c s₁ B hml hv
  obtain ⟨rfl, hP, hK, hD, hN, hZ⟩ := hv
  have hx := B.exec
  have hb := B.bytes
  have hr := B.returns
  have hts : ∀ w ∈ AW_, w.before _ s = true := fun w h => atoms_spec (ws := w_T_append) B.pre w (List.mem_cons_of_mem _ h)
  have hown : s.vm.findClass "StagedParsers$Text" = some m.cls := findClass_of_methodNamed B.named
  have hlocks := B.notSynchronized
  have hS : va_S (AX q) s.heap s.heap [] := va_S.rf
  have hl := lv_entry ([.ref (q 20), .int x1]) (n := 2) (Nat.le_of_ble_eq_true rfl)
  rw [lg_entry_eq]
  generalize (lg_sl ([.ref (q 20), .int x1]) ++ List.replicate (2 - (lg_sl ([.ref (q 20), .int x1])).length) Slot.unset).toArray = ls at hl ⊢
  have hl : lv_has ls 2 [(0, .ref (q 20)), (1, .int x1)] := hl
  rw [f_T_append] at h
  refine lv_aload_n hx hb d_T_append_0 rfl (lv_at hl 0 rfl) ?_
  refine gf_T_15 hx hb hts hown hK hP d_T_append_1 ?_
  refine lv_bipush (v := 40) hx hb d_T_append_4 (by decide) ?_
  refine lv_icmp_ge (tgt := 29) hx hb d_T_append_6 rfl (fun hc => ?_) (fun hc => ?_)
  · have h := if_t hc h
    obtain rfl := Option.some.inj h
    exact W.vret hx hb hr (fun t ht hW => ⟨rfl, by rw [ht]; exact hP, hS.F ht⟩) hS.2.2 d_T_append_29
  · have h := if_f hc h
    refine lv_aload_n hx hb d_T_append_9 rfl (lv_at hl 0 rfl) ?_
    refine gf_T_9 hx hb hts hown hK hP d_T_append_10 ?_
    refine lv_aload_n hx hb d_T_append_13 rfl (lv_at hl 0 rfl) ?_
    refine gf_T_15 hx hb hts hown hK hP d_T_append_14 ?_
    refine lv_iload_n hx hb d_T_append_17 rfl (lv_at hl 1 rfl) ?_
    obtain ⟨hgd, h⟩ := gd_some h
    refine as_X_21 hx hb hK hP hD hS hgd d_T_append_18 (fun H locs hP hS => ?_)
    obtain ⟨σ1, eσ1, h⟩ := st_some h
    rw [← eσ1] at hP
    have hD : va_D (AX q) (wX q cA σ1) := dd_re (wX_f _ _ _ _) hD
    refine lv_aload_n hx hb d_T_append_19 rfl (lv_at hl 0 rfl) ?_
    refine lv_dup hx hb d_T_append_20 rfl ?_
    refine gf_T_15 hx hb hts hown hK hP d_T_append_21 ?_
    refine lv_iconst (v := 1) hx hb d_T_append_24 (by decide) ?_
    refine lv_iadd hx hb d_T_append_25 ?_
    refine pf_T_15 hx hb hts hown hK hP hD hS d_T_append_26 (fun H locs hP hS => ?_)
    obtain ⟨σ2, eσ2, h⟩ := st_some h
    rw [← eσ2] at hP
    have hD : va_D (AX q) (wX q cA σ2) := dd_re (wX_f _ _ _ _) hD
    obtain rfl := Option.some.inj h
    exact W.vret hx hb hr (fun t ht hW => ⟨rfl, by rw [ht]; exact hP, hS.F ht⟩) hS.2.2 d_T_append_29
def y_T_erase : MethodName := ⟨"StagedParsers$Text", "erase", "()V"⟩
def w_T_erase : List Cond := .code y_T_erase prog_7_method_5_code 1 none :: AW_
def rm_T_erase : Room := { frames := 0, cells := 0, slots := 0, locals := 0 }
theorem d_T_erase_0 : decode prog_7_method_5_code 0 = .ok (.aload_n 0, 1) := by decide +kernel
theorem d_T_erase_1 : decode prog_7_method_5_code 1 = .ok (.iconst 0, 1) := by decide +kernel
theorem d_T_erase_2 : decode prog_7_method_5_code 2 = .ok (.putfield 15, 3) := by decide +kernel
theorem d_T_erase_5 : decode prog_7_method_5_code 5 = .ok (.return_, 1) := by decide +kernel
def f_T_erase (σ : MZ_) : Option (MZ_) :=
  st_ (va_up σ 33 (fun _ => 0)) fun σ1 => some σ1
set_option maxHeartbeats 4000000 in
set_option maxRecDepth 100000 in
theorem c_T_erase (l : Launch) (dC : Nat → ClassId) (dI : Nat → Nat → Nat) (q : Nat → Nat) (cA : Nat → ClassId) (pt : Nat) (σ : MZ_) (u : MZ_) (h : f_T_erase σ = some u) : Met l y_T_erase w_T_erase rm_T_erase (va_Pc [.ref (q 20)] (PX_ dC dI q cA pt σ)) (QW_ none (fun H => va_P (dC, dI) cls_ (wX q cA u) H) (AX q)) 0 0 (AX q) := by
  refine Met.ofW (cc := prog_7_method_5_code) (maxL := 1) (ret := none) (by decide) rfl ?_
  intro p e s m args below meth c s₁ B hml hv
  obtain ⟨rfl, hP, hK, hD, hN, hZ⟩ := hv
  have hx := B.exec
  have hb := B.bytes
  have hr := B.returns
  have hts : ∀ w ∈ AW_, w.before _ s = true := fun w h => atoms_spec (ws := w_T_erase) B.pre w (List.mem_cons_of_mem _ h)
  have hown : s.vm.findClass "StagedParsers$Text" = some m.cls := findClass_of_methodNamed B.named
  have hlocks := B.notSynchronized
  have hS : va_S (AX q) s.heap s.heap [] := va_S.rf
  have hl := lv_entry ([.ref (q 20)]) (n := 1) (Nat.le_of_ble_eq_true rfl)
  rw [lg_entry_eq]
  generalize (lg_sl ([.ref (q 20)]) ++ List.replicate (1 - (lg_sl ([.ref (q 20)])).length) Slot.unset).toArray = ls at hl ⊢
  have hl : lv_has ls 1 [(0, .ref (q 20))] := hl
  rw [f_T_erase] at h
  refine lv_aload_n hx hb d_T_erase_0 rfl (lv_at hl 0 rfl) ?_
  refine lv_iconst (v := 0) hx hb d_T_erase_1 (by decide) ?_
  refine pf_T_15 hx hb hts hown hK hP hD hS d_T_erase_2 (fun H locs hP hS => ?_)
  obtain ⟨σ1, eσ1, h⟩ := st_some h
  rw [← eσ1] at hP
  have hD : va_D (AX q) (wX q cA σ1) := dd_re (wX_f _ _ _ _) hD
  obtain rfl := Option.some.inj h
  exact W.vret hx hb hr (fun t ht hW => ⟨rfl, by rw [ht]; exact hP, hS.F ht⟩) hS.2.2 d_T_erase_5
def y_T_signAt : MethodName := ⟨"StagedParsers$Text", "signAt", "(I)I"⟩
def w_T_signAt : List Cond := .code y_T_signAt prog_7_method_6_code 2 (some .int) :: AW_
def rm_T_signAt : Room := { frames := 0, cells := 0, slots := 0, locals := 0 }
theorem d_T_signAt_0 : decode prog_7_method_6_code 0 = .ok (.iload_n 1, 1) := by decide +kernel
theorem d_T_signAt_1 : decode prog_7_method_6_code 1 = .ok (.ifCond .lt 20, 3) := by decide +kernel
theorem d_T_signAt_4 : decode prog_7_method_6_code 4 = .ok (.iload_n 1, 1) := by decide +kernel
theorem d_T_signAt_5 : decode prog_7_method_6_code 5 = .ok (.aload_n 0, 1) := by decide +kernel
theorem d_T_signAt_6 : decode prog_7_method_6_code 6 = .ok (.getfield 15, 3) := by decide +kernel
theorem d_T_signAt_9 : decode prog_7_method_6_code 9 = .ok (.if_icmp .ge 12, 3) := by decide +kernel
theorem d_T_signAt_12 : decode prog_7_method_6_code 12 = .ok (.aload_n 0, 1) := by decide +kernel
theorem d_T_signAt_13 : decode prog_7_method_6_code 13 = .ok (.getfield 9, 3) := by decide +kernel
theorem d_T_signAt_16 : decode prog_7_method_6_code 16 = .ok (.iload_n 1, 1) := by decide +kernel
theorem d_T_signAt_17 : decode prog_7_method_6_code 17 = .ok (.caload, 1) := by decide +kernel
theorem d_T_signAt_18 : decode prog_7_method_6_code 18 = .ok (.goto 4, 3) := by decide +kernel
theorem d_T_signAt_21 : decode prog_7_method_6_code 21 = .ok (.iconst (-1), 1) := by decide +kernel
theorem d_T_signAt_22 : decode prog_7_method_6_code 22 = .ok (.ireturn, 1) := by decide +kernel
def f_T_signAt (σ : MZ_) (x1 : Int32) : Option (Int32) :=
  if x1 < 0 then some (-1)
  else if (σ 33 0) ≤ x1 then some (-1)
  else gd_ x1 40 (some (σ 21 x1.toNatClampNeg))
set_option maxHeartbeats 4000000 in
set_option maxRecDepth 100000 in
theorem c_T_signAt (l : Launch) (dC : Nat → ClassId) (dI : Nat → Nat → Nat) (q : Nat → Nat) (cA : Nat → ClassId) (pt : Nat) (σ : MZ_) (x1 : Int32) (u : Int32) (h : f_T_signAt σ x1 = some u) : Met l y_T_signAt w_T_signAt rm_T_signAt (va_Pc [.ref (q 20), .int x1] (PX_ dC dI q cA pt σ)) (QcRead u) 0 0 (fun _ => False) := by
  refine Met.ofW (cc := prog_7_method_6_code) (maxL := 2) (ret := (some .int)) (by decide) rfl ?_
  intro p e s m args below meth c s₁ B hml hv
  obtain ⟨rfl, hP, hK, hD, hN, hZ⟩ := hv
  have hx := B.exec
  have hb := B.bytes
  have hr := B.returns
  have hts : ∀ w ∈ AW_, w.before _ s = true := fun w h => atoms_spec (ws := w_T_signAt) B.pre w (List.mem_cons_of_mem _ h)
  have hown : s.vm.findClass "StagedParsers$Text" = some m.cls := findClass_of_methodNamed B.named
  have hlocks := B.notSynchronized
  have hS : va_S (AX q) s.heap s.heap [] := va_S.rf
  have hl := lv_entry ([.ref (q 20), .int x1]) (n := 2) (Nat.le_of_ble_eq_true rfl)
  rw [lg_entry_eq]
  generalize (lg_sl ([.ref (q 20), .int x1]) ++ List.replicate (2 - (lg_sl ([.ref (q 20), .int x1])).length) Slot.unset).toArray = ls at hl ⊢
  have hl : lv_has ls 2 [(0, .ref (q 20)), (1, .int x1)] := hl
  rw [f_T_signAt] at h
  refine lv_iload_n hx hb d_T_signAt_0 rfl (lv_at hl 1 rfl) ?_
  refine lv_if_lt (tgt := 21) hx hb d_T_signAt_1 rfl (fun hc => ?_) (fun hc => ?_)
  · have h := if_t hc h
    refine lv_iconst (v := (-1)) hx hb d_T_signAt_21 (by decide) ?_
    obtain rfl := Option.some.inj h
    exact W.iret hx hb hr (fun t ht hW => ⟨rfl, ht⟩) (fun _ h9 => nomatch h9) d_T_signAt_22
  · have h := if_f hc h
    refine lv_iload_n hx hb d_T_signAt_4 rfl (lv_at hl 1 rfl) ?_
    refine lv_aload_n hx hb d_T_signAt_5 rfl (lv_at hl 0 rfl) ?_
    refine gf_T_15 hx hb hts hown hK hP d_T_signAt_6 ?_
    refine lv_icmp_ge (tgt := 21) hx hb d_T_signAt_9 rfl (fun hc => ?_) (fun hc => ?_)
    · have h := if_t hc h
      refine lv_iconst (v := (-1)) hx hb d_T_signAt_21 (by decide) ?_
      obtain rfl := Option.some.inj h
      exact W.iret hx hb hr (fun t ht hW => ⟨rfl, ht⟩) (fun _ h9 => nomatch h9) d_T_signAt_22
    · have h := if_f hc h
      refine lv_aload_n hx hb d_T_signAt_12 rfl (lv_at hl 0 rfl) ?_
      refine gf_T_9 hx hb hts hown hK hP d_T_signAt_13 ?_
      refine lv_iload_n hx hb d_T_signAt_16 rfl (lv_at hl 1 rfl) ?_
      obtain ⟨hgd, h⟩ := gd_some h
      refine al_X_21 hx hb hK hP hgd d_T_signAt_17 ?_
      refine lv_goto (tgt := 22) hx hb d_T_signAt_18 rfl ?_
      obtain rfl := Option.some.inj h
      exact W.iret hx hb hr (fun t ht hW => ⟨rfl, ht⟩) (fun _ h9 => nomatch h9) d_T_signAt_22
end
section
/-! Frames -/
def y_F_reset : MethodName := ⟨"StagedParsers$Frames", "reset", "()V"⟩
def w_F_reset : List Cond := .code y_F_reset prog_3_method_2_code 1 none :: AW_
def rm_F_reset : Room := { frames := 0, cells := 0, slots := 0, locals := 0 }
theorem d_F_reset_0 : decode prog_3_method_2_code 0 = .ok (.aload_n 0, 1) := by decide +kernel
theorem d_F_reset_1 : decode prog_3_method_2_code 1 = .ok (.iconst 0, 1) := by decide +kernel
theorem d_F_reset_2 : decode prog_3_method_2_code 2 = .ok (.putfield 24, 3) := by decide +kernel
theorem d_F_reset_5 : decode prog_3_method_2_code 5 = .ok (.return_, 1) := by decide +kernel
section RW
variable {p : Program} {l : Launch} {e : Env} {R : Room} {s : State} {m : MethodId} {args : Array Value} {below : List Frame} {meth : Method} {c : Code} {H : Heap} {locs : List Loc} {cells slots : Nat} {Q : State → Prop}
variable {cc : ByteArray} {pc : Nat} {ls : Array Slot} {rest : List Value} {dC : Nat → ClassId} {dI : Nat → Nat → Nat} {q : Nat → Nat} {cA : Nat → ClassId} {σ : MZ_} {H0 : Heap} {A : Nat → Prop}

theorem pf_F_24 (hx : p.tables.exec = Jvm.exec) (hb : c.code = cc) (hts : ∀ w ∈ AW_, w.before args s = true) (hown : s.vm.findClass "StagedParsers$Frames" = some m.cls) (hK : va_K (dC, dI) cls_ (tyX cA) s) (hP : va_P (dC, dI) cls_ (wX q cA σ) H) (hD : va_D A (wX q cA σ)) (hS : va_S A H0 H locs) {v : Int32} (hdg : decode cc pc = .ok (.putfield 24, 3)) (kk : ∀ (H1 : Heap) (locs1 : List Loc), va_P (dC, dI) cls_ (wX q cA (va_up σ 43 (fun _ => v))) H1 → va_S A H0 H1 locs1 → W p l e R s m args below meth c H1 locs1 cells slots Q (F0 m (pc + 3) ls rest)) : W p l e R s m args below meth c H locs cells slots Q (F0 m pc ls (.int v :: .ref (q 25) :: rest)) :=
  va_put (D := (dC, dI)) (cl := cls_) (ci := 6) (v := .int v) (ty := .int) (ws := wX q cA σ) (tys := tyX cA) (C := Rz_F) (T := Tz_F) (N := 5) hx hb hts uz_F tz_F tz_F_ok nz_F hown hK hP hD hS 25 rfl rfl 4 (by decide) (hts _ kw_139) (fun _ h9 => h9) rfl (by decide +kernel) rfl rfl (Nat.le_of_ble_eq_true rfl) hdg (fun H1 locs1 hP _ hS => kk H1 locs1 hP hS)
end RW
def f_F_reset (σ : MZ_) : Option (MZ_) :=
  st_ (va_up σ 43 (fun _ => 0)) fun σ1 => some σ1
set_option maxHeartbeats 4000000 in
set_option maxRecDepth 100000 in
theorem c_F_reset (l : Launch) (dC : Nat → ClassId) (dI : Nat → Nat → Nat) (q : Nat → Nat) (cA : Nat → ClassId) (pt : Nat) (σ : MZ_) (u : MZ_) (h : f_F_reset σ = some u) : Met l y_F_reset w_F_reset rm_F_reset (va_Pc [.ref (q 25)] (PX_ dC dI q cA pt σ)) (QW_ none (fun H => va_P (dC, dI) cls_ (wX q cA u) H) (AX q)) 0 0 (AX q) := by
  refine Met.ofW (cc := prog_3_method_2_code) (maxL := 1) (ret := none) (by decide) rfl ?_
  intro p e s m args below meth c s₁ B hml hv
  obtain ⟨rfl, hP, hK, hD, hN, hZ⟩ := hv
  have hx := B.exec
  have hb := B.bytes
  have hr := B.returns
  have hts : ∀ w ∈ AW_, w.before _ s = true := fun w h => atoms_spec (ws := w_F_reset) B.pre w (List.mem_cons_of_mem _ h)
  have hown : s.vm.findClass "StagedParsers$Frames" = some m.cls := findClass_of_methodNamed B.named
  have hlocks := B.notSynchronized
  have hS : va_S (AX q) s.heap s.heap [] := va_S.rf
  have hl := lv_entry ([.ref (q 25)]) (n := 1) (Nat.le_of_ble_eq_true rfl)
  rw [lg_entry_eq]
  generalize (lg_sl ([.ref (q 25)]) ++ List.replicate (1 - (lg_sl ([.ref (q 25)])).length) Slot.unset).toArray = ls at hl ⊢
  have hl : lv_has ls 1 [(0, .ref (q 25))] := hl
  rw [f_F_reset] at h
  refine lv_aload_n hx hb d_F_reset_0 rfl (lv_at hl 0 rfl) ?_
  refine lv_iconst (v := 0) hx hb d_F_reset_1 (by decide) ?_
  refine pf_F_24 hx hb hts hown hK hP hD hS d_F_reset_2 (fun H locs hP hS => ?_)
  obtain ⟨σ1, eσ1, h⟩ := st_some h
  rw [← eσ1] at hP
  have hD : va_D (AX q) (wX q cA σ1) := dd_re (wX_f _ _ _ _) hD
  obtain rfl := Option.some.inj h
  exact W.vret hx hb hr (fun t ht hW => ⟨rfl, by rw [ht]; exact hP, hS.F ht⟩) hS.2.2 d_F_reset_5
def y_F_isFull : MethodName := ⟨"StagedParsers$Frames", "isFull", "()Z"⟩
def w_F_isFull : List Cond := .code y_F_isFull prog_3_method_3_code 1 (some .boolean) :: AW_
def rm_F_isFull : Room := { frames := 0, cells := 0, slots := 0, locals := 0 }
theorem d_F_isFull_0 : decode prog_3_method_3_code 0 = .ok (.aload_n 0, 1) := by decide +kernel
theorem d_F_isFull_1 : decode prog_3_method_3_code 1 = .ok (.getfield 24, 3) := by decide +kernel
theorem d_F_isFull_4 : decode prog_3_method_3_code 4 = .ok (.sipush 640, 3) := by decide +kernel
theorem d_F_isFull_7 : decode prog_3_method_3_code 7 = .ok (.if_icmp .lt 7, 3) := by decide +kernel
theorem d_F_isFull_10 : decode prog_3_method_3_code 10 = .ok (.iconst 1, 1) := by decide +kernel
theorem d_F_isFull_11 : decode prog_3_method_3_code 11 = .ok (.goto 4, 3) := by decide +kernel
theorem d_F_isFull_14 : decode prog_3_method_3_code 14 = .ok (.iconst 0, 1) := by decide +kernel
theorem d_F_isFull_15 : decode prog_3_method_3_code 15 = .ok (.ireturn, 1) := by decide +kernel
section RW
variable {p : Program} {l : Launch} {e : Env} {R : Room} {s : State} {m : MethodId} {args : Array Value} {below : List Frame} {meth : Method} {c : Code} {H : Heap} {locs : List Loc} {cells slots : Nat} {Q : State → Prop}
variable {cc : ByteArray} {pc : Nat} {ls : Array Slot} {rest : List Value} {dC : Nat → ClassId} {dI : Nat → Nat → Nat} {q : Nat → Nat} {cA : Nat → ClassId} {σ : MZ_} {H0 : Heap} {A : Nat → Prop}

theorem gf_F_24 (hx : p.tables.exec = Jvm.exec) (hb : c.code = cc) (hts : ∀ w ∈ AW_, w.before args s = true) (hown : s.vm.findClass "StagedParsers$Frames" = some m.cls) (hK : va_K (dC, dI) cls_ (tyX cA) s) (hP : va_P (dC, dI) cls_ (wX q cA σ) H) (hdg : decode cc pc = .ok (.getfield 24, 3)) (kk : W p l e R s m args below meth c H locs cells slots Q (F0 m (pc + 3) ls (.int (σ 43 0) :: rest))) : W p l e R s m args below meth c H locs cells slots Q (F0 m pc ls (.ref (q 25) :: rest)) :=
  va_get (D := (dC, dI)) (cl := cls_) (ci := 6) (v := .int (σ 43 0)) (ws := wX q cA σ) (tys := tyX cA) (C := Rz_F) (T := Tz_F) (N := 5) hx hb hts uz_F hown hK hP 25 rfl rfl 4 (by decide) (hts _ kw_139) (fun _ h9 => h9) rfl hdg kk
end RW
def f_F_isFull (σ : MZ_) : Option (Int32) :=
  if (σ 43 0) < 640 then some 0
  else some 1
set_option maxHeartbeats 4000000 in
set_option maxRecDepth 100000 in
theorem c_F_isFull (l : Launch) (dC : Nat → ClassId) (dI : Nat → Nat → Nat) (q : Nat → Nat) (cA : Nat → ClassId) (pt : Nat) (σ : MZ_) (u : Int32) (h : f_F_isFull σ = some u) : Met l y_F_isFull w_F_isFull rm_F_isFull (va_Pc [.ref (q 25)] (PX_ dC dI q cA pt σ)) (QcRead u) 0 0 (fun _ => False) := by
  refine Met.ofW (cc := prog_3_method_3_code) (maxL := 1) (ret := (some .boolean)) (by decide) rfl ?_
  intro p e s m args below meth c s₁ B hml hv
  obtain ⟨rfl, hP, hK, hD, hN, hZ⟩ := hv
  have hx := B.exec
  have hb := B.bytes
  have hr := B.returns
  have hts : ∀ w ∈ AW_, w.before _ s = true := fun w h => atoms_spec (ws := w_F_isFull) B.pre w (List.mem_cons_of_mem _ h)
  have hown : s.vm.findClass "StagedParsers$Frames" = some m.cls := findClass_of_methodNamed B.named
  have hlocks := B.notSynchronized
  have hS : va_S (AX q) s.heap s.heap [] := va_S.rf
  have hl := lv_entry ([.ref (q 25)]) (n := 1) (Nat.le_of_ble_eq_true rfl)
  rw [lg_entry_eq]
  generalize (lg_sl ([.ref (q 25)]) ++ List.replicate (1 - (lg_sl ([.ref (q 25)])).length) Slot.unset).toArray = ls at hl ⊢
  have hl : lv_has ls 1 [(0, .ref (q 25))] := hl
  rw [f_F_isFull] at h
  refine lv_aload_n hx hb d_F_isFull_0 rfl (lv_at hl 0 rfl) ?_
  refine gf_F_24 hx hb hts hown hK hP d_F_isFull_1 ?_
  refine lv_sipush (v := 640) hx hb d_F_isFull_4 (by decide) ?_
  refine lv_icmp_lt (tgt := 14) hx hb d_F_isFull_7 rfl (fun hc => ?_) (fun hc => ?_)
  · have h := if_t hc h
    refine lv_iconst (v := 0) hx hb d_F_isFull_14 (by decide) ?_
    obtain rfl := Option.some.inj h
    exact W.zret hx hb hr rfl (fun t ht hW => ⟨rfl, ht⟩) (fun _ h9 => nomatch h9) d_F_isFull_15
  · have h := if_f hc h
    refine lv_iconst (v := 1) hx hb d_F_isFull_10 (by decide) ?_
    refine lv_goto (tgt := 15) hx hb d_F_isFull_11 rfl ?_
    obtain rfl := Option.some.inj h
    exact W.zret hx hb hr rfl (fun t ht hW => ⟨rfl, ht⟩) (fun _ h9 => nomatch h9) d_F_isFull_15
def y_F_size : MethodName := ⟨"StagedParsers$Frames", "size", "()I"⟩
def w_F_size : List Cond := .code y_F_size prog_3_method_4_code 1 (some .int) :: AW_
def rm_F_size : Room := { frames := 0, cells := 0, slots := 0, locals := 0 }
theorem d_F_size_0 : decode prog_3_method_4_code 0 = .ok (.aload_n 0, 1) := by decide +kernel
theorem d_F_size_1 : decode prog_3_method_4_code 1 = .ok (.getfield 24, 3) := by decide +kernel
theorem d_F_size_4 : decode prog_3_method_4_code 4 = .ok (.ireturn, 1) := by decide +kernel
def f_F_size (σ : MZ_) : Option (Int32) :=
  some (σ 43 0)
set_option maxHeartbeats 4000000 in
set_option maxRecDepth 100000 in
theorem c_F_size (l : Launch) (dC : Nat → ClassId) (dI : Nat → Nat → Nat) (q : Nat → Nat) (cA : Nat → ClassId) (pt : Nat) (σ : MZ_) (u : Int32) (h : f_F_size σ = some u) : Met l y_F_size w_F_size rm_F_size (va_Pc [.ref (q 25)] (PX_ dC dI q cA pt σ)) (QcRead u) 0 0 (fun _ => False) := by
  refine Met.ofW (cc := prog_3_method_4_code) (maxL := 1) (ret := (some .int)) (by decide) rfl ?_
  intro p e s m args below meth c s₁ B hml hv
  obtain ⟨rfl, hP, hK, hD, hN, hZ⟩ := hv
  have hx := B.exec
  have hb := B.bytes
  have hr := B.returns
  have hts : ∀ w ∈ AW_, w.before _ s = true := fun w h => atoms_spec (ws := w_F_size) B.pre w (List.mem_cons_of_mem _ h)
  have hown : s.vm.findClass "StagedParsers$Frames" = some m.cls := findClass_of_methodNamed B.named
  have hlocks := B.notSynchronized
  have hS : va_S (AX q) s.heap s.heap [] := va_S.rf
  have hl := lv_entry ([.ref (q 25)]) (n := 1) (Nat.le_of_ble_eq_true rfl)
  rw [lg_entry_eq]
  generalize (lg_sl ([.ref (q 25)]) ++ List.replicate (1 - (lg_sl ([.ref (q 25)])).length) Slot.unset).toArray = ls at hl ⊢
  have hl : lv_has ls 1 [(0, .ref (q 25))] := hl
  rw [f_F_size] at h
  refine lv_aload_n hx hb d_F_size_0 rfl (lv_at hl 0 rfl) ?_
  refine gf_F_24 hx hb hts hown hK hP d_F_size_1 ?_
  obtain rfl := Option.some.inj h
  exact W.iret hx hb hr (fun t ht hW => ⟨rfl, ht⟩) (fun _ h9 => nomatch h9) d_F_size_4
def y_F_push : MethodName := ⟨"StagedParsers$Frames", "push", "(IIII)V"⟩
def w_F_push : List Cond := .code y_F_push prog_3_method_5_code 5 none :: AW_
def rm_F_push : Room := { frames := 0, cells := 0, slots := 0, locals := 0 }
theorem d_F_push_0 : decode prog_3_method_5_code 0 = .ok (.aload_n 0, 1) := by decide +kernel
theorem d_F_push_1 : decode prog_3_method_5_code 1 = .ok (.getfield 24, 3) := by decide +kernel
theorem d_F_push_4 : decode prog_3_method_5_code 4 = .ok (.sipush 640, 3) := by decide +kernel
theorem d_F_push_7 : decode prog_3_method_5_code 7 = .ok (.if_icmp .ge 54, 3) := by decide +kernel
theorem d_F_push_10 : decode prog_3_method_5_code 10 = .ok (.aload_n 0, 1) := by decide +kernel
theorem d_F_push_11 : decode prog_3_method_5_code 11 = .ok (.getfield 9, 3) := by decide +kernel
theorem d_F_push_14 : decode prog_3_method_5_code 14 = .ok (.aload_n 0, 1) := by decide +kernel
theorem d_F_push_15 : decode prog_3_method_5_code 15 = .ok (.getfield 24, 3) := by decide +kernel
theorem d_F_push_18 : decode prog_3_method_5_code 18 = .ok (.iload_n 1, 1) := by decide +kernel
theorem d_F_push_19 : decode prog_3_method_5_code 19 = .ok (.iastore, 1) := by decide +kernel
theorem d_F_push_20 : decode prog_3_method_5_code 20 = .ok (.aload_n 0, 1) := by decide +kernel
theorem d_F_push_21 : decode prog_3_method_5_code 21 = .ok (.getfield 15, 3) := by decide +kernel
theorem d_F_push_24 : decode prog_3_method_5_code 24 = .ok (.aload_n 0, 1) := by decide +kernel
theorem d_F_push_25 : decode prog_3_method_5_code 25 = .ok (.getfield 24, 3) := by decide +kernel
theorem d_F_push_28 : decode prog_3_method_5_code 28 = .ok (.iload_n 2, 1) := by decide +kernel
theorem d_F_push_29 : decode prog_3_method_5_code 29 = .ok (.iastore, 1) := by decide +kernel
theorem d_F_push_30 : decode prog_3_method_5_code 30 = .ok (.aload_n 0, 1) := by decide +kernel
theorem d_F_push_31 : decode prog_3_method_5_code 31 = .ok (.getfield 18, 3) := by decide +kernel
theorem d_F_push_34 : decode prog_3_method_5_code 34 = .ok (.aload_n 0, 1) := by decide +kernel
theorem d_F_push_35 : decode prog_3_method_5_code 35 = .ok (.getfield 24, 3) := by decide +kernel
theorem d_F_push_38 : decode prog_3_method_5_code 38 = .ok (.iload_n 3, 1) := by decide +kernel
theorem d_F_push_39 : decode prog_3_method_5_code 39 = .ok (.iastore, 1) := by decide +kernel
theorem d_F_push_40 : decode prog_3_method_5_code 40 = .ok (.aload_n 0, 1) := by decide +kernel
theorem d_F_push_41 : decode prog_3_method_5_code 41 = .ok (.getfield 21, 3) := by decide +kernel
theorem d_F_push_44 : decode prog_3_method_5_code 44 = .ok (.aload_n 0, 1) := by decide +kernel
theorem d_F_push_45 : decode prog_3_method_5_code 45 = .ok (.getfield 24, 3) := by decide +kernel
theorem d_F_push_48 : decode prog_3_method_5_code 48 = .ok (.iload 4, 2) := by decide +kernel
theorem d_F_push_50 : decode prog_3_method_5_code 50 = .ok (.iastore, 1) := by decide +kernel
theorem d_F_push_51 : decode prog_3_method_5_code 51 = .ok (.aload_n 0, 1) := by decide +kernel
theorem d_F_push_52 : decode prog_3_method_5_code 52 = .ok (.dup, 1) := by decide +kernel
theorem d_F_push_53 : decode prog_3_method_5_code 53 = .ok (.getfield 24, 3) := by decide +kernel
theorem d_F_push_56 : decode prog_3_method_5_code 56 = .ok (.iconst 1, 1) := by decide +kernel
theorem d_F_push_57 : decode prog_3_method_5_code 57 = .ok (.iadd, 1) := by decide +kernel
theorem d_F_push_58 : decode prog_3_method_5_code 58 = .ok (.putfield 24, 3) := by decide +kernel
theorem d_F_push_61 : decode prog_3_method_5_code 61 = .ok (.return_, 1) := by decide +kernel
section RW
variable {p : Program} {l : Launch} {e : Env} {R : Room} {s : State} {m : MethodId} {args : Array Value} {below : List Frame} {meth : Method} {c : Code} {H : Heap} {locs : List Loc} {cells slots : Nat} {Q : State → Prop}
variable {cc : ByteArray} {pc : Nat} {ls : Array Slot} {rest : List Value} {dC : Nat → ClassId} {dI : Nat → Nat → Nat} {q : Nat → Nat} {cA : Nat → ClassId} {σ : MZ_} {H0 : Heap} {A : Nat → Prop}

theorem gf_F_9 (hx : p.tables.exec = Jvm.exec) (hb : c.code = cc) (hts : ∀ w ∈ AW_, w.before args s = true) (hown : s.vm.findClass "StagedParsers$Frames" = some m.cls) (hK : va_K (dC, dI) cls_ (tyX cA) s) (hP : va_P (dC, dI) cls_ (wX q cA σ) H) (hdg : decode cc pc = .ok (.getfield 9, 3)) (kk : W p l e R s m args below meth c H locs cells slots Q (F0 m (pc + 3) ls (.ref (q 26) :: rest))) : W p l e R s m args below meth c H locs cells slots Q (F0 m pc ls (.ref (q 25) :: rest)) :=
  va_get (D := (dC, dI)) (cl := cls_) (ci := 6) (v := .ref (q 26)) (ws := wX q cA σ) (tys := tyX cA) (C := Rz_F) (T := Tz_F) (N := 5) hx hb hts uz_F hown hK hP 25 rfl rfl 0 (by decide) (hts _ kw_135) (fun _ h9 => h9) rfl hdg kk
theorem gf_F_15 (hx : p.tables.exec = Jvm.exec) (hb : c.code = cc) (hts : ∀ w ∈ AW_, w.before args s = true) (hown : s.vm.findClass "StagedParsers$Frames" = some m.cls) (hK : va_K (dC, dI) cls_ (tyX cA) s) (hP : va_P (dC, dI) cls_ (wX q cA σ) H) (hdg : decode cc pc = .ok (.getfield 15, 3)) (kk : W p l e R s m args below meth c H locs cells slots Q (F0 m (pc + 3) ls (.ref (q 27) :: rest))) : W p l e R s m args below meth c H locs cells slots Q (F0 m pc ls (.ref (q 25) :: rest)) :=
  va_get (D := (dC, dI)) (cl := cls_) (ci := 6) (v := .ref (q 27)) (ws := wX q cA σ) (tys := tyX cA) (C := Rz_F) (T := Tz_F) (N := 5) hx hb hts uz_F hown hK hP 25 rfl rfl 1 (by decide) (hts _ kw_136) (fun _ h9 => h9) rfl hdg kk
theorem gf_F_18 (hx : p.tables.exec = Jvm.exec) (hb : c.code = cc) (hts : ∀ w ∈ AW_, w.before args s = true) (hown : s.vm.findClass "StagedParsers$Frames" = some m.cls) (hK : va_K (dC, dI) cls_ (tyX cA) s) (hP : va_P (dC, dI) cls_ (wX q cA σ) H) (hdg : decode cc pc = .ok (.getfield 18, 3)) (kk : W p l e R s m args below meth c H locs cells slots Q (F0 m (pc + 3) ls (.ref (q 28) :: rest))) : W p l e R s m args below meth c H locs cells slots Q (F0 m pc ls (.ref (q 25) :: rest)) :=
  va_get (D := (dC, dI)) (cl := cls_) (ci := 6) (v := .ref (q 28)) (ws := wX q cA σ) (tys := tyX cA) (C := Rz_F) (T := Tz_F) (N := 5) hx hb hts uz_F hown hK hP 25 rfl rfl 2 (by decide) (hts _ kw_137) (fun _ h9 => h9) rfl hdg kk
theorem gf_F_21 (hx : p.tables.exec = Jvm.exec) (hb : c.code = cc) (hts : ∀ w ∈ AW_, w.before args s = true) (hown : s.vm.findClass "StagedParsers$Frames" = some m.cls) (hK : va_K (dC, dI) cls_ (tyX cA) s) (hP : va_P (dC, dI) cls_ (wX q cA σ) H) (hdg : decode cc pc = .ok (.getfield 21, 3)) (kk : W p l e R s m args below meth c H locs cells slots Q (F0 m (pc + 3) ls (.ref (q 29) :: rest))) : W p l e R s m args below meth c H locs cells slots Q (F0 m pc ls (.ref (q 25) :: rest)) :=
  va_get (D := (dC, dI)) (cl := cls_) (ci := 6) (v := .ref (q 29)) (ws := wX q cA σ) (tys := tyX cA) (C := Rz_F) (T := Tz_F) (N := 5) hx hb hts uz_F hown hK hP 25 rfl rfl 3 (by decide) (hts _ kw_138) (fun _ h9 => h9) rfl hdg kk
end RW
def f_F_push (σ : MZ_) (x1 : Int32) (x2 : Int32) (x3 : Int32) (x4 : Int32) : Option (MZ_) :=
  if 640 ≤ (σ 43 0) then some σ
  else gd_ (σ 43 0) 640 (st_ (va_up σ 26 (upd (σ 26) (σ 43 0).toNatClampNeg x1)) fun σ1 => gd_ (σ1 43 0) 640 (st_ (va_up σ1 27 (upd (σ1 27) (σ1 43 0).toNatClampNeg x2)) fun σ2 => gd_ (σ2 43 0) 640 (st_ (va_up σ2 28 (upd (σ2 28) (σ2 43 0).toNatClampNeg x3)) fun σ3 => gd_ (σ3 43 0) 640 (st_ (va_up σ3 29 (upd (σ3 29) (σ3 43 0).toNatClampNeg x4)) fun σ4 => st_ (va_up σ4 43 (fun _ => (σ4 43 0) + 1)) fun σ5 => some σ5))))
set_option maxHeartbeats 4000000 in
set_option maxRecDepth 100000 in
theorem c_F_push (l : Launch) (dC : Nat → ClassId) (dI : Nat → Nat → Nat) (q : Nat → Nat) (cA : Nat → ClassId) (pt : Nat) (σ : MZ_) (x1 : Int32) (x2 : Int32) (x3 : Int32) (x4 : Int32) (u : MZ_) (h : f_F_push σ x1 x2 x3 x4 = some u) : Met l y_F_push w_F_push rm_F_push (va_Pc [.ref (q 25), .int x1, .int x2, .int x3, .int x4] (PX_ dC dI q cA pt σ)) (QW_ none (fun H => va_P (dC, dI) cls_ (wX q cA u) H) (AX q)) 0 0 (AX q) := by
  refine Met.ofW (cc := prog_3_method_5_code) (maxL := 5) (ret := none) (by decide) rfl ?_
  intro p e s m args below meth c s₁ B hml hv
  obtain ⟨rfl, hP, hK, hD, hN, hZ⟩ := hv
  have hx := B.exec
  have hb := B.bytes
  have hr := B.returns
  have hts : ∀ w ∈ AW_, w.before _ s = true := fun w h => atoms_spec (ws := w_F_push) B.pre w (List.mem_cons_of_mem _ h)
  have hown : s.vm.findClass "StagedParsers$Frames" = some m.cls := findClass_of_methodNamed B.named
  have hlocks := B.notSynchronized
  have hS : va_S (AX q) s.heap s.heap [] := va_S.rf
  have hl := lv_entry ([.ref (q 25), .int x1, .int x2, .int x3, .int x4]) (n := 5) (Nat.le_of_ble_eq_true rfl)
  rw [lg_entry_eq]
  generalize (lg_sl ([.ref (q 25), .int x1, .int x2, .int x3, .int x4]) ++ List.replicate (5 - (lg_sl ([.ref (q 25), .int x1, .int x2, .int x3, .int x4])).length) Slot.unset).toArray = ls at hl ⊢
  have hl : lv_has ls 5 [(0, .ref (q 25)), (1, .int x1), (2, .int x2), (3, .int x3), (4, .int x4)] := hl
  rw [f_F_push] at h
  refine lv_aload_n hx hb d_F_push_0 rfl (lv_at hl 0 rfl) ?_
  refine gf_F_24 hx hb hts hown hK hP d_F_push_1 ?_
  refine lv_sipush (v := 640) hx hb d_F_push_4 (by decide) ?_
  refine lv_icmp_ge (tgt := 61) hx hb d_F_push_7 rfl (fun hc => ?_) (fun hc => ?_)
  · have h := if_t hc h
    obtain rfl := Option.some.inj h
    exact W.vret hx hb hr (fun t ht hW => ⟨rfl, by rw [ht]; exact hP, hS.F ht⟩) hS.2.2 d_F_push_61
  · have h := if_f hc h
    refine lv_aload_n hx hb d_F_push_10 rfl (lv_at hl 0 rfl) ?_
    refine gf_F_9 hx hb hts hown hK hP d_F_push_11 ?_
    refine lv_aload_n hx hb d_F_push_14 rfl (lv_at hl 0 rfl) ?_
    refine gf_F_24 hx hb hts hown hK hP d_F_push_15 ?_
    refine lv_iload_n hx hb d_F_push_18 rfl (lv_at hl 1 rfl) ?_
    obtain ⟨hgd, h⟩ := gd_some h
    refine as_X_26 hx hb hK hP hD hS hgd d_F_push_19 (fun H locs hP hS => ?_)
    obtain ⟨σ1, eσ1, h⟩ := st_some h
    rw [← eσ1] at hP
    have hD : va_D (AX q) (wX q cA σ1) := dd_re (wX_f _ _ _ _) hD
    refine lv_aload_n hx hb d_F_push_20 rfl (lv_at hl 0 rfl) ?_
    refine gf_F_15 hx hb hts hown hK hP d_F_push_21 ?_
    refine lv_aload_n hx hb d_F_push_24 rfl (lv_at hl 0 rfl) ?_
    refine gf_F_24 hx hb hts hown hK hP d_F_push_25 ?_
    refine lv_iload_n hx hb d_F_push_28 rfl (lv_at hl 2 rfl) ?_
    obtain ⟨hgd, h⟩ := gd_some h
    refine as_X_27 hx hb hK hP hD hS hgd d_F_push_29 (fun H locs hP hS => ?_)
    obtain ⟨σ2, eσ2, h⟩ := st_some h
    rw [← eσ2] at hP
    have hD : va_D (AX q) (wX q cA σ2) := dd_re (wX_f _ _ _ _) hD
    refine lv_aload_n hx hb d_F_push_30 rfl (lv_at hl 0 rfl) ?_
    refine gf_F_18 hx hb hts hown hK hP d_F_push_31 ?_
    refine lv_aload_n hx hb d_F_push_34 rfl (lv_at hl 0 rfl) ?_
    refine gf_F_24 hx hb hts hown hK hP d_F_push_35 ?_
    refine lv_iload_n hx hb d_F_push_38 rfl (lv_at hl 3 rfl) ?_
    obtain ⟨hgd, h⟩ := gd_some h
    refine as_X_28 hx hb hK hP hD hS hgd d_F_push_39 (fun H locs hP hS => ?_)
    obtain ⟨σ3, eσ3, h⟩ := st_some h
    rw [← eσ3] at hP
    have hD : va_D (AX q) (wX q cA σ3) := dd_re (wX_f _ _ _ _) hD
    refine lv_aload_n hx hb d_F_push_40 rfl (lv_at hl 0 rfl) ?_
    refine gf_F_21 hx hb hts hown hK hP d_F_push_41 ?_
    refine lv_aload_n hx hb d_F_push_44 rfl (lv_at hl 0 rfl) ?_
    refine gf_F_24 hx hb hts hown hK hP d_F_push_45 ?_
    refine lv_iload hx hb d_F_push_48 (lv_at hl 4 rfl) ?_
    obtain ⟨hgd, h⟩ := gd_some h
    refine as_X_29 hx hb hK hP hD hS hgd d_F_push_50 (fun H locs hP hS => ?_)
    obtain ⟨σ4, eσ4, h⟩ := st_some h
    rw [← eσ4] at hP
    have hD : va_D (AX q) (wX q cA σ4) := dd_re (wX_f _ _ _ _) hD
    refine lv_aload_n hx hb d_F_push_51 rfl (lv_at hl 0 rfl) ?_
    refine lv_dup hx hb d_F_push_52 rfl ?_
    refine gf_F_24 hx hb hts hown hK hP d_F_push_53 ?_
    refine lv_iconst (v := 1) hx hb d_F_push_56 (by decide) ?_
    refine lv_iadd hx hb d_F_push_57 ?_
    refine pf_F_24 hx hb hts hown hK hP hD hS d_F_push_58 (fun H locs hP hS => ?_)
    obtain ⟨σ5, eσ5, h⟩ := st_some h
    rw [← eσ5] at hP
    have hD : va_D (AX q) (wX q cA σ5) := dd_re (wX_f _ _ _ _) hD
    obtain rfl := Option.some.inj h
    exact W.vret hx hb hr (fun t ht hW => ⟨rfl, by rw [ht]; exact hP, hS.F ht⟩) hS.2.2 d_F_push_61
def y_F_pop : MethodName := ⟨"StagedParsers$Frames", "pop", "()V"⟩
def w_F_pop : List Cond := .code y_F_pop prog_3_method_6_code 1 none :: AW_
def rm_F_pop : Room := { frames := 0, cells := 0, slots := 0, locals := 0 }
theorem d_F_pop_0 : decode prog_3_method_6_code 0 = .ok (.aload_n 0, 1) := by decide +kernel
theorem d_F_pop_1 : decode prog_3_method_6_code 1 = .ok (.getfield 24, 3) := by decide +kernel
theorem d_F_pop_4 : decode prog_3_method_6_code 4 = .ok (.ifCond .le 13, 3) := by decide +kernel
theorem d_F_pop_7 : decode prog_3_method_6_code 7 = .ok (.aload_n 0, 1) := by decide +kernel
theorem d_F_pop_8 : decode prog_3_method_6_code 8 = .ok (.dup, 1) := by decide +kernel
theorem d_F_pop_9 : decode prog_3_method_6_code 9 = .ok (.getfield 24, 3) := by decide +kernel
theorem d_F_pop_12 : decode prog_3_method_6_code 12 = .ok (.iconst 1, 1) := by decide +kernel
theorem d_F_pop_13 : decode prog_3_method_6_code 13 = .ok (.isub, 1) := by decide +kernel
theorem d_F_pop_14 : decode prog_3_method_6_code 14 = .ok (.putfield 24, 3) := by decide +kernel
theorem d_F_pop_17 : decode prog_3_method_6_code 17 = .ok (.return_, 1) := by decide +kernel
def f_F_pop (σ : MZ_) : Option (MZ_) :=
  if (σ 43 0) ≤ 0 then some σ
  else st_ (va_up σ 43 (fun _ => (σ 43 0) - 1)) fun σ1 => some σ1
set_option maxHeartbeats 4000000 in
set_option maxRecDepth 100000 in
theorem c_F_pop (l : Launch) (dC : Nat → ClassId) (dI : Nat → Nat → Nat) (q : Nat → Nat) (cA : Nat → ClassId) (pt : Nat) (σ : MZ_) (u : MZ_) (h : f_F_pop σ = some u) : Met l y_F_pop w_F_pop rm_F_pop (va_Pc [.ref (q 25)] (PX_ dC dI q cA pt σ)) (QW_ none (fun H => va_P (dC, dI) cls_ (wX q cA u) H) (AX q)) 0 0 (AX q) := by
  refine Met.ofW (cc := prog_3_method_6_code) (maxL := 1) (ret := none) (by decide) rfl ?_
  intro p e s m args below meth c s₁ B hml hv
  obtain ⟨rfl, hP, hK, hD, hN, hZ⟩ := hv
  have hx := B.exec
  have hb := B.bytes
  have hr := B.returns
  have hts : ∀ w ∈ AW_, w.before _ s = true := fun w h => atoms_spec (ws := w_F_pop) B.pre w (List.mem_cons_of_mem _ h)
  have hown : s.vm.findClass "StagedParsers$Frames" = some m.cls := findClass_of_methodNamed B.named
  have hlocks := B.notSynchronized
  have hS : va_S (AX q) s.heap s.heap [] := va_S.rf
  have hl := lv_entry ([.ref (q 25)]) (n := 1) (Nat.le_of_ble_eq_true rfl)
  rw [lg_entry_eq]
  generalize (lg_sl ([.ref (q 25)]) ++ List.replicate (1 - (lg_sl ([.ref (q 25)])).length) Slot.unset).toArray = ls at hl ⊢
  have hl : lv_has ls 1 [(0, .ref (q 25))] := hl
  rw [f_F_pop] at h
  refine lv_aload_n hx hb d_F_pop_0 rfl (lv_at hl 0 rfl) ?_
  refine gf_F_24 hx hb hts hown hK hP d_F_pop_1 ?_
  refine lv_if_le (tgt := 17) hx hb d_F_pop_4 rfl (fun hc => ?_) (fun hc => ?_)
  · have h := if_t hc h
    obtain rfl := Option.some.inj h
    exact W.vret hx hb hr (fun t ht hW => ⟨rfl, by rw [ht]; exact hP, hS.F ht⟩) hS.2.2 d_F_pop_17
  · have h := if_f hc h
    refine lv_aload_n hx hb d_F_pop_7 rfl (lv_at hl 0 rfl) ?_
    refine lv_dup hx hb d_F_pop_8 rfl ?_
    refine gf_F_24 hx hb hts hown hK hP d_F_pop_9 ?_
    refine lv_iconst (v := 1) hx hb d_F_pop_12 (by decide) ?_
    refine lv_isub hx hb d_F_pop_13 ?_
    refine pf_F_24 hx hb hts hown hK hP hD hS d_F_pop_14 (fun H locs hP hS => ?_)
    obtain ⟨σ1, eσ1, h⟩ := st_some h
    rw [← eσ1] at hP
    have hD : va_D (AX q) (wX q cA σ1) := dd_re (wX_f _ _ _ _) hD
    obtain rfl := Option.some.inj h
    exact W.vret hx hb hr (fun t ht hW => ⟨rfl, by rw [ht]; exact hP, hS.F ht⟩) hS.2.2 d_F_pop_17
def y_F_movePlace : MethodName := ⟨"StagedParsers$Frames", "movePlace", "(I)V"⟩
def w_F_movePlace : List Cond := .code y_F_movePlace prog_3_method_7_code 2 none :: AW_
def rm_F_movePlace : Room := { frames := 0, cells := 0, slots := 0, locals := 0 }
theorem d_F_movePlace_0 : decode prog_3_method_7_code 0 = .ok (.aload_n 0, 1) := by decide +kernel
theorem d_F_movePlace_1 : decode prog_3_method_7_code 1 = .ok (.getfield 24, 3) := by decide +kernel
theorem d_F_movePlace_4 : decode prog_3_method_7_code 4 = .ok (.ifCond .le 15, 3) := by decide +kernel
theorem d_F_movePlace_7 : decode prog_3_method_7_code 7 = .ok (.aload_n 0, 1) := by decide +kernel
theorem d_F_movePlace_8 : decode prog_3_method_7_code 8 = .ok (.getfield 18, 3) := by decide +kernel
theorem d_F_movePlace_11 : decode prog_3_method_7_code 11 = .ok (.aload_n 0, 1) := by decide +kernel
theorem d_F_movePlace_12 : decode prog_3_method_7_code 12 = .ok (.getfield 24, 3) := by decide +kernel
theorem d_F_movePlace_15 : decode prog_3_method_7_code 15 = .ok (.iconst 1, 1) := by decide +kernel
theorem d_F_movePlace_16 : decode prog_3_method_7_code 16 = .ok (.isub, 1) := by decide +kernel
theorem d_F_movePlace_17 : decode prog_3_method_7_code 17 = .ok (.iload_n 1, 1) := by decide +kernel
theorem d_F_movePlace_18 : decode prog_3_method_7_code 18 = .ok (.iastore, 1) := by decide +kernel
theorem d_F_movePlace_19 : decode prog_3_method_7_code 19 = .ok (.return_, 1) := by decide +kernel
def f_F_movePlace (σ : MZ_) (x1 : Int32) : Option (MZ_) :=
  if (σ 43 0) ≤ 0 then some σ
  else gd_ ((σ 43 0) - 1) 640 (st_ (va_up σ 28 (upd (σ 28) ((σ 43 0) - 1).toNatClampNeg x1)) fun σ1 => some σ1)
set_option maxHeartbeats 4000000 in
set_option maxRecDepth 100000 in
theorem c_F_movePlace (l : Launch) (dC : Nat → ClassId) (dI : Nat → Nat → Nat) (q : Nat → Nat) (cA : Nat → ClassId) (pt : Nat) (σ : MZ_) (x1 : Int32) (u : MZ_) (h : f_F_movePlace σ x1 = some u) : Met l y_F_movePlace w_F_movePlace rm_F_movePlace (va_Pc [.ref (q 25), .int x1] (PX_ dC dI q cA pt σ)) (QW_ none (fun H => va_P (dC, dI) cls_ (wX q cA u) H) (AX q)) 0 0 (AX q) := by
  refine Met.ofW (cc := prog_3_method_7_code) (maxL := 2) (ret := none) (by decide) rfl ?_
  intro p e s m args below meth c s₁ B hml hv
  obtain ⟨rfl, hP, hK, hD, hN, hZ⟩ := hv
  have hx := B.exec
  have hb := B.bytes
  have hr := B.returns
  have hts : ∀ w ∈ AW_, w.before _ s = true := fun w h => atoms_spec (ws := w_F_movePlace) B.pre w (List.mem_cons_of_mem _ h)
  have hown : s.vm.findClass "StagedParsers$Frames" = some m.cls := findClass_of_methodNamed B.named
  have hlocks := B.notSynchronized
  have hS : va_S (AX q) s.heap s.heap [] := va_S.rf
  have hl := lv_entry ([.ref (q 25), .int x1]) (n := 2) (Nat.le_of_ble_eq_true rfl)
  rw [lg_entry_eq]
  generalize (lg_sl ([.ref (q 25), .int x1]) ++ List.replicate (2 - (lg_sl ([.ref (q 25), .int x1])).length) Slot.unset).toArray = ls at hl ⊢
  have hl : lv_has ls 2 [(0, .ref (q 25)), (1, .int x1)] := hl
  rw [f_F_movePlace] at h
  refine lv_aload_n hx hb d_F_movePlace_0 rfl (lv_at hl 0 rfl) ?_
  refine gf_F_24 hx hb hts hown hK hP d_F_movePlace_1 ?_
  refine lv_if_le (tgt := 19) hx hb d_F_movePlace_4 rfl (fun hc => ?_) (fun hc => ?_)
  · have h := if_t hc h
    obtain rfl := Option.some.inj h
    exact W.vret hx hb hr (fun t ht hW => ⟨rfl, by rw [ht]; exact hP, hS.F ht⟩) hS.2.2 d_F_movePlace_19
  · have h := if_f hc h
    refine lv_aload_n hx hb d_F_movePlace_7 rfl (lv_at hl 0 rfl) ?_
    refine gf_F_18 hx hb hts hown hK hP d_F_movePlace_8 ?_
    refine lv_aload_n hx hb d_F_movePlace_11 rfl (lv_at hl 0 rfl) ?_
    refine gf_F_24 hx hb hts hown hK hP d_F_movePlace_12 ?_
    refine lv_iconst (v := 1) hx hb d_F_movePlace_15 (by decide) ?_
    refine lv_isub hx hb d_F_movePlace_16 ?_
    refine lv_iload_n hx hb d_F_movePlace_17 rfl (lv_at hl 1 rfl) ?_
    obtain ⟨hgd, h⟩ := gd_some h
    refine as_X_28 hx hb hK hP hD hS hgd d_F_movePlace_18 (fun H locs hP hS => ?_)
    obtain ⟨σ1, eσ1, h⟩ := st_some h
    rw [← eσ1] at hP
    have hD : va_D (AX q) (wX q cA σ1) := dd_re (wX_f _ _ _ _) hD
    obtain rfl := Option.some.inj h
    exact W.vret hx hb hr (fun t ht hW => ⟨rfl, by rw [ht]; exact hP, hS.F ht⟩) hS.2.2 d_F_movePlace_19
def y_F_manner : MethodName := ⟨"StagedParsers$Frames", "manner", "()I"⟩
def w_F_manner : List Cond := .code y_F_manner prog_3_method_8_code 1 (some .int) :: AW_
def rm_F_manner : Room := { frames := 0, cells := 0, slots := 0, locals := 0 }
theorem d_F_manner_0 : decode prog_3_method_8_code 0 = .ok (.aload_n 0, 1) := by decide +kernel
theorem d_F_manner_1 : decode prog_3_method_8_code 1 = .ok (.getfield 24, 3) := by decide +kernel
theorem d_F_manner_4 : decode prog_3_method_8_code 4 = .ok (.ifCond .le 17, 3) := by decide +kernel
theorem d_F_manner_7 : decode prog_3_method_8_code 7 = .ok (.aload_n 0, 1) := by decide +kernel
theorem d_F_manner_8 : decode prog_3_method_8_code 8 = .ok (.getfield 9, 3) := by decide +kernel
theorem d_F_manner_11 : decode prog_3_method_8_code 11 = .ok (.aload_n 0, 1) := by decide +kernel
theorem d_F_manner_12 : decode prog_3_method_8_code 12 = .ok (.getfield 24, 3) := by decide +kernel
theorem d_F_manner_15 : decode prog_3_method_8_code 15 = .ok (.iconst 1, 1) := by decide +kernel
theorem d_F_manner_16 : decode prog_3_method_8_code 16 = .ok (.isub, 1) := by decide +kernel
theorem d_F_manner_17 : decode prog_3_method_8_code 17 = .ok (.iaload, 1) := by decide +kernel
theorem d_F_manner_18 : decode prog_3_method_8_code 18 = .ok (.goto 4, 3) := by decide +kernel
theorem d_F_manner_21 : decode prog_3_method_8_code 21 = .ok (.iconst 0, 1) := by decide +kernel
theorem d_F_manner_22 : decode prog_3_method_8_code 22 = .ok (.ireturn, 1) := by decide +kernel
def f_F_manner (σ : MZ_) : Option (Int32) :=
  if (σ 43 0) ≤ 0 then some 0
  else gd_ ((σ 43 0) - 1) 640 (some (σ 26 ((σ 43 0) - 1).toNatClampNeg))
set_option maxHeartbeats 4000000 in
set_option maxRecDepth 100000 in
theorem c_F_manner (l : Launch) (dC : Nat → ClassId) (dI : Nat → Nat → Nat) (q : Nat → Nat) (cA : Nat → ClassId) (pt : Nat) (σ : MZ_) (u : Int32) (h : f_F_manner σ = some u) : Met l y_F_manner w_F_manner rm_F_manner (va_Pc [.ref (q 25)] (PX_ dC dI q cA pt σ)) (QcRead u) 0 0 (fun _ => False) := by
  refine Met.ofW (cc := prog_3_method_8_code) (maxL := 1) (ret := (some .int)) (by decide) rfl ?_
  intro p e s m args below meth c s₁ B hml hv
  obtain ⟨rfl, hP, hK, hD, hN, hZ⟩ := hv
  have hx := B.exec
  have hb := B.bytes
  have hr := B.returns
  have hts : ∀ w ∈ AW_, w.before _ s = true := fun w h => atoms_spec (ws := w_F_manner) B.pre w (List.mem_cons_of_mem _ h)
  have hown : s.vm.findClass "StagedParsers$Frames" = some m.cls := findClass_of_methodNamed B.named
  have hlocks := B.notSynchronized
  have hS : va_S (AX q) s.heap s.heap [] := va_S.rf
  have hl := lv_entry ([.ref (q 25)]) (n := 1) (Nat.le_of_ble_eq_true rfl)
  rw [lg_entry_eq]
  generalize (lg_sl ([.ref (q 25)]) ++ List.replicate (1 - (lg_sl ([.ref (q 25)])).length) Slot.unset).toArray = ls at hl ⊢
  have hl : lv_has ls 1 [(0, .ref (q 25))] := hl
  rw [f_F_manner] at h
  refine lv_aload_n hx hb d_F_manner_0 rfl (lv_at hl 0 rfl) ?_
  refine gf_F_24 hx hb hts hown hK hP d_F_manner_1 ?_
  refine lv_if_le (tgt := 21) hx hb d_F_manner_4 rfl (fun hc => ?_) (fun hc => ?_)
  · have h := if_t hc h
    refine lv_iconst (v := 0) hx hb d_F_manner_21 (by decide) ?_
    obtain rfl := Option.some.inj h
    exact W.iret hx hb hr (fun t ht hW => ⟨rfl, ht⟩) (fun _ h9 => nomatch h9) d_F_manner_22
  · have h := if_f hc h
    refine lv_aload_n hx hb d_F_manner_7 rfl (lv_at hl 0 rfl) ?_
    refine gf_F_9 hx hb hts hown hK hP d_F_manner_8 ?_
    refine lv_aload_n hx hb d_F_manner_11 rfl (lv_at hl 0 rfl) ?_
    refine gf_F_24 hx hb hts hown hK hP d_F_manner_12 ?_
    refine lv_iconst (v := 1) hx hb d_F_manner_15 (by decide) ?_
    refine lv_isub hx hb d_F_manner_16 ?_
    obtain ⟨hgd, h⟩ := gd_some h
    refine al_X_26 hx hb hK hP hgd d_F_manner_17 ?_
    refine lv_goto (tgt := 22) hx hb d_F_manner_18 rfl ?_
    obtain rfl := Option.some.inj h
    exact W.iret hx hb hr (fun t ht hW => ⟨rfl, ht⟩) (fun _ h9 => nomatch h9) d_F_manner_22
def y_F_target : MethodName := ⟨"StagedParsers$Frames", "target", "()I"⟩
def w_F_target : List Cond := .code y_F_target prog_3_method_9_code 1 (some .int) :: AW_
def rm_F_target : Room := { frames := 0, cells := 0, slots := 0, locals := 0 }
theorem d_F_target_0 : decode prog_3_method_9_code 0 = .ok (.aload_n 0, 1) := by decide +kernel
theorem d_F_target_1 : decode prog_3_method_9_code 1 = .ok (.getfield 24, 3) := by decide +kernel
theorem d_F_target_4 : decode prog_3_method_9_code 4 = .ok (.ifCond .le 17, 3) := by decide +kernel
theorem d_F_target_7 : decode prog_3_method_9_code 7 = .ok (.aload_n 0, 1) := by decide +kernel
theorem d_F_target_8 : decode prog_3_method_9_code 8 = .ok (.getfield 15, 3) := by decide +kernel
theorem d_F_target_11 : decode prog_3_method_9_code 11 = .ok (.aload_n 0, 1) := by decide +kernel
theorem d_F_target_12 : decode prog_3_method_9_code 12 = .ok (.getfield 24, 3) := by decide +kernel
theorem d_F_target_15 : decode prog_3_method_9_code 15 = .ok (.iconst 1, 1) := by decide +kernel
theorem d_F_target_16 : decode prog_3_method_9_code 16 = .ok (.isub, 1) := by decide +kernel
theorem d_F_target_17 : decode prog_3_method_9_code 17 = .ok (.iaload, 1) := by decide +kernel
theorem d_F_target_18 : decode prog_3_method_9_code 18 = .ok (.goto 4, 3) := by decide +kernel
theorem d_F_target_21 : decode prog_3_method_9_code 21 = .ok (.iconst 0, 1) := by decide +kernel
theorem d_F_target_22 : decode prog_3_method_9_code 22 = .ok (.ireturn, 1) := by decide +kernel
def f_F_target (σ : MZ_) : Option (Int32) :=
  if (σ 43 0) ≤ 0 then some 0
  else gd_ ((σ 43 0) - 1) 640 (some (σ 27 ((σ 43 0) - 1).toNatClampNeg))
set_option maxHeartbeats 4000000 in
set_option maxRecDepth 100000 in
theorem c_F_target (l : Launch) (dC : Nat → ClassId) (dI : Nat → Nat → Nat) (q : Nat → Nat) (cA : Nat → ClassId) (pt : Nat) (σ : MZ_) (u : Int32) (h : f_F_target σ = some u) : Met l y_F_target w_F_target rm_F_target (va_Pc [.ref (q 25)] (PX_ dC dI q cA pt σ)) (QcRead u) 0 0 (fun _ => False) := by
  refine Met.ofW (cc := prog_3_method_9_code) (maxL := 1) (ret := (some .int)) (by decide) rfl ?_
  intro p e s m args below meth c s₁ B hml hv
  obtain ⟨rfl, hP, hK, hD, hN, hZ⟩ := hv
  have hx := B.exec
  have hb := B.bytes
  have hr := B.returns
  have hts : ∀ w ∈ AW_, w.before _ s = true := fun w h => atoms_spec (ws := w_F_target) B.pre w (List.mem_cons_of_mem _ h)
  have hown : s.vm.findClass "StagedParsers$Frames" = some m.cls := findClass_of_methodNamed B.named
  have hlocks := B.notSynchronized
  have hS : va_S (AX q) s.heap s.heap [] := va_S.rf
  have hl := lv_entry ([.ref (q 25)]) (n := 1) (Nat.le_of_ble_eq_true rfl)
  rw [lg_entry_eq]
  generalize (lg_sl ([.ref (q 25)]) ++ List.replicate (1 - (lg_sl ([.ref (q 25)])).length) Slot.unset).toArray = ls at hl ⊢
  have hl : lv_has ls 1 [(0, .ref (q 25))] := hl
  rw [f_F_target] at h
  refine lv_aload_n hx hb d_F_target_0 rfl (lv_at hl 0 rfl) ?_
  refine gf_F_24 hx hb hts hown hK hP d_F_target_1 ?_
  refine lv_if_le (tgt := 21) hx hb d_F_target_4 rfl (fun hc => ?_) (fun hc => ?_)
  · have h := if_t hc h
    refine lv_iconst (v := 0) hx hb d_F_target_21 (by decide) ?_
    obtain rfl := Option.some.inj h
    exact W.iret hx hb hr (fun t ht hW => ⟨rfl, ht⟩) (fun _ h9 => nomatch h9) d_F_target_22
  · have h := if_f hc h
    refine lv_aload_n hx hb d_F_target_7 rfl (lv_at hl 0 rfl) ?_
    refine gf_F_15 hx hb hts hown hK hP d_F_target_8 ?_
    refine lv_aload_n hx hb d_F_target_11 rfl (lv_at hl 0 rfl) ?_
    refine gf_F_24 hx hb hts hown hK hP d_F_target_12 ?_
    refine lv_iconst (v := 1) hx hb d_F_target_15 (by decide) ?_
    refine lv_isub hx hb d_F_target_16 ?_
    obtain ⟨hgd, h⟩ := gd_some h
    refine al_X_27 hx hb hK hP hgd d_F_target_17 ?_
    refine lv_goto (tgt := 22) hx hb d_F_target_18 rfl ?_
    obtain rfl := Option.some.inj h
    exact W.iret hx hb hr (fun t ht hW => ⟨rfl, ht⟩) (fun _ h9 => nomatch h9) d_F_target_22
def y_F_place : MethodName := ⟨"StagedParsers$Frames", "place", "()I"⟩
def w_F_place : List Cond := .code y_F_place prog_3_method_10_code 1 (some .int) :: AW_
def rm_F_place : Room := { frames := 0, cells := 0, slots := 0, locals := 0 }
theorem d_F_place_0 : decode prog_3_method_10_code 0 = .ok (.aload_n 0, 1) := by decide +kernel
theorem d_F_place_1 : decode prog_3_method_10_code 1 = .ok (.getfield 24, 3) := by decide +kernel
theorem d_F_place_4 : decode prog_3_method_10_code 4 = .ok (.ifCond .le 17, 3) := by decide +kernel
theorem d_F_place_7 : decode prog_3_method_10_code 7 = .ok (.aload_n 0, 1) := by decide +kernel
theorem d_F_place_8 : decode prog_3_method_10_code 8 = .ok (.getfield 18, 3) := by decide +kernel
theorem d_F_place_11 : decode prog_3_method_10_code 11 = .ok (.aload_n 0, 1) := by decide +kernel
theorem d_F_place_12 : decode prog_3_method_10_code 12 = .ok (.getfield 24, 3) := by decide +kernel
theorem d_F_place_15 : decode prog_3_method_10_code 15 = .ok (.iconst 1, 1) := by decide +kernel
theorem d_F_place_16 : decode prog_3_method_10_code 16 = .ok (.isub, 1) := by decide +kernel
theorem d_F_place_17 : decode prog_3_method_10_code 17 = .ok (.iaload, 1) := by decide +kernel
theorem d_F_place_18 : decode prog_3_method_10_code 18 = .ok (.goto 4, 3) := by decide +kernel
theorem d_F_place_21 : decode prog_3_method_10_code 21 = .ok (.iconst 0, 1) := by decide +kernel
theorem d_F_place_22 : decode prog_3_method_10_code 22 = .ok (.ireturn, 1) := by decide +kernel
def f_F_place (σ : MZ_) : Option (Int32) :=
  if (σ 43 0) ≤ 0 then some 0
  else gd_ ((σ 43 0) - 1) 640 (some (σ 28 ((σ 43 0) - 1).toNatClampNeg))
set_option maxHeartbeats 4000000 in
set_option maxRecDepth 100000 in
theorem c_F_place (l : Launch) (dC : Nat → ClassId) (dI : Nat → Nat → Nat) (q : Nat → Nat) (cA : Nat → ClassId) (pt : Nat) (σ : MZ_) (u : Int32) (h : f_F_place σ = some u) : Met l y_F_place w_F_place rm_F_place (va_Pc [.ref (q 25)] (PX_ dC dI q cA pt σ)) (QcRead u) 0 0 (fun _ => False) := by
  refine Met.ofW (cc := prog_3_method_10_code) (maxL := 1) (ret := (some .int)) (by decide) rfl ?_
  intro p e s m args below meth c s₁ B hml hv
  obtain ⟨rfl, hP, hK, hD, hN, hZ⟩ := hv
  have hx := B.exec
  have hb := B.bytes
  have hr := B.returns
  have hts : ∀ w ∈ AW_, w.before _ s = true := fun w h => atoms_spec (ws := w_F_place) B.pre w (List.mem_cons_of_mem _ h)
  have hown : s.vm.findClass "StagedParsers$Frames" = some m.cls := findClass_of_methodNamed B.named
  have hlocks := B.notSynchronized
  have hS : va_S (AX q) s.heap s.heap [] := va_S.rf
  have hl := lv_entry ([.ref (q 25)]) (n := 1) (Nat.le_of_ble_eq_true rfl)
  rw [lg_entry_eq]
  generalize (lg_sl ([.ref (q 25)]) ++ List.replicate (1 - (lg_sl ([.ref (q 25)])).length) Slot.unset).toArray = ls at hl ⊢
  have hl : lv_has ls 1 [(0, .ref (q 25))] := hl
  rw [f_F_place] at h
  refine lv_aload_n hx hb d_F_place_0 rfl (lv_at hl 0 rfl) ?_
  refine gf_F_24 hx hb hts hown hK hP d_F_place_1 ?_
  refine lv_if_le (tgt := 21) hx hb d_F_place_4 rfl (fun hc => ?_) (fun hc => ?_)
  · have h := if_t hc h
    refine lv_iconst (v := 0) hx hb d_F_place_21 (by decide) ?_
    obtain rfl := Option.some.inj h
    exact W.iret hx hb hr (fun t ht hW => ⟨rfl, ht⟩) (fun _ h9 => nomatch h9) d_F_place_22
  · have h := if_f hc h
    refine lv_aload_n hx hb d_F_place_7 rfl (lv_at hl 0 rfl) ?_
    refine gf_F_18 hx hb hts hown hK hP d_F_place_8 ?_
    refine lv_aload_n hx hb d_F_place_11 rfl (lv_at hl 0 rfl) ?_
    refine gf_F_24 hx hb hts hown hK hP d_F_place_12 ?_
    refine lv_iconst (v := 1) hx hb d_F_place_15 (by decide) ?_
    refine lv_isub hx hb d_F_place_16 ?_
    obtain ⟨hgd, h⟩ := gd_some h
    refine al_X_28 hx hb hK hP hgd d_F_place_17 ?_
    refine lv_goto (tgt := 22) hx hb d_F_place_18 rfl ?_
    obtain rfl := Option.some.inj h
    exact W.iret hx hb hr (fun t ht hW => ⟨rfl, ht⟩) (fun _ h9 => nomatch h9) d_F_place_22
def y_F_height : MethodName := ⟨"StagedParsers$Frames", "height", "()I"⟩
def w_F_height : List Cond := .code y_F_height prog_3_method_11_code 1 (some .int) :: AW_
def rm_F_height : Room := { frames := 0, cells := 0, slots := 0, locals := 0 }
theorem d_F_height_0 : decode prog_3_method_11_code 0 = .ok (.aload_n 0, 1) := by decide +kernel
theorem d_F_height_1 : decode prog_3_method_11_code 1 = .ok (.getfield 24, 3) := by decide +kernel
theorem d_F_height_4 : decode prog_3_method_11_code 4 = .ok (.ifCond .le 17, 3) := by decide +kernel
theorem d_F_height_7 : decode prog_3_method_11_code 7 = .ok (.aload_n 0, 1) := by decide +kernel
theorem d_F_height_8 : decode prog_3_method_11_code 8 = .ok (.getfield 21, 3) := by decide +kernel
theorem d_F_height_11 : decode prog_3_method_11_code 11 = .ok (.aload_n 0, 1) := by decide +kernel
theorem d_F_height_12 : decode prog_3_method_11_code 12 = .ok (.getfield 24, 3) := by decide +kernel
theorem d_F_height_15 : decode prog_3_method_11_code 15 = .ok (.iconst 1, 1) := by decide +kernel
theorem d_F_height_16 : decode prog_3_method_11_code 16 = .ok (.isub, 1) := by decide +kernel
theorem d_F_height_17 : decode prog_3_method_11_code 17 = .ok (.iaload, 1) := by decide +kernel
theorem d_F_height_18 : decode prog_3_method_11_code 18 = .ok (.goto 4, 3) := by decide +kernel
theorem d_F_height_21 : decode prog_3_method_11_code 21 = .ok (.iconst 0, 1) := by decide +kernel
theorem d_F_height_22 : decode prog_3_method_11_code 22 = .ok (.ireturn, 1) := by decide +kernel
def f_F_height (σ : MZ_) : Option (Int32) :=
  if (σ 43 0) ≤ 0 then some 0
  else gd_ ((σ 43 0) - 1) 640 (some (σ 29 ((σ 43 0) - 1).toNatClampNeg))
set_option maxHeartbeats 4000000 in
set_option maxRecDepth 100000 in
theorem c_F_height (l : Launch) (dC : Nat → ClassId) (dI : Nat → Nat → Nat) (q : Nat → Nat) (cA : Nat → ClassId) (pt : Nat) (σ : MZ_) (u : Int32) (h : f_F_height σ = some u) : Met l y_F_height w_F_height rm_F_height (va_Pc [.ref (q 25)] (PX_ dC dI q cA pt σ)) (QcRead u) 0 0 (fun _ => False) := by
  refine Met.ofW (cc := prog_3_method_11_code) (maxL := 1) (ret := (some .int)) (by decide) rfl ?_
  intro p e s m args below meth c s₁ B hml hv
  obtain ⟨rfl, hP, hK, hD, hN, hZ⟩ := hv
  have hx := B.exec
  have hb := B.bytes
  have hr := B.returns
  have hts : ∀ w ∈ AW_, w.before _ s = true := fun w h => atoms_spec (ws := w_F_height) B.pre w (List.mem_cons_of_mem _ h)
  have hown : s.vm.findClass "StagedParsers$Frames" = some m.cls := findClass_of_methodNamed B.named
  have hlocks := B.notSynchronized
  have hS : va_S (AX q) s.heap s.heap [] := va_S.rf
  have hl := lv_entry ([.ref (q 25)]) (n := 1) (Nat.le_of_ble_eq_true rfl)
  rw [lg_entry_eq]
  generalize (lg_sl ([.ref (q 25)]) ++ List.replicate (1 - (lg_sl ([.ref (q 25)])).length) Slot.unset).toArray = ls at hl ⊢
  have hl : lv_has ls 1 [(0, .ref (q 25))] := hl
  rw [f_F_height] at h
  refine lv_aload_n hx hb d_F_height_0 rfl (lv_at hl 0 rfl) ?_
  refine gf_F_24 hx hb hts hown hK hP d_F_height_1 ?_
  refine lv_if_le (tgt := 21) hx hb d_F_height_4 rfl (fun hc => ?_) (fun hc => ?_)
  · have h := if_t hc h
    refine lv_iconst (v := 0) hx hb d_F_height_21 (by decide) ?_
    obtain rfl := Option.some.inj h
    exact W.iret hx hb hr (fun t ht hW => ⟨rfl, ht⟩) (fun _ h9 => nomatch h9) d_F_height_22
  · have h := if_f hc h
    refine lv_aload_n hx hb d_F_height_7 rfl (lv_at hl 0 rfl) ?_
    refine gf_F_21 hx hb hts hown hK hP d_F_height_8 ?_
    refine lv_aload_n hx hb d_F_height_11 rfl (lv_at hl 0 rfl) ?_
    refine gf_F_24 hx hb hts hown hK hP d_F_height_12 ?_
    refine lv_iconst (v := 1) hx hb d_F_height_15 (by decide) ?_
    refine lv_isub hx hb d_F_height_16 ?_
    obtain ⟨hgd, h⟩ := gd_some h
    refine al_X_29 hx hb hK hP hgd d_F_height_17 ?_
    refine lv_goto (tgt := 22) hx hb d_F_height_18 rfl ?_
    obtain rfl := Option.some.inj h
    exact W.iret hx hb hr (fun t ht hW => ⟨rfl, ht⟩) (fun _ h9 => nomatch h9) d_F_height_22
end
section
/-! Grammar -/
def y_S_isSign : MethodName := ⟨"StagedParsers", "isSign", "(I)Z"⟩
def w_S_isSign : List Cond := .code y_S_isSign prog_1_method_14_code 1 (some .boolean) :: AW_
def rm_S_isSign : Room := { frames := 0, cells := 0, slots := 0, locals := 0 }
theorem d_S_isSign_0 : decode prog_1_method_14_code 0 = .ok (.iload_n 0, 1) := by decide +kernel
theorem d_S_isSign_1 : decode prog_1_method_14_code 1 = .ok (.ifCond .lt 14, 3) := by decide +kernel
theorem d_S_isSign_4 : decode prog_1_method_14_code 4 = .ok (.iload_n 0, 1) := by decide +kernel
theorem d_S_isSign_5 : decode prog_1_method_14_code 5 = .ok (.sipush 255, 3) := by decide +kernel
theorem d_S_isSign_8 : decode prog_1_method_14_code 8 = .ok (.if_icmp .gt 7, 3) := by decide +kernel
theorem d_S_isSign_11 : decode prog_1_method_14_code 11 = .ok (.iconst 1, 1) := by decide +kernel
theorem d_S_isSign_12 : decode prog_1_method_14_code 12 = .ok (.goto 4, 3) := by decide +kernel
theorem d_S_isSign_15 : decode prog_1_method_14_code 15 = .ok (.iconst 0, 1) := by decide +kernel
theorem d_S_isSign_16 : decode prog_1_method_14_code 16 = .ok (.ireturn, 1) := by decide +kernel
def f_S_isSign (x0 : Int32) : Option (Int32) :=
  if x0 < 0 then some 0
  else if 255 < x0 then some 0
  else some 1
set_option maxHeartbeats 4000000 in
set_option maxRecDepth 100000 in
theorem c_S_isSign (l : Launch) (dC : Nat → ClassId) (dI : Nat → Nat → Nat) (q : Nat → Nat) (cA : Nat → ClassId) (pt : Nat) (σ : MZ_) (x0 : Int32) (u : Int32) (h : f_S_isSign x0 = some u) : Met l y_S_isSign w_S_isSign rm_S_isSign (va_Pc [.int x0] (PX_ dC dI q cA pt σ)) (QcRead u) 0 0 (fun _ => False) := by
  refine Met.ofW (cc := prog_1_method_14_code) (maxL := 1) (ret := (some .boolean)) (by decide) rfl ?_
  intro p e s m args below meth c s₁ B hml hv
  obtain ⟨rfl, hP, hK, hD, hN, hZ⟩ := hv
  have hx := B.exec
  have hb := B.bytes
  have hr := B.returns
  have hts : ∀ w ∈ AW_, w.before _ s = true := fun w h => atoms_spec (ws := w_S_isSign) B.pre w (List.mem_cons_of_mem _ h)
  have hown : s.vm.findClass "StagedParsers" = some m.cls := findClass_of_methodNamed B.named
  have hlocks := B.notSynchronized
  have hS : va_S (AX q) s.heap s.heap [] := va_S.rf
  have hl := lv_entry ([.int x0]) (n := 1) (Nat.le_of_ble_eq_true rfl)
  rw [lg_entry_eq]
  generalize (lg_sl ([.int x0]) ++ List.replicate (1 - (lg_sl ([.int x0])).length) Slot.unset).toArray = ls at hl ⊢
  have hl : lv_has ls 1 [(0, .int x0)] := hl
  rw [f_S_isSign] at h
  refine lv_iload_n hx hb d_S_isSign_0 rfl (lv_at hl 0 rfl) ?_
  refine lv_if_lt (tgt := 15) hx hb d_S_isSign_1 rfl (fun hc => ?_) (fun hc => ?_)
  · have h := if_t hc h
    refine lv_iconst (v := 0) hx hb d_S_isSign_15 (by decide) ?_
    obtain rfl := Option.some.inj h
    exact W.zret hx hb hr rfl (fun t ht hW => ⟨rfl, ht⟩) (fun _ h9 => nomatch h9) d_S_isSign_16
  · have h := if_f hc h
    refine lv_iload_n hx hb d_S_isSign_4 rfl (lv_at hl 0 rfl) ?_
    refine lv_sipush (v := 255) hx hb d_S_isSign_5 (by decide) ?_
    refine lv_icmp_gt (tgt := 15) hx hb d_S_isSign_8 rfl (fun hc => ?_) (fun hc => ?_)
    · have h := if_t hc h
      refine lv_iconst (v := 0) hx hb d_S_isSign_15 (by decide) ?_
      obtain rfl := Option.some.inj h
      exact W.zret hx hb hr rfl (fun t ht hW => ⟨rfl, ht⟩) (fun _ h9 => nomatch h9) d_S_isSign_16
    · have h := if_f hc h
      refine lv_iconst (v := 1) hx hb d_S_isSign_11 (by decide) ?_
      refine lv_goto (tgt := 16) hx hb d_S_isSign_12 rfl ?_
      obtain rfl := Option.some.inj h
      exact W.zret hx hb hr rfl (fun t ht hW => ⟨rfl, ht⟩) (fun _ h9 => nomatch h9) d_S_isSign_16
def y_S_isRegister : MethodName := ⟨"StagedParsers", "isRegister", "(I)Z"⟩
def w_S_isRegister : List Cond := .code y_S_isRegister prog_1_method_15_code 1 (some .boolean) :: AW_
def rm_S_isRegister : Room := { frames := 0, cells := 0, slots := 0, locals := 0 }
theorem d_S_isRegister_0 : decode prog_1_method_15_code 0 = .ok (.iload_n 0, 1) := by decide +kernel
theorem d_S_isRegister_1 : decode prog_1_method_15_code 1 = .ok (.ifCond .lt 12, 3) := by decide +kernel
theorem d_S_isRegister_4 : decode prog_1_method_15_code 4 = .ok (.iload_n 0, 1) := by decide +kernel
theorem d_S_isRegister_5 : decode prog_1_method_15_code 5 = .ok (.iconst 4, 1) := by decide +kernel
theorem d_S_isRegister_6 : decode prog_1_method_15_code 6 = .ok (.if_icmp .ge 7, 3) := by decide +kernel
theorem d_S_isRegister_9 : decode prog_1_method_15_code 9 = .ok (.iconst 1, 1) := by decide +kernel
theorem d_S_isRegister_10 : decode prog_1_method_15_code 10 = .ok (.goto 4, 3) := by decide +kernel
theorem d_S_isRegister_13 : decode prog_1_method_15_code 13 = .ok (.iconst 0, 1) := by decide +kernel
theorem d_S_isRegister_14 : decode prog_1_method_15_code 14 = .ok (.ireturn, 1) := by decide +kernel
def f_S_isRegister (x0 : Int32) : Option (Int32) :=
  if x0 < 0 then some 0
  else if 4 ≤ x0 then some 0
  else some 1
set_option maxHeartbeats 4000000 in
set_option maxRecDepth 100000 in
theorem c_S_isRegister (l : Launch) (dC : Nat → ClassId) (dI : Nat → Nat → Nat) (q : Nat → Nat) (cA : Nat → ClassId) (pt : Nat) (σ : MZ_) (x0 : Int32) (u : Int32) (h : f_S_isRegister x0 = some u) : Met l y_S_isRegister w_S_isRegister rm_S_isRegister (va_Pc [.int x0] (PX_ dC dI q cA pt σ)) (QcRead u) 0 0 (fun _ => False) := by
  refine Met.ofW (cc := prog_1_method_15_code) (maxL := 1) (ret := (some .boolean)) (by decide) rfl ?_
  intro p e s m args below meth c s₁ B hml hv
  obtain ⟨rfl, hP, hK, hD, hN, hZ⟩ := hv
  have hx := B.exec
  have hb := B.bytes
  have hr := B.returns
  have hts : ∀ w ∈ AW_, w.before _ s = true := fun w h => atoms_spec (ws := w_S_isRegister) B.pre w (List.mem_cons_of_mem _ h)
  have hown : s.vm.findClass "StagedParsers" = some m.cls := findClass_of_methodNamed B.named
  have hlocks := B.notSynchronized
  have hS : va_S (AX q) s.heap s.heap [] := va_S.rf
  have hl := lv_entry ([.int x0]) (n := 1) (Nat.le_of_ble_eq_true rfl)
  rw [lg_entry_eq]
  generalize (lg_sl ([.int x0]) ++ List.replicate (1 - (lg_sl ([.int x0])).length) Slot.unset).toArray = ls at hl ⊢
  have hl : lv_has ls 1 [(0, .int x0)] := hl
  rw [f_S_isRegister] at h
  refine lv_iload_n hx hb d_S_isRegister_0 rfl (lv_at hl 0 rfl) ?_
  refine lv_if_lt (tgt := 13) hx hb d_S_isRegister_1 rfl (fun hc => ?_) (fun hc => ?_)
  · have h := if_t hc h
    refine lv_iconst (v := 0) hx hb d_S_isRegister_13 (by decide) ?_
    obtain rfl := Option.some.inj h
    exact W.zret hx hb hr rfl (fun t ht hW => ⟨rfl, ht⟩) (fun _ h9 => nomatch h9) d_S_isRegister_14
  · have h := if_f hc h
    refine lv_iload_n hx hb d_S_isRegister_4 rfl (lv_at hl 0 rfl) ?_
    refine lv_iconst (v := 4) hx hb d_S_isRegister_5 (by decide) ?_
    refine lv_icmp_ge (tgt := 13) hx hb d_S_isRegister_6 rfl (fun hc => ?_) (fun hc => ?_)
    · have h := if_t hc h
      refine lv_iconst (v := 0) hx hb d_S_isRegister_13 (by decide) ?_
      obtain rfl := Option.some.inj h
      exact W.zret hx hb hr rfl (fun t ht hW => ⟨rfl, ht⟩) (fun _ h9 => nomatch h9) d_S_isRegister_14
    · have h := if_f hc h
      refine lv_iconst (v := 1) hx hb d_S_isRegister_9 (by decide) ?_
      refine lv_goto (tgt := 14) hx hb d_S_isRegister_10 rfl ?_
      obtain rfl := Option.some.inj h
      exact W.zret hx hb hr rfl (fun t ht hW => ⟨rfl, ht⟩) (fun _ h9 => nomatch h9) d_S_isRegister_14
def y_G_size : MethodName := ⟨"StagedParsers$Grammar", "size", "()I"⟩
def w_G_size : List Cond := .code y_G_size prog_4_method_2_code 1 (some .int) :: AW_
def rm_G_size : Room := { frames := 0, cells := 0, slots := 0, locals := 0 }
theorem d_G_size_0 : decode prog_4_method_2_code 0 = .ok (.aload_n 0, 1) := by decide +kernel
theorem d_G_size_1 : decode prog_4_method_2_code 1 = .ok (.getfield 36, 3) := by decide +kernel
theorem d_G_size_4 : decode prog_4_method_2_code 4 = .ok (.ireturn, 1) := by decide +kernel
section RW
variable {p : Program} {l : Launch} {e : Env} {R : Room} {s : State} {m : MethodId} {args : Array Value} {below : List Frame} {meth : Method} {c : Code} {H : Heap} {locs : List Loc} {cells slots : Nat} {Q : State → Prop}
variable {cc : ByteArray} {pc : Nat} {ls : Array Slot} {rest : List Value} {dC : Nat → ClassId} {dI : Nat → Nat → Nat} {q : Nat → Nat} {cA : Nat → ClassId} {σ : MZ_} {H0 : Heap} {A : Nat → Prop}

theorem gf_G_36 (hx : p.tables.exec = Jvm.exec) (hb : c.code = cc) (hts : ∀ w ∈ AW_, w.before args s = true) (hown : s.vm.findClass "StagedParsers$Grammar" = some m.cls) (hK : va_K (dC, dI) cls_ (tyX cA) s) (hP : va_P (dC, dI) cls_ (wX q cA σ) H) (hdg : decode cc pc = .ok (.getfield 36, 3)) (kk : W p l e R s m args below meth c H locs cells slots Q (F0 m (pc + 3) ls (.int (σ 31 0) :: rest))) : W p l e R s m args below meth c H locs cells slots Q (F0 m pc ls (.ref (q 1) :: rest)) :=
  va_get (D := (dC, dI)) (cl := cls_) (ci := 1) (v := .int (σ 31 0)) (ws := wX q cA σ) (tys := tyX cA) (C := Rz_G) (T := Tz_G) (N := 7) hx hb hts uz_G hown hK hP 1 rfl rfl 6 (by decide) (hts _ kw_41) (fun _ h9 => h9) rfl hdg kk
end RW
def f_G_size (σ : MZ_) : Option (Int32) :=
  some (σ 31 0)
set_option maxHeartbeats 4000000 in
set_option maxRecDepth 100000 in
theorem c_G_size (l : Launch) (dC : Nat → ClassId) (dI : Nat → Nat → Nat) (q : Nat → Nat) (cA : Nat → ClassId) (pt : Nat) (σ : MZ_) (u : Int32) (h : f_G_size σ = some u) : Met l y_G_size w_G_size rm_G_size (va_Pc [.ref (q 1)] (PX_ dC dI q cA pt σ)) (QcRead u) 0 0 (fun _ => False) := by
  refine Met.ofW (cc := prog_4_method_2_code) (maxL := 1) (ret := (some .int)) (by decide) rfl ?_
  intro p e s m args below meth c s₁ B hml hv
  obtain ⟨rfl, hP, hK, hD, hN, hZ⟩ := hv
  have hx := B.exec
  have hb := B.bytes
  have hr := B.returns
  have hts : ∀ w ∈ AW_, w.before _ s = true := fun w h => atoms_spec (ws := w_G_size) B.pre w (List.mem_cons_of_mem _ h)
  have hown : s.vm.findClass "StagedParsers$Grammar" = some m.cls := findClass_of_methodNamed B.named
  have hlocks := B.notSynchronized
  have hS : va_S (AX q) s.heap s.heap [] := va_S.rf
  have hl := lv_entry ([.ref (q 1)]) (n := 1) (Nat.le_of_ble_eq_true rfl)
  rw [lg_entry_eq]
  generalize (lg_sl ([.ref (q 1)]) ++ List.replicate (1 - (lg_sl ([.ref (q 1)])).length) Slot.unset).toArray = ls at hl ⊢
  have hl : lv_has ls 1 [(0, .ref (q 1))] := hl
  rw [f_G_size] at h
  refine lv_aload_n hx hb d_G_size_0 rfl (lv_at hl 0 rfl) ?_
  refine gf_G_36 hx hb hts hown hK hP d_G_size_1 ?_
  obtain rfl := Option.some.inj h
  exact W.iret hx hb hr (fun t ht hW => ⟨rfl, ht⟩) (fun _ h9 => nomatch h9) d_G_size_4
def y_G_isFull : MethodName := ⟨"StagedParsers$Grammar", "isFull", "()Z"⟩
def w_G_isFull : List Cond := .code y_G_isFull prog_4_method_3_code 1 (some .boolean) :: AW_
def rm_G_isFull : Room := { frames := 0, cells := 0, slots := 0, locals := 0 }
theorem d_G_isFull_0 : decode prog_4_method_3_code 0 = .ok (.aload_n 0, 1) := by decide +kernel
theorem d_G_isFull_1 : decode prog_4_method_3_code 1 = .ok (.getfield 36, 3) := by decide +kernel
theorem d_G_isFull_4 : decode prog_4_method_3_code 4 = .ok (.bipush 80, 2) := by decide +kernel
theorem d_G_isFull_6 : decode prog_4_method_3_code 6 = .ok (.if_icmp .lt 7, 3) := by decide +kernel
theorem d_G_isFull_9 : decode prog_4_method_3_code 9 = .ok (.iconst 1, 1) := by decide +kernel
theorem d_G_isFull_10 : decode prog_4_method_3_code 10 = .ok (.goto 4, 3) := by decide +kernel
theorem d_G_isFull_13 : decode prog_4_method_3_code 13 = .ok (.iconst 0, 1) := by decide +kernel
theorem d_G_isFull_14 : decode prog_4_method_3_code 14 = .ok (.ireturn, 1) := by decide +kernel
def f_G_isFull (σ : MZ_) : Option (Int32) :=
  if (σ 31 0) < 80 then some 0
  else some 1
set_option maxHeartbeats 4000000 in
set_option maxRecDepth 100000 in
theorem c_G_isFull (l : Launch) (dC : Nat → ClassId) (dI : Nat → Nat → Nat) (q : Nat → Nat) (cA : Nat → ClassId) (pt : Nat) (σ : MZ_) (u : Int32) (h : f_G_isFull σ = some u) : Met l y_G_isFull w_G_isFull rm_G_isFull (va_Pc [.ref (q 1)] (PX_ dC dI q cA pt σ)) (QcRead u) 0 0 (fun _ => False) := by
  refine Met.ofW (cc := prog_4_method_3_code) (maxL := 1) (ret := (some .boolean)) (by decide) rfl ?_
  intro p e s m args below meth c s₁ B hml hv
  obtain ⟨rfl, hP, hK, hD, hN, hZ⟩ := hv
  have hx := B.exec
  have hb := B.bytes
  have hr := B.returns
  have hts : ∀ w ∈ AW_, w.before _ s = true := fun w h => atoms_spec (ws := w_G_isFull) B.pre w (List.mem_cons_of_mem _ h)
  have hown : s.vm.findClass "StagedParsers$Grammar" = some m.cls := findClass_of_methodNamed B.named
  have hlocks := B.notSynchronized
  have hS : va_S (AX q) s.heap s.heap [] := va_S.rf
  have hl := lv_entry ([.ref (q 1)]) (n := 1) (Nat.le_of_ble_eq_true rfl)
  rw [lg_entry_eq]
  generalize (lg_sl ([.ref (q 1)]) ++ List.replicate (1 - (lg_sl ([.ref (q 1)])).length) Slot.unset).toArray = ls at hl ⊢
  have hl : lv_has ls 1 [(0, .ref (q 1))] := hl
  rw [f_G_isFull] at h
  refine lv_aload_n hx hb d_G_isFull_0 rfl (lv_at hl 0 rfl) ?_
  refine gf_G_36 hx hb hts hown hK hP d_G_isFull_1 ?_
  refine lv_bipush (v := 80) hx hb d_G_isFull_4 (by decide) ?_
  refine lv_icmp_lt (tgt := 13) hx hb d_G_isFull_6 rfl (fun hc => ?_) (fun hc => ?_)
  · have h := if_t hc h
    refine lv_iconst (v := 0) hx hb d_G_isFull_13 (by decide) ?_
    obtain rfl := Option.some.inj h
    exact W.zret hx hb hr rfl (fun t ht hW => ⟨rfl, ht⟩) (fun _ h9 => nomatch h9) d_G_isFull_14
  · have h := if_f hc h
    refine lv_iconst (v := 1) hx hb d_G_isFull_9 (by decide) ?_
    refine lv_goto (tgt := 14) hx hb d_G_isFull_10 rfl ?_
    obtain rfl := Option.some.inj h
    exact W.zret hx hb hr rfl (fun t ht hW => ⟨rfl, ht⟩) (fun _ h9 => nomatch h9) d_G_isFull_14
def y_G_isNode : MethodName := ⟨"StagedParsers$Grammar", "isNode", "(I)Z"⟩
def w_G_isNode : List Cond := .code y_G_isNode prog_4_method_4_code 2 (some .boolean) :: AW_
def rm_G_isNode : Room := { frames := 0, cells := 0, slots := 0, locals := 0 }
theorem d_G_isNode_0 : decode prog_4_method_4_code 0 = .ok (.iload_n 1, 1) := by decide +kernel
theorem d_G_isNode_1 : decode prog_4_method_4_code 1 = .ok (.ifCond .lt 15, 3) := by decide +kernel
theorem d_G_isNode_4 : decode prog_4_method_4_code 4 = .ok (.iload_n 1, 1) := by decide +kernel
theorem d_G_isNode_5 : decode prog_4_method_4_code 5 = .ok (.aload_n 0, 1) := by decide +kernel
theorem d_G_isNode_6 : decode prog_4_method_4_code 6 = .ok (.getfield 36, 3) := by decide +kernel
theorem d_G_isNode_9 : decode prog_4_method_4_code 9 = .ok (.if_icmp .ge 7, 3) := by decide +kernel
theorem d_G_isNode_12 : decode prog_4_method_4_code 12 = .ok (.iconst 1, 1) := by decide +kernel
theorem d_G_isNode_13 : decode prog_4_method_4_code 13 = .ok (.goto 4, 3) := by decide +kernel
theorem d_G_isNode_16 : decode prog_4_method_4_code 16 = .ok (.iconst 0, 1) := by decide +kernel
theorem d_G_isNode_17 : decode prog_4_method_4_code 17 = .ok (.ireturn, 1) := by decide +kernel
def f_G_isNode (σ : MZ_) (x1 : Int32) : Option (Int32) :=
  if x1 < 0 then some 0
  else if (σ 31 0) ≤ x1 then some 0
  else some 1
set_option maxHeartbeats 4000000 in
set_option maxRecDepth 100000 in
theorem c_G_isNode (l : Launch) (dC : Nat → ClassId) (dI : Nat → Nat → Nat) (q : Nat → Nat) (cA : Nat → ClassId) (pt : Nat) (σ : MZ_) (x1 : Int32) (u : Int32) (h : f_G_isNode σ x1 = some u) : Met l y_G_isNode w_G_isNode rm_G_isNode (va_Pc [.ref (q 1), .int x1] (PX_ dC dI q cA pt σ)) (QcRead u) 0 0 (fun _ => False) := by
  refine Met.ofW (cc := prog_4_method_4_code) (maxL := 2) (ret := (some .boolean)) (by decide) rfl ?_
  intro p e s m args below meth c s₁ B hml hv
  obtain ⟨rfl, hP, hK, hD, hN, hZ⟩ := hv
  have hx := B.exec
  have hb := B.bytes
  have hr := B.returns
  have hts : ∀ w ∈ AW_, w.before _ s = true := fun w h => atoms_spec (ws := w_G_isNode) B.pre w (List.mem_cons_of_mem _ h)
  have hown : s.vm.findClass "StagedParsers$Grammar" = some m.cls := findClass_of_methodNamed B.named
  have hlocks := B.notSynchronized
  have hS : va_S (AX q) s.heap s.heap [] := va_S.rf
  have hl := lv_entry ([.ref (q 1), .int x1]) (n := 2) (Nat.le_of_ble_eq_true rfl)
  rw [lg_entry_eq]
  generalize (lg_sl ([.ref (q 1), .int x1]) ++ List.replicate (2 - (lg_sl ([.ref (q 1), .int x1])).length) Slot.unset).toArray = ls at hl ⊢
  have hl : lv_has ls 2 [(0, .ref (q 1)), (1, .int x1)] := hl
  rw [f_G_isNode] at h
  refine lv_iload_n hx hb d_G_isNode_0 rfl (lv_at hl 1 rfl) ?_
  refine lv_if_lt (tgt := 16) hx hb d_G_isNode_1 rfl (fun hc => ?_) (fun hc => ?_)
  · have h := if_t hc h
    refine lv_iconst (v := 0) hx hb d_G_isNode_16 (by decide) ?_
    obtain rfl := Option.some.inj h
    exact W.zret hx hb hr rfl (fun t ht hW => ⟨rfl, ht⟩) (fun _ h9 => nomatch h9) d_G_isNode_17
  · have h := if_f hc h
    refine lv_iload_n hx hb d_G_isNode_4 rfl (lv_at hl 1 rfl) ?_
    refine lv_aload_n hx hb d_G_isNode_5 rfl (lv_at hl 0 rfl) ?_
    refine gf_G_36 hx hb hts hown hK hP d_G_isNode_6 ?_
    refine lv_icmp_ge (tgt := 16) hx hb d_G_isNode_9 rfl (fun hc => ?_) (fun hc => ?_)
    · have h := if_t hc h
      refine lv_iconst (v := 0) hx hb d_G_isNode_16 (by decide) ?_
      obtain rfl := Option.some.inj h
      exact W.zret hx hb hr rfl (fun t ht hW => ⟨rfl, ht⟩) (fun _ h9 => nomatch h9) d_G_isNode_17
    · have h := if_f hc h
      refine lv_iconst (v := 1) hx hb d_G_isNode_12 (by decide) ?_
      refine lv_goto (tgt := 17) hx hb d_G_isNode_13 rfl ?_
      obtain rfl := Option.some.inj h
      exact W.zret hx hb hr rfl (fun t ht hW => ⟨rfl, ht⟩) (fun _ h9 => nomatch h9) d_G_isNode_17
def y_G_isRule : MethodName := ⟨"StagedParsers$Grammar", "isRule", "(I)Z"⟩
def w_G_isRule : List Cond := .code y_G_isRule prog_4_method_5_code 2 (some .boolean) :: AW_
def rm_G_isRule : Room := { frames := 0, cells := 0, slots := 0, locals := 0 }
theorem d_G_isRule_0 : decode prog_4_method_5_code 0 = .ok (.iload_n 1, 1) := by decide +kernel
theorem d_G_isRule_1 : decode prog_4_method_5_code 1 = .ok (.ifCond .lt 13, 3) := by decide +kernel
theorem d_G_isRule_4 : decode prog_4_method_5_code 4 = .ok (.iload_n 1, 1) := by decide +kernel
theorem d_G_isRule_5 : decode prog_4_method_5_code 5 = .ok (.bipush 6, 2) := by decide +kernel
theorem d_G_isRule_7 : decode prog_4_method_5_code 7 = .ok (.if_icmp .ge 7, 3) := by decide +kernel
theorem d_G_isRule_10 : decode prog_4_method_5_code 10 = .ok (.iconst 1, 1) := by decide +kernel
theorem d_G_isRule_11 : decode prog_4_method_5_code 11 = .ok (.goto 4, 3) := by decide +kernel
theorem d_G_isRule_14 : decode prog_4_method_5_code 14 = .ok (.iconst 0, 1) := by decide +kernel
theorem d_G_isRule_15 : decode prog_4_method_5_code 15 = .ok (.ireturn, 1) := by decide +kernel
def f_G_isRule (x1 : Int32) : Option (Int32) :=
  if x1 < 0 then some 0
  else if 6 ≤ x1 then some 0
  else some 1
set_option maxHeartbeats 4000000 in
set_option maxRecDepth 100000 in
theorem c_G_isRule (l : Launch) (dC : Nat → ClassId) (dI : Nat → Nat → Nat) (q : Nat → Nat) (cA : Nat → ClassId) (pt : Nat) (σ : MZ_) (x1 : Int32) (u : Int32) (h : f_G_isRule x1 = some u) : Met l y_G_isRule w_G_isRule rm_G_isRule (va_Pc [.ref (q 1), .int x1] (PX_ dC dI q cA pt σ)) (QcRead u) 0 0 (fun _ => False) := by
  refine Met.ofW (cc := prog_4_method_5_code) (maxL := 2) (ret := (some .boolean)) (by decide) rfl ?_
  intro p e s m args below meth c s₁ B hml hv
  obtain ⟨rfl, hP, hK, hD, hN, hZ⟩ := hv
  have hx := B.exec
  have hb := B.bytes
  have hr := B.returns
  have hts : ∀ w ∈ AW_, w.before _ s = true := fun w h => atoms_spec (ws := w_G_isRule) B.pre w (List.mem_cons_of_mem _ h)
  have hown : s.vm.findClass "StagedParsers$Grammar" = some m.cls := findClass_of_methodNamed B.named
  have hlocks := B.notSynchronized
  have hS : va_S (AX q) s.heap s.heap [] := va_S.rf
  have hl := lv_entry ([.ref (q 1), .int x1]) (n := 2) (Nat.le_of_ble_eq_true rfl)
  rw [lg_entry_eq]
  generalize (lg_sl ([.ref (q 1), .int x1]) ++ List.replicate (2 - (lg_sl ([.ref (q 1), .int x1])).length) Slot.unset).toArray = ls at hl ⊢
  have hl : lv_has ls 2 [(0, .ref (q 1)), (1, .int x1)] := hl
  rw [f_G_isRule] at h
  refine lv_iload_n hx hb d_G_isRule_0 rfl (lv_at hl 1 rfl) ?_
  refine lv_if_lt (tgt := 14) hx hb d_G_isRule_1 rfl (fun hc => ?_) (fun hc => ?_)
  · have h := if_t hc h
    refine lv_iconst (v := 0) hx hb d_G_isRule_14 (by decide) ?_
    obtain rfl := Option.some.inj h
    exact W.zret hx hb hr rfl (fun t ht hW => ⟨rfl, ht⟩) (fun _ h9 => nomatch h9) d_G_isRule_15
  · have h := if_f hc h
    refine lv_iload_n hx hb d_G_isRule_4 rfl (lv_at hl 1 rfl) ?_
    refine lv_bipush (v := 6) hx hb d_G_isRule_5 (by decide) ?_
    refine lv_icmp_ge (tgt := 14) hx hb d_G_isRule_7 rfl (fun hc => ?_) (fun hc => ?_)
    · have h := if_t hc h
      refine lv_iconst (v := 0) hx hb d_G_isRule_14 (by decide) ?_
      obtain rfl := Option.some.inj h
      exact W.zret hx hb hr rfl (fun t ht hW => ⟨rfl, ht⟩) (fun _ h9 => nomatch h9) d_G_isRule_15
    · have h := if_f hc h
      refine lv_iconst (v := 1) hx hb d_G_isRule_10 (by decide) ?_
      refine lv_goto (tgt := 15) hx hb d_G_isRule_11 rfl ?_
      obtain rfl := Option.some.inj h
      exact W.zret hx hb hr rfl (fun t ht hW => ⟨rfl, ht⟩) (fun _ h9 => nomatch h9) d_G_isRule_15
def y_G_hasBody : MethodName := ⟨"StagedParsers$Grammar", "hasBody", "(I)Z"⟩
def w_G_hasBody : List Cond := .code y_G_hasBody prog_4_method_6_code 2 (some .boolean) :: AW_
def rm_G_hasBody : Room := { frames := 1, cells := 0, slots := 0, locals := 21 }
theorem d_G_hasBody_0 : decode prog_4_method_6_code 0 = .ok (.aload_n 0, 1) := by decide +kernel
theorem d_G_hasBody_1 : decode prog_4_method_6_code 1 = .ok (.iload_n 1, 1) := by decide +kernel
theorem d_G_hasBody_2 : decode prog_4_method_6_code 2 = .ok (.invokevirtual 40, 3) := by decide +kernel
theorem d_G_hasBody_5 : decode prog_4_method_6_code 5 = .ok (.ifCond .eq 17, 3) := by decide +kernel
theorem d_G_hasBody_8 : decode prog_4_method_6_code 8 = .ok (.aload_n 0, 1) := by decide +kernel
theorem d_G_hasBody_9 : decode prog_4_method_6_code 9 = .ok (.getfield 27, 3) := by decide +kernel
theorem d_G_hasBody_12 : decode prog_4_method_6_code 12 = .ok (.iload_n 1, 1) := by decide +kernel
theorem d_G_hasBody_13 : decode prog_4_method_6_code 13 = .ok (.iaload, 1) := by decide +kernel
theorem d_G_hasBody_14 : decode prog_4_method_6_code 14 = .ok (.iconst (-1), 1) := by decide +kernel
theorem d_G_hasBody_15 : decode prog_4_method_6_code 15 = .ok (.if_icmp .eq 7, 3) := by decide +kernel
theorem d_G_hasBody_18 : decode prog_4_method_6_code 18 = .ok (.iconst 1, 1) := by decide +kernel
theorem d_G_hasBody_19 : decode prog_4_method_6_code 19 = .ok (.goto 4, 3) := by decide +kernel
theorem d_G_hasBody_22 : decode prog_4_method_6_code 22 = .ok (.iconst 0, 1) := by decide +kernel
theorem d_G_hasBody_23 : decode prog_4_method_6_code 23 = .ok (.ireturn, 1) := by decide +kernel
section RW
variable {p : Program} {l : Launch} {e : Env} {R : Room} {s : State} {m : MethodId} {args : Array Value} {below : List Frame} {meth : Method} {c : Code} {H : Heap} {locs : List Loc} {cells slots : Nat} {Q : State → Prop}
variable {cc : ByteArray} {pc : Nat} {ls : Array Slot} {rest : List Value} {dC : Nat → ClassId} {dI : Nat → Nat → Nat} {q : Nat → Nat} {cA : Nat → ClassId} {σ : MZ_} {H0 : Heap} {A : Nat → Prop}

theorem cw_G_40 (hts : ∀ w ∈ AW_, w.before args s = true) (hR : rm_G_isRule.frames + 1 ≤ R.frames ∧ 8 + (2 + 11) + rm_G_isRule.locals ≤ R.locals) : CallW R s args "StagedParsers$Grammar" "StagedParsers$Grammar" 40 y_G_isRule prog_4_method_5_code 2 (some .boolean) w_G_isRule rm_G_isRule 0 0 1 :=
  ⟨callB_of 1 hts (aw_in kw_236) rfl rfl rfl (hts _ kw_2) (hts _ kw_233) ⟨by decide, by decide, by decide +kernel⟩ hR, hts _ kw_234, hts _ kw_235⟩
theorem gf_G_27 (hx : p.tables.exec = Jvm.exec) (hb : c.code = cc) (hts : ∀ w ∈ AW_, w.before args s = true) (hown : s.vm.findClass "StagedParsers$Grammar" = some m.cls) (hK : va_K (dC, dI) cls_ (tyX cA) s) (hP : va_P (dC, dI) cls_ (wX q cA σ) H) (hdg : decode cc pc = .ok (.getfield 27, 3)) (kk : W p l e R s m args below meth c H locs cells slots Q (F0 m (pc + 3) ls (.ref (q 7) :: rest))) : W p l e R s m args below meth c H locs cells slots Q (F0 m pc ls (.ref (q 1) :: rest)) :=
  va_get (D := (dC, dI)) (cl := cls_) (ci := 1) (v := .ref (q 7)) (ws := wX q cA σ) (tys := tyX cA) (C := Rz_G) (T := Tz_G) (N := 7) hx hb hts uz_G hown hK hP 1 rfl rfl 5 (by decide) (hts _ kw_40) (fun _ h9 => h9) rfl hdg kk
end RW
def f_G_hasBody (σ : MZ_) (x1 : Int32) : Option (Int32) :=
  (f_G_isRule x1).bind fun r1 => if r1 = 0 then some 0
  else gd_ x1 6 (if (σ 7 x1.toNatClampNeg) = (-1) then some 0
  else some 1)
set_option maxHeartbeats 4000000 in
set_option maxRecDepth 100000 in
theorem c_G_hasBody (l : Launch) (dC : Nat → ClassId) (dI : Nat → Nat → Nat) (q : Nat → Nat) (cA : Nat → ClassId) (pt : Nat) (σ : MZ_) (x1 : Int32) (u : Int32) (h : f_G_hasBody σ x1 = some u) : Met l y_G_hasBody w_G_hasBody rm_G_hasBody (va_Pc [.ref (q 1), .int x1] (PX_ dC dI q cA pt σ)) (QcRead u) 0 0 (fun _ => False) := by
  refine Met.ofW (cc := prog_4_method_6_code) (maxL := 2) (ret := (some .boolean)) (by decide) rfl ?_
  intro p e s m args below meth c s₁ B hml hv
  obtain ⟨rfl, hP, hK, hD, hN, hZ⟩ := hv
  have hx := B.exec
  have hb := B.bytes
  have hr := B.returns
  have hts : ∀ w ∈ AW_, w.before _ s = true := fun w h => atoms_spec (ws := w_G_hasBody) B.pre w (List.mem_cons_of_mem _ h)
  have hown : s.vm.findClass "StagedParsers$Grammar" = some m.cls := findClass_of_methodNamed B.named
  have hlocks := B.notSynchronized
  have hS : va_S (AX q) s.heap s.heap [] := va_S.rf
  have hl := lv_entry ([.ref (q 1), .int x1]) (n := 2) (Nat.le_of_ble_eq_true rfl)
  rw [lg_entry_eq]
  generalize (lg_sl ([.ref (q 1), .int x1]) ++ List.replicate (2 - (lg_sl ([.ref (q 1), .int x1])).length) Slot.unset).toArray = ls at hl ⊢
  have hl : lv_has ls 2 [(0, .ref (q 1)), (1, .int x1)] := hl
  rw [f_G_hasBody] at h
  refine lv_aload_n hx hb d_G_hasBody_0 rfl (lv_at hl 0 rfl) ?_
  refine lv_iload_n hx hb d_G_hasBody_1 rfl (lv_at hl 1 rfl) ?_
  obtain ⟨r1, hcl, h⟩ := bd_some h
  refine cx_read (va_runV (As := [.int x1]) (rest := []) ⟨hx, hb, hml, hown, hts⟩ (c_G_isRule l dC dI q cA pt σ x1 _ hcl) (cw_G_40 hts ⟨Nat.le_of_ble_eq_true rfl, Nat.le_of_ble_eq_true rfl⟩) ⟨pxX_B, va_recv hK hP (ci := 1) (q0 := 1) rfl rfl, pxX_U hP hK hD hN hZ hS⟩ rfl rfl hl.1 rfl (lv_room (Nat.le_of_ble_eq_true rfl)) d_G_hasBody_2 ⟨Nat.zero_le _, Nat.zero_le _⟩) ?_
  refine lv_if_eq (tgt := 22) hx hb d_G_hasBody_5 rfl (fun hc => ?_) (fun hc => ?_)
  · have h := if_t hc h
    refine lv_iconst (v := 0) hx hb d_G_hasBody_22 (by decide) ?_
    obtain rfl := Option.some.inj h
    exact W.zret hx hb hr rfl (fun t ht hW => ⟨rfl, ht⟩) (fun _ h9 => nomatch h9) d_G_hasBody_23
  · have h := if_f hc h
    refine lv_aload_n hx hb d_G_hasBody_8 rfl (lv_at hl 0 rfl) ?_
    refine gf_G_27 hx hb hts hown hK hP d_G_hasBody_9 ?_
    refine lv_iload_n hx hb d_G_hasBody_12 rfl (lv_at hl 1 rfl) ?_
    obtain ⟨hgd, h⟩ := gd_some h
    refine al_X_7 hx hb hK hP hgd d_G_hasBody_13 ?_
    refine lv_iconst (v := (-1)) hx hb d_G_hasBody_14 (by decide) ?_
    refine lv_icmp_eq (tgt := 22) hx hb d_G_hasBody_15 rfl (fun hc => ?_) (fun hc => ?_)
    · have h := if_t hc h
      refine lv_iconst (v := 0) hx hb d_G_hasBody_22 (by decide) ?_
      obtain rfl := Option.some.inj h
      exact W.zret hx hb hr rfl (fun t ht hW => ⟨rfl, ht⟩) (fun _ h9 => nomatch h9) d_G_hasBody_23
    · have h := if_f hc h
      refine lv_iconst (v := 1) hx hb d_G_hasBody_18 (by decide) ?_
      refine lv_goto (tgt := 23) hx hb d_G_hasBody_19 rfl ?_
      obtain rfl := Option.some.inj h
      exact W.zret hx hb hr rfl (fun t ht hW => ⟨rfl, ht⟩) (fun _ h9 => nomatch h9) d_G_hasBody_23
def y_G_body : MethodName := ⟨"StagedParsers$Grammar", "body", "(I)I"⟩
def w_G_body : List Cond := .code y_G_body prog_4_method_7_code 2 (some .int) :: AW_
def rm_G_body : Room := { frames := 1, cells := 0, slots := 0, locals := 21 }
theorem d_G_body_0 : decode prog_4_method_7_code 0 = .ok (.aload_n 0, 1) := by decide +kernel
theorem d_G_body_1 : decode prog_4_method_7_code 1 = .ok (.iload_n 1, 1) := by decide +kernel
theorem d_G_body_2 : decode prog_4_method_7_code 2 = .ok (.invokevirtual 40, 3) := by decide +kernel
theorem d_G_body_5 : decode prog_4_method_7_code 5 = .ok (.ifCond .eq 12, 3) := by decide +kernel
theorem d_G_body_8 : decode prog_4_method_7_code 8 = .ok (.aload_n 0, 1) := by decide +kernel
theorem d_G_body_9 : decode prog_4_method_7_code 9 = .ok (.getfield 27, 3) := by decide +kernel
theorem d_G_body_12 : decode prog_4_method_7_code 12 = .ok (.iload_n 1, 1) := by decide +kernel
theorem d_G_body_13 : decode prog_4_method_7_code 13 = .ok (.iaload, 1) := by decide +kernel
theorem d_G_body_14 : decode prog_4_method_7_code 14 = .ok (.goto 4, 3) := by decide +kernel
theorem d_G_body_17 : decode prog_4_method_7_code 17 = .ok (.iconst (-1), 1) := by decide +kernel
theorem d_G_body_18 : decode prog_4_method_7_code 18 = .ok (.ireturn, 1) := by decide +kernel
def f_G_body (σ : MZ_) (x1 : Int32) : Option (Int32) :=
  (f_G_isRule x1).bind fun r1 => if r1 = 0 then some (-1)
  else gd_ x1 6 (some (σ 7 x1.toNatClampNeg))
set_option maxHeartbeats 4000000 in
set_option maxRecDepth 100000 in
theorem c_G_body (l : Launch) (dC : Nat → ClassId) (dI : Nat → Nat → Nat) (q : Nat → Nat) (cA : Nat → ClassId) (pt : Nat) (σ : MZ_) (x1 : Int32) (u : Int32) (h : f_G_body σ x1 = some u) : Met l y_G_body w_G_body rm_G_body (va_Pc [.ref (q 1), .int x1] (PX_ dC dI q cA pt σ)) (QcRead u) 0 0 (fun _ => False) := by
  refine Met.ofW (cc := prog_4_method_7_code) (maxL := 2) (ret := (some .int)) (by decide) rfl ?_
  intro p e s m args below meth c s₁ B hml hv
  obtain ⟨rfl, hP, hK, hD, hN, hZ⟩ := hv
  have hx := B.exec
  have hb := B.bytes
  have hr := B.returns
  have hts : ∀ w ∈ AW_, w.before _ s = true := fun w h => atoms_spec (ws := w_G_body) B.pre w (List.mem_cons_of_mem _ h)
  have hown : s.vm.findClass "StagedParsers$Grammar" = some m.cls := findClass_of_methodNamed B.named
  have hlocks := B.notSynchronized
  have hS : va_S (AX q) s.heap s.heap [] := va_S.rf
  have hl := lv_entry ([.ref (q 1), .int x1]) (n := 2) (Nat.le_of_ble_eq_true rfl)
  rw [lg_entry_eq]
  generalize (lg_sl ([.ref (q 1), .int x1]) ++ List.replicate (2 - (lg_sl ([.ref (q 1), .int x1])).length) Slot.unset).toArray = ls at hl ⊢
  have hl : lv_has ls 2 [(0, .ref (q 1)), (1, .int x1)] := hl
  rw [f_G_body] at h
  refine lv_aload_n hx hb d_G_body_0 rfl (lv_at hl 0 rfl) ?_
  refine lv_iload_n hx hb d_G_body_1 rfl (lv_at hl 1 rfl) ?_
  obtain ⟨r1, hcl, h⟩ := bd_some h
  refine cx_read (va_runV (As := [.int x1]) (rest := []) ⟨hx, hb, hml, hown, hts⟩ (c_G_isRule l dC dI q cA pt σ x1 _ hcl) (cw_G_40 hts ⟨Nat.le_of_ble_eq_true rfl, Nat.le_of_ble_eq_true rfl⟩) ⟨pxX_B, va_recv hK hP (ci := 1) (q0 := 1) rfl rfl, pxX_U hP hK hD hN hZ hS⟩ rfl rfl hl.1 rfl (lv_room (Nat.le_of_ble_eq_true rfl)) d_G_body_2 ⟨Nat.zero_le _, Nat.zero_le _⟩) ?_
  refine lv_if_eq (tgt := 17) hx hb d_G_body_5 rfl (fun hc => ?_) (fun hc => ?_)
  · have h := if_t hc h
    refine lv_iconst (v := (-1)) hx hb d_G_body_17 (by decide) ?_
    obtain rfl := Option.some.inj h
    exact W.iret hx hb hr (fun t ht hW => ⟨rfl, ht⟩) (fun _ h9 => nomatch h9) d_G_body_18
  · have h := if_f hc h
    refine lv_aload_n hx hb d_G_body_8 rfl (lv_at hl 0 rfl) ?_
    refine gf_G_27 hx hb hts hown hK hP d_G_body_9 ?_
    refine lv_iload_n hx hb d_G_body_12 rfl (lv_at hl 1 rfl) ?_
    obtain ⟨hgd, h⟩ := gd_some h
    refine al_X_7 hx hb hK hP hgd d_G_body_13 ?_
    refine lv_goto (tgt := 18) hx hb d_G_body_14 rfl ?_
    obtain rfl := Option.some.inj h
    exact W.iret hx hb hr (fun t ht hW => ⟨rfl, ht⟩) (fun _ h9 => nomatch h9) d_G_body_18
def y_G_setBody : MethodName := ⟨"StagedParsers$Grammar", "setBody", "(II)V"⟩
def w_G_setBody : List Cond := .code y_G_setBody prog_4_method_8_code 3 none :: AW_
def rm_G_setBody : Room := { frames := 1, cells := 0, slots := 0, locals := 21 }
theorem d_G_setBody_0 : decode prog_4_method_8_code 0 = .ok (.aload_n 0, 1) := by decide +kernel
theorem d_G_setBody_1 : decode prog_4_method_8_code 1 = .ok (.iload_n 1, 1) := by decide +kernel
theorem d_G_setBody_2 : decode prog_4_method_8_code 2 = .ok (.invokevirtual 40, 3) := by decide +kernel
theorem d_G_setBody_5 : decode prog_4_method_8_code 5 = .ok (.ifCond .eq 18, 3) := by decide +kernel
theorem d_G_setBody_8 : decode prog_4_method_8_code 8 = .ok (.aload_n 0, 1) := by decide +kernel
theorem d_G_setBody_9 : decode prog_4_method_8_code 9 = .ok (.iload_n 2, 1) := by decide +kernel
theorem d_G_setBody_10 : decode prog_4_method_8_code 10 = .ok (.invokevirtual 44, 3) := by decide +kernel
theorem d_G_setBody_13 : decode prog_4_method_8_code 13 = .ok (.ifCond .eq 10, 3) := by decide +kernel
theorem d_G_setBody_16 : decode prog_4_method_8_code 16 = .ok (.aload_n 0, 1) := by decide +kernel
theorem d_G_setBody_17 : decode prog_4_method_8_code 17 = .ok (.getfield 27, 3) := by decide +kernel
theorem d_G_setBody_20 : decode prog_4_method_8_code 20 = .ok (.iload_n 1, 1) := by decide +kernel
theorem d_G_setBody_21 : decode prog_4_method_8_code 21 = .ok (.iload_n 2, 1) := by decide +kernel
theorem d_G_setBody_22 : decode prog_4_method_8_code 22 = .ok (.iastore, 1) := by decide +kernel
theorem d_G_setBody_23 : decode prog_4_method_8_code 23 = .ok (.return_, 1) := by decide +kernel
section RW
variable {p : Program} {l : Launch} {e : Env} {R : Room} {s : State} {m : MethodId} {args : Array Value} {below : List Frame} {meth : Method} {c : Code} {H : Heap} {locs : List Loc} {cells slots : Nat} {Q : State → Prop}
variable {cc : ByteArray} {pc : Nat} {ls : Array Slot} {rest : List Value} {dC : Nat → ClassId} {dI : Nat → Nat → Nat} {q : Nat → Nat} {cA : Nat → ClassId} {σ : MZ_} {H0 : Heap} {A : Nat → Prop}

theorem cw_G_44 (hts : ∀ w ∈ AW_, w.before args s = true) (hR : rm_G_isNode.frames + 1 ≤ R.frames ∧ 8 + (2 + 11) + rm_G_isNode.locals ≤ R.locals) : CallW R s args "StagedParsers$Grammar" "StagedParsers$Grammar" 44 y_G_isNode prog_4_method_4_code 2 (some .boolean) w_G_isNode rm_G_isNode 0 0 1 :=
  ⟨callB_of 1 hts (aw_in kw_244) rfl rfl rfl (hts _ kw_2) (hts _ kw_255) ⟨by decide, by decide, by decide +kernel⟩ hR, hts _ kw_242, hts _ kw_243⟩
end RW
def f_G_setBody (σ : MZ_) (x1 : Int32) (x2 : Int32) : Option (MZ_) :=
  (f_G_isRule x1).bind fun r1 => if r1 = 0 then some σ
  else (f_G_isNode σ x2).bind fun r2 => if r2 = 0 then some σ
  else gd_ x1 6 (st_ (va_up σ 7 (upd (σ 7) x1.toNatClampNeg x2)) fun σ1 => some σ1)
set_option maxHeartbeats 4000000 in
set_option maxRecDepth 100000 in
theorem c_G_setBody (l : Launch) (dC : Nat → ClassId) (dI : Nat → Nat → Nat) (q : Nat → Nat) (cA : Nat → ClassId) (pt : Nat) (σ : MZ_) (x1 : Int32) (x2 : Int32) (u : MZ_) (h : f_G_setBody σ x1 x2 = some u) : Met l y_G_setBody w_G_setBody rm_G_setBody (va_Pc [.ref (q 1), .int x1, .int x2] (PX_ dC dI q cA pt σ)) (QW_ none (fun H => va_P (dC, dI) cls_ (wX q cA u) H) (AX q)) 0 0 (AX q) := by
  refine Met.ofW (cc := prog_4_method_8_code) (maxL := 3) (ret := none) (by decide) rfl ?_
  intro p e s m args below meth c s₁ B hml hv
  obtain ⟨rfl, hP, hK, hD, hN, hZ⟩ := hv
  have hx := B.exec
  have hb := B.bytes
  have hr := B.returns
  have hts : ∀ w ∈ AW_, w.before _ s = true := fun w h => atoms_spec (ws := w_G_setBody) B.pre w (List.mem_cons_of_mem _ h)
  have hown : s.vm.findClass "StagedParsers$Grammar" = some m.cls := findClass_of_methodNamed B.named
  have hlocks := B.notSynchronized
  have hS : va_S (AX q) s.heap s.heap [] := va_S.rf
  have hl := lv_entry ([.ref (q 1), .int x1, .int x2]) (n := 3) (Nat.le_of_ble_eq_true rfl)
  rw [lg_entry_eq]
  generalize (lg_sl ([.ref (q 1), .int x1, .int x2]) ++ List.replicate (3 - (lg_sl ([.ref (q 1), .int x1, .int x2])).length) Slot.unset).toArray = ls at hl ⊢
  have hl : lv_has ls 3 [(0, .ref (q 1)), (1, .int x1), (2, .int x2)] := hl
  rw [f_G_setBody] at h
  refine lv_aload_n hx hb d_G_setBody_0 rfl (lv_at hl 0 rfl) ?_
  refine lv_iload_n hx hb d_G_setBody_1 rfl (lv_at hl 1 rfl) ?_
  obtain ⟨r1, hcl, h⟩ := bd_some h
  refine cx_read (va_runV (As := [.int x1]) (rest := []) ⟨hx, hb, hml, hown, hts⟩ (c_G_isRule l dC dI q cA pt σ x1 _ hcl) (cw_G_40 hts ⟨Nat.le_of_ble_eq_true rfl, Nat.le_of_ble_eq_true rfl⟩) ⟨pxX_B, va_recv hK hP (ci := 1) (q0 := 1) rfl rfl, pxX_U hP hK hD hN hZ hS⟩ rfl rfl hl.1 rfl (lv_room (Nat.le_of_ble_eq_true rfl)) d_G_setBody_2 ⟨Nat.zero_le _, Nat.zero_le _⟩) ?_
  refine lv_if_eq (tgt := 23) hx hb d_G_setBody_5 rfl (fun hc => ?_) (fun hc => ?_)
  · have h := if_t hc h
    obtain rfl := Option.some.inj h
    exact W.vret hx hb hr (fun t ht hW => ⟨rfl, by rw [ht]; exact hP, hS.F ht⟩) hS.2.2 d_G_setBody_23
  · have h := if_f hc h
    refine lv_aload_n hx hb d_G_setBody_8 rfl (lv_at hl 0 rfl) ?_
    refine lv_iload_n hx hb d_G_setBody_9 rfl (lv_at hl 2 rfl) ?_
    obtain ⟨r2, hcl, h⟩ := bd_some h
    refine cx_read (va_runV (As := [.int x2]) (rest := []) ⟨hx, hb, hml, hown, hts⟩ (c_G_isNode l dC dI q cA pt σ x2 _ hcl) (cw_G_44 hts ⟨Nat.le_of_ble_eq_true rfl, Nat.le_of_ble_eq_true rfl⟩) ⟨pxX_B, va_recv hK hP (ci := 1) (q0 := 1) rfl rfl, pxX_U hP hK hD hN hZ hS⟩ rfl rfl hl.1 rfl (lv_room (Nat.le_of_ble_eq_true rfl)) d_G_setBody_10 ⟨Nat.zero_le _, Nat.zero_le _⟩) ?_
    refine lv_if_eq (tgt := 23) hx hb d_G_setBody_13 rfl (fun hc => ?_) (fun hc => ?_)
    · have h := if_t hc h
      obtain rfl := Option.some.inj h
      exact W.vret hx hb hr (fun t ht hW => ⟨rfl, by rw [ht]; exact hP, hS.F ht⟩) hS.2.2 d_G_setBody_23
    · have h := if_f hc h
      refine lv_aload_n hx hb d_G_setBody_16 rfl (lv_at hl 0 rfl) ?_
      refine gf_G_27 hx hb hts hown hK hP d_G_setBody_17 ?_
      refine lv_iload_n hx hb d_G_setBody_20 rfl (lv_at hl 1 rfl) ?_
      refine lv_iload_n hx hb d_G_setBody_21 rfl (lv_at hl 2 rfl) ?_
      obtain ⟨hgd, h⟩ := gd_some h
      refine as_X_7 hx hb hK hP hD hS hgd d_G_setBody_22 (fun H locs hP hS => ?_)
      obtain ⟨σ1, eσ1, h⟩ := st_some h
      rw [← eσ1] at hP
      have hD : va_D (AX q) (wX q cA σ1) := dd_re (wX_f _ _ _ _) hD
      obtain rfl := Option.some.inj h
      exact W.vret hx hb hr (fun t ht hW => ⟨rfl, by rw [ht]; exact hP, hS.F ht⟩) hS.2.2 d_G_setBody_23
def y_G_bodies : MethodName := ⟨"StagedParsers$Grammar", "bodies", "()I"⟩
def w_G_bodies : List Cond := .code y_G_bodies prog_4_method_9_code 3 (some .int) :: AW_
def rm_G_bodies : Room := { frames := 2, cells := 0, slots := 0, locals := 42 }
theorem d_G_bodies_0 : decode prog_4_method_9_code 0 = .ok (.iconst 0, 1) := by decide +kernel
theorem d_G_bodies_1 : decode prog_4_method_9_code 1 = .ok (.istore_n 1, 1) := by decide +kernel
theorem d_G_bodies_2 : decode prog_4_method_9_code 2 = .ok (.iconst 0, 1) := by decide +kernel
theorem d_G_bodies_3 : decode prog_4_method_9_code 3 = .ok (.istore_n 2, 1) := by decide +kernel
theorem d_G_bodies_4 : decode prog_4_method_9_code 4 = .ok (.iload_n 2, 1) := by decide +kernel
theorem d_G_bodies_5 : decode prog_4_method_9_code 5 = .ok (.bipush 6, 2) := by decide +kernel
theorem d_G_bodies_7 : decode prog_4_method_9_code 7 = .ok (.if_icmp .ge 20, 3) := by decide +kernel
theorem d_G_bodies_10 : decode prog_4_method_9_code 10 = .ok (.aload_n 0, 1) := by decide +kernel
theorem d_G_bodies_11 : decode prog_4_method_9_code 11 = .ok (.iload_n 2, 1) := by decide +kernel
theorem d_G_bodies_12 : decode prog_4_method_9_code 12 = .ok (.invokevirtual 47, 3) := by decide +kernel
theorem d_G_bodies_15 : decode prog_4_method_9_code 15 = .ok (.ifCond .eq 6, 3) := by decide +kernel
theorem d_G_bodies_18 : decode prog_4_method_9_code 18 = .ok (.iinc 1 1, 3) := by decide +kernel
theorem d_G_bodies_21 : decode prog_4_method_9_code 21 = .ok (.iinc 2 1, 3) := by decide +kernel
theorem d_G_bodies_24 : decode prog_4_method_9_code 24 = .ok (.goto (-20), 3) := by decide +kernel
theorem d_G_bodies_27 : decode prog_4_method_9_code 27 = .ok (.iload_n 1, 1) := by decide +kernel
theorem d_G_bodies_28 : decode prog_4_method_9_code 28 = .ok (.ireturn, 1) := by decide +kernel
section RW
variable {p : Program} {l : Launch} {e : Env} {R : Room} {s : State} {m : MethodId} {args : Array Value} {below : List Frame} {meth : Method} {c : Code} {H : Heap} {locs : List Loc} {cells slots : Nat} {Q : State → Prop}
variable {cc : ByteArray} {pc : Nat} {ls : Array Slot} {rest : List Value} {dC : Nat → ClassId} {dI : Nat → Nat → Nat} {q : Nat → Nat} {cA : Nat → ClassId} {σ : MZ_} {H0 : Heap} {A : Nat → Prop}

theorem cw_G_47 (hts : ∀ w ∈ AW_, w.before args s = true) (hR : rm_G_hasBody.frames + 1 ≤ R.frames ∧ 8 + (2 + 11) + rm_G_hasBody.locals ≤ R.locals) : CallW R s args "StagedParsers$Grammar" "StagedParsers$Grammar" 47 y_G_hasBody prog_4_method_6_code 2 (some .boolean) w_G_hasBody rm_G_hasBody 0 0 1 :=
  ⟨callB_of 1 hts (aw_in kw_295) rfl rfl rfl (hts _ kw_2) (hts _ kw_418) ⟨by decide, by decide, by decide +kernel⟩ hR, hts _ kw_293, hts _ kw_294⟩
end RW
def f_G_bodies_L4 (σ : MZ_) : Nat → Int32 → Int32 → Option (Int32)
  | 0, _, _ => none
  | N + 1, x1, x2 => if 6 ≤ x2 then some x1
    else (f_G_hasBody σ x2).bind fun r1 => if r1 = 0 then f_G_bodies_L4 σ N x1 (x2 + 1)
    else f_G_bodies_L4 σ N (x1 + 1) (x2 + 1)
def f_G_bodies (σ : MZ_) : Option (Int32) :=
  f_G_bodies_L4 σ 100 0 0
set_option maxHeartbeats 4000000 in
set_option maxRecDepth 100000 in
theorem c_G_bodies (l : Launch) (dC : Nat → ClassId) (dI : Nat → Nat → Nat) (q : Nat → Nat) (cA : Nat → ClassId) (pt : Nat) (σ : MZ_) (u : Int32) (h : f_G_bodies σ = some u) : Met l y_G_bodies w_G_bodies rm_G_bodies (va_Pc [.ref (q 1)] (PX_ dC dI q cA pt σ)) (QcRead u) 0 0 (fun _ => False) := by
  refine Met.ofW (cc := prog_4_method_9_code) (maxL := 3) (ret := (some .int)) (by decide) rfl ?_
  intro p e s m args below meth c s₁ B hml hv
  obtain ⟨rfl, hP, hK, hD, hN, hZ⟩ := hv
  have hx := B.exec
  have hb := B.bytes
  have hr := B.returns
  have hts : ∀ w ∈ AW_, w.before _ s = true := fun w h => atoms_spec (ws := w_G_bodies) B.pre w (List.mem_cons_of_mem _ h)
  have hown : s.vm.findClass "StagedParsers$Grammar" = some m.cls := findClass_of_methodNamed B.named
  have hlocks := B.notSynchronized
  have hS : va_S (AX q) s.heap s.heap [] := va_S.rf
  have hl := lv_entry ([.ref (q 1)]) (n := 3) (Nat.le_of_ble_eq_true rfl)
  rw [lg_entry_eq]
  generalize (lg_sl ([.ref (q 1)]) ++ List.replicate (3 - (lg_sl ([.ref (q 1)])).length) Slot.unset).toArray = ls at hl ⊢
  have hl : lv_has ls 3 [(0, .ref (q 1))] := hl
  have L4 : ∀ (N4 : Nat) (x1 : Int32) (x2 : Int32), f_G_bodies_L4 σ N4 x1 x2 = some u → ∀ (ls : Array Slot), lv_has ls 3 [(0, .ref (q 1)), (1, .int x1), (2, .int x2)] → W p l e (headSpec w_G_bodies rm_G_bodies).room s m ([.ref (q 1)] : List Value).toArray below meth c s.heap [] 0 0 (MQ below (QcRead u) ([.ref (q 1)] : List Value).toArray s 0 0 (fun _ => False)) (F0 m 4 ls []) := by
    intro N4
    induction N4 with
    | zero => intro x1 x2 h; cases h
    | succ N4 ih4 =>
      intro x1 x2 h ls hl
      rw [f_G_bodies_L4] at h
      refine lv_iload_n hx hb d_G_bodies_4 rfl (lv_at hl 2 rfl) ?_
      refine lv_bipush (v := 6) hx hb d_G_bodies_5 (by decide) ?_
      refine lv_icmp_ge (tgt := 27) hx hb d_G_bodies_7 rfl (fun hc => ?_) (fun hc => ?_)
      · have h := if_t hc h
        refine lv_iload_n hx hb d_G_bodies_27 rfl (lv_at hl 1 rfl) ?_
        obtain rfl := Option.some.inj h
        exact W.iret hx hb hr (fun t ht hW => ⟨rfl, ht⟩) (fun _ h9 => nomatch h9) d_G_bodies_28
      · have h := if_f hc h
        refine lv_aload_n hx hb d_G_bodies_10 rfl (lv_at hl 0 rfl) ?_
        refine lv_iload_n hx hb d_G_bodies_11 rfl (lv_at hl 2 rfl) ?_
        obtain ⟨r1, hcl, h⟩ := bd_some h
        refine cx_read (va_runV (As := [.int x2]) (rest := []) ⟨hx, hb, hml, hown, hts⟩ (c_G_hasBody l dC dI q cA pt σ x2 _ hcl) (cw_G_47 hts ⟨Nat.le_of_ble_eq_true rfl, Nat.le_of_ble_eq_true rfl⟩) ⟨pxX_B, va_recv hK hP (ci := 1) (q0 := 1) rfl rfl, pxX_U hP hK hD hN hZ hS⟩ rfl rfl hl.1 rfl (lv_room (Nat.le_of_ble_eq_true rfl)) d_G_bodies_12 ⟨Nat.zero_le _, Nat.zero_le _⟩) ?_
        refine lv_if_eq (tgt := 21) hx hb d_G_bodies_15 rfl (fun hc => ?_) (fun hc => ?_)
        · have h := if_t hc h
          refine lv_iinc (v := x2 + 1) hx hb d_G_bodies_21 hl (k := 2) rfl rfl (by decide) rfl (fun ls hl => ?_)
          have hl : lv_has ls 3 [(2, .int (x2 + 1)), (0, .ref (q 1)), (1, .int x1)] := hl
          refine lv_goto (tgt := 4) hx hb d_G_bodies_24 rfl ?_
          exact ih4 _ _ h _ (lv_sub hl [1, 2, 0] rfl)
        · have h := if_f hc h
          refine lv_iinc (v := x1 + 1) hx hb d_G_bodies_18 hl (k := 1) rfl rfl (by decide) rfl (fun ls hl => ?_)
          have hl : lv_has ls 3 [(1, .int (x1 + 1)), (0, .ref (q 1)), (2, .int x2)] := hl
          refine lv_iinc (v := x2 + 1) hx hb d_G_bodies_21 hl (k := 2) rfl rfl (by decide) rfl (fun ls hl => ?_)
          have hl : lv_has ls 3 [(2, .int (x2 + 1)), (1, .int (x1 + 1)), (0, .ref (q 1))] := hl
          refine lv_goto (tgt := 4) hx hb d_G_bodies_24 rfl ?_
          exact ih4 _ _ h _ (lv_sub hl [2, 1, 0] rfl)
  rw [f_G_bodies] at h
  refine lv_iconst (v := 0) hx hb d_G_bodies_0 (by decide) ?_
  refine lv_istore_n hx hb d_G_bodies_1 rfl hl (by decide) rfl (fun ls hl => ?_)
  have hl : lv_has ls 3 [(1, .int 0), (0, .ref (q 1))] := hl
  refine lv_iconst (v := 0) hx hb d_G_bodies_2 (by decide) ?_
  refine lv_istore_n hx hb d_G_bodies_3 rfl hl (by decide) rfl (fun ls hl => ?_)
  have hl : lv_has ls 3 [(2, .int 0), (1, .int 0), (0, .ref (q 1))] := hl
  exact L4 _ _ _ h _ (lv_sub hl [2, 1, 0] rfl)
def y_G_kind : MethodName := ⟨"StagedParsers$Grammar", "kind", "(I)I"⟩
def w_G_kind : List Cond := .code y_G_kind prog_4_method_10_code 2 (some .int) :: AW_
def rm_G_kind : Room := { frames := 1, cells := 0, slots := 0, locals := 21 }
theorem d_G_kind_0 : decode prog_4_method_10_code 0 = .ok (.aload_n 0, 1) := by decide +kernel
theorem d_G_kind_1 : decode prog_4_method_10_code 1 = .ok (.iload_n 1, 1) := by decide +kernel
theorem d_G_kind_2 : decode prog_4_method_10_code 2 = .ok (.invokevirtual 44, 3) := by decide +kernel
theorem d_G_kind_5 : decode prog_4_method_10_code 5 = .ok (.ifCond .eq 12, 3) := by decide +kernel
theorem d_G_kind_8 : decode prog_4_method_10_code 8 = .ok (.aload_n 0, 1) := by decide +kernel
theorem d_G_kind_9 : decode prog_4_method_10_code 9 = .ok (.getfield 9, 3) := by decide +kernel
theorem d_G_kind_12 : decode prog_4_method_10_code 12 = .ok (.iload_n 1, 1) := by decide +kernel
theorem d_G_kind_13 : decode prog_4_method_10_code 13 = .ok (.iaload, 1) := by decide +kernel
theorem d_G_kind_14 : decode prog_4_method_10_code 14 = .ok (.goto 4, 3) := by decide +kernel
theorem d_G_kind_17 : decode prog_4_method_10_code 17 = .ok (.iconst 3, 1) := by decide +kernel
theorem d_G_kind_18 : decode prog_4_method_10_code 18 = .ok (.ireturn, 1) := by decide +kernel
section RW
variable {p : Program} {l : Launch} {e : Env} {R : Room} {s : State} {m : MethodId} {args : Array Value} {below : List Frame} {meth : Method} {c : Code} {H : Heap} {locs : List Loc} {cells slots : Nat} {Q : State → Prop}
variable {cc : ByteArray} {pc : Nat} {ls : Array Slot} {rest : List Value} {dC : Nat → ClassId} {dI : Nat → Nat → Nat} {q : Nat → Nat} {cA : Nat → ClassId} {σ : MZ_} {H0 : Heap} {A : Nat → Prop}

theorem gf_G_9 (hx : p.tables.exec = Jvm.exec) (hb : c.code = cc) (hts : ∀ w ∈ AW_, w.before args s = true) (hown : s.vm.findClass "StagedParsers$Grammar" = some m.cls) (hK : va_K (dC, dI) cls_ (tyX cA) s) (hP : va_P (dC, dI) cls_ (wX q cA σ) H) (hdg : decode cc pc = .ok (.getfield 9, 3)) (kk : W p l e R s m args below meth c H locs cells slots Q (F0 m (pc + 3) ls (.ref (q 2) :: rest))) : W p l e R s m args below meth c H locs cells slots Q (F0 m pc ls (.ref (q 1) :: rest)) :=
  va_get (D := (dC, dI)) (cl := cls_) (ci := 1) (v := .ref (q 2)) (ws := wX q cA σ) (tys := tyX cA) (C := Rz_G) (T := Tz_G) (N := 7) hx hb hts uz_G hown hK hP 1 rfl rfl 0 (by decide) (hts _ kw_35) (fun _ h9 => h9) rfl hdg kk
end RW
def f_G_kind (σ : MZ_) (x1 : Int32) : Option (Int32) :=
  (f_G_isNode σ x1).bind fun r1 => if r1 = 0 then some 3
  else gd_ x1 80 (some (σ 2 x1.toNatClampNeg))
set_option maxHeartbeats 4000000 in
set_option maxRecDepth 100000 in
theorem c_G_kind (l : Launch) (dC : Nat → ClassId) (dI : Nat → Nat → Nat) (q : Nat → Nat) (cA : Nat → ClassId) (pt : Nat) (σ : MZ_) (x1 : Int32) (u : Int32) (h : f_G_kind σ x1 = some u) : Met l y_G_kind w_G_kind rm_G_kind (va_Pc [.ref (q 1), .int x1] (PX_ dC dI q cA pt σ)) (QcRead u) 0 0 (fun _ => False) := by
  refine Met.ofW (cc := prog_4_method_10_code) (maxL := 2) (ret := (some .int)) (by decide) rfl ?_
  intro p e s m args below meth c s₁ B hml hv
  obtain ⟨rfl, hP, hK, hD, hN, hZ⟩ := hv
  have hx := B.exec
  have hb := B.bytes
  have hr := B.returns
  have hts : ∀ w ∈ AW_, w.before _ s = true := fun w h => atoms_spec (ws := w_G_kind) B.pre w (List.mem_cons_of_mem _ h)
  have hown : s.vm.findClass "StagedParsers$Grammar" = some m.cls := findClass_of_methodNamed B.named
  have hlocks := B.notSynchronized
  have hS : va_S (AX q) s.heap s.heap [] := va_S.rf
  have hl := lv_entry ([.ref (q 1), .int x1]) (n := 2) (Nat.le_of_ble_eq_true rfl)
  rw [lg_entry_eq]
  generalize (lg_sl ([.ref (q 1), .int x1]) ++ List.replicate (2 - (lg_sl ([.ref (q 1), .int x1])).length) Slot.unset).toArray = ls at hl ⊢
  have hl : lv_has ls 2 [(0, .ref (q 1)), (1, .int x1)] := hl
  rw [f_G_kind] at h
  refine lv_aload_n hx hb d_G_kind_0 rfl (lv_at hl 0 rfl) ?_
  refine lv_iload_n hx hb d_G_kind_1 rfl (lv_at hl 1 rfl) ?_
  obtain ⟨r1, hcl, h⟩ := bd_some h
  refine cx_read (va_runV (As := [.int x1]) (rest := []) ⟨hx, hb, hml, hown, hts⟩ (c_G_isNode l dC dI q cA pt σ x1 _ hcl) (cw_G_44 hts ⟨Nat.le_of_ble_eq_true rfl, Nat.le_of_ble_eq_true rfl⟩) ⟨pxX_B, va_recv hK hP (ci := 1) (q0 := 1) rfl rfl, pxX_U hP hK hD hN hZ hS⟩ rfl rfl hl.1 rfl (lv_room (Nat.le_of_ble_eq_true rfl)) d_G_kind_2 ⟨Nat.zero_le _, Nat.zero_le _⟩) ?_
  refine lv_if_eq (tgt := 17) hx hb d_G_kind_5 rfl (fun hc => ?_) (fun hc => ?_)
  · have h := if_t hc h
    refine lv_iconst (v := 3) hx hb d_G_kind_17 (by decide) ?_
    obtain rfl := Option.some.inj h
    exact W.iret hx hb hr (fun t ht hW => ⟨rfl, ht⟩) (fun _ h9 => nomatch h9) d_G_kind_18
  · have h := if_f hc h
    refine lv_aload_n hx hb d_G_kind_8 rfl (lv_at hl 0 rfl) ?_
    refine gf_G_9 hx hb hts hown hK hP d_G_kind_9 ?_
    refine lv_iload_n hx hb d_G_kind_12 rfl (lv_at hl 1 rfl) ?_
    obtain ⟨hgd, h⟩ := gd_some h
    refine al_X_2 hx hb hK hP hgd d_G_kind_13 ?_
    refine lv_goto (tgt := 18) hx hb d_G_kind_14 rfl ?_
    obtain rfl := Option.some.inj h
    exact W.iret hx hb hr (fun t ht hW => ⟨rfl, ht⟩) (fun _ h9 => nomatch h9) d_G_kind_18
def y_G_a : MethodName := ⟨"StagedParsers$Grammar", "a", "(I)I"⟩
def w_G_a : List Cond := .code y_G_a prog_4_method_11_code 2 (some .int) :: AW_
def rm_G_a : Room := { frames := 1, cells := 0, slots := 0, locals := 21 }
theorem d_G_a_0 : decode prog_4_method_11_code 0 = .ok (.aload_n 0, 1) := by decide +kernel
theorem d_G_a_1 : decode prog_4_method_11_code 1 = .ok (.iload_n 1, 1) := by decide +kernel
theorem d_G_a_2 : decode prog_4_method_11_code 2 = .ok (.invokevirtual 44, 3) := by decide +kernel
theorem d_G_a_5 : decode prog_4_method_11_code 5 = .ok (.ifCond .eq 12, 3) := by decide +kernel
theorem d_G_a_8 : decode prog_4_method_11_code 8 = .ok (.aload_n 0, 1) := by decide +kernel
theorem d_G_a_9 : decode prog_4_method_11_code 9 = .ok (.getfield 15, 3) := by decide +kernel
theorem d_G_a_12 : decode prog_4_method_11_code 12 = .ok (.iload_n 1, 1) := by decide +kernel
theorem d_G_a_13 : decode prog_4_method_11_code 13 = .ok (.iaload, 1) := by decide +kernel
theorem d_G_a_14 : decode prog_4_method_11_code 14 = .ok (.goto 4, 3) := by decide +kernel
theorem d_G_a_17 : decode prog_4_method_11_code 17 = .ok (.iconst (-1), 1) := by decide +kernel
theorem d_G_a_18 : decode prog_4_method_11_code 18 = .ok (.ireturn, 1) := by decide +kernel
section RW
variable {p : Program} {l : Launch} {e : Env} {R : Room} {s : State} {m : MethodId} {args : Array Value} {below : List Frame} {meth : Method} {c : Code} {H : Heap} {locs : List Loc} {cells slots : Nat} {Q : State → Prop}
variable {cc : ByteArray} {pc : Nat} {ls : Array Slot} {rest : List Value} {dC : Nat → ClassId} {dI : Nat → Nat → Nat} {q : Nat → Nat} {cA : Nat → ClassId} {σ : MZ_} {H0 : Heap} {A : Nat → Prop}

theorem gf_G_15 (hx : p.tables.exec = Jvm.exec) (hb : c.code = cc) (hts : ∀ w ∈ AW_, w.before args s = true) (hown : s.vm.findClass "StagedParsers$Grammar" = some m.cls) (hK : va_K (dC, dI) cls_ (tyX cA) s) (hP : va_P (dC, dI) cls_ (wX q cA σ) H) (hdg : decode cc pc = .ok (.getfield 15, 3)) (kk : W p l e R s m args below meth c H locs cells slots Q (F0 m (pc + 3) ls (.ref (q 3) :: rest))) : W p l e R s m args below meth c H locs cells slots Q (F0 m pc ls (.ref (q 1) :: rest)) :=
  va_get (D := (dC, dI)) (cl := cls_) (ci := 1) (v := .ref (q 3)) (ws := wX q cA σ) (tys := tyX cA) (C := Rz_G) (T := Tz_G) (N := 7) hx hb hts uz_G hown hK hP 1 rfl rfl 1 (by decide) (hts _ kw_36) (fun _ h9 => h9) rfl hdg kk
end RW
def f_G_a (σ : MZ_) (x1 : Int32) : Option (Int32) :=
  (f_G_isNode σ x1).bind fun r1 => if r1 = 0 then some (-1)
  else gd_ x1 80 (some (σ 3 x1.toNatClampNeg))
set_option maxHeartbeats 4000000 in
set_option maxRecDepth 100000 in
theorem c_G_a (l : Launch) (dC : Nat → ClassId) (dI : Nat → Nat → Nat) (q : Nat → Nat) (cA : Nat → ClassId) (pt : Nat) (σ : MZ_) (x1 : Int32) (u : Int32) (h : f_G_a σ x1 = some u) : Met l y_G_a w_G_a rm_G_a (va_Pc [.ref (q 1), .int x1] (PX_ dC dI q cA pt σ)) (QcRead u) 0 0 (fun _ => False) := by
  refine Met.ofW (cc := prog_4_method_11_code) (maxL := 2) (ret := (some .int)) (by decide) rfl ?_
  intro p e s m args below meth c s₁ B hml hv
  obtain ⟨rfl, hP, hK, hD, hN, hZ⟩ := hv
  have hx := B.exec
  have hb := B.bytes
  have hr := B.returns
  have hts : ∀ w ∈ AW_, w.before _ s = true := fun w h => atoms_spec (ws := w_G_a) B.pre w (List.mem_cons_of_mem _ h)
  have hown : s.vm.findClass "StagedParsers$Grammar" = some m.cls := findClass_of_methodNamed B.named
  have hlocks := B.notSynchronized
  have hS : va_S (AX q) s.heap s.heap [] := va_S.rf
  have hl := lv_entry ([.ref (q 1), .int x1]) (n := 2) (Nat.le_of_ble_eq_true rfl)
  rw [lg_entry_eq]
  generalize (lg_sl ([.ref (q 1), .int x1]) ++ List.replicate (2 - (lg_sl ([.ref (q 1), .int x1])).length) Slot.unset).toArray = ls at hl ⊢
  have hl : lv_has ls 2 [(0, .ref (q 1)), (1, .int x1)] := hl
  rw [f_G_a] at h
  refine lv_aload_n hx hb d_G_a_0 rfl (lv_at hl 0 rfl) ?_
  refine lv_iload_n hx hb d_G_a_1 rfl (lv_at hl 1 rfl) ?_
  obtain ⟨r1, hcl, h⟩ := bd_some h
  refine cx_read (va_runV (As := [.int x1]) (rest := []) ⟨hx, hb, hml, hown, hts⟩ (c_G_isNode l dC dI q cA pt σ x1 _ hcl) (cw_G_44 hts ⟨Nat.le_of_ble_eq_true rfl, Nat.le_of_ble_eq_true rfl⟩) ⟨pxX_B, va_recv hK hP (ci := 1) (q0 := 1) rfl rfl, pxX_U hP hK hD hN hZ hS⟩ rfl rfl hl.1 rfl (lv_room (Nat.le_of_ble_eq_true rfl)) d_G_a_2 ⟨Nat.zero_le _, Nat.zero_le _⟩) ?_
  refine lv_if_eq (tgt := 17) hx hb d_G_a_5 rfl (fun hc => ?_) (fun hc => ?_)
  · have h := if_t hc h
    refine lv_iconst (v := (-1)) hx hb d_G_a_17 (by decide) ?_
    obtain rfl := Option.some.inj h
    exact W.iret hx hb hr (fun t ht hW => ⟨rfl, ht⟩) (fun _ h9 => nomatch h9) d_G_a_18
  · have h := if_f hc h
    refine lv_aload_n hx hb d_G_a_8 rfl (lv_at hl 0 rfl) ?_
    refine gf_G_15 hx hb hts hown hK hP d_G_a_9 ?_
    refine lv_iload_n hx hb d_G_a_12 rfl (lv_at hl 1 rfl) ?_
    obtain ⟨hgd, h⟩ := gd_some h
    refine al_X_3 hx hb hK hP hgd d_G_a_13 ?_
    refine lv_goto (tgt := 18) hx hb d_G_a_14 rfl ?_
    obtain rfl := Option.some.inj h
    exact W.iret hx hb hr (fun t ht hW => ⟨rfl, ht⟩) (fun _ h9 => nomatch h9) d_G_a_18
def y_G_b : MethodName := ⟨"StagedParsers$Grammar", "b", "(I)I"⟩
def w_G_b : List Cond := .code y_G_b prog_4_method_12_code 2 (some .int) :: AW_
def rm_G_b : Room := { frames := 1, cells := 0, slots := 0, locals := 21 }
theorem d_G_b_0 : decode prog_4_method_12_code 0 = .ok (.aload_n 0, 1) := by decide +kernel
theorem d_G_b_1 : decode prog_4_method_12_code 1 = .ok (.iload_n 1, 1) := by decide +kernel
theorem d_G_b_2 : decode prog_4_method_12_code 2 = .ok (.invokevirtual 44, 3) := by decide +kernel
theorem d_G_b_5 : decode prog_4_method_12_code 5 = .ok (.ifCond .eq 12, 3) := by decide +kernel
theorem d_G_b_8 : decode prog_4_method_12_code 8 = .ok (.aload_n 0, 1) := by decide +kernel
theorem d_G_b_9 : decode prog_4_method_12_code 9 = .ok (.getfield 18, 3) := by decide +kernel
theorem d_G_b_12 : decode prog_4_method_12_code 12 = .ok (.iload_n 1, 1) := by decide +kernel
theorem d_G_b_13 : decode prog_4_method_12_code 13 = .ok (.iaload, 1) := by decide +kernel
theorem d_G_b_14 : decode prog_4_method_12_code 14 = .ok (.goto 4, 3) := by decide +kernel
theorem d_G_b_17 : decode prog_4_method_12_code 17 = .ok (.iconst (-1), 1) := by decide +kernel
theorem d_G_b_18 : decode prog_4_method_12_code 18 = .ok (.ireturn, 1) := by decide +kernel
section RW
variable {p : Program} {l : Launch} {e : Env} {R : Room} {s : State} {m : MethodId} {args : Array Value} {below : List Frame} {meth : Method} {c : Code} {H : Heap} {locs : List Loc} {cells slots : Nat} {Q : State → Prop}
variable {cc : ByteArray} {pc : Nat} {ls : Array Slot} {rest : List Value} {dC : Nat → ClassId} {dI : Nat → Nat → Nat} {q : Nat → Nat} {cA : Nat → ClassId} {σ : MZ_} {H0 : Heap} {A : Nat → Prop}

theorem gf_G_18 (hx : p.tables.exec = Jvm.exec) (hb : c.code = cc) (hts : ∀ w ∈ AW_, w.before args s = true) (hown : s.vm.findClass "StagedParsers$Grammar" = some m.cls) (hK : va_K (dC, dI) cls_ (tyX cA) s) (hP : va_P (dC, dI) cls_ (wX q cA σ) H) (hdg : decode cc pc = .ok (.getfield 18, 3)) (kk : W p l e R s m args below meth c H locs cells slots Q (F0 m (pc + 3) ls (.ref (q 4) :: rest))) : W p l e R s m args below meth c H locs cells slots Q (F0 m pc ls (.ref (q 1) :: rest)) :=
  va_get (D := (dC, dI)) (cl := cls_) (ci := 1) (v := .ref (q 4)) (ws := wX q cA σ) (tys := tyX cA) (C := Rz_G) (T := Tz_G) (N := 7) hx hb hts uz_G hown hK hP 1 rfl rfl 2 (by decide) (hts _ kw_37) (fun _ h9 => h9) rfl hdg kk
end RW
def f_G_b (σ : MZ_) (x1 : Int32) : Option (Int32) :=
  (f_G_isNode σ x1).bind fun r1 => if r1 = 0 then some (-1)
  else gd_ x1 80 (some (σ 4 x1.toNatClampNeg))
set_option maxHeartbeats 4000000 in
set_option maxRecDepth 100000 in
theorem c_G_b (l : Launch) (dC : Nat → ClassId) (dI : Nat → Nat → Nat) (q : Nat → Nat) (cA : Nat → ClassId) (pt : Nat) (σ : MZ_) (x1 : Int32) (u : Int32) (h : f_G_b σ x1 = some u) : Met l y_G_b w_G_b rm_G_b (va_Pc [.ref (q 1), .int x1] (PX_ dC dI q cA pt σ)) (QcRead u) 0 0 (fun _ => False) := by
  refine Met.ofW (cc := prog_4_method_12_code) (maxL := 2) (ret := (some .int)) (by decide) rfl ?_
  intro p e s m args below meth c s₁ B hml hv
  obtain ⟨rfl, hP, hK, hD, hN, hZ⟩ := hv
  have hx := B.exec
  have hb := B.bytes
  have hr := B.returns
  have hts : ∀ w ∈ AW_, w.before _ s = true := fun w h => atoms_spec (ws := w_G_b) B.pre w (List.mem_cons_of_mem _ h)
  have hown : s.vm.findClass "StagedParsers$Grammar" = some m.cls := findClass_of_methodNamed B.named
  have hlocks := B.notSynchronized
  have hS : va_S (AX q) s.heap s.heap [] := va_S.rf
  have hl := lv_entry ([.ref (q 1), .int x1]) (n := 2) (Nat.le_of_ble_eq_true rfl)
  rw [lg_entry_eq]
  generalize (lg_sl ([.ref (q 1), .int x1]) ++ List.replicate (2 - (lg_sl ([.ref (q 1), .int x1])).length) Slot.unset).toArray = ls at hl ⊢
  have hl : lv_has ls 2 [(0, .ref (q 1)), (1, .int x1)] := hl
  rw [f_G_b] at h
  refine lv_aload_n hx hb d_G_b_0 rfl (lv_at hl 0 rfl) ?_
  refine lv_iload_n hx hb d_G_b_1 rfl (lv_at hl 1 rfl) ?_
  obtain ⟨r1, hcl, h⟩ := bd_some h
  refine cx_read (va_runV (As := [.int x1]) (rest := []) ⟨hx, hb, hml, hown, hts⟩ (c_G_isNode l dC dI q cA pt σ x1 _ hcl) (cw_G_44 hts ⟨Nat.le_of_ble_eq_true rfl, Nat.le_of_ble_eq_true rfl⟩) ⟨pxX_B, va_recv hK hP (ci := 1) (q0 := 1) rfl rfl, pxX_U hP hK hD hN hZ hS⟩ rfl rfl hl.1 rfl (lv_room (Nat.le_of_ble_eq_true rfl)) d_G_b_2 ⟨Nat.zero_le _, Nat.zero_le _⟩) ?_
  refine lv_if_eq (tgt := 17) hx hb d_G_b_5 rfl (fun hc => ?_) (fun hc => ?_)
  · have h := if_t hc h
    refine lv_iconst (v := (-1)) hx hb d_G_b_17 (by decide) ?_
    obtain rfl := Option.some.inj h
    exact W.iret hx hb hr (fun t ht hW => ⟨rfl, ht⟩) (fun _ h9 => nomatch h9) d_G_b_18
  · have h := if_f hc h
    refine lv_aload_n hx hb d_G_b_8 rfl (lv_at hl 0 rfl) ?_
    refine gf_G_18 hx hb hts hown hK hP d_G_b_9 ?_
    refine lv_iload_n hx hb d_G_b_12 rfl (lv_at hl 1 rfl) ?_
    obtain ⟨hgd, h⟩ := gd_some h
    refine al_X_4 hx hb hK hP hgd d_G_b_13 ?_
    refine lv_goto (tgt := 18) hx hb d_G_b_14 rfl ?_
    obtain rfl := Option.some.inj h
    exact W.iret hx hb hr (fun t ht hW => ⟨rfl, ht⟩) (fun _ h9 => nomatch h9) d_G_b_18
def y_G_c : MethodName := ⟨"StagedParsers$Grammar", "c", "(I)I"⟩
def w_G_c : List Cond := .code y_G_c prog_4_method_13_code 2 (some .int) :: AW_
def rm_G_c : Room := { frames := 1, cells := 0, slots := 0, locals := 21 }
theorem d_G_c_0 : decode prog_4_method_13_code 0 = .ok (.aload_n 0, 1) := by decide +kernel
theorem d_G_c_1 : decode prog_4_method_13_code 1 = .ok (.iload_n 1, 1) := by decide +kernel
theorem d_G_c_2 : decode prog_4_method_13_code 2 = .ok (.invokevirtual 44, 3) := by decide +kernel
theorem d_G_c_5 : decode prog_4_method_13_code 5 = .ok (.ifCond .eq 12, 3) := by decide +kernel
theorem d_G_c_8 : decode prog_4_method_13_code 8 = .ok (.aload_n 0, 1) := by decide +kernel
theorem d_G_c_9 : decode prog_4_method_13_code 9 = .ok (.getfield 21, 3) := by decide +kernel
theorem d_G_c_12 : decode prog_4_method_13_code 12 = .ok (.iload_n 1, 1) := by decide +kernel
theorem d_G_c_13 : decode prog_4_method_13_code 13 = .ok (.iaload, 1) := by decide +kernel
theorem d_G_c_14 : decode prog_4_method_13_code 14 = .ok (.goto 4, 3) := by decide +kernel
theorem d_G_c_17 : decode prog_4_method_13_code 17 = .ok (.iconst (-1), 1) := by decide +kernel
theorem d_G_c_18 : decode prog_4_method_13_code 18 = .ok (.ireturn, 1) := by decide +kernel
section RW
variable {p : Program} {l : Launch} {e : Env} {R : Room} {s : State} {m : MethodId} {args : Array Value} {below : List Frame} {meth : Method} {c : Code} {H : Heap} {locs : List Loc} {cells slots : Nat} {Q : State → Prop}
variable {cc : ByteArray} {pc : Nat} {ls : Array Slot} {rest : List Value} {dC : Nat → ClassId} {dI : Nat → Nat → Nat} {q : Nat → Nat} {cA : Nat → ClassId} {σ : MZ_} {H0 : Heap} {A : Nat → Prop}

theorem gf_G_21 (hx : p.tables.exec = Jvm.exec) (hb : c.code = cc) (hts : ∀ w ∈ AW_, w.before args s = true) (hown : s.vm.findClass "StagedParsers$Grammar" = some m.cls) (hK : va_K (dC, dI) cls_ (tyX cA) s) (hP : va_P (dC, dI) cls_ (wX q cA σ) H) (hdg : decode cc pc = .ok (.getfield 21, 3)) (kk : W p l e R s m args below meth c H locs cells slots Q (F0 m (pc + 3) ls (.ref (q 5) :: rest))) : W p l e R s m args below meth c H locs cells slots Q (F0 m pc ls (.ref (q 1) :: rest)) :=
  va_get (D := (dC, dI)) (cl := cls_) (ci := 1) (v := .ref (q 5)) (ws := wX q cA σ) (tys := tyX cA) (C := Rz_G) (T := Tz_G) (N := 7) hx hb hts uz_G hown hK hP 1 rfl rfl 3 (by decide) (hts _ kw_38) (fun _ h9 => h9) rfl hdg kk
end RW
def f_G_c (σ : MZ_) (x1 : Int32) : Option (Int32) :=
  (f_G_isNode σ x1).bind fun r1 => if r1 = 0 then some (-1)
  else gd_ x1 80 (some (σ 5 x1.toNatClampNeg))
set_option maxHeartbeats 4000000 in
set_option maxRecDepth 100000 in
theorem c_G_c (l : Launch) (dC : Nat → ClassId) (dI : Nat → Nat → Nat) (q : Nat → Nat) (cA : Nat → ClassId) (pt : Nat) (σ : MZ_) (x1 : Int32) (u : Int32) (h : f_G_c σ x1 = some u) : Met l y_G_c w_G_c rm_G_c (va_Pc [.ref (q 1), .int x1] (PX_ dC dI q cA pt σ)) (QcRead u) 0 0 (fun _ => False) := by
  refine Met.ofW (cc := prog_4_method_13_code) (maxL := 2) (ret := (some .int)) (by decide) rfl ?_
  intro p e s m args below meth c s₁ B hml hv
  obtain ⟨rfl, hP, hK, hD, hN, hZ⟩ := hv
  have hx := B.exec
  have hb := B.bytes
  have hr := B.returns
  have hts : ∀ w ∈ AW_, w.before _ s = true := fun w h => atoms_spec (ws := w_G_c) B.pre w (List.mem_cons_of_mem _ h)
  have hown : s.vm.findClass "StagedParsers$Grammar" = some m.cls := findClass_of_methodNamed B.named
  have hlocks := B.notSynchronized
  have hS : va_S (AX q) s.heap s.heap [] := va_S.rf
  have hl := lv_entry ([.ref (q 1), .int x1]) (n := 2) (Nat.le_of_ble_eq_true rfl)
  rw [lg_entry_eq]
  generalize (lg_sl ([.ref (q 1), .int x1]) ++ List.replicate (2 - (lg_sl ([.ref (q 1), .int x1])).length) Slot.unset).toArray = ls at hl ⊢
  have hl : lv_has ls 2 [(0, .ref (q 1)), (1, .int x1)] := hl
  rw [f_G_c] at h
  refine lv_aload_n hx hb d_G_c_0 rfl (lv_at hl 0 rfl) ?_
  refine lv_iload_n hx hb d_G_c_1 rfl (lv_at hl 1 rfl) ?_
  obtain ⟨r1, hcl, h⟩ := bd_some h
  refine cx_read (va_runV (As := [.int x1]) (rest := []) ⟨hx, hb, hml, hown, hts⟩ (c_G_isNode l dC dI q cA pt σ x1 _ hcl) (cw_G_44 hts ⟨Nat.le_of_ble_eq_true rfl, Nat.le_of_ble_eq_true rfl⟩) ⟨pxX_B, va_recv hK hP (ci := 1) (q0 := 1) rfl rfl, pxX_U hP hK hD hN hZ hS⟩ rfl rfl hl.1 rfl (lv_room (Nat.le_of_ble_eq_true rfl)) d_G_c_2 ⟨Nat.zero_le _, Nat.zero_le _⟩) ?_
  refine lv_if_eq (tgt := 17) hx hb d_G_c_5 rfl (fun hc => ?_) (fun hc => ?_)
  · have h := if_t hc h
    refine lv_iconst (v := (-1)) hx hb d_G_c_17 (by decide) ?_
    obtain rfl := Option.some.inj h
    exact W.iret hx hb hr (fun t ht hW => ⟨rfl, ht⟩) (fun _ h9 => nomatch h9) d_G_c_18
  · have h := if_f hc h
    refine lv_aload_n hx hb d_G_c_8 rfl (lv_at hl 0 rfl) ?_
    refine gf_G_21 hx hb hts hown hK hP d_G_c_9 ?_
    refine lv_iload_n hx hb d_G_c_12 rfl (lv_at hl 1 rfl) ?_
    obtain ⟨hgd, h⟩ := gd_some h
    refine al_X_5 hx hb hK hP hgd d_G_c_13 ?_
    refine lv_goto (tgt := 18) hx hb d_G_c_14 rfl ?_
    obtain rfl := Option.some.inj h
    exact W.iret hx hb hr (fun t ht hW => ⟨rfl, ht⟩) (fun _ h9 => nomatch h9) d_G_c_18
def y_G_canBePart : MethodName := ⟨"StagedParsers$Grammar", "canBePart", "(I)Z"⟩
def w_G_canBePart : List Cond := .code y_G_canBePart prog_4_method_16_code 2 (some .boolean) :: AW_
def rm_G_canBePart : Room := { frames := 1, cells := 0, slots := 0, locals := 21 }
theorem d_G_canBePart_0 : decode prog_4_method_16_code 0 = .ok (.aload_n 0, 1) := by decide +kernel
theorem d_G_canBePart_1 : decode prog_4_method_16_code 1 = .ok (.iload_n 1, 1) := by decide +kernel
theorem d_G_canBePart_2 : decode prog_4_method_16_code 2 = .ok (.invokevirtual 44, 3) := by decide +kernel
theorem d_G_canBePart_5 : decode prog_4_method_16_code 5 = .ok (.ifCond .eq 18, 3) := by decide +kernel
theorem d_G_canBePart_8 : decode prog_4_method_16_code 8 = .ok (.aload_n 0, 1) := by decide +kernel
theorem d_G_canBePart_9 : decode prog_4_method_16_code 9 = .ok (.getfield 24, 3) := by decide +kernel
theorem d_G_canBePart_12 : decode prog_4_method_16_code 12 = .ok (.iload_n 1, 1) := by decide +kernel
theorem d_G_canBePart_13 : decode prog_4_method_16_code 13 = .ok (.iaload, 1) := by decide +kernel
theorem d_G_canBePart_14 : decode prog_4_method_16_code 14 = .ok (.bipush 8, 2) := by decide +kernel
theorem d_G_canBePart_16 : decode prog_4_method_16_code 16 = .ok (.if_icmp .ge 7, 3) := by decide +kernel
theorem d_G_canBePart_19 : decode prog_4_method_16_code 19 = .ok (.iconst 1, 1) := by decide +kernel
theorem d_G_canBePart_20 : decode prog_4_method_16_code 20 = .ok (.goto 4, 3) := by decide +kernel
theorem d_G_canBePart_23 : decode prog_4_method_16_code 23 = .ok (.iconst 0, 1) := by decide +kernel
theorem d_G_canBePart_24 : decode prog_4_method_16_code 24 = .ok (.ireturn, 1) := by decide +kernel
section RW
variable {p : Program} {l : Launch} {e : Env} {R : Room} {s : State} {m : MethodId} {args : Array Value} {below : List Frame} {meth : Method} {c : Code} {H : Heap} {locs : List Loc} {cells slots : Nat} {Q : State → Prop}
variable {cc : ByteArray} {pc : Nat} {ls : Array Slot} {rest : List Value} {dC : Nat → ClassId} {dI : Nat → Nat → Nat} {q : Nat → Nat} {cA : Nat → ClassId} {σ : MZ_} {H0 : Heap} {A : Nat → Prop}

theorem gf_G_24 (hx : p.tables.exec = Jvm.exec) (hb : c.code = cc) (hts : ∀ w ∈ AW_, w.before args s = true) (hown : s.vm.findClass "StagedParsers$Grammar" = some m.cls) (hK : va_K (dC, dI) cls_ (tyX cA) s) (hP : va_P (dC, dI) cls_ (wX q cA σ) H) (hdg : decode cc pc = .ok (.getfield 24, 3)) (kk : W p l e R s m args below meth c H locs cells slots Q (F0 m (pc + 3) ls (.ref (q 6) :: rest))) : W p l e R s m args below meth c H locs cells slots Q (F0 m pc ls (.ref (q 1) :: rest)) :=
  va_get (D := (dC, dI)) (cl := cls_) (ci := 1) (v := .ref (q 6)) (ws := wX q cA σ) (tys := tyX cA) (C := Rz_G) (T := Tz_G) (N := 7) hx hb hts uz_G hown hK hP 1 rfl rfl 4 (by decide) (hts _ kw_39) (fun _ h9 => h9) rfl hdg kk
end RW
def f_G_canBePart (σ : MZ_) (x1 : Int32) : Option (Int32) :=
  (f_G_isNode σ x1).bind fun r1 => if r1 = 0 then some 0
  else gd_ x1 80 (if 8 ≤ (σ 6 x1.toNatClampNeg) then some 0
  else some 1)
set_option maxHeartbeats 4000000 in
set_option maxRecDepth 100000 in
theorem c_G_canBePart (l : Launch) (dC : Nat → ClassId) (dI : Nat → Nat → Nat) (q : Nat → Nat) (cA : Nat → ClassId) (pt : Nat) (σ : MZ_) (x1 : Int32) (u : Int32) (h : f_G_canBePart σ x1 = some u) : Met l y_G_canBePart w_G_canBePart rm_G_canBePart (va_Pc [.ref (q 1), .int x1] (PX_ dC dI q cA pt σ)) (QcRead u) 0 0 (fun _ => False) := by
  refine Met.ofW (cc := prog_4_method_16_code) (maxL := 2) (ret := (some .boolean)) (by decide) rfl ?_
  intro p e s m args below meth c s₁ B hml hv
  obtain ⟨rfl, hP, hK, hD, hN, hZ⟩ := hv
  have hx := B.exec
  have hb := B.bytes
  have hr := B.returns
  have hts : ∀ w ∈ AW_, w.before _ s = true := fun w h => atoms_spec (ws := w_G_canBePart) B.pre w (List.mem_cons_of_mem _ h)
  have hown : s.vm.findClass "StagedParsers$Grammar" = some m.cls := findClass_of_methodNamed B.named
  have hlocks := B.notSynchronized
  have hS : va_S (AX q) s.heap s.heap [] := va_S.rf
  have hl := lv_entry ([.ref (q 1), .int x1]) (n := 2) (Nat.le_of_ble_eq_true rfl)
  rw [lg_entry_eq]
  generalize (lg_sl ([.ref (q 1), .int x1]) ++ List.replicate (2 - (lg_sl ([.ref (q 1), .int x1])).length) Slot.unset).toArray = ls at hl ⊢
  have hl : lv_has ls 2 [(0, .ref (q 1)), (1, .int x1)] := hl
  rw [f_G_canBePart] at h
  refine lv_aload_n hx hb d_G_canBePart_0 rfl (lv_at hl 0 rfl) ?_
  refine lv_iload_n hx hb d_G_canBePart_1 rfl (lv_at hl 1 rfl) ?_
  obtain ⟨r1, hcl, h⟩ := bd_some h
  refine cx_read (va_runV (As := [.int x1]) (rest := []) ⟨hx, hb, hml, hown, hts⟩ (c_G_isNode l dC dI q cA pt σ x1 _ hcl) (cw_G_44 hts ⟨Nat.le_of_ble_eq_true rfl, Nat.le_of_ble_eq_true rfl⟩) ⟨pxX_B, va_recv hK hP (ci := 1) (q0 := 1) rfl rfl, pxX_U hP hK hD hN hZ hS⟩ rfl rfl hl.1 rfl (lv_room (Nat.le_of_ble_eq_true rfl)) d_G_canBePart_2 ⟨Nat.zero_le _, Nat.zero_le _⟩) ?_
  refine lv_if_eq (tgt := 23) hx hb d_G_canBePart_5 rfl (fun hc => ?_) (fun hc => ?_)
  · have h := if_t hc h
    refine lv_iconst (v := 0) hx hb d_G_canBePart_23 (by decide) ?_
    obtain rfl := Option.some.inj h
    exact W.zret hx hb hr rfl (fun t ht hW => ⟨rfl, ht⟩) (fun _ h9 => nomatch h9) d_G_canBePart_24
  · have h := if_f hc h
    refine lv_aload_n hx hb d_G_canBePart_8 rfl (lv_at hl 0 rfl) ?_
    refine gf_G_24 hx hb hts hown hK hP d_G_canBePart_9 ?_
    refine lv_iload_n hx hb d_G_canBePart_12 rfl (lv_at hl 1 rfl) ?_
    obtain ⟨hgd, h⟩ := gd_some h
    refine al_X_6 hx hb hK hP hgd d_G_canBePart_13 ?_
    refine lv_bipush (v := 8) hx hb d_G_canBePart_14 (by decide) ?_
    refine lv_icmp_ge (tgt := 23) hx hb d_G_canBePart_16 rfl (fun hc => ?_) (fun hc => ?_)
    · have h := if_t hc h
      refine lv_iconst (v := 0) hx hb d_G_canBePart_23 (by decide) ?_
      obtain rfl := Option.some.inj h
      exact W.zret hx hb hr rfl (fun t ht hW => ⟨rfl, ht⟩) (fun _ h9 => nomatch h9) d_G_canBePart_24
    · have h := if_f hc h
      refine lv_iconst (v := 1) hx hb d_G_canBePart_19 (by decide) ?_
      refine lv_goto (tgt := 24) hx hb d_G_canBePart_20 rfl ?_
      obtain rfl := Option.some.inj h
      exact W.zret hx hb hr rfl (fun t ht hW => ⟨rfl, ht⟩) (fun _ h9 => nomatch h9) d_G_canBePart_24
def y_G_isWay : MethodName := ⟨"StagedParsers$Grammar", "isWay", "(I)Z"⟩
def w_G_isWay : List Cond := .code y_G_isWay prog_4_method_17_code 1 (some .boolean) :: AW_
def rm_G_isWay : Room := { frames := 0, cells := 0, slots := 0, locals := 0 }
theorem d_G_isWay_0 : decode prog_4_method_17_code 0 = .ok (.iload_n 0, 1) := by decide +kernel
theorem d_G_isWay_1 : decode prog_4_method_17_code 1 = .ok (.ifCond .lt 13, 3) := by decide +kernel
theorem d_G_isWay_4 : decode prog_4_method_17_code 4 = .ok (.iload_n 0, 1) := by decide +kernel
theorem d_G_isWay_5 : decode prog_4_method_17_code 5 = .ok (.bipush 8, 2) := by decide +kernel
theorem d_G_isWay_7 : decode prog_4_method_17_code 7 = .ok (.if_icmp .ge 7, 3) := by decide +kernel
theorem d_G_isWay_10 : decode prog_4_method_17_code 10 = .ok (.iconst 1, 1) := by decide +kernel
theorem d_G_isWay_11 : decode prog_4_method_17_code 11 = .ok (.goto 4, 3) := by decide +kernel
theorem d_G_isWay_14 : decode prog_4_method_17_code 14 = .ok (.iconst 0, 1) := by decide +kernel
theorem d_G_isWay_15 : decode prog_4_method_17_code 15 = .ok (.ireturn, 1) := by decide +kernel
def f_G_isWay (x0 : Int32) : Option (Int32) :=
  if x0 < 0 then some 0
  else if 8 ≤ x0 then some 0
  else some 1
set_option maxHeartbeats 4000000 in
set_option maxRecDepth 100000 in
theorem c_G_isWay (l : Launch) (dC : Nat → ClassId) (dI : Nat → Nat → Nat) (q : Nat → Nat) (cA : Nat → ClassId) (pt : Nat) (σ : MZ_) (x0 : Int32) (u : Int32) (h : f_G_isWay x0 = some u) : Met l y_G_isWay w_G_isWay rm_G_isWay (va_Pc [.int x0] (PX_ dC dI q cA pt σ)) (QcRead u) 0 0 (fun _ => False) := by
  refine Met.ofW (cc := prog_4_method_17_code) (maxL := 1) (ret := (some .boolean)) (by decide) rfl ?_
  intro p e s m args below meth c s₁ B hml hv
  obtain ⟨rfl, hP, hK, hD, hN, hZ⟩ := hv
  have hx := B.exec
  have hb := B.bytes
  have hr := B.returns
  have hts : ∀ w ∈ AW_, w.before _ s = true := fun w h => atoms_spec (ws := w_G_isWay) B.pre w (List.mem_cons_of_mem _ h)
  have hown : s.vm.findClass "StagedParsers$Grammar" = some m.cls := findClass_of_methodNamed B.named
  have hlocks := B.notSynchronized
  have hS : va_S (AX q) s.heap s.heap [] := va_S.rf
  have hl := lv_entry ([.int x0]) (n := 1) (Nat.le_of_ble_eq_true rfl)
  rw [lg_entry_eq]
  generalize (lg_sl ([.int x0]) ++ List.replicate (1 - (lg_sl ([.int x0])).length) Slot.unset).toArray = ls at hl ⊢
  have hl : lv_has ls 1 [(0, .int x0)] := hl
  rw [f_G_isWay] at h
  refine lv_iload_n hx hb d_G_isWay_0 rfl (lv_at hl 0 rfl) ?_
  refine lv_if_lt (tgt := 14) hx hb d_G_isWay_1 rfl (fun hc => ?_) (fun hc => ?_)
  · have h := if_t hc h
    refine lv_iconst (v := 0) hx hb d_G_isWay_14 (by decide) ?_
    obtain rfl := Option.some.inj h
    exact W.zret hx hb hr rfl (fun t ht hW => ⟨rfl, ht⟩) (fun _ h9 => nomatch h9) d_G_isWay_15
  · have h := if_f hc h
    refine lv_iload_n hx hb d_G_isWay_4 rfl (lv_at hl 0 rfl) ?_
    refine lv_bipush (v := 8) hx hb d_G_isWay_5 (by decide) ?_
    refine lv_icmp_ge (tgt := 14) hx hb d_G_isWay_7 rfl (fun hc => ?_) (fun hc => ?_)
    · have h := if_t hc h
      refine lv_iconst (v := 0) hx hb d_G_isWay_14 (by decide) ?_
      obtain rfl := Option.some.inj h
      exact W.zret hx hb hr rfl (fun t ht hW => ⟨rfl, ht⟩) (fun _ h9 => nomatch h9) d_G_isWay_15
    · have h := if_f hc h
      refine lv_iconst (v := 1) hx hb d_G_isWay_10 (by decide) ?_
      refine lv_goto (tgt := 15) hx hb d_G_isWay_11 rfl ?_
      obtain rfl := Option.some.inj h
      exact W.zret hx hb hr rfl (fun t ht hW => ⟨rfl, ht⟩) (fun _ h9 => nomatch h9) d_G_isWay_15
def y_G_allows : MethodName := ⟨"StagedParsers$Grammar", "allows", "(IIII)Z"⟩
def w_G_allows : List Cond := .code y_G_allows prog_4_method_14_code 5 (some .boolean) :: AW_
def rm_G_allows : Room := { frames := 2, cells := 0, slots := 0, locals := 42 }
theorem d_G_allows_0 : decode prog_4_method_14_code 0 = .ok (.iload_n 1, 1) := by decide +kernel
theorem d_G_allows_1 : decode prog_4_method_14_code 1 = .ok (.tableswitch 214 0 13 #[71, 73, 78, 71, 103, 133, 155, 155, 155, 161, 133, 182, 188, 209], 71) := by decide +kernel
theorem d_G_allows_72 : decode prog_4_method_14_code 72 = .ok (.iconst 1, 1) := by decide +kernel
theorem d_G_allows_73 : decode prog_4_method_14_code 73 = .ok (.ireturn, 1) := by decide +kernel
theorem d_G_allows_74 : decode prog_4_method_14_code 74 = .ok (.iload_n 2, 1) := by decide +kernel
theorem d_G_allows_75 : decode prog_4_method_14_code 75 = .ok (.invokestatic 50, 3) := by decide +kernel
theorem d_G_allows_78 : decode prog_4_method_14_code 78 = .ok (.ireturn, 1) := by decide +kernel
theorem d_G_allows_79 : decode prog_4_method_14_code 79 = .ok (.iload_n 2, 1) := by decide +kernel
theorem d_G_allows_80 : decode prog_4_method_14_code 80 = .ok (.invokestatic 50, 3) := by decide +kernel
theorem d_G_allows_83 : decode prog_4_method_14_code 83 = .ok (.ifCond .eq 19, 3) := by decide +kernel
theorem d_G_allows_86 : decode prog_4_method_14_code 86 = .ok (.iload_n 3, 1) := by decide +kernel
theorem d_G_allows_87 : decode prog_4_method_14_code 87 = .ok (.invokestatic 50, 3) := by decide +kernel
theorem d_G_allows_90 : decode prog_4_method_14_code 90 = .ok (.ifCond .eq 12, 3) := by decide +kernel
theorem d_G_allows_93 : decode prog_4_method_14_code 93 = .ok (.iload_n 2, 1) := by decide +kernel
theorem d_G_allows_94 : decode prog_4_method_14_code 94 = .ok (.iload_n 3, 1) := by decide +kernel
theorem d_G_allows_95 : decode prog_4_method_14_code 95 = .ok (.if_icmp .gt 7, 3) := by decide +kernel
theorem d_G_allows_98 : decode prog_4_method_14_code 98 = .ok (.iconst 1, 1) := by decide +kernel
theorem d_G_allows_99 : decode prog_4_method_14_code 99 = .ok (.goto 4, 3) := by decide +kernel
theorem d_G_allows_102 : decode prog_4_method_14_code 102 = .ok (.iconst 0, 1) := by decide +kernel
theorem d_G_allows_103 : decode prog_4_method_14_code 103 = .ok (.ireturn, 1) := by decide +kernel
theorem d_G_allows_104 : decode prog_4_method_14_code 104 = .ok (.aload_n 0, 1) := by decide +kernel
theorem d_G_allows_105 : decode prog_4_method_14_code 105 = .ok (.iload_n 2, 1) := by decide +kernel
theorem d_G_allows_106 : decode prog_4_method_14_code 106 = .ok (.invokevirtual 53, 3) := by decide +kernel
theorem d_G_allows_109 : decode prog_4_method_14_code 109 = .ok (.ifCond .eq 23, 3) := by decide +kernel
theorem d_G_allows_112 : decode prog_4_method_14_code 112 = .ok (.aload_n 0, 1) := by decide +kernel
theorem d_G_allows_113 : decode prog_4_method_14_code 113 = .ok (.iload_n 3, 1) := by decide +kernel
theorem d_G_allows_114 : decode prog_4_method_14_code 114 = .ok (.invokevirtual 53, 3) := by decide +kernel
theorem d_G_allows_117 : decode prog_4_method_14_code 117 = .ok (.ifCond .eq 15, 3) := by decide +kernel
theorem d_G_allows_120 : decode prog_4_method_14_code 120 = .ok (.iload 4, 2) := by decide +kernel
theorem d_G_allows_122 : decode prog_4_method_14_code 122 = .ok (.invokestatic 56, 3) := by decide +kernel
theorem d_G_allows_125 : decode prog_4_method_14_code 125 = .ok (.ifCond .eq 7, 3) := by decide +kernel
theorem d_G_allows_128 : decode prog_4_method_14_code 128 = .ok (.iconst 1, 1) := by decide +kernel
theorem d_G_allows_129 : decode prog_4_method_14_code 129 = .ok (.goto 4, 3) := by decide +kernel
theorem d_G_allows_132 : decode prog_4_method_14_code 132 = .ok (.iconst 0, 1) := by decide +kernel
theorem d_G_allows_133 : decode prog_4_method_14_code 133 = .ok (.ireturn, 1) := by decide +kernel
theorem d_G_allows_134 : decode prog_4_method_14_code 134 = .ok (.aload_n 0, 1) := by decide +kernel
theorem d_G_allows_135 : decode prog_4_method_14_code 135 = .ok (.iload_n 2, 1) := by decide +kernel
theorem d_G_allows_136 : decode prog_4_method_14_code 136 = .ok (.invokevirtual 53, 3) := by decide +kernel
theorem d_G_allows_139 : decode prog_4_method_14_code 139 = .ok (.ifCond .eq 15, 3) := by decide +kernel
theorem d_G_allows_142 : decode prog_4_method_14_code 142 = .ok (.aload_n 0, 1) := by decide +kernel
theorem d_G_allows_143 : decode prog_4_method_14_code 143 = .ok (.iload_n 3, 1) := by decide +kernel
theorem d_G_allows_144 : decode prog_4_method_14_code 144 = .ok (.invokevirtual 53, 3) := by decide +kernel
theorem d_G_allows_147 : decode prog_4_method_14_code 147 = .ok (.ifCond .eq 7, 3) := by decide +kernel
theorem d_G_allows_150 : decode prog_4_method_14_code 150 = .ok (.iconst 1, 1) := by decide +kernel
theorem d_G_allows_151 : decode prog_4_method_14_code 151 = .ok (.goto 4, 3) := by decide +kernel
theorem d_G_allows_154 : decode prog_4_method_14_code 154 = .ok (.iconst 0, 1) := by decide +kernel
theorem d_G_allows_155 : decode prog_4_method_14_code 155 = .ok (.ireturn, 1) := by decide +kernel
theorem d_G_allows_156 : decode prog_4_method_14_code 156 = .ok (.aload_n 0, 1) := by decide +kernel
theorem d_G_allows_157 : decode prog_4_method_14_code 157 = .ok (.iload_n 2, 1) := by decide +kernel
theorem d_G_allows_158 : decode prog_4_method_14_code 158 = .ok (.invokevirtual 53, 3) := by decide +kernel
theorem d_G_allows_161 : decode prog_4_method_14_code 161 = .ok (.ireturn, 1) := by decide +kernel
theorem d_G_allows_162 : decode prog_4_method_14_code 162 = .ok (.aload_n 0, 1) := by decide +kernel
theorem d_G_allows_163 : decode prog_4_method_14_code 163 = .ok (.iload_n 2, 1) := by decide +kernel
theorem d_G_allows_164 : decode prog_4_method_14_code 164 = .ok (.invokevirtual 53, 3) := by decide +kernel
theorem d_G_allows_167 : decode prog_4_method_14_code 167 = .ok (.ifCond .eq 14, 3) := by decide +kernel
theorem d_G_allows_170 : decode prog_4_method_14_code 170 = .ok (.iload_n 3, 1) := by decide +kernel
theorem d_G_allows_171 : decode prog_4_method_14_code 171 = .ok (.invokestatic 56, 3) := by decide +kernel
theorem d_G_allows_174 : decode prog_4_method_14_code 174 = .ok (.ifCond .eq 7, 3) := by decide +kernel
theorem d_G_allows_177 : decode prog_4_method_14_code 177 = .ok (.iconst 1, 1) := by decide +kernel
theorem d_G_allows_178 : decode prog_4_method_14_code 178 = .ok (.goto 4, 3) := by decide +kernel
theorem d_G_allows_181 : decode prog_4_method_14_code 181 = .ok (.iconst 0, 1) := by decide +kernel
theorem d_G_allows_182 : decode prog_4_method_14_code 182 = .ok (.ireturn, 1) := by decide +kernel
theorem d_G_allows_183 : decode prog_4_method_14_code 183 = .ok (.aload_n 0, 1) := by decide +kernel
theorem d_G_allows_184 : decode prog_4_method_14_code 184 = .ok (.iload_n 2, 1) := by decide +kernel
theorem d_G_allows_185 : decode prog_4_method_14_code 185 = .ok (.invokevirtual 40, 3) := by decide +kernel
theorem d_G_allows_188 : decode prog_4_method_14_code 188 = .ok (.ireturn, 1) := by decide +kernel
theorem d_G_allows_189 : decode prog_4_method_14_code 189 = .ok (.aload_n 0, 1) := by decide +kernel
theorem d_G_allows_190 : decode prog_4_method_14_code 190 = .ok (.iload_n 2, 1) := by decide +kernel
theorem d_G_allows_191 : decode prog_4_method_14_code 191 = .ok (.invokevirtual 53, 3) := by decide +kernel
theorem d_G_allows_194 : decode prog_4_method_14_code 194 = .ok (.ifCond .eq 14, 3) := by decide +kernel
theorem d_G_allows_197 : decode prog_4_method_14_code 197 = .ok (.iload_n 3, 1) := by decide +kernel
theorem d_G_allows_198 : decode prog_4_method_14_code 198 = .ok (.invokestatic 59, 3) := by decide +kernel
theorem d_G_allows_201 : decode prog_4_method_14_code 201 = .ok (.ifCond .eq 7, 3) := by decide +kernel
theorem d_G_allows_204 : decode prog_4_method_14_code 204 = .ok (.iconst 1, 1) := by decide +kernel
theorem d_G_allows_205 : decode prog_4_method_14_code 205 = .ok (.goto 4, 3) := by decide +kernel
theorem d_G_allows_208 : decode prog_4_method_14_code 208 = .ok (.iconst 0, 1) := by decide +kernel
theorem d_G_allows_209 : decode prog_4_method_14_code 209 = .ok (.ireturn, 1) := by decide +kernel
theorem d_G_allows_210 : decode prog_4_method_14_code 210 = .ok (.iload_n 2, 1) := by decide +kernel
theorem d_G_allows_211 : decode prog_4_method_14_code 211 = .ok (.invokestatic 59, 3) := by decide +kernel
theorem d_G_allows_214 : decode prog_4_method_14_code 214 = .ok (.ireturn, 1) := by decide +kernel
theorem d_G_allows_215 : decode prog_4_method_14_code 215 = .ok (.iconst 0, 1) := by decide +kernel
theorem d_G_allows_216 : decode prog_4_method_14_code 216 = .ok (.ireturn, 1) := by decide +kernel
section RW
variable {p : Program} {l : Launch} {e : Env} {R : Room} {s : State} {m : MethodId} {args : Array Value} {below : List Frame} {meth : Method} {c : Code} {H : Heap} {locs : List Loc} {cells slots : Nat} {Q : State → Prop}
variable {cc : ByteArray} {pc : Nat} {ls : Array Slot} {rest : List Value} {dC : Nat → ClassId} {dI : Nat → Nat → Nat} {q : Nat → Nat} {cA : Nat → ClassId} {σ : MZ_} {H0 : Heap} {A : Nat → Prop}

theorem cw_G_50 (hts : ∀ w ∈ AW_, w.before args s = true) (hN : ∀ w ∈ NW_, va_Nw w s) (hR : rm_S_isSign.frames + 1 ≤ R.frames ∧ 8 + (1 + 11) + rm_S_isSign.locals ≤ R.locals) : va_CN R s args "StagedParsers$Grammar" 50 y_S_isSign "StagedParsers" prog_1_method_14_code 1 (some .boolean) w_S_isSign rm_S_isSign 0 0 1 ∧ (Cond.static y_S_isSign).before args s = true ∧ True :=
  ⟨va_cnB 1 hts (aw_in kw_434) rfl rfl rfl (hN _ (List.mem_of_getElem? (i := 5) rfl)) (hts _ kw_1) ⟨by decide, by decide, by decide +kernel⟩ hR, hts _ kw_433, trivial⟩
theorem cw_G_53 (hts : ∀ w ∈ AW_, w.before args s = true) (hR : rm_G_canBePart.frames + 1 ≤ R.frames ∧ 8 + (2 + 11) + rm_G_canBePart.locals ≤ R.locals) : CallW R s args "StagedParsers$Grammar" "StagedParsers$Grammar" 53 y_G_canBePart prog_4_method_16_code 2 (some .boolean) w_G_canBePart rm_G_canBePart 0 0 1 :=
  ⟨callB_of 1 hts (aw_in kw_438) rfl rfl rfl (hts _ kw_2) (hts _ kw_435) ⟨by decide, by decide, by decide +kernel⟩ hR, hts _ kw_437, hts _ ks_21⟩
theorem cw_G_56 (hts : ∀ w ∈ AW_, w.before args s = true) (hR : rm_G_isWay.frames + 1 ≤ R.frames ∧ 8 + (1 + 11) + rm_G_isWay.locals ≤ R.locals) : CallB R s args "StagedParsers$Grammar" 56 y_G_isWay prog_4_method_17_code 1 (some .boolean) w_G_isWay rm_G_isWay 0 0 1 ∧ (Cond.static y_G_isWay).before args s = true :=
  ⟨callB_of 1 hts (aw_in kw_441) rfl rfl rfl (hts _ kw_2) (hts _ kw_439) ⟨by decide, by decide, by decide +kernel⟩ hR, hts _ kw_440⟩
theorem cw_G_59 (hts : ∀ w ∈ AW_, w.before args s = true) (hN : ∀ w ∈ NW_, va_Nw w s) (hR : rm_S_isRegister.frames + 1 ≤ R.frames ∧ 8 + (1 + 11) + rm_S_isRegister.locals ≤ R.locals) : va_CN R s args "StagedParsers$Grammar" 59 y_S_isRegister "StagedParsers" prog_1_method_15_code 1 (some .boolean) w_S_isRegister rm_S_isRegister 0 0 1 ∧ (Cond.static y_S_isRegister).before args s = true ∧ True :=
  ⟨va_cnB 1 hts (aw_in kw_403) rfl rfl rfl (hN _ (List.mem_of_getElem? (i := 6) rfl)) (hts _ kw_1) ⟨by decide, by decide, by decide +kernel⟩ hR, hts _ kw_402, trivial⟩
end RW
def f_G_allows (σ : MZ_) (x1 : Int32) (x2 : Int32) (x3 : Int32) (x4 : Int32) : Option (Int32) :=
  if x1 = 0 then some 1
  else if x1 = 1 then (f_S_isSign x2).bind fun r1 => bo_ r1 (some r1)
  else if x1 = 2 then (f_S_isSign x2).bind fun r2 => if r2 = 0 then some 0
    else (f_S_isSign x3).bind fun r3 => if r3 = 0 then some 0
    else if x3 < x2 then some 0
    else some 1
  else if x1 = 3 then some 1
  else if x1 = 4 then (f_G_canBePart σ x2).bind fun r4 => if r4 = 0 then some 0
    else (f_G_canBePart σ x3).bind fun r5 => if r5 = 0 then some 0
    else (f_G_isWay x4).bind fun r6 => if r6 = 0 then some 0
    else some 1
  else if x1 = 5 then (f_G_canBePart σ x2).bind fun r7 => if r7 = 0 then some 0
    else (f_G_canBePart σ x3).bind fun r8 => if r8 = 0 then some 0
    else some 1
  else if x1 = 6 then (f_G_canBePart σ x2).bind fun r9 => bo_ r9 (some r9)
  else if x1 = 7 then (f_G_canBePart σ x2).bind fun r10 => bo_ r10 (some r10)
  else if x1 = 8 then (f_G_canBePart σ x2).bind fun r11 => bo_ r11 (some r11)
  else if x1 = 9 then (f_G_canBePart σ x2).bind fun r12 => if r12 = 0 then some 0
    else (f_G_isWay x3).bind fun r13 => if r13 = 0 then some 0
    else some 1
  else if x1 = 10 then (f_G_canBePart σ x2).bind fun r14 => if r14 = 0 then some 0
    else (f_G_canBePart σ x3).bind fun r15 => if r15 = 0 then some 0
    else some 1
  else if x1 = 11 then (f_G_isRule x2).bind fun r16 => bo_ r16 (some r16)
  else if x1 = 12 then (f_G_canBePart σ x2).bind fun r17 => if r17 = 0 then some 0
    else (f_S_isRegister x3).bind fun r18 => if r18 = 0 then some 0
    else some 1
  else if x1 = 13 then (f_S_isRegister x2).bind fun r19 => bo_ r19 (some r19)
  else some 0
set_option maxHeartbeats 4000000 in
set_option maxRecDepth 100000 in
theorem c_G_allows (l : Launch) (dC : Nat → ClassId) (dI : Nat → Nat → Nat) (q : Nat → Nat) (cA : Nat → ClassId) (pt : Nat) (σ : MZ_) (x1 : Int32) (x2 : Int32) (x3 : Int32) (x4 : Int32) (u : Int32) (h : f_G_allows σ x1 x2 x3 x4 = some u) : Met l y_G_allows w_G_allows rm_G_allows (va_Pc [.ref (q 1), .int x1, .int x2, .int x3, .int x4] (PX_ dC dI q cA pt σ)) (QcRead u) 0 0 (fun _ => False) := by
  refine Met.ofW (cc := prog_4_method_14_code) (maxL := 5) (ret := (some .boolean)) (by decide) rfl ?_
  intro p e s m args below meth c s₁ B hml hv
  obtain ⟨rfl, hP, hK, hD, hN, hZ⟩ := hv
  have hx := B.exec
  have hb := B.bytes
  have hr := B.returns
  have hts : ∀ w ∈ AW_, w.before _ s = true := fun w h => atoms_spec (ws := w_G_allows) B.pre w (List.mem_cons_of_mem _ h)
  have hown : s.vm.findClass "StagedParsers$Grammar" = some m.cls := findClass_of_methodNamed B.named
  have hlocks := B.notSynchronized
  have hS : va_S (AX q) s.heap s.heap [] := va_S.rf
  have hl := lv_entry ([.ref (q 1), .int x1, .int x2, .int x3, .int x4]) (n := 5) (Nat.le_of_ble_eq_true rfl)
  rw [lg_entry_eq]
  generalize (lg_sl ([.ref (q 1), .int x1, .int x2, .int x3, .int x4]) ++ List.replicate (5 - (lg_sl ([.ref (q 1), .int x1, .int x2, .int x3, .int x4])).length) Slot.unset).toArray = ls at hl ⊢
  have hl : lv_has ls 5 [(0, .ref (q 1)), (1, .int x1), (2, .int x2), (3, .int x3), (4, .int x4)] := hl
  rw [f_G_allows] at h
  refine lv_iload_n hx hb d_G_allows_0 rfl (lv_at hl 1 rfl) ?_
  by_cases hc0 : x1 = 0
  · have h := if_t hc0 h
    refine sw_in (tgt := 72) hx hb d_G_allows_1 hc0 (by decide) (by decide) rfl rfl ?_
    refine lv_iconst (v := 1) hx hb d_G_allows_72 (by decide) ?_
    obtain rfl := Option.some.inj h
    exact W.zret hx hb hr rfl (fun t ht hW => ⟨rfl, ht⟩) (fun _ h9 => nomatch h9) d_G_allows_73
  have h := if_f hc0 h
  by_cases hc1 : x1 = 1
  · have h := if_t hc1 h
    refine sw_in (tgt := 74) hx hb d_G_allows_1 hc1 (by decide) (by decide) rfl rfl ?_
    refine lv_iload_n hx hb d_G_allows_74 rfl (lv_at hl 2 rfl) ?_
    obtain ⟨r1, hcl, h⟩ := bd_some h
    refine cx_read (va_runSN (As := [.int x2]) (rest := []) ⟨hx, hb, hml, hown, hts⟩ (c_S_isSign l dC dI q cA pt σ x2 _ hcl) (cw_G_50 hts hN ⟨Nat.le_of_ble_eq_true rfl, Nat.le_of_ble_eq_true rfl⟩) ⟨pxX_B, pxX_U hP hK hD hN hZ hS⟩ rfl rfl hl.1 rfl (lv_room (Nat.le_of_ble_eq_true rfl)) d_G_allows_75 ⟨Nat.zero_le _, Nat.zero_le _⟩) ?_
    obtain ⟨hbo, h⟩ := bo_some h
    obtain rfl := Option.some.inj h
    exact W.zret hx hb hr (bo_nar hbo) (fun t ht hW => ⟨rfl, ht⟩) (fun _ h9 => nomatch h9) d_G_allows_78
  have h := if_f hc1 h
  by_cases hc2 : x1 = 2
  · have h := if_t hc2 h
    refine sw_in (tgt := 79) hx hb d_G_allows_1 hc2 (by decide) (by decide) rfl rfl ?_
    refine lv_iload_n hx hb d_G_allows_79 rfl (lv_at hl 2 rfl) ?_
    obtain ⟨r2, hcl, h⟩ := bd_some h
    refine cx_read (va_runSN (As := [.int x2]) (rest := []) ⟨hx, hb, hml, hown, hts⟩ (c_S_isSign l dC dI q cA pt σ x2 _ hcl) (cw_G_50 hts hN ⟨Nat.le_of_ble_eq_true rfl, Nat.le_of_ble_eq_true rfl⟩) ⟨pxX_B, pxX_U hP hK hD hN hZ hS⟩ rfl rfl hl.1 rfl (lv_room (Nat.le_of_ble_eq_true rfl)) d_G_allows_80 ⟨Nat.zero_le _, Nat.zero_le _⟩) ?_
    refine lv_if_eq (tgt := 102) hx hb d_G_allows_83 rfl (fun hc => ?_) (fun hc => ?_)
    · have h := if_t hc h
      refine lv_iconst (v := 0) hx hb d_G_allows_102 (by decide) ?_
      obtain rfl := Option.some.inj h
      exact W.zret hx hb hr rfl (fun t ht hW => ⟨rfl, ht⟩) (fun _ h9 => nomatch h9) d_G_allows_103
    · have h := if_f hc h
      refine lv_iload_n hx hb d_G_allows_86 rfl (lv_at hl 3 rfl) ?_
      obtain ⟨r3, hcl, h⟩ := bd_some h
      refine cx_read (va_runSN (As := [.int x3]) (rest := []) ⟨hx, hb, hml, hown, hts⟩ (c_S_isSign l dC dI q cA pt σ x3 _ hcl) (cw_G_50 hts hN ⟨Nat.le_of_ble_eq_true rfl, Nat.le_of_ble_eq_true rfl⟩) ⟨pxX_B, pxX_U hP hK hD hN hZ hS⟩ rfl rfl hl.1 rfl (lv_room (Nat.le_of_ble_eq_true rfl)) d_G_allows_87 ⟨Nat.zero_le _, Nat.zero_le _⟩) ?_
      refine lv_if_eq (tgt := 102) hx hb d_G_allows_90 rfl (fun hc => ?_) (fun hc => ?_)
      · have h := if_t hc h
        refine lv_iconst (v := 0) hx hb d_G_allows_102 (by decide) ?_
        obtain rfl := Option.some.inj h
        exact W.zret hx hb hr rfl (fun t ht hW => ⟨rfl, ht⟩) (fun _ h9 => nomatch h9) d_G_allows_103
      · have h := if_f hc h
        refine lv_iload_n hx hb d_G_allows_93 rfl (lv_at hl 2 rfl) ?_
        refine lv_iload_n hx hb d_G_allows_94 rfl (lv_at hl 3 rfl) ?_
        refine lv_icmp_gt (tgt := 102) hx hb d_G_allows_95 rfl (fun hc => ?_) (fun hc => ?_)
        · have h := if_t hc h
          refine lv_iconst (v := 0) hx hb d_G_allows_102 (by decide) ?_
          obtain rfl := Option.some.inj h
          exact W.zret hx hb hr rfl (fun t ht hW => ⟨rfl, ht⟩) (fun _ h9 => nomatch h9) d_G_allows_103
        · have h := if_f hc h
          refine lv_iconst (v := 1) hx hb d_G_allows_98 (by decide) ?_
          refine lv_goto (tgt := 103) hx hb d_G_allows_99 rfl ?_
          obtain rfl := Option.some.inj h
          exact W.zret hx hb hr rfl (fun t ht hW => ⟨rfl, ht⟩) (fun _ h9 => nomatch h9) d_G_allows_103
  have h := if_f hc2 h
  by_cases hc3 : x1 = 3
  · have h := if_t hc3 h
    refine sw_in (tgt := 72) hx hb d_G_allows_1 hc3 (by decide) (by decide) rfl rfl ?_
    refine lv_iconst (v := 1) hx hb d_G_allows_72 (by decide) ?_
    obtain rfl := Option.some.inj h
    exact W.zret hx hb hr rfl (fun t ht hW => ⟨rfl, ht⟩) (fun _ h9 => nomatch h9) d_G_allows_73
  have h := if_f hc3 h
  by_cases hc4 : x1 = 4
  · have h := if_t hc4 h
    refine sw_in (tgt := 104) hx hb d_G_allows_1 hc4 (by decide) (by decide) rfl rfl ?_
    refine lv_aload_n hx hb d_G_allows_104 rfl (lv_at hl 0 rfl) ?_
    refine lv_iload_n hx hb d_G_allows_105 rfl (lv_at hl 2 rfl) ?_
    obtain ⟨r4, hcl, h⟩ := bd_some h
    refine cx_read (va_runV (As := [.int x2]) (rest := []) ⟨hx, hb, hml, hown, hts⟩ (c_G_canBePart l dC dI q cA pt σ x2 _ hcl) (cw_G_53 hts ⟨Nat.le_of_ble_eq_true rfl, Nat.le_of_ble_eq_true rfl⟩) ⟨pxX_B, va_recv hK hP (ci := 1) (q0 := 1) rfl rfl, pxX_U hP hK hD hN hZ hS⟩ rfl rfl hl.1 rfl (lv_room (Nat.le_of_ble_eq_true rfl)) d_G_allows_106 ⟨Nat.zero_le _, Nat.zero_le _⟩) ?_
    refine lv_if_eq (tgt := 132) hx hb d_G_allows_109 rfl (fun hc => ?_) (fun hc => ?_)
    · have h := if_t hc h
      refine lv_iconst (v := 0) hx hb d_G_allows_132 (by decide) ?_
      obtain rfl := Option.some.inj h
      exact W.zret hx hb hr rfl (fun t ht hW => ⟨rfl, ht⟩) (fun _ h9 => nomatch h9) d_G_allows_133
    · have h := if_f hc h
      refine lv_aload_n hx hb d_G_allows_112 rfl (lv_at hl 0 rfl) ?_
      refine lv_iload_n hx hb d_G_allows_113 rfl (lv_at hl 3 rfl) ?_
      obtain ⟨r5, hcl, h⟩ := bd_some h
      refine cx_read (va_runV (As := [.int x3]) (rest := []) ⟨hx, hb, hml, hown, hts⟩ (c_G_canBePart l dC dI q cA pt σ x3 _ hcl) (cw_G_53 hts ⟨Nat.le_of_ble_eq_true rfl, Nat.le_of_ble_eq_true rfl⟩) ⟨pxX_B, va_recv hK hP (ci := 1) (q0 := 1) rfl rfl, pxX_U hP hK hD hN hZ hS⟩ rfl rfl hl.1 rfl (lv_room (Nat.le_of_ble_eq_true rfl)) d_G_allows_114 ⟨Nat.zero_le _, Nat.zero_le _⟩) ?_
      refine lv_if_eq (tgt := 132) hx hb d_G_allows_117 rfl (fun hc => ?_) (fun hc => ?_)
      · have h := if_t hc h
        refine lv_iconst (v := 0) hx hb d_G_allows_132 (by decide) ?_
        obtain rfl := Option.some.inj h
        exact W.zret hx hb hr rfl (fun t ht hW => ⟨rfl, ht⟩) (fun _ h9 => nomatch h9) d_G_allows_133
      · have h := if_f hc h
        refine lv_iload hx hb d_G_allows_120 (lv_at hl 4 rfl) ?_
        obtain ⟨r6, hcl, h⟩ := bd_some h
        refine cx_read (va_runS (As := [.int x4]) (rest := []) ⟨hx, hb, hml, hown, hts⟩ (c_G_isWay l dC dI q cA pt σ x4 _ hcl) (cw_G_56 hts ⟨Nat.le_of_ble_eq_true rfl, Nat.le_of_ble_eq_true rfl⟩) ⟨pxX_B, pxX_U hP hK hD hN hZ hS⟩ rfl rfl hl.1 rfl (lv_room (Nat.le_of_ble_eq_true rfl)) d_G_allows_122 ⟨Nat.zero_le _, Nat.zero_le _⟩) ?_
        refine lv_if_eq (tgt := 132) hx hb d_G_allows_125 rfl (fun hc => ?_) (fun hc => ?_)
        · have h := if_t hc h
          refine lv_iconst (v := 0) hx hb d_G_allows_132 (by decide) ?_
          obtain rfl := Option.some.inj h
          exact W.zret hx hb hr rfl (fun t ht hW => ⟨rfl, ht⟩) (fun _ h9 => nomatch h9) d_G_allows_133
        · have h := if_f hc h
          refine lv_iconst (v := 1) hx hb d_G_allows_128 (by decide) ?_
          refine lv_goto (tgt := 133) hx hb d_G_allows_129 rfl ?_
          obtain rfl := Option.some.inj h
          exact W.zret hx hb hr rfl (fun t ht hW => ⟨rfl, ht⟩) (fun _ h9 => nomatch h9) d_G_allows_133
  have h := if_f hc4 h
  by_cases hc5 : x1 = 5
  · have h := if_t hc5 h
    refine sw_in (tgt := 134) hx hb d_G_allows_1 hc5 (by decide) (by decide) rfl rfl ?_
    refine lv_aload_n hx hb d_G_allows_134 rfl (lv_at hl 0 rfl) ?_
    refine lv_iload_n hx hb d_G_allows_135 rfl (lv_at hl 2 rfl) ?_
    obtain ⟨r7, hcl, h⟩ := bd_some h
    refine cx_read (va_runV (As := [.int x2]) (rest := []) ⟨hx, hb, hml, hown, hts⟩ (c_G_canBePart l dC dI q cA pt σ x2 _ hcl) (cw_G_53 hts ⟨Nat.le_of_ble_eq_true rfl, Nat.le_of_ble_eq_true rfl⟩) ⟨pxX_B, va_recv hK hP (ci := 1) (q0 := 1) rfl rfl, pxX_U hP hK hD hN hZ hS⟩ rfl rfl hl.1 rfl (lv_room (Nat.le_of_ble_eq_true rfl)) d_G_allows_136 ⟨Nat.zero_le _, Nat.zero_le _⟩) ?_
    refine lv_if_eq (tgt := 154) hx hb d_G_allows_139 rfl (fun hc => ?_) (fun hc => ?_)
    · have h := if_t hc h
      refine lv_iconst (v := 0) hx hb d_G_allows_154 (by decide) ?_
      obtain rfl := Option.some.inj h
      exact W.zret hx hb hr rfl (fun t ht hW => ⟨rfl, ht⟩) (fun _ h9 => nomatch h9) d_G_allows_155
    · have h := if_f hc h
      refine lv_aload_n hx hb d_G_allows_142 rfl (lv_at hl 0 rfl) ?_
      refine lv_iload_n hx hb d_G_allows_143 rfl (lv_at hl 3 rfl) ?_
      obtain ⟨r8, hcl, h⟩ := bd_some h
      refine cx_read (va_runV (As := [.int x3]) (rest := []) ⟨hx, hb, hml, hown, hts⟩ (c_G_canBePart l dC dI q cA pt σ x3 _ hcl) (cw_G_53 hts ⟨Nat.le_of_ble_eq_true rfl, Nat.le_of_ble_eq_true rfl⟩) ⟨pxX_B, va_recv hK hP (ci := 1) (q0 := 1) rfl rfl, pxX_U hP hK hD hN hZ hS⟩ rfl rfl hl.1 rfl (lv_room (Nat.le_of_ble_eq_true rfl)) d_G_allows_144 ⟨Nat.zero_le _, Nat.zero_le _⟩) ?_
      refine lv_if_eq (tgt := 154) hx hb d_G_allows_147 rfl (fun hc => ?_) (fun hc => ?_)
      · have h := if_t hc h
        refine lv_iconst (v := 0) hx hb d_G_allows_154 (by decide) ?_
        obtain rfl := Option.some.inj h
        exact W.zret hx hb hr rfl (fun t ht hW => ⟨rfl, ht⟩) (fun _ h9 => nomatch h9) d_G_allows_155
      · have h := if_f hc h
        refine lv_iconst (v := 1) hx hb d_G_allows_150 (by decide) ?_
        refine lv_goto (tgt := 155) hx hb d_G_allows_151 rfl ?_
        obtain rfl := Option.some.inj h
        exact W.zret hx hb hr rfl (fun t ht hW => ⟨rfl, ht⟩) (fun _ h9 => nomatch h9) d_G_allows_155
  have h := if_f hc5 h
  by_cases hc6 : x1 = 6
  · have h := if_t hc6 h
    refine sw_in (tgt := 156) hx hb d_G_allows_1 hc6 (by decide) (by decide) rfl rfl ?_
    refine lv_aload_n hx hb d_G_allows_156 rfl (lv_at hl 0 rfl) ?_
    refine lv_iload_n hx hb d_G_allows_157 rfl (lv_at hl 2 rfl) ?_
    obtain ⟨r9, hcl, h⟩ := bd_some h
    refine cx_read (va_runV (As := [.int x2]) (rest := []) ⟨hx, hb, hml, hown, hts⟩ (c_G_canBePart l dC dI q cA pt σ x2 _ hcl) (cw_G_53 hts ⟨Nat.le_of_ble_eq_true rfl, Nat.le_of_ble_eq_true rfl⟩) ⟨pxX_B, va_recv hK hP (ci := 1) (q0 := 1) rfl rfl, pxX_U hP hK hD hN hZ hS⟩ rfl rfl hl.1 rfl (lv_room (Nat.le_of_ble_eq_true rfl)) d_G_allows_158 ⟨Nat.zero_le _, Nat.zero_le _⟩) ?_
    obtain ⟨hbo, h⟩ := bo_some h
    obtain rfl := Option.some.inj h
    exact W.zret hx hb hr (bo_nar hbo) (fun t ht hW => ⟨rfl, ht⟩) (fun _ h9 => nomatch h9) d_G_allows_161
  have h := if_f hc6 h
  by_cases hc7 : x1 = 7
  · have h := if_t hc7 h
    refine sw_in (tgt := 156) hx hb d_G_allows_1 hc7 (by decide) (by decide) rfl rfl ?_
    refine lv_aload_n hx hb d_G_allows_156 rfl (lv_at hl 0 rfl) ?_
    refine lv_iload_n hx hb d_G_allows_157 rfl (lv_at hl 2 rfl) ?_
    obtain ⟨r10, hcl, h⟩ := bd_some h
    refine cx_read (va_runV (As := [.int x2]) (rest := []) ⟨hx, hb, hml, hown, hts⟩ (c_G_canBePart l dC dI q cA pt σ x2 _ hcl) (cw_G_53 hts ⟨Nat.le_of_ble_eq_true rfl, Nat.le_of_ble_eq_true rfl⟩) ⟨pxX_B, va_recv hK hP (ci := 1) (q0 := 1) rfl rfl, pxX_U hP hK hD hN hZ hS⟩ rfl rfl hl.1 rfl (lv_room (Nat.le_of_ble_eq_true rfl)) d_G_allows_158 ⟨Nat.zero_le _, Nat.zero_le _⟩) ?_
    obtain ⟨hbo, h⟩ := bo_some h
    obtain rfl := Option.some.inj h
    exact W.zret hx hb hr (bo_nar hbo) (fun t ht hW => ⟨rfl, ht⟩) (fun _ h9 => nomatch h9) d_G_allows_161
  have h := if_f hc7 h
  by_cases hc8 : x1 = 8
  · have h := if_t hc8 h
    refine sw_in (tgt := 156) hx hb d_G_allows_1 hc8 (by decide) (by decide) rfl rfl ?_
    refine lv_aload_n hx hb d_G_allows_156 rfl (lv_at hl 0 rfl) ?_
    refine lv_iload_n hx hb d_G_allows_157 rfl (lv_at hl 2 rfl) ?_
    obtain ⟨r11, hcl, h⟩ := bd_some h
    refine cx_read (va_runV (As := [.int x2]) (rest := []) ⟨hx, hb, hml, hown, hts⟩ (c_G_canBePart l dC dI q cA pt σ x2 _ hcl) (cw_G_53 hts ⟨Nat.le_of_ble_eq_true rfl, Nat.le_of_ble_eq_true rfl⟩) ⟨pxX_B, va_recv hK hP (ci := 1) (q0 := 1) rfl rfl, pxX_U hP hK hD hN hZ hS⟩ rfl rfl hl.1 rfl (lv_room (Nat.le_of_ble_eq_true rfl)) d_G_allows_158 ⟨Nat.zero_le _, Nat.zero_le _⟩) ?_
    obtain ⟨hbo, h⟩ := bo_some h
    obtain rfl := Option.some.inj h
    exact W.zret hx hb hr (bo_nar hbo) (fun t ht hW => ⟨rfl, ht⟩) (fun _ h9 => nomatch h9) d_G_allows_161
  have h := if_f hc8 h
  by_cases hc9 : x1 = 9
  · have h := if_t hc9 h
    refine sw_in (tgt := 162) hx hb d_G_allows_1 hc9 (by decide) (by decide) rfl rfl ?_
    refine lv_aload_n hx hb d_G_allows_162 rfl (lv_at hl 0 rfl) ?_
    refine lv_iload_n hx hb d_G_allows_163 rfl (lv_at hl 2 rfl) ?_
    obtain ⟨r12, hcl, h⟩ := bd_some h
    refine cx_read (va_runV (As := [.int x2]) (rest := []) ⟨hx, hb, hml, hown, hts⟩ (c_G_canBePart l dC dI q cA pt σ x2 _ hcl) (cw_G_53 hts ⟨Nat.le_of_ble_eq_true rfl, Nat.le_of_ble_eq_true rfl⟩) ⟨pxX_B, va_recv hK hP (ci := 1) (q0 := 1) rfl rfl, pxX_U hP hK hD hN hZ hS⟩ rfl rfl hl.1 rfl (lv_room (Nat.le_of_ble_eq_true rfl)) d_G_allows_164 ⟨Nat.zero_le _, Nat.zero_le _⟩) ?_
    refine lv_if_eq (tgt := 181) hx hb d_G_allows_167 rfl (fun hc => ?_) (fun hc => ?_)
    · have h := if_t hc h
      refine lv_iconst (v := 0) hx hb d_G_allows_181 (by decide) ?_
      obtain rfl := Option.some.inj h
      exact W.zret hx hb hr rfl (fun t ht hW => ⟨rfl, ht⟩) (fun _ h9 => nomatch h9) d_G_allows_182
    · have h := if_f hc h
      refine lv_iload_n hx hb d_G_allows_170 rfl (lv_at hl 3 rfl) ?_
      obtain ⟨r13, hcl, h⟩ := bd_some h
      refine cx_read (va_runS (As := [.int x3]) (rest := []) ⟨hx, hb, hml, hown, hts⟩ (c_G_isWay l dC dI q cA pt σ x3 _ hcl) (cw_G_56 hts ⟨Nat.le_of_ble_eq_true rfl, Nat.le_of_ble_eq_true rfl⟩) ⟨pxX_B, pxX_U hP hK hD hN hZ hS⟩ rfl rfl hl.1 rfl (lv_room (Nat.le_of_ble_eq_true rfl)) d_G_allows_171 ⟨Nat.zero_le _, Nat.zero_le _⟩) ?_
      refine lv_if_eq (tgt := 181) hx hb d_G_allows_174 rfl (fun hc => ?_) (fun hc => ?_)
      · have h := if_t hc h
        refine lv_iconst (v := 0) hx hb d_G_allows_181 (by decide) ?_
        obtain rfl := Option.some.inj h
        exact W.zret hx hb hr rfl (fun t ht hW => ⟨rfl, ht⟩) (fun _ h9 => nomatch h9) d_G_allows_182
      · have h := if_f hc h
        refine lv_iconst (v := 1) hx hb d_G_allows_177 (by decide) ?_
        refine lv_goto (tgt := 182) hx hb d_G_allows_178 rfl ?_
        obtain rfl := Option.some.inj h
        exact W.zret hx hb hr rfl (fun t ht hW => ⟨rfl, ht⟩) (fun _ h9 => nomatch h9) d_G_allows_182
  have h := if_f hc9 h
  by_cases hc10 : x1 = 10
  · have h := if_t hc10 h
    refine sw_in (tgt := 134) hx hb d_G_allows_1 hc10 (by decide) (by decide) rfl rfl ?_
    refine lv_aload_n hx hb d_G_allows_134 rfl (lv_at hl 0 rfl) ?_
    refine lv_iload_n hx hb d_G_allows_135 rfl (lv_at hl 2 rfl) ?_
    obtain ⟨r14, hcl, h⟩ := bd_some h
    refine cx_read (va_runV (As := [.int x2]) (rest := []) ⟨hx, hb, hml, hown, hts⟩ (c_G_canBePart l dC dI q cA pt σ x2 _ hcl) (cw_G_53 hts ⟨Nat.le_of_ble_eq_true rfl, Nat.le_of_ble_eq_true rfl⟩) ⟨pxX_B, va_recv hK hP (ci := 1) (q0 := 1) rfl rfl, pxX_U hP hK hD hN hZ hS⟩ rfl rfl hl.1 rfl (lv_room (Nat.le_of_ble_eq_true rfl)) d_G_allows_136 ⟨Nat.zero_le _, Nat.zero_le _⟩) ?_
    refine lv_if_eq (tgt := 154) hx hb d_G_allows_139 rfl (fun hc => ?_) (fun hc => ?_)
    · have h := if_t hc h
      refine lv_iconst (v := 0) hx hb d_G_allows_154 (by decide) ?_
      obtain rfl := Option.some.inj h
      exact W.zret hx hb hr rfl (fun t ht hW => ⟨rfl, ht⟩) (fun _ h9 => nomatch h9) d_G_allows_155
    · have h := if_f hc h
      refine lv_aload_n hx hb d_G_allows_142 rfl (lv_at hl 0 rfl) ?_
      refine lv_iload_n hx hb d_G_allows_143 rfl (lv_at hl 3 rfl) ?_
      obtain ⟨r15, hcl, h⟩ := bd_some h
      refine cx_read (va_runV (As := [.int x3]) (rest := []) ⟨hx, hb, hml, hown, hts⟩ (c_G_canBePart l dC dI q cA pt σ x3 _ hcl) (cw_G_53 hts ⟨Nat.le_of_ble_eq_true rfl, Nat.le_of_ble_eq_true rfl⟩) ⟨pxX_B, va_recv hK hP (ci := 1) (q0 := 1) rfl rfl, pxX_U hP hK hD hN hZ hS⟩ rfl rfl hl.1 rfl (lv_room (Nat.le_of_ble_eq_true rfl)) d_G_allows_144 ⟨Nat.zero_le _, Nat.zero_le _⟩) ?_
      refine lv_if_eq (tgt := 154) hx hb d_G_allows_147 rfl (fun hc => ?_) (fun hc => ?_)
      · have h := if_t hc h
        refine lv_iconst (v := 0) hx hb d_G_allows_154 (by decide) ?_
        obtain rfl := Option.some.inj h
        exact W.zret hx hb hr rfl (fun t ht hW => ⟨rfl, ht⟩) (fun _ h9 => nomatch h9) d_G_allows_155
      · have h := if_f hc h
        refine lv_iconst (v := 1) hx hb d_G_allows_150 (by decide) ?_
        refine lv_goto (tgt := 155) hx hb d_G_allows_151 rfl ?_
        obtain rfl := Option.some.inj h
        exact W.zret hx hb hr rfl (fun t ht hW => ⟨rfl, ht⟩) (fun _ h9 => nomatch h9) d_G_allows_155
  have h := if_f hc10 h
  by_cases hc11 : x1 = 11
  · have h := if_t hc11 h
    refine sw_in (tgt := 183) hx hb d_G_allows_1 hc11 (by decide) (by decide) rfl rfl ?_
    refine lv_aload_n hx hb d_G_allows_183 rfl (lv_at hl 0 rfl) ?_
    refine lv_iload_n hx hb d_G_allows_184 rfl (lv_at hl 2 rfl) ?_
    obtain ⟨r16, hcl, h⟩ := bd_some h
    refine cx_read (va_runV (As := [.int x2]) (rest := []) ⟨hx, hb, hml, hown, hts⟩ (c_G_isRule l dC dI q cA pt σ x2 _ hcl) (cw_G_40 hts ⟨Nat.le_of_ble_eq_true rfl, Nat.le_of_ble_eq_true rfl⟩) ⟨pxX_B, va_recv hK hP (ci := 1) (q0 := 1) rfl rfl, pxX_U hP hK hD hN hZ hS⟩ rfl rfl hl.1 rfl (lv_room (Nat.le_of_ble_eq_true rfl)) d_G_allows_185 ⟨Nat.zero_le _, Nat.zero_le _⟩) ?_
    obtain ⟨hbo, h⟩ := bo_some h
    obtain rfl := Option.some.inj h
    exact W.zret hx hb hr (bo_nar hbo) (fun t ht hW => ⟨rfl, ht⟩) (fun _ h9 => nomatch h9) d_G_allows_188
  have h := if_f hc11 h
  by_cases hc12 : x1 = 12
  · have h := if_t hc12 h
    refine sw_in (tgt := 189) hx hb d_G_allows_1 hc12 (by decide) (by decide) rfl rfl ?_
    refine lv_aload_n hx hb d_G_allows_189 rfl (lv_at hl 0 rfl) ?_
    refine lv_iload_n hx hb d_G_allows_190 rfl (lv_at hl 2 rfl) ?_
    obtain ⟨r17, hcl, h⟩ := bd_some h
    refine cx_read (va_runV (As := [.int x2]) (rest := []) ⟨hx, hb, hml, hown, hts⟩ (c_G_canBePart l dC dI q cA pt σ x2 _ hcl) (cw_G_53 hts ⟨Nat.le_of_ble_eq_true rfl, Nat.le_of_ble_eq_true rfl⟩) ⟨pxX_B, va_recv hK hP (ci := 1) (q0 := 1) rfl rfl, pxX_U hP hK hD hN hZ hS⟩ rfl rfl hl.1 rfl (lv_room (Nat.le_of_ble_eq_true rfl)) d_G_allows_191 ⟨Nat.zero_le _, Nat.zero_le _⟩) ?_
    refine lv_if_eq (tgt := 208) hx hb d_G_allows_194 rfl (fun hc => ?_) (fun hc => ?_)
    · have h := if_t hc h
      refine lv_iconst (v := 0) hx hb d_G_allows_208 (by decide) ?_
      obtain rfl := Option.some.inj h
      exact W.zret hx hb hr rfl (fun t ht hW => ⟨rfl, ht⟩) (fun _ h9 => nomatch h9) d_G_allows_209
    · have h := if_f hc h
      refine lv_iload_n hx hb d_G_allows_197 rfl (lv_at hl 3 rfl) ?_
      obtain ⟨r18, hcl, h⟩ := bd_some h
      refine cx_read (va_runSN (As := [.int x3]) (rest := []) ⟨hx, hb, hml, hown, hts⟩ (c_S_isRegister l dC dI q cA pt σ x3 _ hcl) (cw_G_59 hts hN ⟨Nat.le_of_ble_eq_true rfl, Nat.le_of_ble_eq_true rfl⟩) ⟨pxX_B, pxX_U hP hK hD hN hZ hS⟩ rfl rfl hl.1 rfl (lv_room (Nat.le_of_ble_eq_true rfl)) d_G_allows_198 ⟨Nat.zero_le _, Nat.zero_le _⟩) ?_
      refine lv_if_eq (tgt := 208) hx hb d_G_allows_201 rfl (fun hc => ?_) (fun hc => ?_)
      · have h := if_t hc h
        refine lv_iconst (v := 0) hx hb d_G_allows_208 (by decide) ?_
        obtain rfl := Option.some.inj h
        exact W.zret hx hb hr rfl (fun t ht hW => ⟨rfl, ht⟩) (fun _ h9 => nomatch h9) d_G_allows_209
      · have h := if_f hc h
        refine lv_iconst (v := 1) hx hb d_G_allows_204 (by decide) ?_
        refine lv_goto (tgt := 209) hx hb d_G_allows_205 rfl ?_
        obtain rfl := Option.some.inj h
        exact W.zret hx hb hr rfl (fun t ht hW => ⟨rfl, ht⟩) (fun _ h9 => nomatch h9) d_G_allows_209
  have h := if_f hc12 h
  by_cases hc13 : x1 = 13
  · have h := if_t hc13 h
    refine sw_in (tgt := 210) hx hb d_G_allows_1 hc13 (by decide) (by decide) rfl rfl ?_
    refine lv_iload_n hx hb d_G_allows_210 rfl (lv_at hl 2 rfl) ?_
    obtain ⟨r19, hcl, h⟩ := bd_some h
    refine cx_read (va_runSN (As := [.int x2]) (rest := []) ⟨hx, hb, hml, hown, hts⟩ (c_S_isRegister l dC dI q cA pt σ x2 _ hcl) (cw_G_59 hts hN ⟨Nat.le_of_ble_eq_true rfl, Nat.le_of_ble_eq_true rfl⟩) ⟨pxX_B, pxX_U hP hK hD hN hZ hS⟩ rfl rfl hl.1 rfl (lv_room (Nat.le_of_ble_eq_true rfl)) d_G_allows_211 ⟨Nat.zero_le _, Nat.zero_le _⟩) ?_
    obtain ⟨hbo, h⟩ := bo_some h
    obtain rfl := Option.some.inj h
    exact W.zret hx hb hr (bo_nar hbo) (fun t ht hW => ⟨rfl, ht⟩) (fun _ h9 => nomatch h9) d_G_allows_214
  have h := if_f hc13 h
  refine lv_tableOut (tgt := 215) hx hb d_G_allows_1 (by have q0 := lv_neT hc0 (a := 0) (by decide); have q1 := lv_neT hc1 (a := 1) (by decide); have q2 := lv_neT hc2 (a := 2) (by decide); have q3 := lv_neT hc3 (a := 3) (by decide); have q4 := lv_neT hc4 (a := 4) (by decide); have q5 := lv_neT hc5 (a := 5) (by decide); have q6 := lv_neT hc6 (a := 6) (by decide); have q7 := lv_neT hc7 (a := 7) (by decide); have q8 := lv_neT hc8 (a := 8) (by decide); have q9 := lv_neT hc9 (a := 9) (by decide); have q10 := lv_neT hc10 (a := 10) (by decide); have q11 := lv_neT hc11 (a := 11) (by decide); have q12 := lv_neT hc12 (a := 12) (by decide); have q13 := lv_neT hc13 (a := 13) (by decide); omega) rfl ?_
  refine lv_iconst (v := 0) hx hb d_G_allows_215 (by decide) ?_
  obtain rfl := Option.some.inj h
  exact W.zret hx hb hr rfl (fun t ht hW => ⟨rfl, ht⟩) (fun _ h9 => nomatch h9) d_G_allows_216
def y_G_add : MethodName := ⟨"StagedParsers$Grammar", "add", "(IIII)I"⟩
def w_G_add : List Cond := .code y_G_add prog_4_method_15_code 6 (some .int) :: AW_
def rm_G_add : Room := { frames := 3, cells := 0, slots := 0, locals := 66 }
theorem d_G_add_0 : decode prog_4_method_15_code 0 = .ok (.aload_n 0, 1) := by decide +kernel
theorem d_G_add_1 : decode prog_4_method_15_code 1 = .ok (.invokevirtual 62, 3) := by decide +kernel
theorem d_G_add_4 : decode prog_4_method_15_code 4 = .ok (.ifCond .ne 15, 3) := by decide +kernel
theorem d_G_add_7 : decode prog_4_method_15_code 7 = .ok (.aload_n 0, 1) := by decide +kernel
theorem d_G_add_8 : decode prog_4_method_15_code 8 = .ok (.iload_n 1, 1) := by decide +kernel
theorem d_G_add_9 : decode prog_4_method_15_code 9 = .ok (.iload_n 2, 1) := by decide +kernel
theorem d_G_add_10 : decode prog_4_method_15_code 10 = .ok (.iload_n 3, 1) := by decide +kernel
theorem d_G_add_11 : decode prog_4_method_15_code 11 = .ok (.iload 4, 2) := by decide +kernel
theorem d_G_add_13 : decode prog_4_method_15_code 13 = .ok (.invokevirtual 66, 3) := by decide +kernel
theorem d_G_add_16 : decode prog_4_method_15_code 16 = .ok (.ifCond .ne 5, 3) := by decide +kernel
theorem d_G_add_19 : decode prog_4_method_15_code 19 = .ok (.iconst (-1), 1) := by decide +kernel
theorem d_G_add_20 : decode prog_4_method_15_code 20 = .ok (.ireturn, 1) := by decide +kernel
theorem d_G_add_21 : decode prog_4_method_15_code 21 = .ok (.aload_n 0, 1) := by decide +kernel
theorem d_G_add_22 : decode prog_4_method_15_code 22 = .ok (.getfield 36, 3) := by decide +kernel
theorem d_G_add_25 : decode prog_4_method_15_code 25 = .ok (.istore 5, 2) := by decide +kernel
theorem d_G_add_27 : decode prog_4_method_15_code 27 = .ok (.aload_n 0, 1) := by decide +kernel
theorem d_G_add_28 : decode prog_4_method_15_code 28 = .ok (.getfield 9, 3) := by decide +kernel
theorem d_G_add_31 : decode prog_4_method_15_code 31 = .ok (.iload 5, 2) := by decide +kernel
theorem d_G_add_33 : decode prog_4_method_15_code 33 = .ok (.iload_n 1, 1) := by decide +kernel
theorem d_G_add_34 : decode prog_4_method_15_code 34 = .ok (.iastore, 1) := by decide +kernel
theorem d_G_add_35 : decode prog_4_method_15_code 35 = .ok (.aload_n 0, 1) := by decide +kernel
theorem d_G_add_36 : decode prog_4_method_15_code 36 = .ok (.getfield 15, 3) := by decide +kernel
theorem d_G_add_39 : decode prog_4_method_15_code 39 = .ok (.iload 5, 2) := by decide +kernel
theorem d_G_add_41 : decode prog_4_method_15_code 41 = .ok (.iload_n 2, 1) := by decide +kernel
theorem d_G_add_42 : decode prog_4_method_15_code 42 = .ok (.iastore, 1) := by decide +kernel
theorem d_G_add_43 : decode prog_4_method_15_code 43 = .ok (.aload_n 0, 1) := by decide +kernel
theorem d_G_add_44 : decode prog_4_method_15_code 44 = .ok (.getfield 18, 3) := by decide +kernel
theorem d_G_add_47 : decode prog_4_method_15_code 47 = .ok (.iload 5, 2) := by decide +kernel
theorem d_G_add_49 : decode prog_4_method_15_code 49 = .ok (.iload_n 3, 1) := by decide +kernel
theorem d_G_add_50 : decode prog_4_method_15_code 50 = .ok (.iastore, 1) := by decide +kernel
theorem d_G_add_51 : decode prog_4_method_15_code 51 = .ok (.aload_n 0, 1) := by decide +kernel
theorem d_G_add_52 : decode prog_4_method_15_code 52 = .ok (.getfield 21, 3) := by decide +kernel
theorem d_G_add_55 : decode prog_4_method_15_code 55 = .ok (.iload 5, 2) := by decide +kernel
theorem d_G_add_57 : decode prog_4_method_15_code 57 = .ok (.iload 4, 2) := by decide +kernel
theorem d_G_add_59 : decode prog_4_method_15_code 59 = .ok (.iastore, 1) := by decide +kernel
theorem d_G_add_60 : decode prog_4_method_15_code 60 = .ok (.aload_n 0, 1) := by decide +kernel
theorem d_G_add_61 : decode prog_4_method_15_code 61 = .ok (.getfield 24, 3) := by decide +kernel
theorem d_G_add_64 : decode prog_4_method_15_code 64 = .ok (.iload 5, 2) := by decide +kernel
theorem d_G_add_66 : decode prog_4_method_15_code 66 = .ok (.iconst 1, 1) := by decide +kernel
theorem d_G_add_67 : decode prog_4_method_15_code 67 = .ok (.iastore, 1) := by decide +kernel
theorem d_G_add_68 : decode prog_4_method_15_code 68 = .ok (.getstatic 70, 3) := by decide +kernel
theorem d_G_add_71 : decode prog_4_method_15_code 71 = .ok (.iload_n 1, 1) := by decide +kernel
theorem d_G_add_72 : decode prog_4_method_15_code 72 = .ok (.iaload, 1) := by decide +kernel
theorem d_G_add_73 : decode prog_4_method_15_code 73 = .ok (.iconst 1, 1) := by decide +kernel
theorem d_G_add_74 : decode prog_4_method_15_code 74 = .ok (.if_icmp .lt 18, 3) := by decide +kernel
theorem d_G_add_77 : decode prog_4_method_15_code 77 = .ok (.aload_n 0, 1) := by decide +kernel
theorem d_G_add_78 : decode prog_4_method_15_code 78 = .ok (.getfield 24, 3) := by decide +kernel
theorem d_G_add_81 : decode prog_4_method_15_code 81 = .ok (.iload 5, 2) := by decide +kernel
theorem d_G_add_83 : decode prog_4_method_15_code 83 = .ok (.iconst 1, 1) := by decide +kernel
theorem d_G_add_84 : decode prog_4_method_15_code 84 = .ok (.aload_n 0, 1) := by decide +kernel
theorem d_G_add_85 : decode prog_4_method_15_code 85 = .ok (.getfield 24, 3) := by decide +kernel
theorem d_G_add_88 : decode prog_4_method_15_code 88 = .ok (.iload_n 2, 1) := by decide +kernel
theorem d_G_add_89 : decode prog_4_method_15_code 89 = .ok (.iaload, 1) := by decide +kernel
theorem d_G_add_90 : decode prog_4_method_15_code 90 = .ok (.iadd, 1) := by decide +kernel
theorem d_G_add_91 : decode prog_4_method_15_code 91 = .ok (.iastore, 1) := by decide +kernel
theorem d_G_add_92 : decode prog_4_method_15_code 92 = .ok (.getstatic 70, 3) := by decide +kernel
theorem d_G_add_95 : decode prog_4_method_15_code 95 = .ok (.iload_n 1, 1) := by decide +kernel
theorem d_G_add_96 : decode prog_4_method_15_code 96 = .ok (.iaload, 1) := by decide +kernel
theorem d_G_add_97 : decode prog_4_method_15_code 97 = .ok (.iconst 2, 1) := by decide +kernel
theorem d_G_add_98 : decode prog_4_method_15_code 98 = .ok (.if_icmp .lt 27, 3) := by decide +kernel
theorem d_G_add_101 : decode prog_4_method_15_code 101 = .ok (.aload_n 0, 1) := by decide +kernel
theorem d_G_add_102 : decode prog_4_method_15_code 102 = .ok (.getfield 24, 3) := by decide +kernel
theorem d_G_add_105 : decode prog_4_method_15_code 105 = .ok (.iload 5, 2) := by decide +kernel
theorem d_G_add_107 : decode prog_4_method_15_code 107 = .ok (.iconst 1, 1) := by decide +kernel
theorem d_G_add_108 : decode prog_4_method_15_code 108 = .ok (.aload_n 0, 1) := by decide +kernel
theorem d_G_add_109 : decode prog_4_method_15_code 109 = .ok (.getfield 24, 3) := by decide +kernel
theorem d_G_add_112 : decode prog_4_method_15_code 112 = .ok (.iload_n 2, 1) := by decide +kernel
theorem d_G_add_113 : decode prog_4_method_15_code 113 = .ok (.iaload, 1) := by decide +kernel
theorem d_G_add_114 : decode prog_4_method_15_code 114 = .ok (.aload_n 0, 1) := by decide +kernel
theorem d_G_add_115 : decode prog_4_method_15_code 115 = .ok (.getfield 24, 3) := by decide +kernel
theorem d_G_add_118 : decode prog_4_method_15_code 118 = .ok (.iload_n 3, 1) := by decide +kernel
theorem d_G_add_119 : decode prog_4_method_15_code 119 = .ok (.iaload, 1) := by decide +kernel
theorem d_G_add_120 : decode prog_4_method_15_code 120 = .ok (.invokestatic 73, 3) := by decide +kernel
theorem d_G_add_123 : decode prog_4_method_15_code 123 = .ok (.iadd, 1) := by decide +kernel
theorem d_G_add_124 : decode prog_4_method_15_code 124 = .ok (.iastore, 1) := by decide +kernel
theorem d_G_add_125 : decode prog_4_method_15_code 125 = .ok (.aload_n 0, 1) := by decide +kernel
theorem d_G_add_126 : decode prog_4_method_15_code 126 = .ok (.dup, 1) := by decide +kernel
theorem d_G_add_127 : decode prog_4_method_15_code 127 = .ok (.getfield 36, 3) := by decide +kernel
theorem d_G_add_130 : decode prog_4_method_15_code 130 = .ok (.iconst 1, 1) := by decide +kernel
theorem d_G_add_131 : decode prog_4_method_15_code 131 = .ok (.iadd, 1) := by decide +kernel
theorem d_G_add_132 : decode prog_4_method_15_code 132 = .ok (.putfield 36, 3) := by decide +kernel
theorem d_G_add_135 : decode prog_4_method_15_code 135 = .ok (.iload 5, 2) := by decide +kernel
theorem d_G_add_137 : decode prog_4_method_15_code 137 = .ok (.ireturn, 1) := by decide +kernel
section RW
variable {p : Program} {l : Launch} {e : Env} {R : Room} {s : State} {m : MethodId} {args : Array Value} {below : List Frame} {meth : Method} {c : Code} {H : Heap} {locs : List Loc} {cells slots : Nat} {Q : State → Prop}
variable {cc : ByteArray} {pc : Nat} {ls : Array Slot} {rest : List Value} {dC : Nat → ClassId} {dI : Nat → Nat → Nat} {q : Nat → Nat} {cA : Nat → ClassId} {σ : MZ_} {H0 : Heap} {A : Nat → Prop}

theorem cw_G_62 (hts : ∀ w ∈ AW_, w.before args s = true) (hR : rm_G_isFull.frames + 1 ≤ R.frames ∧ 8 + (1 + 11) + rm_G_isFull.locals ≤ R.locals) : CallW R s args "StagedParsers$Grammar" "StagedParsers$Grammar" 62 y_G_isFull prog_4_method_3_code 1 (some .boolean) w_G_isFull rm_G_isFull 0 0 0 :=
  ⟨callB_of 0 hts (aw_in kw_515) rfl rfl rfl (hts _ kw_2) (hts _ kw_536) ⟨by decide, by decide, by decide +kernel⟩ hR, hts _ kw_513, hts _ kw_514⟩
theorem cw_G_66 (hts : ∀ w ∈ AW_, w.before args s = true) (hR : rm_G_allows.frames + 1 ≤ R.frames ∧ 8 + (5 + 11) + rm_G_allows.locals ≤ R.locals) : CallW R s args "StagedParsers$Grammar" "StagedParsers$Grammar" 66 y_G_allows prog_4_method_14_code 5 (some .boolean) w_G_allows rm_G_allows 0 0 4 :=
  ⟨callB_of 4 hts (aw_in kw_431) rfl rfl rfl (hts _ kw_2) (hts _ kw_537) ⟨by decide, by decide, by decide +kernel⟩ hR, hts _ kw_429, hts _ kw_430⟩
theorem pf_G_36 (hx : p.tables.exec = Jvm.exec) (hb : c.code = cc) (hts : ∀ w ∈ AW_, w.before args s = true) (hown : s.vm.findClass "StagedParsers$Grammar" = some m.cls) (hK : va_K (dC, dI) cls_ (tyX cA) s) (hP : va_P (dC, dI) cls_ (wX q cA σ) H) (hD : va_D A (wX q cA σ)) (hS : va_S A H0 H locs) {v : Int32} (hdg : decode cc pc = .ok (.putfield 36, 3)) (kk : ∀ (H1 : Heap) (locs1 : List Loc), va_P (dC, dI) cls_ (wX q cA (va_up σ 31 (fun _ => v))) H1 → va_S A H0 H1 locs1 → W p l e R s m args below meth c H1 locs1 cells slots Q (F0 m (pc + 3) ls rest)) : W p l e R s m args below meth c H locs cells slots Q (F0 m pc ls (.int v :: .ref (q 1) :: rest)) :=
  va_put (D := (dC, dI)) (cl := cls_) (ci := 1) (v := .int v) (ty := .int) (ws := wX q cA σ) (tys := tyX cA) (C := Rz_G) (T := Tz_G) (N := 7) hx hb hts uz_G tz_G tz_G_ok nz_G hown hK hP hD hS 1 rfl rfl 6 (by decide) (hts _ kw_41) (fun _ h9 => h9) rfl (by decide +kernel) rfl rfl (Nat.le_of_ble_eq_true rfl) hdg (fun H1 locs1 hP _ hS => kk H1 locs1 hP hS)
end RW
def f_G_add (σ : MZ_) (x1 : Int32) (x2 : Int32) (x3 : Int32) (x4 : Int32) : Option (Int32 × MZ_) :=
  (f_G_isFull σ).bind fun r1 => if r1 = 0 then (f_G_allows σ x1 x2 x3 x4).bind fun r2 => if r2 = 0 then some ((-1), σ)
    else gd_ (σ 31 0) 80 (st_ (va_up σ 2 (upd (σ 2) (σ 31 0).toNatClampNeg x1)) fun σ1 => gd_ (σ 31 0) 80 (st_ (va_up σ1 3 (upd (σ1 3) (σ 31 0).toNatClampNeg x2)) fun σ2 => gd_ (σ 31 0) 80 (st_ (va_up σ2 4 (upd (σ2 4) (σ 31 0).toNatClampNeg x3)) fun σ3 => gd_ (σ 31 0) 80 (st_ (va_up σ3 5 (upd (σ3 5) (σ 31 0).toNatClampNeg x4)) fun σ4 => gd_ (σ 31 0) 80 (st_ (va_up σ4 6 (upd (σ4 6) (σ 31 0).toNatClampNeg 1)) fun σ5 => gd_ x1 14 (if (PT_ x1.toNatClampNeg) < 1 then gd_ x1 14 (if (PT_ x1.toNatClampNeg) < 2 then st_ (va_up σ5 31 (fun _ => (σ5 31 0) + 1)) fun σ6 => some (σ 31 0, σ6)
      else gd_ x2 80 (gd_ x3 80 (gd_ (σ 31 0) 80 (st_ (va_up σ5 6 (upd (σ5 6) (σ 31 0).toNatClampNeg (1 + (if (σ5 6 x2.toNatClampNeg) < (σ5 6 x3.toNatClampNeg) then σ5 6 x3.toNatClampNeg else σ5 6 x2.toNatClampNeg)))) fun σ7 => st_ (va_up σ7 31 (fun _ => (σ7 31 0) + 1)) fun σ8 => some (σ 31 0, σ8)))))
    else gd_ x2 80 (gd_ (σ 31 0) 80 (st_ (va_up σ5 6 (upd (σ5 6) (σ 31 0).toNatClampNeg (1 + (σ5 6 x2.toNatClampNeg)))) fun σ9 => gd_ x1 14 (if (PT_ x1.toNatClampNeg) < 2 then st_ (va_up σ9 31 (fun _ => (σ9 31 0) + 1)) fun σ10 => some (σ 31 0, σ10)
    else gd_ x2 80 (gd_ x3 80 (gd_ (σ 31 0) 80 (st_ (va_up σ9 6 (upd (σ9 6) (σ 31 0).toNatClampNeg (1 + (if (σ9 6 x2.toNatClampNeg) < (σ9 6 x3.toNatClampNeg) then σ9 6 x3.toNatClampNeg else σ9 6 x2.toNatClampNeg)))) fun σ11 => st_ (va_up σ11 31 (fun _ => (σ11 31 0) + 1)) fun σ12 => some (σ 31 0, σ12)))))))))))))
  else some ((-1), σ)
set_option maxHeartbeats 4000000 in
set_option maxRecDepth 100000 in
theorem c_G_add (l : Launch) (dC : Nat → ClassId) (dI : Nat → Nat → Nat) (q : Nat → Nat) (cA : Nat → ClassId) (pt : Nat) (σ : MZ_) (x1 : Int32) (x2 : Int32) (x3 : Int32) (x4 : Int32) (u : Int32 × MZ_) (h : f_G_add σ x1 x2 x3 x4 = some u) : Met l y_G_add w_G_add rm_G_add (va_Pc [.ref (q 1), .int x1, .int x2, .int x3, .int x4] (PX_ dC dI q cA pt σ)) (QW_ (some (.int u.1)) (fun H => va_P (dC, dI) cls_ (wX q cA u.2) H) (AX q)) 0 0 (AX q) := by
  refine Met.ofW (cc := prog_4_method_15_code) (maxL := 6) (ret := (some .int)) (by decide) rfl ?_
  intro p e s m args below meth c s₁ B hml hv
  obtain ⟨rfl, hP, hK, hD, hN, hZ⟩ := hv
  have hx := B.exec
  have hb := B.bytes
  have hr := B.returns
  have hts : ∀ w ∈ AW_, w.before _ s = true := fun w h => atoms_spec (ws := w_G_add) B.pre w (List.mem_cons_of_mem _ h)
  have hown : s.vm.findClass "StagedParsers$Grammar" = some m.cls := findClass_of_methodNamed B.named
  have hlocks := B.notSynchronized
  have hS : va_S (AX q) s.heap s.heap [] := va_S.rf
  have hl := lv_entry ([.ref (q 1), .int x1, .int x2, .int x3, .int x4]) (n := 6) (Nat.le_of_ble_eq_true rfl)
  rw [lg_entry_eq]
  generalize (lg_sl ([.ref (q 1), .int x1, .int x2, .int x3, .int x4]) ++ List.replicate (6 - (lg_sl ([.ref (q 1), .int x1, .int x2, .int x3, .int x4])).length) Slot.unset).toArray = ls at hl ⊢
  have hl : lv_has ls 6 [(0, .ref (q 1)), (1, .int x1), (2, .int x2), (3, .int x3), (4, .int x4)] := hl
  rw [f_G_add] at h
  refine lv_aload_n hx hb d_G_add_0 rfl (lv_at hl 0 rfl) ?_
  obtain ⟨r1, hcl, h⟩ := bd_some h
  refine cx_read (va_runV (As := []) (rest := []) ⟨hx, hb, hml, hown, hts⟩ (c_G_isFull l dC dI q cA pt σ _ hcl) (cw_G_62 hts ⟨Nat.le_of_ble_eq_true rfl, Nat.le_of_ble_eq_true rfl⟩) ⟨pxX_B, va_recv hK hP (ci := 1) (q0 := 1) rfl rfl, pxX_U hP hK hD hN hZ hS⟩ rfl rfl hl.1 rfl (lv_room (Nat.le_of_ble_eq_true rfl)) d_G_add_1 ⟨Nat.zero_le _, Nat.zero_le _⟩) ?_
  refine lv_if_ne (tgt := 19) hx hb d_G_add_4 rfl (fun hc => ?_) (fun hc => ?_)
  · have h := if_f hc h
    refine lv_iconst (v := (-1)) hx hb d_G_add_19 (by decide) ?_
    obtain rfl := Option.some.inj h
    exact W.iret hx hb hr (fun t ht hW => ⟨rfl, by rw [ht]; exact hP, hS.F ht⟩) hS.2.2 d_G_add_20
  · have h := if_t hc h
    refine lv_aload_n hx hb d_G_add_7 rfl (lv_at hl 0 rfl) ?_
    refine lv_iload_n hx hb d_G_add_8 rfl (lv_at hl 1 rfl) ?_
    refine lv_iload_n hx hb d_G_add_9 rfl (lv_at hl 2 rfl) ?_
    refine lv_iload_n hx hb d_G_add_10 rfl (lv_at hl 3 rfl) ?_
    refine lv_iload hx hb d_G_add_11 (lv_at hl 4 rfl) ?_
    obtain ⟨r2, hcl, h⟩ := bd_some h
    refine cx_read (va_runV (As := [.int x1, .int x2, .int x3, .int x4]) (rest := []) ⟨hx, hb, hml, hown, hts⟩ (c_G_allows l dC dI q cA pt σ x1 x2 x3 x4 _ hcl) (cw_G_66 hts ⟨Nat.le_of_ble_eq_true rfl, Nat.le_of_ble_eq_true rfl⟩) ⟨pxX_B, va_recv hK hP (ci := 1) (q0 := 1) rfl rfl, pxX_U hP hK hD hN hZ hS⟩ rfl rfl hl.1 rfl (lv_room (Nat.le_of_ble_eq_true rfl)) d_G_add_13 ⟨Nat.zero_le _, Nat.zero_le _⟩) ?_
    refine lv_if_ne (tgt := 21) hx hb d_G_add_16 rfl (fun hc => ?_) (fun hc => ?_)
    · have h := if_f hc h
      refine lv_aload_n hx hb d_G_add_21 rfl (lv_at hl 0 rfl) ?_
      refine gf_G_36 hx hb hts hown hK hP d_G_add_22 ?_
      refine lv_istore hx hb d_G_add_25 hl (by decide) rfl (fun ls hl => ?_)
      have hl : lv_has ls 6 [(5, .int (σ 31 0)), (0, .ref (q 1)), (1, .int x1), (2, .int x2), (3, .int x3), (4, .int x4)] := hl
      refine lv_aload_n hx hb d_G_add_27 rfl (lv_at hl 1 rfl) ?_
      refine gf_G_9 hx hb hts hown hK hP d_G_add_28 ?_
      refine lv_iload hx hb d_G_add_31 (lv_at hl 0 rfl) ?_
      refine lv_iload_n hx hb d_G_add_33 rfl (lv_at hl 2 rfl) ?_
      obtain ⟨hgd, h⟩ := gd_some h
      refine as_X_2 hx hb hK hP hD hS hgd d_G_add_34 (fun H locs hP hS => ?_)
      obtain ⟨σ1, eσ1, h⟩ := st_some h
      rw [← eσ1] at hP
      have hD : va_D (AX q) (wX q cA σ1) := dd_re (wX_f _ _ _ _) hD
      refine lv_aload_n hx hb d_G_add_35 rfl (lv_at hl 1 rfl) ?_
      refine gf_G_15 hx hb hts hown hK hP d_G_add_36 ?_
      refine lv_iload hx hb d_G_add_39 (lv_at hl 0 rfl) ?_
      refine lv_iload_n hx hb d_G_add_41 rfl (lv_at hl 3 rfl) ?_
      obtain ⟨hgd, h⟩ := gd_some h
      refine as_X_3 hx hb hK hP hD hS hgd d_G_add_42 (fun H locs hP hS => ?_)
      obtain ⟨σ2, eσ2, h⟩ := st_some h
      rw [← eσ2] at hP
      have hD : va_D (AX q) (wX q cA σ2) := dd_re (wX_f _ _ _ _) hD
      refine lv_aload_n hx hb d_G_add_43 rfl (lv_at hl 1 rfl) ?_
      refine gf_G_18 hx hb hts hown hK hP d_G_add_44 ?_
      refine lv_iload hx hb d_G_add_47 (lv_at hl 0 rfl) ?_
      refine lv_iload_n hx hb d_G_add_49 rfl (lv_at hl 4 rfl) ?_
      obtain ⟨hgd, h⟩ := gd_some h
      refine as_X_4 hx hb hK hP hD hS hgd d_G_add_50 (fun H locs hP hS => ?_)
      obtain ⟨σ3, eσ3, h⟩ := st_some h
      rw [← eσ3] at hP
      have hD : va_D (AX q) (wX q cA σ3) := dd_re (wX_f _ _ _ _) hD
      refine lv_aload_n hx hb d_G_add_51 rfl (lv_at hl 1 rfl) ?_
      refine gf_G_21 hx hb hts hown hK hP d_G_add_52 ?_
      refine lv_iload hx hb d_G_add_55 (lv_at hl 0 rfl) ?_
      refine lv_iload hx hb d_G_add_57 (lv_at hl 5 rfl) ?_
      obtain ⟨hgd, h⟩ := gd_some h
      refine as_X_5 hx hb hK hP hD hS hgd d_G_add_59 (fun H locs hP hS => ?_)
      obtain ⟨σ4, eσ4, h⟩ := st_some h
      rw [← eσ4] at hP
      have hD : va_D (AX q) (wX q cA σ4) := dd_re (wX_f _ _ _ _) hD
      refine lv_aload_n hx hb d_G_add_60 rfl (lv_at hl 1 rfl) ?_
      refine gf_G_24 hx hb hts hown hK hP d_G_add_61 ?_
      refine lv_iload hx hb d_G_add_64 (lv_at hl 0 rfl) ?_
      refine lv_iconst (v := 1) hx hb d_G_add_66 (by decide) ?_
      obtain ⟨hgd, h⟩ := gd_some h
      refine as_X_6 hx hb hK hP hD hS hgd d_G_add_67 (fun H locs hP hS => ?_)
      obtain ⟨σ5, eσ5, h⟩ := st_some h
      rw [← eσ5] at hP
      have hD : va_D (AX q) (wX q cA σ5) := dd_re (wX_f _ _ _ _) hD
      refine va_pget_ hx hb hown (hN _ (List.mem_of_getElem? (i := 7) rfl)) hZ hS d_G_add_68 ?_
      refine lv_iload_n hx hb d_G_add_71 rfl (lv_at hl 2 rfl) ?_
      obtain ⟨hgd, h⟩ := gd_some h
      refine va_tald_ hx hb hZ hS hgd d_G_add_72 ?_
      refine lv_iconst (v := 1) hx hb d_G_add_73 (by decide) ?_
      refine lv_icmp_lt (tgt := 92) hx hb d_G_add_74 rfl (fun hc => ?_) (fun hc => ?_)
      · have h := if_t hc h
        refine va_pget_ hx hb hown (hN _ (List.mem_of_getElem? (i := 7) rfl)) hZ hS d_G_add_92 ?_
        refine lv_iload_n hx hb d_G_add_95 rfl (lv_at hl 2 rfl) ?_
        obtain ⟨hgd, h⟩ := gd_some h
        refine va_tald_ hx hb hZ hS hgd d_G_add_96 ?_
        refine lv_iconst (v := 2) hx hb d_G_add_97 (by decide) ?_
        refine lv_icmp_lt (tgt := 125) hx hb d_G_add_98 rfl (fun hc => ?_) (fun hc => ?_)
        · have h := if_t hc h
          refine lv_aload_n hx hb d_G_add_125 rfl (lv_at hl 1 rfl) ?_
          refine lv_dup hx hb d_G_add_126 rfl ?_
          refine gf_G_36 hx hb hts hown hK hP d_G_add_127 ?_
          refine lv_iconst (v := 1) hx hb d_G_add_130 (by decide) ?_
          refine lv_iadd hx hb d_G_add_131 ?_
          refine pf_G_36 hx hb hts hown hK hP hD hS d_G_add_132 (fun H locs hP hS => ?_)
          obtain ⟨σ6, eσ6, h⟩ := st_some h
          rw [← eσ6] at hP
          have hD : va_D (AX q) (wX q cA σ6) := dd_re (wX_f _ _ _ _) hD
          refine lv_iload hx hb d_G_add_135 (lv_at hl 0 rfl) ?_
          obtain rfl := Option.some.inj h
          exact W.iret hx hb hr (fun t ht hW => ⟨rfl, by rw [ht]; exact hP, hS.F ht⟩) hS.2.2 d_G_add_137
        · have h := if_f hc h
          refine lv_aload_n hx hb d_G_add_101 rfl (lv_at hl 1 rfl) ?_
          refine gf_G_24 hx hb hts hown hK hP d_G_add_102 ?_
          refine lv_iload hx hb d_G_add_105 (lv_at hl 0 rfl) ?_
          refine lv_iconst (v := 1) hx hb d_G_add_107 (by decide) ?_
          refine lv_aload_n hx hb d_G_add_108 rfl (lv_at hl 1 rfl) ?_
          refine gf_G_24 hx hb hts hown hK hP d_G_add_109 ?_
          refine lv_iload_n hx hb d_G_add_112 rfl (lv_at hl 3 rfl) ?_
          obtain ⟨hgd, h⟩ := gd_some h
          refine al_X_6 hx hb hK hP hgd d_G_add_113 ?_
          refine lv_aload_n hx hb d_G_add_114 rfl (lv_at hl 1 rfl) ?_
          refine gf_G_24 hx hb hts hown hK hP d_G_add_115 ?_
          refine lv_iload_n hx hb d_G_add_118 rfl (lv_at hl 4 rfl) ?_
          obtain ⟨hgd, h⟩ := gd_some h
          refine al_X_6 hx hb hK hP hgd d_G_add_119 ?_
          refine va_mmax hx hb (hml.trans hl.1.symm) hown (hts _ kw_539) (hts _ kw_540) (hts _ kw_15) (hts _ kw_541) (Nat.le_of_ble_eq_true rfl) (Nat.le_of_ble_eq_true rfl) (Nat.zero_le _) (Nat.zero_le _) d_G_add_120 ?_
          refine lv_iadd hx hb d_G_add_123 ?_
          obtain ⟨hgd, h⟩ := gd_some h
          refine as_X_6 hx hb hK hP hD hS hgd d_G_add_124 (fun H locs hP hS => ?_)
          obtain ⟨σ7, eσ7, h⟩ := st_some h
          rw [← eσ7] at hP
          have hD : va_D (AX q) (wX q cA σ7) := dd_re (wX_f _ _ _ _) hD
          refine lv_aload_n hx hb d_G_add_125 rfl (lv_at hl 1 rfl) ?_
          refine lv_dup hx hb d_G_add_126 rfl ?_
          refine gf_G_36 hx hb hts hown hK hP d_G_add_127 ?_
          refine lv_iconst (v := 1) hx hb d_G_add_130 (by decide) ?_
          refine lv_iadd hx hb d_G_add_131 ?_
          refine pf_G_36 hx hb hts hown hK hP hD hS d_G_add_132 (fun H locs hP hS => ?_)
          obtain ⟨σ8, eσ8, h⟩ := st_some h
          rw [← eσ8] at hP
          have hD : va_D (AX q) (wX q cA σ8) := dd_re (wX_f _ _ _ _) hD
          refine lv_iload hx hb d_G_add_135 (lv_at hl 0 rfl) ?_
          obtain rfl := Option.some.inj h
          exact W.iret hx hb hr (fun t ht hW => ⟨rfl, by rw [ht]; exact hP, hS.F ht⟩) hS.2.2 d_G_add_137
      · have h := if_f hc h
        refine lv_aload_n hx hb d_G_add_77 rfl (lv_at hl 1 rfl) ?_
        refine gf_G_24 hx hb hts hown hK hP d_G_add_78 ?_
        refine lv_iload hx hb d_G_add_81 (lv_at hl 0 rfl) ?_
        refine lv_iconst (v := 1) hx hb d_G_add_83 (by decide) ?_
        refine lv_aload_n hx hb d_G_add_84 rfl (lv_at hl 1 rfl) ?_
        refine gf_G_24 hx hb hts hown hK hP d_G_add_85 ?_
        refine lv_iload_n hx hb d_G_add_88 rfl (lv_at hl 3 rfl) ?_
        obtain ⟨hgd, h⟩ := gd_some h
        refine al_X_6 hx hb hK hP hgd d_G_add_89 ?_
        refine lv_iadd hx hb d_G_add_90 ?_
        obtain ⟨hgd, h⟩ := gd_some h
        refine as_X_6 hx hb hK hP hD hS hgd d_G_add_91 (fun H locs hP hS => ?_)
        obtain ⟨σ9, eσ9, h⟩ := st_some h
        rw [← eσ9] at hP
        have hD : va_D (AX q) (wX q cA σ9) := dd_re (wX_f _ _ _ _) hD
        refine va_pget_ hx hb hown (hN _ (List.mem_of_getElem? (i := 7) rfl)) hZ hS d_G_add_92 ?_
        refine lv_iload_n hx hb d_G_add_95 rfl (lv_at hl 2 rfl) ?_
        obtain ⟨hgd, h⟩ := gd_some h
        refine va_tald_ hx hb hZ hS hgd d_G_add_96 ?_
        refine lv_iconst (v := 2) hx hb d_G_add_97 (by decide) ?_
        refine lv_icmp_lt (tgt := 125) hx hb d_G_add_98 rfl (fun hc => ?_) (fun hc => ?_)
        · have h := if_t hc h
          refine lv_aload_n hx hb d_G_add_125 rfl (lv_at hl 1 rfl) ?_
          refine lv_dup hx hb d_G_add_126 rfl ?_
          refine gf_G_36 hx hb hts hown hK hP d_G_add_127 ?_
          refine lv_iconst (v := 1) hx hb d_G_add_130 (by decide) ?_
          refine lv_iadd hx hb d_G_add_131 ?_
          refine pf_G_36 hx hb hts hown hK hP hD hS d_G_add_132 (fun H locs hP hS => ?_)
          obtain ⟨σ10, eσ10, h⟩ := st_some h
          rw [← eσ10] at hP
          have hD : va_D (AX q) (wX q cA σ10) := dd_re (wX_f _ _ _ _) hD
          refine lv_iload hx hb d_G_add_135 (lv_at hl 0 rfl) ?_
          obtain rfl := Option.some.inj h
          exact W.iret hx hb hr (fun t ht hW => ⟨rfl, by rw [ht]; exact hP, hS.F ht⟩) hS.2.2 d_G_add_137
        · have h := if_f hc h
          refine lv_aload_n hx hb d_G_add_101 rfl (lv_at hl 1 rfl) ?_
          refine gf_G_24 hx hb hts hown hK hP d_G_add_102 ?_
          refine lv_iload hx hb d_G_add_105 (lv_at hl 0 rfl) ?_
          refine lv_iconst (v := 1) hx hb d_G_add_107 (by decide) ?_
          refine lv_aload_n hx hb d_G_add_108 rfl (lv_at hl 1 rfl) ?_
          refine gf_G_24 hx hb hts hown hK hP d_G_add_109 ?_
          refine lv_iload_n hx hb d_G_add_112 rfl (lv_at hl 3 rfl) ?_
          obtain ⟨hgd, h⟩ := gd_some h
          refine al_X_6 hx hb hK hP hgd d_G_add_113 ?_
          refine lv_aload_n hx hb d_G_add_114 rfl (lv_at hl 1 rfl) ?_
          refine gf_G_24 hx hb hts hown hK hP d_G_add_115 ?_
          refine lv_iload_n hx hb d_G_add_118 rfl (lv_at hl 4 rfl) ?_
          obtain ⟨hgd, h⟩ := gd_some h
          refine al_X_6 hx hb hK hP hgd d_G_add_119 ?_
          refine va_mmax hx hb (hml.trans hl.1.symm) hown (hts _ kw_539) (hts _ kw_540) (hts _ kw_15) (hts _ kw_541) (Nat.le_of_ble_eq_true rfl) (Nat.le_of_ble_eq_true rfl) (Nat.zero_le _) (Nat.zero_le _) d_G_add_120 ?_
          refine lv_iadd hx hb d_G_add_123 ?_
          obtain ⟨hgd, h⟩ := gd_some h
          refine as_X_6 hx hb hK hP hD hS hgd d_G_add_124 (fun H locs hP hS => ?_)
          obtain ⟨σ11, eσ11, h⟩ := st_some h
          rw [← eσ11] at hP
          have hD : va_D (AX q) (wX q cA σ11) := dd_re (wX_f _ _ _ _) hD
          refine lv_aload_n hx hb d_G_add_125 rfl (lv_at hl 1 rfl) ?_
          refine lv_dup hx hb d_G_add_126 rfl ?_
          refine gf_G_36 hx hb hts hown hK hP d_G_add_127 ?_
          refine lv_iconst (v := 1) hx hb d_G_add_130 (by decide) ?_
          refine lv_iadd hx hb d_G_add_131 ?_
          refine pf_G_36 hx hb hts hown hK hP hD hS d_G_add_132 (fun H locs hP hS => ?_)
          obtain ⟨σ12, eσ12, h⟩ := st_some h
          rw [← eσ12] at hP
          have hD : va_D (AX q) (wX q cA σ12) := dd_re (wX_f _ _ _ _) hD
          refine lv_iload hx hb d_G_add_135 (lv_at hl 0 rfl) ?_
          obtain rfl := Option.some.inj h
          exact W.iret hx hb hr (fun t ht hW => ⟨rfl, by rw [ht]; exact hP, hS.F ht⟩) hS.2.2 d_G_add_137
    · have h := if_t hc h
      refine lv_iconst (v := (-1)) hx hb d_G_add_19 (by decide) ?_
      obtain rfl := Option.some.inj h
      exact W.iret hx hb hr (fun t ht hW => ⟨rfl, by rw [ht]; exact hP, hS.F ht⟩) hS.2.2 d_G_add_20
end
