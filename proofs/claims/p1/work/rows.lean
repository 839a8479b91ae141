section
-- ===== PART A: goes FIRST, ahead of the names: the tables' words, and 'selects' of the private methods out of them =====
/-- a private method of a class that the tables say can be made, by its rows of tables_1 -/
def lw_okq (q : MethodName × Nat) : Prop := (q.1.cls ≠ "java/lang/invoke/MethodHandle" ∧ q.1.cls ≠ "java/lang/invoke/VarHandle") ∧ Cond.instantiable q.1.cls q.2 ∈ tables_1 ∧ Cond.privateMethod q.1 ∈ tables_1 ∧ Cond.instanceMethod q.1 ∈ tables_1
theorem lw_p0 : lw_okq (⟨"ActHouse", "admit", "(IIII)I"⟩, 18) := ⟨⟨by decide +kernel, by decide +kernel⟩, List.mem_of_getElem? (i := 10) (by decide +kernel), List.mem_of_getElem? (i := 138) (by decide +kernel), List.mem_of_getElem? (i := 139) (by decide +kernel)⟩
theorem lw_p1 : lw_okq (⟨"ActHouse", "leastToCome", "(I)I"⟩, 18) := ⟨⟨by decide +kernel, by decide +kernel⟩, List.mem_of_getElem? (i := 10) (by decide +kernel), List.mem_of_getElem? (i := 233) (by decide +kernel), List.mem_of_getElem? (i := 234) (by decide +kernel)⟩
theorem lw_p2 : lw_okq (⟨"ActHouse", "passTick", "()V"⟩, 18) := ⟨⟨by decide +kernel, by decide +kernel⟩, List.mem_of_getElem? (i := 10) (by decide +kernel), List.mem_of_getElem? (i := 241) (by decide +kernel), List.mem_of_getElem? (i := 242) (by decide +kernel)⟩
theorem lw_p3 : lw_okq (⟨"ActHouse", "stepBegun", "()V"⟩, 18) := ⟨⟨by decide +kernel, by decide +kernel⟩, List.mem_of_getElem? (i := 10) (by decide +kernel), List.mem_of_getElem? (i := 245) (by decide +kernel), List.mem_of_getElem? (i := 246) (by decide +kernel)⟩
theorem lw_p4 : lw_okq (⟨"ActHouse", "gatherRunning", "()V"⟩, 18) := ⟨⟨by decide +kernel, by decide +kernel⟩, List.mem_of_getElem? (i := 10) (by decide +kernel), List.mem_of_getElem? (i := 249) (by decide +kernel), List.mem_of_getElem? (i := 250) (by decide +kernel)⟩
theorem lw_p5 : lw_okq (⟨"ActHouse", "takeStep", "(I)V"⟩, 18) := ⟨⟨by decide +kernel, by decide +kernel⟩, List.mem_of_getElem? (i := 10) (by decide +kernel), List.mem_of_getElem? (i := 253) (by decide +kernel), List.mem_of_getElem? (i := 254) (by decide +kernel)⟩
theorem lw_p6 : lw_okq (⟨"ActHouse", "canBe", "(II)Z"⟩, 18) := ⟨⟨by decide +kernel, by decide +kernel⟩, List.mem_of_getElem? (i := 10) (by decide +kernel), List.mem_of_getElem? (i := 261) (by decide +kernel), List.mem_of_getElem? (i := 262) (by decide +kernel)⟩
theorem lw_p7 : lw_okq (⟨"ActHouse", "perform", "(II)Z"⟩, 18) := ⟨⟨by decide +kernel, by decide +kernel⟩, List.mem_of_getElem? (i := 10) (by decide +kernel), List.mem_of_getElem? (i := 274) (by decide +kernel), List.mem_of_getElem? (i := 275) (by decide +kernel)⟩
theorem lw_p8 : lw_okq (⟨"ActHouse", "seenBy", "(LActHouse$Act;I)I"⟩, 18) := ⟨⟨by decide +kernel, by decide +kernel⟩, List.mem_of_getElem? (i := 10) (by decide +kernel), List.mem_of_getElem? (i := 282) (by decide +kernel), List.mem_of_getElem? (i := 283) (by decide +kernel)⟩
theorem lw_p9 : lw_okq (⟨"ActHouse", "stopAct", "(I)V"⟩, 18) := ⟨⟨by decide +kernel, by decide +kernel⟩, List.mem_of_getElem? (i := 10) (by decide +kernel), List.mem_of_getElem? (i := 330) (by decide +kernel), List.mem_of_getElem? (i := 331) (by decide +kernel)⟩
theorem lw_p10 : lw_okq (⟨"ActHouse", "finishAct", "(I)V"⟩, 18) := ⟨⟨by decide +kernel, by decide +kernel⟩, List.mem_of_getElem? (i := 10) (by decide +kernel), List.mem_of_getElem? (i := 339) (by decide +kernel), List.mem_of_getElem? (i := 340) (by decide +kernel)⟩
theorem lw_p11 : lw_okq (⟨"ActHouse", "tellValues", "(LActHouse$Act;)V"⟩, 18) := ⟨⟨by decide +kernel, by decide +kernel⟩, List.mem_of_getElem? (i := 10) (by decide +kernel), List.mem_of_getElem? (i := 343) (by decide +kernel), List.mem_of_getElem? (i := 344) (by decide +kernel)⟩
theorem lw_p12 : lw_okq (⟨"ActHouse", "breakRings", "()V"⟩, 18) := ⟨⟨by decide +kernel, by decide +kernel⟩, List.mem_of_getElem? (i := 10) (by decide +kernel), List.mem_of_getElem? (i := 347) (by decide +kernel), List.mem_of_getElem? (i := 348) (by decide +kernel)⟩
theorem lw_p13 : lw_okq (⟨"ActHouse", "drawWaits", "()Z"⟩, 18) := ⟨⟨by decide +kernel, by decide +kernel⟩, List.mem_of_getElem? (i := 10) (by decide +kernel), List.mem_of_getElem? (i := 351) (by decide +kernel), List.mem_of_getElem? (i := 352) (by decide +kernel)⟩
theorem lw_p14 : lw_okq (⟨"ActHouse", "lastBegunInRing", "()I"⟩, 18) := ⟨⟨by decide +kernel, by decide +kernel⟩, List.mem_of_getElem? (i := 10) (by decide +kernel), List.mem_of_getElem? (i := 367) (by decide +kernel), List.mem_of_getElem? (i := 368) (by decide +kernel)⟩
theorem lw_p15 : lw_okq (⟨"ActHouse", "isBegunLater", "(II)Z"⟩, 18) := ⟨⟨by decide +kernel, by decide +kernel⟩, List.mem_of_getElem? (i := 10) (by decide +kernel), List.mem_of_getElem? (i := 380) (by decide +kernel), List.mem_of_getElem? (i := 381) (by decide +kernel)⟩
def lw_privs_1 : List (MethodName × Nat) := [(⟨"ActHouse", "admit", "(IIII)I"⟩, 18), (⟨"ActHouse", "leastToCome", "(I)I"⟩, 18), (⟨"ActHouse", "passTick", "()V"⟩, 18), (⟨"ActHouse", "stepBegun", "()V"⟩, 18), (⟨"ActHouse", "gatherRunning", "()V"⟩, 18), (⟨"ActHouse", "takeStep", "(I)V"⟩, 18), (⟨"ActHouse", "canBe", "(II)Z"⟩, 18), (⟨"ActHouse", "perform", "(II)Z"⟩, 18), (⟨"ActHouse", "seenBy", "(LActHouse$Act;I)I"⟩, 18), (⟨"ActHouse", "stopAct", "(I)V"⟩, 18), (⟨"ActHouse", "finishAct", "(I)V"⟩, 18), (⟨"ActHouse", "tellValues", "(LActHouse$Act;)V"⟩, 18), (⟨"ActHouse", "breakRings", "()V"⟩, 18), (⟨"ActHouse", "drawWaits", "()Z"⟩, 18), (⟨"ActHouse", "lastBegunInRing", "()I"⟩, 18), (⟨"ActHouse", "isBegunLater", "(II)Z"⟩, 18)]
theorem lw_r1 : ∀ q ∈ lw_privs_1, lw_okq q := List.forall_mem_cons.mpr ⟨lw_p0, List.forall_mem_cons.mpr ⟨lw_p1, List.forall_mem_cons.mpr ⟨lw_p2, List.forall_mem_cons.mpr ⟨lw_p3, List.forall_mem_cons.mpr ⟨lw_p4, List.forall_mem_cons.mpr ⟨lw_p5, List.forall_mem_cons.mpr ⟨lw_p6, List.forall_mem_cons.mpr ⟨lw_p7, List.forall_mem_cons.mpr ⟨lw_p8, List.forall_mem_cons.mpr ⟨lw_p9, List.forall_mem_cons.mpr ⟨lw_p10, List.forall_mem_cons.mpr ⟨lw_p11, List.forall_mem_cons.mpr ⟨lw_p12, List.forall_mem_cons.mpr ⟨lw_p13, List.forall_mem_cons.mpr ⟨lw_p14, List.forall_mem_cons.mpr ⟨lw_p15, fun _ h => absurd h List.not_mem_nil⟩⟩⟩⟩⟩⟩⟩⟩⟩⟩⟩⟩⟩⟩⟩⟩
theorem lw_p16 : lw_okq (⟨"ActHouse", "undoInRing", "(I)V"⟩, 18) := ⟨⟨by decide +kernel, by decide +kernel⟩, List.mem_of_getElem? (i := 10) (by decide +kernel), List.mem_of_getElem? (i := 384) (by decide +kernel), List.mem_of_getElem? (i := 385) (by decide +kernel)⟩
theorem lw_p17 : lw_okq (⟨"ActHouse", "beginWaiting", "()V"⟩, 18) := ⟨⟨by decide +kernel, by decide +kernel⟩, List.mem_of_getElem? (i := 10) (by decide +kernel), List.mem_of_getElem? (i := 397) (by decide +kernel), List.mem_of_getElem? (i := 398) (by decide +kernel)⟩
theorem lw_p18 : lw_okq (⟨"ActHouse", "countBegunOfClasses", "()V"⟩, 18) := ⟨⟨by decide +kernel, by decide +kernel⟩, List.mem_of_getElem? (i := 10) (by decide +kernel), List.mem_of_getElem? (i := 401) (by decide +kernel), List.mem_of_getElem? (i := 402) (by decide +kernel)⟩
theorem lw_p19 : lw_okq (⟨"ActHouse", "answerDone", "()V"⟩, 18) := ⟨⟨by decide +kernel, by decide +kernel⟩, List.mem_of_getElem? (i := 10) (by decide +kernel), List.mem_of_getElem? (i := 410) (by decide +kernel), List.mem_of_getElem? (i := 411) (by decide +kernel)⟩
theorem lw_p20 : lw_okq (⟨"ActHouse", "isLost", "(I)Z"⟩, 18) := ⟨⟨by decide +kernel, by decide +kernel⟩, List.mem_of_getElem? (i := 10) (by decide +kernel), List.mem_of_getElem? (i := 426) (by decide +kernel), List.mem_of_getElem? (i := 427) (by decide +kernel)⟩
theorem lw_p21 : lw_okq (⟨"ActHouse", "fallAct", "(I)V"⟩, 18) := ⟨⟨by decide +kernel, by decide +kernel⟩, List.mem_of_getElem? (i := 10) (by decide +kernel), List.mem_of_getElem? (i := 430) (by decide +kernel), List.mem_of_getElem? (i := 431) (by decide +kernel)⟩
theorem lw_p22 : lw_okq (⟨"ActHouse", "dropUndoneFromRow", "()V"⟩, 18) := ⟨⟨by decide +kernel, by decide +kernel⟩, List.mem_of_getElem? (i := 10) (by decide +kernel), List.mem_of_getElem? (i := 434) (by decide +kernel), List.mem_of_getElem? (i := 435) (by decide +kernel)⟩
theorem lw_p23 : lw_okq (⟨"ActHouse", "retellValues", "()V"⟩, 18) := ⟨⟨by decide +kernel, by decide +kernel⟩, List.mem_of_getElem? (i := 10) (by decide +kernel), List.mem_of_getElem? (i := 438) (by decide +kernel), List.mem_of_getElem? (i := 439) (by decide +kernel)⟩
theorem lw_p24 : lw_okq (⟨"ActHouse", "countState", "(I)I"⟩, 18) := ⟨⟨by decide +kernel, by decide +kernel⟩, List.mem_of_getElem? (i := 10) (by decide +kernel), List.mem_of_getElem? (i := 475) (by decide +kernel), List.mem_of_getElem? (i := 476) (by decide +kernel)⟩
theorem lw_p25 : lw_okq (⟨"ActHouseModel", "newAct", "(IIII)I"⟩, 39) := ⟨⟨by decide +kernel, by decide +kernel⟩, List.mem_of_getElem? (i := 479) (by decide +kernel), List.mem_of_getElem? (i := 622) (by decide +kernel), List.mem_of_getElem? (i := 623) (by decide +kernel)⟩
theorem lw_p26 : lw_okq (⟨"ActHouseModel", "least", "(I)I"⟩, 39) := ⟨⟨by decide +kernel, by decide +kernel⟩, List.mem_of_getElem? (i := 479) (by decide +kernel), List.mem_of_getElem? (i := 634) (by decide +kernel), List.mem_of_getElem? (i := 635) (by decide +kernel)⟩
theorem lw_p27 : lw_okq (⟨"ActHouseModel", "sorts", "(I)I"⟩, 39) := ⟨⟨by decide +kernel, by decide +kernel⟩, List.mem_of_getElem? (i := 479) (by decide +kernel), List.mem_of_getElem? (i := 642) (by decide +kernel), List.mem_of_getElem? (i := 643) (by decide +kernel)⟩
theorem lw_p28 : lw_okq (⟨"ActHouseModel", "isAhead", "(II)Z"⟩, 39) := ⟨⟨by decide +kernel, by decide +kernel⟩, List.mem_of_getElem? (i := 479) (by decide +kernel), List.mem_of_getElem? (i := 646) (by decide +kernel), List.mem_of_getElem? (i := 647) (by decide +kernel)⟩
theorem lw_p29 : lw_okq (⟨"ActHouseModel", "does", "(I)V"⟩, 39) := ⟨⟨by decide +kernel, by decide +kernel⟩, List.mem_of_getElem? (i := 479) (by decide +kernel), List.mem_of_getElem? (i := 650) (by decide +kernel), List.mem_of_getElem? (i := 651) (by decide +kernel)⟩
theorem lw_p30 : lw_okq (⟨"ActHouseModel", "stepOf", "(I)I"⟩, 39) := ⟨⟨by decide +kernel, by decide +kernel⟩, List.mem_of_getElem? (i := 479) (by decide +kernel), List.mem_of_getElem? (i := 654) (by decide +kernel), List.mem_of_getElem? (i := 655) (by decide +kernel)⟩
theorem lw_p31 : lw_okq (⟨"ActHouseModel", "canDo", "(IIII)Z"⟩, 39) := ⟨⟨by decide +kernel, by decide +kernel⟩, List.mem_of_getElem? (i := 479) (by decide +kernel), List.mem_of_getElem? (i := 658) (by decide +kernel), List.mem_of_getElem? (i := 659) (by decide +kernel)⟩
def lw_privs_2 : List (MethodName × Nat) := [(⟨"ActHouse", "undoInRing", "(I)V"⟩, 18), (⟨"ActHouse", "beginWaiting", "()V"⟩, 18), (⟨"ActHouse", "countBegunOfClasses", "()V"⟩, 18), (⟨"ActHouse", "answerDone", "()V"⟩, 18), (⟨"ActHouse", "isLost", "(I)Z"⟩, 18), (⟨"ActHouse", "fallAct", "(I)V"⟩, 18), (⟨"ActHouse", "dropUndoneFromRow", "()V"⟩, 18), (⟨"ActHouse", "retellValues", "()V"⟩, 18), (⟨"ActHouse", "countState", "(I)I"⟩, 18), (⟨"ActHouseModel", "newAct", "(IIII)I"⟩, 39), (⟨"ActHouseModel", "least", "(I)I"⟩, 39), (⟨"ActHouseModel", "sorts", "(I)I"⟩, 39), (⟨"ActHouseModel", "isAhead", "(II)Z"⟩, 39), (⟨"ActHouseModel", "does", "(I)V"⟩, 39), (⟨"ActHouseModel", "stepOf", "(I)I"⟩, 39), (⟨"ActHouseModel", "canDo", "(IIII)Z"⟩, 39)]
theorem lw_r2 : ∀ q ∈ lw_privs_2, lw_okq q := List.forall_mem_cons.mpr ⟨lw_p16, List.forall_mem_cons.mpr ⟨lw_p17, List.forall_mem_cons.mpr ⟨lw_p18, List.forall_mem_cons.mpr ⟨lw_p19, List.forall_mem_cons.mpr ⟨lw_p20, List.forall_mem_cons.mpr ⟨lw_p21, List.forall_mem_cons.mpr ⟨lw_p22, List.forall_mem_cons.mpr ⟨lw_p23, List.forall_mem_cons.mpr ⟨lw_p24, List.forall_mem_cons.mpr ⟨lw_p25, List.forall_mem_cons.mpr ⟨lw_p26, List.forall_mem_cons.mpr ⟨lw_p27, List.forall_mem_cons.mpr ⟨lw_p28, List.forall_mem_cons.mpr ⟨lw_p29, List.forall_mem_cons.mpr ⟨lw_p30, List.forall_mem_cons.mpr ⟨lw_p31, fun _ h => absurd h List.not_mem_nil⟩⟩⟩⟩⟩⟩⟩⟩⟩⟩⟩⟩⟩⟩⟩⟩
theorem lw_p32 : lw_okq (⟨"ActHouseModel", "isFree", "(IIZ)Z"⟩, 39) := ⟨⟨by decide +kernel, by decide +kernel⟩, List.mem_of_getElem? (i := 479) (by decide +kernel), List.mem_of_getElem? (i := 662) (by decide +kernel), List.mem_of_getElem? (i := 663) (by decide +kernel)⟩
theorem lw_p33 : lw_okq (⟨"ActHouseModel", "bars", "(IIIZ)Z"⟩, 39) := ⟨⟨by decide +kernel, by decide +kernel⟩, List.mem_of_getElem? (i := 479) (by decide +kernel), List.mem_of_getElem? (i := 666) (by decide +kernel), List.mem_of_getElem? (i := 667) (by decide +kernel)⟩
theorem lw_p34 : lw_okq (⟨"ActHouseModel", "seen", "(II)I"⟩, 39) := ⟨⟨by decide +kernel, by decide +kernel⟩, List.mem_of_getElem? (i := 479) (by decide +kernel), List.mem_of_getElem? (i := 670) (by decide +kernel), List.mem_of_getElem? (i := 671) (by decide +kernel)⟩
theorem lw_p35 : lw_okq (⟨"ActHouseModel", "logs", "(III)V"⟩, 39) := ⟨⟨by decide +kernel, by decide +kernel⟩, List.mem_of_getElem? (i := 479) (by decide +kernel), List.mem_of_getElem? (i := 674) (by decide +kernel), List.mem_of_getElem? (i := 675) (by decide +kernel)⟩
theorem lw_p36 : lw_okq (⟨"ActHouseModel", "clears", "(I)V"⟩, 39) := ⟨⟨by decide +kernel, by decide +kernel⟩, List.mem_of_getElem? (i := 479) (by decide +kernel), List.mem_of_getElem? (i := 680) (by decide +kernel), List.mem_of_getElem? (i := 681) (by decide +kernel)⟩
theorem lw_p37 : lw_okq (⟨"ActHouseModel", "isDone", "(I)V"⟩, 39) := ⟨⟨by decide +kernel, by decide +kernel⟩, List.mem_of_getElem? (i := 479) (by decide +kernel), List.mem_of_getElem? (i := 684) (by decide +kernel), List.mem_of_getElem? (i := 685) (by decide +kernel)⟩
theorem lw_p38 : lw_okq (⟨"ActHouseModel", "lets", "(I)V"⟩, 39) := ⟨⟨by decide +kernel, by decide +kernel⟩, List.mem_of_getElem? (i := 479) (by decide +kernel), List.mem_of_getElem? (i := 688) (by decide +kernel), List.mem_of_getElem? (i := 689) (by decide +kernel)⟩
theorem lw_p39 : lw_okq (⟨"ActHouseModel", "gets", "(I)V"⟩, 39) := ⟨⟨by decide +kernel, by decide +kernel⟩, List.mem_of_getElem? (i := 479) (by decide +kernel), List.mem_of_getElem? (i := 692) (by decide +kernel), List.mem_of_getElem? (i := 693) (by decide +kernel)⟩
theorem lw_p40 : lw_okq (⟨"ActHouseModel", "breaks", "()V"⟩, 39) := ⟨⟨by decide +kernel, by decide +kernel⟩, List.mem_of_getElem? (i := 479) (by decide +kernel), List.mem_of_getElem? (i := 696) (by decide +kernel), List.mem_of_getElem? (i := 697) (by decide +kernel)⟩
theorem lw_p41 : lw_okq (⟨"ActHouseModel", "isInRing", "(I)Z"⟩, 39) := ⟨⟨by decide +kernel, by decide +kernel⟩, List.mem_of_getElem? (i := 479) (by decide +kernel), List.mem_of_getElem? (i := 700) (by decide +kernel), List.mem_of_getElem? (i := 701) (by decide +kernel)⟩
theorem lw_p42 : lw_okq (⟨"ActHouseModel", "waitsFor", "(II)Z"⟩, 39) := ⟨⟨by decide +kernel, by decide +kernel⟩, List.mem_of_getElem? (i := 479) (by decide +kernel), List.mem_of_getElem? (i := 704) (by decide +kernel), List.mem_of_getElem? (i := 705) (by decide +kernel)⟩
theorem lw_p43 : lw_okq (⟨"ActHouseModel", "begins", "()V"⟩, 39) := ⟨⟨by decide +kernel, by decide +kernel⟩, List.mem_of_getElem? (i := 479) (by decide +kernel), List.mem_of_getElem? (i := 708) (by decide +kernel), List.mem_of_getElem? (i := 709) (by decide +kernel)⟩
theorem lw_p44 : lw_okq (⟨"ActHouseModel", "keeps", "()V"⟩, 39) := ⟨⟨by decide +kernel, by decide +kernel⟩, List.mem_of_getElem? (i := 479) (by decide +kernel), List.mem_of_getElem? (i := 712) (by decide +kernel), List.mem_of_getElem? (i := 713) (by decide +kernel)⟩
theorem lw_p45 : lw_okq (⟨"ActHouseModel", "isAct", "(I)Z"⟩, 39) := ⟨⟨by decide +kernel, by decide +kernel⟩, List.mem_of_getElem? (i := 479) (by decide +kernel), List.mem_of_getElem? (i := 724) (by decide +kernel), List.mem_of_getElem? (i := 725) (by decide +kernel)⟩
theorem lw_p46 : lw_okq (⟨"ActHouseModel", "countOf", "(I)I"⟩, 39) := ⟨⟨by decide +kernel, by decide +kernel⟩, List.mem_of_getElem? (i := 479) (by decide +kernel), List.mem_of_getElem? (i := 753) (by decide +kernel), List.mem_of_getElem? (i := 754) (by decide +kernel)⟩
def lw_privs_3 : List (MethodName × Nat) := [(⟨"ActHouseModel", "isFree", "(IIZ)Z"⟩, 39), (⟨"ActHouseModel", "bars", "(IIIZ)Z"⟩, 39), (⟨"ActHouseModel", "seen", "(II)I"⟩, 39), (⟨"ActHouseModel", "logs", "(III)V"⟩, 39), (⟨"ActHouseModel", "clears", "(I)V"⟩, 39), (⟨"ActHouseModel", "isDone", "(I)V"⟩, 39), (⟨"ActHouseModel", "lets", "(I)V"⟩, 39), (⟨"ActHouseModel", "gets", "(I)V"⟩, 39), (⟨"ActHouseModel", "breaks", "()V"⟩, 39), (⟨"ActHouseModel", "isInRing", "(I)Z"⟩, 39), (⟨"ActHouseModel", "waitsFor", "(II)Z"⟩, 39), (⟨"ActHouseModel", "begins", "()V"⟩, 39), (⟨"ActHouseModel", "keeps", "()V"⟩, 39), (⟨"ActHouseModel", "isAct", "(I)Z"⟩, 39), (⟨"ActHouseModel", "countOf", "(I)I"⟩, 39)]
theorem lw_r3 : ∀ q ∈ lw_privs_3, lw_okq q := List.forall_mem_cons.mpr ⟨lw_p32, List.forall_mem_cons.mpr ⟨lw_p33, List.forall_mem_cons.mpr ⟨lw_p34, List.forall_mem_cons.mpr ⟨lw_p35, List.forall_mem_cons.mpr ⟨lw_p36, List.forall_mem_cons.mpr ⟨lw_p37, List.forall_mem_cons.mpr ⟨lw_p38, List.forall_mem_cons.mpr ⟨lw_p39, List.forall_mem_cons.mpr ⟨lw_p40, List.forall_mem_cons.mpr ⟨lw_p41, List.forall_mem_cons.mpr ⟨lw_p42, List.forall_mem_cons.mpr ⟨lw_p43, List.forall_mem_cons.mpr ⟨lw_p44, List.forall_mem_cons.mpr ⟨lw_p45, List.forall_mem_cons.mpr ⟨lw_p46, fun _ h => absurd h List.not_mem_nil⟩⟩⟩⟩⟩⟩⟩⟩⟩⟩⟩⟩⟩⟩⟩
def lw_privs : List (MethodName × Nat) := lw_privs_1 ++ (lw_privs_2 ++ (lw_privs_3))
def lw_tbl : List Cond := k2_sels lw_privs ++ tables_1
theorem lw_privs_ok : ∀ q ∈ lw_privs, lw_okq q := by
  show ∀ q ∈ lw_privs_1 ++ (lw_privs_2 ++ (lw_privs_3)), lw_okq q
  exact List.forall_mem_append.mpr ⟨lw_r1, List.forall_mem_append.mpr ⟨lw_r2, lw_r3⟩⟩
end
section
/-! ===== BEGIN words of one list among another's, by their places ===== -/
theorem goodIn_r {big : List Cond} (ws : List Cond) (ps : List Nat) (hp : ws = ps.filterMap (fun i => big[i]?)) (h : ws.all goodWord = true) : GoodIn big ws := by
  intro w hw
  have h1 := List.all_eq_true.mp h w hw
  rw [hp] at hw
  obtain ⟨i, -, hi⟩ := List.mem_filterMap.mp hw
  have hm : w ∈ big := by first | exact List.mem_of_getElem? hi | exact List.getElem?_mem hi
  exact ⟨hm, good_of_word h1⟩
theorem goodIn_app {big a b : List Cond} (ha : GoodIn big a) (hb : GoodIn big b) : GoodIn big (a ++ b) := fun w h => (List.mem_append.mp h).elim (ha w) (hb w)
theorem goodIn_ca {big a b : List Cond} {c : Cond} (ha : GoodIn big (c :: a)) (hb : GoodIn big b) : GoodIn big (c :: (a ++ b)) := fun w h => (List.mem_cons.mp h).elim (fun e => ha w (List.mem_cons.mpr (Or.inl e))) (fun h => (List.mem_append.mp h).elim (fun h => ha w (List.mem_cons.mpr (Or.inr h))) (hb w))
theorem goodIn_sub {big ws : List Cond} (hm : ∀ w ∈ ws, w ∈ big) (h : ws.all goodWord = true) : GoodIn big ws := fun w hw => ⟨hm w hw, good_of_word (List.all_eq_true.mp h w hw)⟩
/-! ===== END ===== -/

/-! ===== BEGIN printed: names, fields, word lists, decode rows ===== -/
def RX0 : String := "ActHouse$Act"
def TX0 : u_T := fun k => match k with
  | 0 => ("ActHouse$Act", "program", "I", true)
  | 1 => ("ActHouse$Act", "kind", "I", true)
  | 2 => ("ActHouse$Act", "rank", "I", true)
  | 3 => ("ActHouse$Act", "parent", "I", true)
  | 4 => ("ActHouse$Act", "steps", "[I", true)
  | 5 => ("ActHouse$Act", "locks", "[I", true)
  | 6 => ("ActHouse$Act", "written", "[I", true)
  | 7 => ("ActHouse$Act", "gives", "[I", true)
  | 8 => ("ActHouse$Act", "takes", "[I", true)
  | 9 => ("ActHouse$Act", "queue", "[I", true)
  | 10 => ("ActHouse$Act", "length", "I", false)
  | 11 => ("ActHouse$Act", "queueLength", "I", false)
  | 12 => ("ActHouse$Act", "state", "I", false)
  | 13 => ("ActHouse$Act", "register", "I", false)
  | 14 => ("ActHouse$Act", "at", "I", false)
  | 15 => ("ActHouse$Act", "heldTick", "I", false)
  | 16 => ("ActHouse$Act", "begunTick", "I", false)
  | 17 => ("ActHouse$Act", "doneTick", "I", false)
  | 18 => ("ActHouse$Act", "entry", "I", false)
  | _ => ("ActHouse$Act", "timesUndone", "I", false)
def tyX0 : Nat → FieldType := fun k => match k with
  | 0 => .int
  | 1 => .int
  | 2 => .int
  | 3 => .int
  | 4 => .array .int
  | 5 => .array .int
  | 6 => .array .int
  | 7 => .array .int
  | 8 => .array .int
  | 9 => .array .int
  | 10 => .int
  | 11 => .int
  | 12 => .int
  | 13 => .int
  | 14 => .int
  | 15 => .int
  | 16 => .int
  | 17 => .int
  | 18 => .int
  | _ => .int
abbrev wsX00 : List Cond := u_ws RX0 TX0 20
theorem nmX0 : ∀ a, a < 20 → ∀ b, b < 20 → a ≠ b → (TX0 a).2.1 ≠ (TX0 b).2.1 := by decide +kernel
theorem tyX0_ok : ∀ k, k < 20 → parseFieldDescriptor (TX0 k).2.2.1 = some (tyX0 k) := by decide +kernel
abbrev cX0_init : ByteArray := prog_2_method_1_code
def yX0_init : MethodName := ⟨RX0, "<init>", "(IIII)V"⟩
abbrev cX0_begin : ByteArray := prog_2_method_2_code
def yX0_begin : MethodName := ⟨RX0, "begin", "([III)V"⟩
abbrev cX0_hasStep : ByteArray := prog_2_method_3_code
def yX0_hasStep : MethodName := ⟨RX0, "hasStep", "()Z"⟩
abbrev cX0_load : ByteArray := prog_2_method_4_code
def yX0_load : MethodName := ⟨RX0, "load", "(I)Z"⟩
abbrev cX0_lockToRead : ByteArray := prog_2_method_5_code
def yX0_lockToRead : MethodName := ⟨RX0, "lockToRead", "(I)V"⟩
abbrev cX0_put : ByteArray := prog_2_method_6_code
def yX0_put : MethodName := ⟨RX0, "put", "(I)V"⟩
abbrev cX0_give : ByteArray := prog_2_method_7_code
def yX0_give : MethodName := ⟨RX0, "give", "(II)V"⟩
abbrev cX0_enqueue : ByteArray := prog_2_method_8_code
def yX0_enqueue : MethodName := ⟨RX0, "enqueue", "(I)V"⟩
abbrev cX0_valueAfter : ByteArray := prog_2_method_9_code
def yX0_valueAfter : MethodName := ⟨RX0, "valueAfter", "(II)I"⟩
abbrev cX0_undo : ByteArray := prog_2_method_10_code
def yX0_undo : MethodName := ⟨RX0, "undo", "()V"⟩
abbrev cX0_leave : ByteArray := prog_2_method_11_code
def yX0_leave : MethodName := ⟨RX0, "leave", "(I)V"⟩
def RX1 : String := "ActHouse$LogBook"
def TX1 : u_T := fun k => match k with
  | 0 => ("ActHouse$LogBook", "entries", "[I", false)
  | 1 => ("ActHouse$LogBook", "size", "I", false)
  | _ => ("ActHouse$LogBook", "kept", "I", false)
def tyX1 : Nat → FieldType := fun k => match k with
  | 0 => .array .int
  | 1 => .int
  | _ => .int
abbrev wsX10 : List Cond := u_ws RX1 TX1 3
theorem nmX1 : ∀ a, a < 3 → ∀ b, b < 3 → a ≠ b → (TX1 a).2.1 ≠ (TX1 b).2.1 := by decide +kernel
theorem tyX1_ok : ∀ k, k < 3 → parseFieldDescriptor (TX1 k).2.2.1 = some (tyX1 k) := by decide +kernel
abbrev cX1_init : ByteArray := prog_3_method_1_code
def yX1_init : MethodName := ⟨RX1, "<init>", "()V"⟩
abbrev cX1_write : ByteArray := prog_3_method_2_code
def yX1_write : MethodName := ⟨RX1, "write", "(IIII)I"⟩
abbrev cX1_keepAll : ByteArray := prog_3_method_3_code
def yX1_keepAll : MethodName := ⟨RX1, "keepAll", "()V"⟩
abbrev cX1_cut : ByteArray := prog_3_method_4_code
def yX1_cut : MethodName := ⟨RX1, "cut", "(I)V"⟩
abbrev cX1_tell : ByteArray := prog_3_method_5_code
def yX1_tell : MethodName := ⟨RX1, "tell", "(II)I"⟩
def RX2 : String := "ActHouse$Waits"
def TX2 : u_T := fun k => match k with
  | 0 => ("ActHouse$Waits", "direct", "[J", true)
  | 1 => ("ActHouse$Waits", "reach", "[J", true)
  | _ => ("ActHouse$Waits", "many", "I", false)
def tyX2 : Nat → FieldType := fun k => match k with
  | 0 => .array .long
  | 1 => .array .long
  | _ => .int
abbrev wsX20 : List Cond := u_ws RX2 TX2 3
theorem nmX2 : ∀ a, a < 3 → ∀ b, b < 3 → a ≠ b → (TX2 a).2.1 ≠ (TX2 b).2.1 := by decide +kernel
theorem tyX2_ok : ∀ k, k < 3 → parseFieldDescriptor (TX2 k).2.2.1 = some (tyX2 k) := by decide +kernel
abbrev cX2_init : ByteArray := prog_4_method_1_code
def yX2_init : MethodName := ⟨RX2, "<init>", "()V"⟩
abbrev cX2_clear : ByteArray := prog_4_method_2_code
def yX2_clear : MethodName := ⟨RX2, "clear", "(I)V"⟩
abbrev cX2_add : ByteArray := prog_4_method_3_code
def yX2_add : MethodName := ⟨RX2, "add", "(II)V"⟩
abbrev cX2_remove : ByteArray := prog_4_method_4_code
def yX2_remove : MethodName := ⟨RX2, "remove", "(I)V"⟩
abbrev cX2_close : ByteArray := prog_4_method_5_code
def yX2_close : MethodName := ⟨RX2, "close", "()V"⟩
abbrev cX2_isInRing : ByteArray := prog_4_method_6_code
def yX2_isInRing : MethodName := ⟨RX2, "isInRing", "(I)Z"⟩
def RX3 : String := "ActHouse"
def TX3 : u_T := fun k => match k with
  | 0 => ("ActHouse", "programSteps", "[I", true)
  | 1 => ("ActHouse", "programLengths", "[I", true)
  | 2 => ("ActHouse", "limits", "[I", true)
  | 3 => ("ActHouse", "floors", "[I", true)
  | 4 => ("ActHouse", "values", "[I", true)
  | 5 => ("ActHouse", "acts", "[LActHouse$Act;", true)
  | 6 => ("ActHouse", "order", "[I", true)
  | 7 => ("ActHouse", "doneRow", "[I", true)
  | 8 => ("ActHouse", "running", "[I", true)
  | 9 => ("ActHouse", "begunOfClass", "[I", true)
  | 10 => ("ActHouse", "book", "LActHouse$LogBook;", true)
  | 11 => ("ActHouse", "waits", "LActHouse$Waits;", true)
  | 12 => ("ActHouse", "actCount", "I", false)
  | 13 => ("ActHouse", "doneCount", "I", false)
  | 14 => ("ActHouse", "runningCount", "I", false)
  | 15 => ("ActHouse", "now", "I", false)
  | 16 => ("ActHouse", "rings", "I", false)
  | _ => ("ActHouse", "falls", "I", false)
def tyX3 : Nat → FieldType := fun k => match k with
  | 0 => .array .int
  | 1 => .array .int
  | 2 => .array .int
  | 3 => .array .int
  | 4 => .array .int
  | 5 => .array (.object "ActHouse$Act")
  | 6 => .array .int
  | 7 => .array .int
  | 8 => .array .int
  | 9 => .array .int
  | 10 => .object "ActHouse$LogBook"
  | 11 => .object "ActHouse$Waits"
  | 12 => .int
  | 13 => .int
  | 14 => .int
  | 15 => .int
  | 16 => .int
  | _ => .int
abbrev wsX30 : List Cond := u_ws RX3 TX3 18
theorem nmX3 : ∀ a, a < 18 → ∀ b, b < 18 → a ≠ b → (TX3 a).2.1 ≠ (TX3 b).2.1 := by decide +kernel
theorem tyX3_ok : ∀ k, k < 18 → parseFieldDescriptor (TX3 k).2.2.1 = some (tyX3 k) := by decide +kernel
abbrev cX3_init : ByteArray := prog_1_method_1_code
def yX3_init : MethodName := ⟨RX3, "<init>", "()V"⟩
abbrev cX3_program : ByteArray := prog_1_method_2_code
def yX3_program : MethodName := ⟨RX3, "program", "(I)Z"⟩
abbrev cX3_step : ByteArray := prog_1_method_3_code
def yX3_step : MethodName := ⟨RX3, "step", "(II)I"⟩
abbrev cX3_act : ByteArray := prog_1_method_4_code
def yX3_act : MethodName := ⟨RX3, "act", "(III)I"⟩
abbrev cX3_limit : ByteArray := prog_1_method_5_code
def yX3_limit : MethodName := ⟨RX3, "limit", "(II)Z"⟩
abbrev cX3_floor : ByteArray := prog_1_method_6_code
def yX3_floor : MethodName := ⟨RX3, "floor", "(II)Z"⟩
abbrev cX3_go : ByteArray := prog_1_method_7_code
def yX3_go : MethodName := ⟨RX3, "go", "(I)I"⟩
abbrev cX3_fall : ByteArray := prog_1_method_8_code
def yX3_fall : MethodName := ⟨RX3, "fall", "(I)I"⟩
abbrev cX3_told : ByteArray := prog_1_method_9_code
def yX3_told : MethodName := ⟨RX3, "told", "(II)I"⟩
abbrev cX3_register : ByteArray := prog_1_method_10_code
def yX3_register : MethodName := ⟨RX3, "register", "(I)I"⟩
abbrev cX3_holds : ByteArray := prog_1_method_11_code
def yX3_holds : MethodName := ⟨RX3, "holds", "(II)I"⟩
abbrev cX3_value : ByteArray := prog_1_method_12_code
def yX3_value : MethodName := ⟨RX3, "value", "(II)I"⟩
abbrev cX3_done : ByteArray := prog_1_method_13_code
def yX3_done : MethodName := ⟨RX3, "done", "(I)I"⟩
abbrev cX3_log : ByteArray := prog_1_method_14_code
def yX3_log : MethodName := ⟨RX3, "log", "(II)I"⟩
abbrev cX3_count : ByteArray := prog_1_method_15_code
def yX3_count : MethodName := ⟨RX3, "count", "(I)I"⟩
abbrev cX3_isBelow : ByteArray := prog_1_method_16_code
def yX3_isBelow : MethodName := ⟨RX3, "isBelow", "(II)Z"⟩
abbrev cX3_opOf : ByteArray := prog_1_method_17_code
def yX3_opOf : MethodName := ⟨RX3, "opOf", "(I)I"⟩
abbrev cX3_aOf : ByteArray := prog_1_method_18_code
def yX3_aOf : MethodName := ⟨RX3, "aOf", "(I)I"⟩
abbrev cX3_bOf : ByteArray := prog_1_method_19_code
def yX3_bOf : MethodName := ⟨RX3, "bOf", "(I)I"⟩
abbrev cX3_isStep : ByteArray := prog_1_method_20_code
def yX3_isStep : MethodName := ⟨RX3, "isStep", "(I)Z"⟩
abbrev cX3_usesCell : ByteArray := prog_1_method_21_code
def yX3_usesCell : MethodName := ⟨RX3, "usesCell", "(I)Z"⟩
abbrev cX3_countState : ByteArray := prog_1_method_22_code
def yX3_countState : MethodName := ⟨RX3, "countState", "(I)I"⟩
abbrev cX3_admit : ByteArray := prog_1_method_23_code
def yX3_admit : MethodName := ⟨RX3, "admit", "(IIII)I"⟩
abbrev cX3_passTick : ByteArray := prog_1_method_24_code
def yX3_passTick : MethodName := ⟨RX3, "passTick", "()V"⟩
abbrev cX3_stepBegun : ByteArray := prog_1_method_25_code
def yX3_stepBegun : MethodName := ⟨RX3, "stepBegun", "()V"⟩
abbrev cX3_gatherRunning : ByteArray := prog_1_method_26_code
def yX3_gatherRunning : MethodName := ⟨RX3, "gatherRunning", "()V"⟩
abbrev cX3_takeStep : ByteArray := prog_1_method_27_code
def yX3_takeStep : MethodName := ⟨RX3, "takeStep", "(I)V"⟩
abbrev cX3_canBe : ByteArray := prog_1_method_28_code
def yX3_canBe : MethodName := ⟨RX3, "canBe", "(II)Z"⟩
abbrev cX3_blocks : ByteArray := prog_1_method_29_code
def yX3_blocks : MethodName := ⟨RX3, "blocks", "(LActHouse$Act;I)Z"⟩
abbrev cX3_leastToCome : ByteArray := prog_1_method_30_code
def yX3_leastToCome : MethodName := ⟨RX3, "leastToCome", "(I)I"⟩
abbrev cX3_perform : ByteArray := prog_1_method_31_code
def yX3_perform : MethodName := ⟨RX3, "perform", "(II)Z"⟩
abbrev cX3_seenBy : ByteArray := prog_1_method_32_code
def yX3_seenBy : MethodName := ⟨RX3, "seenBy", "(LActHouse$Act;I)I"⟩
abbrev cX3_stopAct : ByteArray := prog_1_method_33_code
def yX3_stopAct : MethodName := ⟨RX3, "stopAct", "(I)V"⟩
abbrev cX3_finishAct : ByteArray := prog_1_method_34_code
def yX3_finishAct : MethodName := ⟨RX3, "finishAct", "(I)V"⟩
abbrev cX3_tellValues : ByteArray := prog_1_method_35_code
def yX3_tellValues : MethodName := ⟨RX3, "tellValues", "(LActHouse$Act;)V"⟩
abbrev cX3_breakRings : ByteArray := prog_1_method_36_code
def yX3_breakRings : MethodName := ⟨RX3, "breakRings", "()V"⟩
abbrev cX3_drawWaits : ByteArray := prog_1_method_37_code
def yX3_drawWaits : MethodName := ⟨RX3, "drawWaits", "()Z"⟩
abbrev cX3_lastBegunInRing : ByteArray := prog_1_method_38_code
def yX3_lastBegunInRing : MethodName := ⟨RX3, "lastBegunInRing", "()I"⟩
abbrev cX3_isBegunLater : ByteArray := prog_1_method_39_code
def yX3_isBegunLater : MethodName := ⟨RX3, "isBegunLater", "(II)Z"⟩
abbrev cX3_undoInRing : ByteArray := prog_1_method_40_code
def yX3_undoInRing : MethodName := ⟨RX3, "undoInRing", "(I)V"⟩
abbrev cX3_beginWaiting : ByteArray := prog_1_method_41_code
def yX3_beginWaiting : MethodName := ⟨RX3, "beginWaiting", "()V"⟩
abbrev cX3_countBegunOfClasses : ByteArray := prog_1_method_42_code
def yX3_countBegunOfClasses : MethodName := ⟨RX3, "countBegunOfClasses", "()V"⟩
abbrev cX3_answerDone : ByteArray := prog_1_method_43_code
def yX3_answerDone : MethodName := ⟨RX3, "answerDone", "()V"⟩
abbrev cX3_isLost : ByteArray := prog_1_method_44_code
def yX3_isLost : MethodName := ⟨RX3, "isLost", "(I)Z"⟩
abbrev cX3_fallAct : ByteArray := prog_1_method_45_code
def yX3_fallAct : MethodName := ⟨RX3, "fallAct", "(I)V"⟩
abbrev cX3_dropUndoneFromRow : ByteArray := prog_1_method_46_code
def yX3_dropUndoneFromRow : MethodName := ⟨RX3, "dropUndoneFromRow", "()V"⟩
abbrev cX3_retellValues : ByteArray := prog_1_method_47_code
def yX3_retellValues : MethodName := ⟨RX3, "retellValues", "()V"⟩
def RX4 : String := "ActHouseModel"
def TX4 : u_T := fun k => match k with
  | 0 => ("ActHouseModel", "now", "I", false)
  | 1 => ("ActHouseModel", "cells", "[I", true)
  | 2 => ("ActHouseModel", "counters", "[I", true)
  | 3 => ("ActHouseModel", "floors", "[I", true)
  | 4 => ("ActHouseModel", "limits", "[I", true)
  | 5 => ("ActHouseModel", "longs", "[I", true)
  | 6 => ("ActHouseModel", "steps", "[I", true)
  | 7 => ("ActHouseModel", "acts", "I", false)
  | 8 => ("ActHouseModel", "program", "[I", true)
  | 9 => ("ActHouseModel", "kind", "[I", true)
  | 10 => ("ActHouseModel", "rank", "[I", true)
  | 11 => ("ActHouseModel", "state", "[I", true)
  | 12 => ("ActHouseModel", "actLong", "[I", true)
  | 13 => ("ActHouseModel", "actSteps", "[I", true)
  | 14 => ("ActHouseModel", "at", "[I", true)
  | 15 => ("ActHouseModel", "register", "[I", true)
  | 16 => ("ActHouseModel", "isHeld", "[Z", true)
  | 17 => ("ActHouseModel", "doneIn", "[I", true)
  | 18 => ("ActHouseModel", "undone", "[I", true)
  | 19 => ("ActHouseModel", "by", "[I", true)
  | 20 => ("ActHouseModel", "begunIn", "[I", true)
  | 21 => ("ActHouseModel", "isVoid", "[Z", true)
  | 22 => ("ActHouseModel", "isAgain", "[Z", true)
  | 23 => ("ActHouseModel", "holds", "[I", true)
  | 24 => ("ActHouseModel", "writes", "[I", true)
  | 25 => ("ActHouseModel", "gives", "[I", true)
  | 26 => ("ActHouseModel", "below", "[I", true)
  | 27 => ("ActHouseModel", "queued", "[I", true)
  | 28 => ("ActHouseModel", "queuedMany", "[I", true)
  | 29 => ("ActHouseModel", "dones", "I", false)
  | 30 => ("ActHouseModel", "done", "[I", true)
  | 31 => ("ActHouseModel", "entries", "I", false)
  | 32 => ("ActHouseModel", "kept", "I", false)
  | 33 => ("ActHouseModel", "log", "[I", false)
  | 34 => ("ActHouseModel", "rings", "I", false)
  | 35 => ("ActHouseModel", "falls", "I", false)
  | 36 => ("ActHouseModel", "order", "[I", true)
  | 37 => ("ActHouseModel", "isReached", "[Z", true)
  | _ => ("ActHouseModel", "queue", "[I", true)
def tyX4 : Nat → FieldType := fun k => match k with
  | 0 => .int
  | 1 => .array .int
  | 2 => .array .int
  | 3 => .array .int
  | 4 => .array .int
  | 5 => .array .int
  | 6 => .array .int
  | 7 => .int
  | 8 => .array .int
  | 9 => .array .int
  | 10 => .array .int
  | 11 => .array .int
  | 12 => .array .int
  | 13 => .array .int
  | 14 => .array .int
  | 15 => .array .int
  | 16 => .array .boolean
  | 17 => .array .int
  | 18 => .array .int
  | 19 => .array .int
  | 20 => .array .int
  | 21 => .array .boolean
  | 22 => .array .boolean
  | 23 => .array .int
  | 24 => .array .int
  | 25 => .array .int
  | 26 => .array .int
  | 27 => .array .int
  | 28 => .array .int
  | 29 => .int
  | 30 => .array .int
  | 31 => .int
  | 32 => .int
  | 33 => .array .int
  | 34 => .int
  | 35 => .int
  | 36 => .array .int
  | 37 => .array .boolean
  | _ => .array .int
abbrev wsX40 : List Cond := u_ws RX4 TX4 39
theorem nmX4 : ∀ a, a < 39 → ∀ b, b < 39 → a ≠ b → (TX4 a).2.1 ≠ (TX4 b).2.1 := by decide +kernel
theorem tyX4_ok : ∀ k, k < 39 → parseFieldDescriptor (TX4 k).2.2.1 = some (tyX4 k) := by decide +kernel
abbrev cX4_init : ByteArray := prog_6_method_1_code
def yX4_init : MethodName := ⟨RX4, "<init>", "()V"⟩
abbrev cX4_in : ByteArray := prog_6_method_2_code
def yX4_in : MethodName := ⟨RX4, "in", "(III)Z"⟩
abbrev cX4_isProgram : ByteArray := prog_6_method_3_code
def yX4_isProgram : MethodName := ⟨RX4, "isProgram", "(I)Z"⟩
abbrev cX4_isAct : ByteArray := prog_6_method_4_code
def yX4_isAct : MethodName := ⟨RX4, "isAct", "(I)Z"⟩
abbrev cX4_program : ByteArray := prog_6_method_5_code
def yX4_program : MethodName := ⟨RX4, "program", "(I)Z"⟩
abbrev cX4_step : ByteArray := prog_6_method_6_code
def yX4_step : MethodName := ⟨RX4, "step", "(II)I"⟩
abbrev cX4_newAct : ByteArray := prog_6_method_7_code
def yX4_newAct : MethodName := ⟨RX4, "newAct", "(IIII)I"⟩
abbrev cX4_act : ByteArray := prog_6_method_8_code
def yX4_act : MethodName := ⟨RX4, "act", "(III)I"⟩
abbrev cX4_limit : ByteArray := prog_6_method_9_code
def yX4_limit : MethodName := ⟨RX4, "limit", "(II)Z"⟩
abbrev cX4_least : ByteArray := prog_6_method_10_code
def yX4_least : MethodName := ⟨RX4, "least", "(I)I"⟩
abbrev cX4_floor : ByteArray := prog_6_method_11_code
def yX4_floor : MethodName := ⟨RX4, "floor", "(II)Z"⟩
abbrev cX4_logs : ByteArray := prog_6_method_12_code
def yX4_logs : MethodName := ⟨RX4, "logs", "(III)V"⟩
abbrev cX4_clears : ByteArray := prog_6_method_13_code
def yX4_clears : MethodName := ⟨RX4, "clears", "(I)V"⟩
abbrev cX4_lets : ByteArray := prog_6_method_14_code
def yX4_lets : MethodName := ⟨RX4, "lets", "(I)V"⟩
abbrev cX4_bars : ByteArray := prog_6_method_15_code
def yX4_bars : MethodName := ⟨RX4, "bars", "(IIIZ)Z"⟩
abbrev cX4_isFree : ByteArray := prog_6_method_16_code
def yX4_isFree : MethodName := ⟨RX4, "isFree", "(IIZ)Z"⟩
abbrev cX4_seen : ByteArray := prog_6_method_17_code
def yX4_seen : MethodName := ⟨RX4, "seen", "(II)I"⟩
abbrev cX4_stepOf : ByteArray := prog_6_method_18_code
def yX4_stepOf : MethodName := ⟨RX4, "stepOf", "(I)I"⟩
abbrev cX4_does : ByteArray := prog_6_method_19_code
def yX4_does : MethodName := ⟨RX4, "does", "(I)V"⟩
abbrev cX4_canDo : ByteArray := prog_6_method_20_code
def yX4_canDo : MethodName := ⟨RX4, "canDo", "(IIII)Z"⟩
abbrev cX4_isDone : ByteArray := prog_6_method_21_code
def yX4_isDone : MethodName := ⟨RX4, "isDone", "(I)V"⟩
abbrev cX4_gets : ByteArray := prog_6_method_22_code
def yX4_gets : MethodName := ⟨RX4, "gets", "(I)V"⟩
abbrev cX4_isAhead : ByteArray := prog_6_method_23_code
def yX4_isAhead : MethodName := ⟨RX4, "isAhead", "(II)Z"⟩
abbrev cX4_sorts : ByteArray := prog_6_method_24_code
def yX4_sorts : MethodName := ⟨RX4, "sorts", "(I)I"⟩
abbrev cX4_waitsFor : ByteArray := prog_6_method_25_code
def yX4_waitsFor : MethodName := ⟨RX4, "waitsFor", "(II)Z"⟩
abbrev cX4_isInRing : ByteArray := prog_6_method_26_code
def yX4_isInRing : MethodName := ⟨RX4, "isInRing", "(I)Z"⟩
abbrev cX4_breaks : ByteArray := prog_6_method_27_code
def yX4_breaks : MethodName := ⟨RX4, "breaks", "()V"⟩
abbrev cX4_begins : ByteArray := prog_6_method_28_code
def yX4_begins : MethodName := ⟨RX4, "begins", "()V"⟩
abbrev cX4_keeps : ByteArray := prog_6_method_29_code
def yX4_keeps : MethodName := ⟨RX4, "keeps", "()V"⟩
abbrev cX4_go : ByteArray := prog_6_method_30_code
def yX4_go : MethodName := ⟨RX4, "go", "(I)I"⟩
abbrev cX4_fall : ByteArray := prog_6_method_31_code
def yX4_fall : MethodName := ⟨RX4, "fall", "(I)I"⟩
abbrev cX4_told : ByteArray := prog_6_method_32_code
def yX4_told : MethodName := ⟨RX4, "told", "(II)I"⟩
abbrev cX4_register : ByteArray := prog_6_method_33_code
def yX4_register : MethodName := ⟨RX4, "register", "(I)I"⟩
abbrev cX4_holds : ByteArray := prog_6_method_34_code
def yX4_holds : MethodName := ⟨RX4, "holds", "(II)I"⟩
abbrev cX4_value : ByteArray := prog_6_method_35_code
def yX4_value : MethodName := ⟨RX4, "value", "(II)I"⟩
abbrev cX4_done : ByteArray := prog_6_method_36_code
def yX4_done : MethodName := ⟨RX4, "done", "(I)I"⟩
abbrev cX4_log : ByteArray := prog_6_method_37_code
def yX4_log : MethodName := ⟨RX4, "log", "(II)I"⟩
abbrev cX4_countOf : ByteArray := prog_6_method_38_code
def yX4_countOf : MethodName := ⟨RX4, "countOf", "(I)I"⟩
abbrev cX4_count : ByteArray := prog_6_method_39_code
def yX4_count : MethodName := ⟨RX4, "count", "(I)I"⟩
def RJx8e188 : String := "java/lang/Cloneable"
def TJx8e188 : u_T := fun k => match k with
  | _ => ("", "", "", false)
def tyJx8e188 : Nat → FieldType := fun k => match k with
  | _ => .int
abbrev wsJx8e1880 : List Cond := u_ws RJx8e188 TJx8e188 0
theorem nmJx8e188 : ∀ a, a < 0 → ∀ b, b < 0 → a ≠ b → (TJx8e188 a).2.1 ≠ (TJx8e188 b).2.1 := by decide +kernel
theorem tyJx8e188_ok : ∀ k, k < 0 → parseFieldDescriptor (TJx8e188 k).2.2.1 = some (tyJx8e188 k) := by decide +kernel
def RJ9 : String := "java/lang/Math"
def TJ9 : u_T := fun k => match k with
  | _ => ("", "", "", false)
def tyJ9 : Nat → FieldType := fun k => match k with
  | _ => .int
abbrev wsJ90 : List Cond := u_ws RJ9 TJ9 0
theorem nmJ9 : ∀ a, a < 0 → ∀ b, b < 0 → a ≠ b → (TJ9 a).2.1 ≠ (TJ9 b).2.1 := by decide +kernel
theorem tyJ9_ok : ∀ k, k < 0 → parseFieldDescriptor (TJ9 k).2.2.1 = some (tyJ9 k) := by decide +kernel
abbrev cJ9_min_7cf53 : ByteArray := prog_8_method_69_code
def yJ9_min_7cf53 : MethodName := ⟨RJ9, "min", "(II)I"⟩
def RJ10 : String := "java/lang/System"
def TJ10 : u_T := fun k => match k with
  | _ => ("", "", "", false)
def tyJ10 : Nat → FieldType := fun k => match k with
  | _ => .int
abbrev wsJ100 : List Cond := u_ws RJ10 TJ10 0
theorem nmJ10 : ∀ a, a < 0 → ∀ b, b < 0 → a ≠ b → (TJ10 a).2.1 ≠ (TJ10 b).2.1 := by decide +kernel
theorem tyJ10_ok : ∀ k, k < 0 → parseFieldDescriptor (TJ10 k).2.2.1 = some (tyJ10 k) := by decide +kernel
def RJ7 : String := "java/util/Arrays"
def TJ7 : u_T := fun k => match k with
  | _ => ("", "", "", false)
def tyJ7 : Nat → FieldType := fun k => match k with
  | _ => .int
abbrev wsJ70 : List Cond := u_ws RJ7 TJ7 0
theorem nmJ7 : ∀ a, a < 0 → ∀ b, b < 0 → a ≠ b → (TJ7 a).2.1 ≠ (TJ7 b).2.1 := by decide +kernel
theorem tyJ7_ok : ∀ k, k < 0 → parseFieldDescriptor (TJ7 k).2.2.1 = some (tyJ7 k) := by decide +kernel
abbrev cJ7_fill_d0a16 : ByteArray := prog_10_method_101_code
def yJ7_fill_d0a16 : MethodName := ⟨RJ7, "fill", "([JJ)V"⟩
abbrev cJ7_fill_53178 : ByteArray := prog_10_method_103_code
def yJ7_fill_53178 : MethodName := ⟨RJ7, "fill", "([II)V"⟩
abbrev cJ7_copyOf_59c91 : ByteArray := prog_10_method_123_code
def yJ7_copyOf_59c91 : MethodName := ⟨RJ7, "copyOf", "([II)[I"⟩
def RL : String := "ActHouseLaw"
abbrev cL_law : ByteArray := code
def yL_law : MethodName := ⟨RL, "law", "([I)Z"⟩
def wsX0_init : List Cond := .code yX0_init cX0_init 5 none :: ([.methodLink RX0 3 objectInit, .instanceMethod objectInit, .code objectInit ⟨#[0xb1]⟩ 1 none, .arrayClass .int, .fieldLink RX0 9 "ActHouse$Act" "steps" "[I", .fieldLink RX0 15 "ActHouse$Act" "locks" "[I", .fieldLink RX0 18 "ActHouse$Act" "written" "[I", .fieldLink RX0 21 "ActHouse$Act" "gives" "[I", .fieldLink RX0 24 "ActHouse$Act" "takes" "[I", .fieldLink RX0 27 "ActHouse$Act" "queue" "[I", .fieldLink RX0 30 "ActHouse$Act" "state" "I", .fieldLink RX0 34 "ActHouse$Act" "heldTick" "I", .fieldLink RX0 37 "ActHouse$Act" "begunTick" "I", .fieldLink RX0 40 "ActHouse$Act" "doneTick" "I", .fieldLink RX0 43 "ActHouse$Act" "entry" "I", .fieldLink RX0 46 "ActHouse$Act" "program" "I", .fieldLink RX0 49 "ActHouse$Act" "kind" "I", .fieldLink RX0 52 "ActHouse$Act" "rank" "I", .fieldLink RX0 55 "ActHouse$Act" "parent" "I"] ++ wsX00)
def wsX0_begin : List Cond := .code yX0_begin cX0_begin 4 none :: ([.fieldLink RX0 46 "ActHouse$Act" "program" "I", .fieldLink RX0 9 "ActHouse$Act" "steps" "[I", .methodLink RX0 58 arraycopyName, .native arraycopyName, .static arraycopyName, .initialized "java/lang/System", .fieldLink RX0 64 "ActHouse$Act" "length" "I", .fieldLink RX0 30 "ActHouse$Act" "state" "I", .fieldLink RX0 67 "ActHouse$Act" "register" "I", .fieldLink RX0 70 "ActHouse$Act" "at" "I", .fieldLink RX0 37 "ActHouse$Act" "begunTick" "I"] ++ wsX00)
def wsX0_hasStep : List Cond := .code yX0_hasStep cX0_hasStep 1 (some .boolean) :: ([.fieldLink RX0 70 "ActHouse$Act" "at" "I", .fieldLink RX0 64 "ActHouse$Act" "length" "I"] ++ wsX00)
def wsX0_load : List Cond := .code yX0_load cX0_load 2 (some .boolean) :: ([.constant RX0 73 (1000000), .constant RX0 74 (-1000000), .fieldLink RX0 67 "ActHouse$Act" "register" "I"] ++ wsX00)
def wsX0_lockToRead : List Cond := .code yX0_lockToRead cX0_lockToRead 2 none :: ([.fieldLink RX0 15 "ActHouse$Act" "locks" "[I"] ++ wsX00)
def wsX0_put : List Cond := .code yX0_put cX0_put 2 none :: ([.fieldLink RX0 15 "ActHouse$Act" "locks" "[I", .fieldLink RX0 18 "ActHouse$Act" "written" "[I", .fieldLink RX0 67 "ActHouse$Act" "register" "I"] ++ wsX00)
def wsX0_give : List Cond := .code yX0_give cX0_give 3 none :: ([.fieldLink RX0 21 "ActHouse$Act" "gives" "[I", .fieldLink RX0 24 "ActHouse$Act" "takes" "[I", .methodLink RX0 75 Lib.Math.min.name, .static Lib.Math.min.name, .initialized "java/lang/Math", .code Lib.Math.min.name Lib.Math.min.code 2 (some .int)] ++ wsX00)
def wsX0_enqueue : List Cond := .code yX0_enqueue cX0_enqueue 2 none :: ([.fieldLink RX0 81 "ActHouse$Act" "queueLength" "I", .fieldLink RX0 27 "ActHouse$Act" "queue" "[I"] ++ wsX00)
def wsX0_valueAfter : List Cond := .code yX0_valueAfter cX0_valueAfter 3 (some .int) :: ([.fieldLink RX0 15 "ActHouse$Act" "locks" "[I", .fieldLink RX0 18 "ActHouse$Act" "written" "[I", .fieldLink RX0 21 "ActHouse$Act" "gives" "[I"] ++ wsX00)
def wsJ7_fill_53178 : List Cond := .code yJ7_fill_53178 cJ7_fill_53178 4 none :: ([])
def wsX0_leave : List Cond := .code yX0_leave cX0_leave 2 none :: ([.fieldLink RX0 30 "ActHouse$Act" "state" "I", .fieldLink RX0 40 "ActHouse$Act" "doneTick" "I", .fieldLink RX0 43 "ActHouse$Act" "entry" "I", .fieldLink RX0 81 "ActHouse$Act" "queueLength" "I", .fieldLink RX0 15 "ActHouse$Act" "locks" "[I", .fieldLink RX0 21 "ActHouse$Act" "gives" "[I", .fieldLink RX0 24 "ActHouse$Act" "takes" "[I", .methodLink RX0 91 yJ7_fill_53178, .static yJ7_fill_53178, .initialized RJ7, .code yJ7_fill_53178 cJ7_fill_53178 4 none] ++ wsX00)
def wsX0_undo : List Cond := .code yX0_undo cX0_undo 1 none :: ([.fieldLink RX0 88 "ActHouse$Act" "timesUndone" "I", .methodLink RX0 84 yX0_leave, .instanceMethod yX0_leave, .selects RX0 yX0_leave yX0_leave, .initialized RX0, .code yX0_leave cX0_leave 2 none, .fieldLink RX0 30 "ActHouse$Act" "state" "I", .fieldLink RX0 40 "ActHouse$Act" "doneTick" "I", .fieldLink RX0 43 "ActHouse$Act" "entry" "I", .fieldLink RX0 81 "ActHouse$Act" "queueLength" "I", .fieldLink RX0 15 "ActHouse$Act" "locks" "[I", .fieldLink RX0 21 "ActHouse$Act" "gives" "[I", .fieldLink RX0 24 "ActHouse$Act" "takes" "[I", .methodLink RX0 91 yJ7_fill_53178, .static yJ7_fill_53178, .initialized RJ7, .code yJ7_fill_53178 cJ7_fill_53178 4 none] ++ wsX00)
def wsX1_init : List Cond := .code yX1_init cX1_init 1 none :: ([.methodLink RX1 3 objectInit, .instanceMethod objectInit, .code objectInit ⟨#[0xb1]⟩ 1 none, .arrayClass .int, .fieldLink RX1 11 "ActHouse$LogBook" "entries" "[I"] ++ wsX10)
def wsJ7_copyOf_59c91 : List Cond := .code yJ7_copyOf_59c91 cJ7_copyOf_59c91 3 (some (.array .int)) :: ([.methodLink RJ7 316 ⟨"[I", "clone", "()Ljava/lang/Object;"⟩, .sameMethod "[I" "java/lang/Object" "clone" "()Ljava/lang/Object;", .native ⟨"java/lang/Object", "clone", "()Ljava/lang/Object;"⟩, .instanceMethod ⟨"java/lang/Object", "clone", "()Ljava/lang/Object;"⟩, .selects "[I" ⟨"[I", "clone", "()Ljava/lang/Object;"⟩ ⟨"java/lang/Object", "clone", "()Ljava/lang/Object;"⟩, .classLink RJ7 317 "[I", .arrayClass .int, .methodLink RJ7 304 Lib.Math.min.name, .static Lib.Math.min.name, .initialized "java/lang/Math", .code Lib.Math.min.name Lib.Math.min.code 2 (some .int), .methodLink RJ7 150 arraycopyName, .native arraycopyName, .static arraycopyName, .initialized "java/lang/System"])
def wsX1_write : List Cond := .code yX1_write cX1_write 5 (some .int) :: ([.fieldLink RX1 15 "ActHouse$LogBook" "size" "I", .constant RX1 19 (1048576), .fieldLink RX1 11 "ActHouse$LogBook" "entries" "[I", .methodLink RX1 20 yJ7_copyOf_59c91, .static yJ7_copyOf_59c91, .initialized RJ7, .code yJ7_copyOf_59c91 cJ7_copyOf_59c91 3 (some (.array .int)), .methodLink RJ7 316 ⟨"[I", "clone", "()Ljava/lang/Object;"⟩, .sameMethod "[I" "java/lang/Object" "clone" "()Ljava/lang/Object;", .native ⟨"java/lang/Object", "clone", "()Ljava/lang/Object;"⟩, .instanceMethod ⟨"java/lang/Object", "clone", "()Ljava/lang/Object;"⟩, .selects "[I" ⟨"[I", "clone", "()Ljava/lang/Object;"⟩ ⟨"java/lang/Object", "clone", "()Ljava/lang/Object;"⟩, .classLink RJ7 317 "[I", .arrayClass .int, .methodLink RJ7 304 Lib.Math.min.name, .static Lib.Math.min.name, .initialized "java/lang/Math", .code Lib.Math.min.name Lib.Math.min.code 2 (some .int), .methodLink RJ7 150 arraycopyName, .native arraycopyName, .static arraycopyName, .initialized "java/lang/System"] ++ wsX10)
def wsX1_keepAll : List Cond := .code yX1_keepAll cX1_keepAll 1 none :: ([.fieldLink RX1 15 "ActHouse$LogBook" "size" "I", .fieldLink RX1 26 "ActHouse$LogBook" "kept" "I"] ++ wsX10)
def wsX1_cut : List Cond := .code yX1_cut cX1_cut 2 none :: ([.fieldLink RX1 15 "ActHouse$LogBook" "size" "I"] ++ wsX10)
def wsX1_tell : List Cond := .code yX1_tell cX1_tell 4 (some .int) :: ([.fieldLink RX1 15 "ActHouse$LogBook" "size" "I", .fieldLink RX1 11 "ActHouse$LogBook" "entries" "[I"] ++ wsX10)
def wsX2_init : List Cond := .code yX2_init cX2_init 1 none :: ([.methodLink RX2 3 objectInit, .instanceMethod objectInit, .code objectInit ⟨#[0xb1]⟩ 1 none, .arrayClass .long, .fieldLink RX2 9 "ActHouse$Waits" "direct" "[J", .fieldLink RX2 15 "ActHouse$Waits" "reach" "[J"] ++ wsX20)
def wsJ7_fill_d0a16 : List Cond := .code yJ7_fill_d0a16 cJ7_fill_d0a16 5 none :: ([])
def wsX2_clear : List Cond := .code yX2_clear cX2_clear 2 none :: ([.methodLink RX2 18 Lib.Math.min.name, .static Lib.Math.min.name, .initialized "java/lang/Math", .code Lib.Math.min.name Lib.Math.min.code 2 (some .int), .fieldLink RX2 24 "ActHouse$Waits" "many" "I", .fieldLink RX2 9 "ActHouse$Waits" "direct" "[J", .methodLink RX2 28 yJ7_fill_d0a16, .static yJ7_fill_d0a16, .initialized RJ7, .code yJ7_fill_d0a16 cJ7_fill_d0a16 5 none] ++ wsX20)
def wsX2_add : List Cond := .code yX2_add cX2_add 3 none :: ([.fieldLink RX2 9 "ActHouse$Waits" "direct" "[J"] ++ wsX20)
def wsX2_remove : List Cond := .code yX2_remove cX2_remove 2 none :: ([.fieldLink RX2 9 "ActHouse$Waits" "direct" "[J"] ++ wsX20)
def wsX2_close : List Cond := .code yX2_close cX2_close 3 none :: ([.fieldLink RX2 9 "ActHouse$Waits" "direct" "[J", .fieldLink RX2 15 "ActHouse$Waits" "reach" "[J", .fieldLink RX2 24 "ActHouse$Waits" "many" "I", .methodLink RX2 34 arraycopyName, .native arraycopyName, .static arraycopyName, .initialized "java/lang/System"] ++ wsX20)
def wsX2_isInRing : List Cond := .code yX2_isInRing cX2_isInRing 2 (some .boolean) :: ([.fieldLink RX2 15 "ActHouse$Waits" "reach" "[J"] ++ wsX20)
def wsX3_init_r1 : List Cond := [Cond.methodLink RX3 3 objectInit, Cond.instanceMethod objectInit, Cond.code objectInit ⟨#[0xb1]⟩ 1 none, Cond.arrayClass .int, Cond.fieldLink RX3 9 "ActHouse" "programSteps" "[I", Cond.fieldLink RX3 13 "ActHouse" "programLengths" "[I", Cond.fieldLink RX3 16 "ActHouse" "limits" "[I", Cond.fieldLink RX3 19 "ActHouse" "floors" "[I", Cond.fieldLink RX3 22 "ActHouse" "values" "[I", Cond.classLink RX3 25 RX0, Cond.fieldLink RX3 27 "ActHouse" "acts" "[LActHouse$Act;", Cond.fieldLink RX3 31 "ActHouse" "order" "[I", Cond.fieldLink RX3 34 "ActHouse" "doneRow" "[I", Cond.fieldLink RX3 37 "ActHouse" "running" "[I", Cond.fieldLink RX3 40 "ActHouse" "begunOfClass" "[I", Cond.classLink RX3 43 RX1, Cond.instantiable RX1 3, Cond.initialized RX1, Cond.fieldLink RX3 46 "ActHouse" "book" "LActHouse$LogBook;", Cond.classLink RX3 50 RX2, Cond.instantiable RX2 3, Cond.initialized RX2, Cond.fieldLink RX3 53 "ActHouse" "waits" "LActHouse$Waits;", Cond.instanceMethod yX1_init]
def wsX3_init_r2 : List Cond := [Cond.code yX1_init cX1_init 1 none, Cond.methodLink RX1 3 objectInit, Cond.fieldLink RX1 11 "ActHouse$LogBook" "entries" "[I", Cond.instanceMethod yX2_init, Cond.code yX2_init cX2_init 1 none, Cond.methodLink RX2 3 objectInit, Cond.arrayClass .long, Cond.fieldLink RX2 9 "ActHouse$Waits" "direct" "[J", Cond.fieldLink RX2 15 "ActHouse$Waits" "reach" "[J", Cond.methodLink RX3 57 yJ7_fill_53178, Cond.static yJ7_fill_53178, Cond.initialized RJ7, Cond.code yJ7_fill_53178 cJ7_fill_53178 4 none]
def wsX3_init : List Cond := .code yX3_init cX3_init 1 none :: ((wsX3_init_r1 ++ wsX3_init_r2) ++ wsX30 ++ wsX10 ++ wsX20)
def wsX3_isBelow : List Cond := .code yX3_isBelow cX3_isBelow 2 (some .boolean) :: ([])
def wsX3_program : List Cond := .code yX3_program cX3_program 2 (some .boolean) :: ([.fieldLink RX3 13 "ActHouse" "programLengths" "[I", .methodLink RX3 63 yX3_isBelow, .static yX3_isBelow, .initialized RX3, .code yX3_isBelow cX3_isBelow 2 (some .boolean)] ++ wsX30)
def wsX3_opOf : List Cond := .code yX3_opOf cX3_opOf 1 (some .int) :: ([])
def wsX3_aOf : List Cond := .code yX3_aOf cX3_aOf 1 (some .int) :: ([])
def wsX3_isStep : List Cond := .code yX3_isStep cX3_isStep 1 (some .boolean) :: ([.methodLink RX3 170 yX3_opOf, .static yX3_opOf, .initialized RX3, .code yX3_opOf cX3_opOf 1 (some .int), .methodLink RX3 173 yX3_aOf, .static yX3_aOf, .code yX3_aOf cX3_aOf 1 (some .int)])
def wsX3_step : List Cond := .code yX3_step cX3_step 4 (some .int) :: ([.fieldLink RX3 13 "ActHouse" "programLengths" "[I", .fieldLink RX3 9 "ActHouse" "programSteps" "[I", .methodLink RX3 63 yX3_isBelow, .static yX3_isBelow, .initialized RX3, .code yX3_isBelow cX3_isBelow 2 (some .boolean), .methodLink RX3 67 yX3_isStep, .static yX3_isStep, .code yX3_isStep cX3_isStep 1 (some .boolean), .methodLink RX3 170 yX3_opOf, .static yX3_opOf, .code yX3_opOf cX3_opOf 1 (some .int), .methodLink RX3 173 yX3_aOf, .static yX3_aOf, .code yX3_aOf cX3_aOf 1 (some .int)] ++ wsX30)
def wsX3_admit_r1 : List Cond := [Cond.fieldLink RX3 102 "ActHouse" "actCount" "I", Cond.fieldLink RX3 27 "ActHouse" "acts" "[LActHouse$Act;", Cond.classLink RX3 25 RX0, Cond.instantiable RX0 20, Cond.initialized RX0, Cond.fieldLink RX3 31 "ActHouse" "order" "[I", Cond.fieldLink RX3 126 "ActHouse$Act" "rank" "I", Cond.methodLink RX3 176 yX0_init, Cond.instanceMethod yX0_init, Cond.code yX0_init cX0_init 5 none, Cond.methodLink RX0 3 objectInit, Cond.instanceMethod objectInit, Cond.code objectInit ⟨#[0xb1]⟩ 1 none, Cond.arrayClass .int, Cond.fieldLink RX0 9 "ActHouse$Act" "steps" "[I", Cond.fieldLink RX0 15 "ActHouse$Act" "locks" "[I", Cond.fieldLink RX0 18 "ActHouse$Act" "written" "[I", Cond.fieldLink RX0 21 "ActHouse$Act" "gives" "[I", Cond.fieldLink RX0 24 "ActHouse$Act" "takes" "[I", Cond.fieldLink RX0 27 "ActHouse$Act" "queue" "[I", Cond.fieldLink RX0 30 "ActHouse$Act" "state" "I", Cond.fieldLink RX0 34 "ActHouse$Act" "heldTick" "I", Cond.fieldLink RX0 37 "ActHouse$Act" "begunTick" "I", Cond.fieldLink RX0 40 "ActHouse$Act" "doneTick" "I"]
def wsX3_admit_r2 : List Cond := [Cond.fieldLink RX0 43 "ActHouse$Act" "entry" "I", Cond.fieldLink RX0 46 "ActHouse$Act" "program" "I", Cond.fieldLink RX0 49 "ActHouse$Act" "kind" "I", Cond.fieldLink RX0 52 "ActHouse$Act" "rank" "I", Cond.fieldLink RX0 55 "ActHouse$Act" "parent" "I"]
def wsX3_admit : List Cond := .code yX3_admit cX3_admit 7 (some .int) :: ((wsX3_admit_r1 ++ wsX3_admit_r2) ++ wsX30 ++ wsX00)
def wsX3_act_r1 : List Cond := [Cond.methodLink RX3 63 yX3_isBelow, Cond.static yX3_isBelow, Cond.initialized RX3, Cond.code yX3_isBelow cX3_isBelow 2 (some .boolean), Cond.methodLink RX3 71 yX3_admit, Cond.instanceMethod yX3_admit, Cond.selects RX3 yX3_admit yX3_admit, Cond.code yX3_admit cX3_admit 7 (some .int), Cond.fieldLink RX3 102 "ActHouse" "actCount" "I", Cond.fieldLink RX3 27 "ActHouse" "acts" "[LActHouse$Act;", Cond.classLink RX3 25 RX0, Cond.instantiable RX0 20, Cond.initialized RX0, Cond.fieldLink RX3 31 "ActHouse" "order" "[I", Cond.fieldLink RX3 126 "ActHouse$Act" "rank" "I", Cond.methodLink RX3 176 yX0_init, Cond.instanceMethod yX0_init, Cond.code yX0_init cX0_init 5 none, Cond.methodLink RX0 3 objectInit, Cond.instanceMethod objectInit, Cond.code objectInit ⟨#[0xb1]⟩ 1 none, Cond.arrayClass .int, Cond.fieldLink RX0 9 "ActHouse$Act" "steps" "[I", Cond.fieldLink RX0 15 "ActHouse$Act" "locks" "[I"]
def wsX3_act_r2 : List Cond := [Cond.fieldLink RX0 18 "ActHouse$Act" "written" "[I", Cond.fieldLink RX0 21 "ActHouse$Act" "gives" "[I", Cond.fieldLink RX0 24 "ActHouse$Act" "takes" "[I", Cond.fieldLink RX0 27 "ActHouse$Act" "queue" "[I", Cond.fieldLink RX0 30 "ActHouse$Act" "state" "I", Cond.fieldLink RX0 34 "ActHouse$Act" "heldTick" "I", Cond.fieldLink RX0 37 "ActHouse$Act" "begunTick" "I", Cond.fieldLink RX0 40 "ActHouse$Act" "doneTick" "I", Cond.fieldLink RX0 43 "ActHouse$Act" "entry" "I", Cond.fieldLink RX0 46 "ActHouse$Act" "program" "I", Cond.fieldLink RX0 49 "ActHouse$Act" "kind" "I", Cond.fieldLink RX0 52 "ActHouse$Act" "rank" "I", Cond.fieldLink RX0 55 "ActHouse$Act" "parent" "I"]
def wsX3_act : List Cond := .code yX3_act cX3_act 4 (some .int) :: ((wsX3_act_r1 ++ wsX3_act_r2) ++ wsX30 ++ wsX00)
def wsX3_limit : List Cond := .code yX3_limit cX3_limit 3 (some .boolean) :: ([.fieldLink RX3 16 "ActHouse" "limits" "[I", .methodLink RX3 63 yX3_isBelow, .static yX3_isBelow, .initialized RX3, .code yX3_isBelow cX3_isBelow 2 (some .boolean)] ++ wsX30)
def wsX3_leastToCome : List Cond := .code yX3_leastToCome cX3_leastToCome 4 (some .int) :: ([.fieldLink RX3 22 "ActHouse" "values" "[I", .fieldLink RX3 102 "ActHouse" "actCount" "I", .fieldLink RX3 27 "ActHouse" "acts" "[LActHouse$Act;", .fieldLink RX3 117 "ActHouse$Act" "state" "I", .fieldLink RX3 229 "ActHouse$Act" "takes" "[I"] ++ wsX30 ++ wsX00)
def wsX3_floor : List Cond := .code yX3_floor cX3_floor 3 (some .boolean) :: ([.fieldLink RX3 19 "ActHouse" "floors" "[I", .methodLink RX3 63 yX3_isBelow, .static yX3_isBelow, .initialized RX3, .code yX3_isBelow cX3_isBelow 2 (some .boolean), .methodLink RX3 75 yX3_leastToCome, .instanceMethod yX3_leastToCome, .selects RX3 yX3_leastToCome yX3_leastToCome, .code yX3_leastToCome cX3_leastToCome 4 (some .int), .fieldLink RX3 22 "ActHouse" "values" "[I", .fieldLink RX3 102 "ActHouse" "actCount" "I", .fieldLink RX3 27 "ActHouse" "acts" "[LActHouse$Act;", .fieldLink RX3 117 "ActHouse$Act" "state" "I", .fieldLink RX3 229 "ActHouse$Act" "takes" "[I"] ++ wsX30 ++ wsX00)
def wsX3_gatherRunning : List Cond := .code yX3_gatherRunning cX3_gatherRunning 2 none :: ([.fieldLink RX3 194 "ActHouse" "runningCount" "I", .fieldLink RX3 102 "ActHouse" "actCount" "I", .fieldLink RX3 27 "ActHouse" "acts" "[LActHouse$Act;", .fieldLink RX3 31 "ActHouse" "order" "[I", .fieldLink RX3 117 "ActHouse$Act" "state" "I", .fieldLink RX3 37 "ActHouse" "running" "[I"] ++ wsX30 ++ wsX00)
def wsX3_bOf : List Cond := .code yX3_bOf cX3_bOf 1 (some .int) :: ([])
def wsX3_usesCell : List Cond := .code yX3_usesCell cX3_usesCell 2 (some .boolean) :: ([.methodLink RX3 170 yX3_opOf, .static yX3_opOf, .initialized RX3, .code yX3_opOf cX3_opOf 1 (some .int)])
def wsX3_blocks : List Cond := .code yX3_blocks cX3_blocks 3 (some .boolean) :: ([.fieldLink RX3 117 "ActHouse$Act" "state" "I", .fieldLink RX3 151 "ActHouse$Act" "locks" "[I", .methodLink RX3 173 yX3_aOf, .static yX3_aOf, .initialized RX3, .code yX3_aOf cX3_aOf 1 (some .int), .methodLink RX3 170 yX3_opOf, .static yX3_opOf, .code yX3_opOf cX3_opOf 1 (some .int)] ++ wsX00)
def wsX3_canBe_r1 : List Cond := [Cond.fieldLink RX3 19 "ActHouse" "floors" "[I", Cond.fieldLink RX3 194 "ActHouse" "runningCount" "I", Cond.fieldLink RX3 37 "ActHouse" "running" "[I", Cond.fieldLink RX3 27 "ActHouse" "acts" "[LActHouse$Act;", Cond.methodLink RX3 170 yX3_opOf, Cond.static yX3_opOf, Cond.initialized RX3, Cond.code yX3_opOf cX3_opOf 1 (some .int), Cond.methodLink RX3 173 yX3_aOf, Cond.static yX3_aOf, Cond.code yX3_aOf cX3_aOf 1 (some .int), Cond.methodLink RX3 219 yX3_bOf, Cond.static yX3_bOf, Cond.code yX3_bOf cX3_bOf 1 (some .int), Cond.methodLink RX3 75 yX3_leastToCome, Cond.instanceMethod yX3_leastToCome, Cond.selects RX3 yX3_leastToCome yX3_leastToCome, Cond.code yX3_leastToCome cX3_leastToCome 4 (some .int), Cond.fieldLink RX3 22 "ActHouse" "values" "[I", Cond.fieldLink RX3 102 "ActHouse" "actCount" "I", Cond.fieldLink RX3 117 "ActHouse$Act" "state" "I", Cond.fieldLink RX3 229 "ActHouse$Act" "takes" "[I", Cond.methodLink RX3 222 yX3_usesCell, Cond.static yX3_usesCell]
def wsX3_canBe_r2 : List Cond := [Cond.code yX3_usesCell cX3_usesCell 2 (some .boolean), Cond.methodLink RX3 225 yX3_blocks, Cond.static yX3_blocks, Cond.code yX3_blocks cX3_blocks 3 (some .boolean), Cond.fieldLink RX3 151 "ActHouse$Act" "locks" "[I"]
def wsX3_canBe : List Cond := .code yX3_canBe cX3_canBe 5 (some .boolean) :: ((wsX3_canBe_r1 ++ wsX3_canBe_r2) ++ wsX30 ++ wsX00)
def wsX3_seenBy : List Cond := .code yX3_seenBy cX3_seenBy 3 (some .int) :: ([.fieldLink RX3 22 "ActHouse" "values" "[I", .methodLink RX3 157 yX0_valueAfter, .instanceMethod yX0_valueAfter, .selects RX0 yX0_valueAfter yX0_valueAfter, .initialized RX0, .code yX0_valueAfter cX0_valueAfter 3 (some .int), .fieldLink RX0 15 "ActHouse$Act" "locks" "[I", .fieldLink RX0 18 "ActHouse$Act" "written" "[I", .fieldLink RX0 21 "ActHouse$Act" "gives" "[I"] ++ wsX30 ++ wsX00)
def wsX3_perform_r1 : List Cond := [Cond.fieldLink RX3 27 "ActHouse" "acts" "[LActHouse$Act;", Cond.fieldLink RX3 148 "ActHouse$Act" "register" "I", Cond.fieldLink RX3 46 "ActHouse" "book" "LActHouse$LogBook;", Cond.fieldLink RX3 79 "ActHouse" "now" "I", Cond.fieldLink RX3 129 "ActHouse$Act" "at" "I", Cond.methodLink RX3 173 yX3_aOf, Cond.static yX3_aOf, Cond.initialized RX3, Cond.code yX3_aOf cX3_aOf 1 (some .int), Cond.methodLink RX3 219 yX3_bOf, Cond.static yX3_bOf, Cond.code yX3_bOf cX3_bOf 1 (some .int), Cond.methodLink RX3 170 yX3_opOf, Cond.static yX3_opOf, Cond.code yX3_opOf cX3_opOf 1 (some .int), Cond.methodLink RX3 232 yX0_lockToRead, Cond.instanceMethod yX0_lockToRead, Cond.selects RX0 yX0_lockToRead yX0_lockToRead, Cond.initialized RX0, Cond.code yX0_lockToRead cX0_lockToRead 2 none, Cond.fieldLink RX0 15 "ActHouse$Act" "locks" "[I", Cond.methodLink RX3 235 yX3_seenBy, Cond.instanceMethod yX3_seenBy, Cond.selects RX3 yX3_seenBy yX3_seenBy]
def wsX3_perform_r2 : List Cond := [Cond.code yX3_seenBy cX3_seenBy 3 (some .int), Cond.fieldLink RX3 22 "ActHouse" "values" "[I", Cond.methodLink RX3 157 yX0_valueAfter, Cond.instanceMethod yX0_valueAfter, Cond.selects RX0 yX0_valueAfter yX0_valueAfter, Cond.code yX0_valueAfter cX0_valueAfter 3 (some .int), Cond.fieldLink RX0 18 "ActHouse$Act" "written" "[I", Cond.fieldLink RX0 21 "ActHouse$Act" "gives" "[I", Cond.methodLink RX3 239 yX0_load, Cond.instanceMethod yX0_load, Cond.selects RX0 yX0_load yX0_load, Cond.code yX0_load cX0_load 2 (some .boolean), Cond.constant RX0 73 (1000000), Cond.constant RX0 74 (-1000000), Cond.fieldLink RX0 67 "ActHouse$Act" "register" "I", Cond.methodLink RX3 242 yX0_put, Cond.instanceMethod yX0_put, Cond.selects RX0 yX0_put yX0_put, Cond.code yX0_put cX0_put 2 none, Cond.methodLink RX3 245 yX1_write, Cond.instanceMethod yX1_write, Cond.selects RX1 yX1_write yX1_write, Cond.initialized RX1, Cond.code yX1_write cX1_write 5 (some .int)]
def wsX3_perform_r3 : List Cond := [Cond.fieldLink RX1 15 "ActHouse$LogBook" "size" "I", Cond.constant RX1 19 (1048576), Cond.fieldLink RX1 11 "ActHouse$LogBook" "entries" "[I", Cond.methodLink RX1 20 yJ7_copyOf_59c91, Cond.static yJ7_copyOf_59c91, Cond.initialized RJ7, Cond.code yJ7_copyOf_59c91 cJ7_copyOf_59c91 3 (some (.array .int)), Cond.methodLink RJ7 316 ⟨"[I", "clone", "()Ljava/lang/Object;"⟩, Cond.sameMethod "[I" "java/lang/Object" "clone" "()Ljava/lang/Object;", Cond.native ⟨"java/lang/Object", "clone", "()Ljava/lang/Object;"⟩, Cond.instanceMethod ⟨"java/lang/Object", "clone", "()Ljava/lang/Object;"⟩, Cond.selects "[I" ⟨"[I", "clone", "()Ljava/lang/Object;"⟩ ⟨"java/lang/Object", "clone", "()Ljava/lang/Object;"⟩, Cond.classLink RJ7 317 "[I", Cond.arrayClass .int, Cond.methodLink RJ7 304 Lib.Math.min.name, Cond.static Lib.Math.min.name, Cond.initialized "java/lang/Math", Cond.code Lib.Math.min.name Lib.Math.min.code 2 (some .int), Cond.methodLink RJ7 150 arraycopyName, Cond.native arraycopyName, Cond.static arraycopyName, Cond.initialized "java/lang/System", Cond.methodLink RX3 248 yX0_give, Cond.instanceMethod yX0_give]
def wsX3_perform_r4 : List Cond := [Cond.selects RX0 yX0_give yX0_give, Cond.code yX0_give cX0_give 3 none, Cond.fieldLink RX0 24 "ActHouse$Act" "takes" "[I", Cond.methodLink RX0 75 Lib.Math.min.name, Cond.methodLink RX3 252 yX0_enqueue, Cond.instanceMethod yX0_enqueue, Cond.selects RX0 yX0_enqueue yX0_enqueue, Cond.code yX0_enqueue cX0_enqueue 2 none, Cond.fieldLink RX0 81 "ActHouse$Act" "queueLength" "I", Cond.fieldLink RX0 27 "ActHouse$Act" "queue" "[I"]
def wsX3_perform : List Cond := .code yX3_perform cX3_perform 6 (some .boolean) :: ((wsX3_perform_r1 ++ (wsX3_perform_r2 ++ (wsX3_perform_r3 ++ wsX3_perform_r4))) ++ wsX30 ++ wsX00 ++ wsX10)
def wsX3_stopAct_r1 : List Cond := [Cond.fieldLink RX3 27 "ActHouse" "acts" "[LActHouse$Act;", Cond.fieldLink RX3 46 "ActHouse" "book" "LActHouse$LogBook;", Cond.fieldLink RX3 79 "ActHouse" "now" "I", Cond.fieldLink RX3 258 "ActHouse$Act" "entry" "I", Cond.methodLink RX3 255 yX0_leave, Cond.instanceMethod yX0_leave, Cond.selects RX0 yX0_leave yX0_leave, Cond.initialized RX0, Cond.code yX0_leave cX0_leave 2 none, Cond.fieldLink RX0 30 "ActHouse$Act" "state" "I", Cond.fieldLink RX0 40 "ActHouse$Act" "doneTick" "I", Cond.fieldLink RX0 43 "ActHouse$Act" "entry" "I", Cond.fieldLink RX0 81 "ActHouse$Act" "queueLength" "I", Cond.fieldLink RX0 15 "ActHouse$Act" "locks" "[I", Cond.fieldLink RX0 21 "ActHouse$Act" "gives" "[I", Cond.fieldLink RX0 24 "ActHouse$Act" "takes" "[I", Cond.methodLink RX0 91 yJ7_fill_53178, Cond.static yJ7_fill_53178, Cond.initialized RJ7, Cond.code yJ7_fill_53178 cJ7_fill_53178 4 none, Cond.methodLink RX3 245 yX1_write, Cond.instanceMethod yX1_write, Cond.selects RX1 yX1_write yX1_write, Cond.initialized RX1]
def wsX3_stopAct_r2 : List Cond := [Cond.code yX1_write cX1_write 5 (some .int), Cond.fieldLink RX1 15 "ActHouse$LogBook" "size" "I", Cond.constant RX1 19 (1048576), Cond.fieldLink RX1 11 "ActHouse$LogBook" "entries" "[I", Cond.methodLink RX1 20 yJ7_copyOf_59c91, Cond.static yJ7_copyOf_59c91, Cond.code yJ7_copyOf_59c91 cJ7_copyOf_59c91 3 (some (.array .int)), Cond.methodLink RJ7 316 ⟨"[I", "clone", "()Ljava/lang/Object;"⟩, Cond.sameMethod "[I" "java/lang/Object" "clone" "()Ljava/lang/Object;", Cond.native ⟨"java/lang/Object", "clone", "()Ljava/lang/Object;"⟩, Cond.instanceMethod ⟨"java/lang/Object", "clone", "()Ljava/lang/Object;"⟩, Cond.selects "[I" ⟨"[I", "clone", "()Ljava/lang/Object;"⟩ ⟨"java/lang/Object", "clone", "()Ljava/lang/Object;"⟩, Cond.classLink RJ7 317 "[I", Cond.arrayClass .int, Cond.methodLink RJ7 304 Lib.Math.min.name, Cond.static Lib.Math.min.name, Cond.initialized "java/lang/Math", Cond.code Lib.Math.min.name Lib.Math.min.code 2 (some .int), Cond.methodLink RJ7 150 arraycopyName, Cond.native arraycopyName, Cond.static arraycopyName, Cond.initialized "java/lang/System"]
def wsX3_stopAct : List Cond := .code yX3_stopAct cX3_stopAct 3 none :: ((wsX3_stopAct_r1 ++ wsX3_stopAct_r2) ++ wsX30 ++ wsX00 ++ wsX10)
def wsX3_tellValues : List Cond := .code yX3_tellValues cX3_tellValues 3 none :: ([.fieldLink RX3 22 "ActHouse" "values" "[I", .methodLink RX3 157 yX0_valueAfter, .instanceMethod yX0_valueAfter, .selects RX0 yX0_valueAfter yX0_valueAfter, .initialized RX0, .code yX0_valueAfter cX0_valueAfter 3 (some .int), .fieldLink RX0 15 "ActHouse$Act" "locks" "[I", .fieldLink RX0 18 "ActHouse$Act" "written" "[I", .fieldLink RX0 21 "ActHouse$Act" "gives" "[I"] ++ wsX30 ++ wsX00)
def wsX3_finishAct_r1 : List Cond := [Cond.fieldLink RX3 27 "ActHouse" "acts" "[LActHouse$Act;", Cond.fieldLink RX3 117 "ActHouse$Act" "state" "I", Cond.fieldLink RX3 79 "ActHouse" "now" "I", Cond.fieldLink RX3 135 "ActHouse$Act" "doneTick" "I", Cond.fieldLink RX3 46 "ActHouse" "book" "LActHouse$LogBook;", Cond.fieldLink RX3 258 "ActHouse$Act" "entry" "I", Cond.fieldLink RX3 154 "ActHouse" "doneCount" "I", Cond.fieldLink RX3 34 "ActHouse" "doneRow" "[I", Cond.fieldLink RX3 265 "ActHouse$Act" "queueLength" "I", Cond.fieldLink RX3 268 "ActHouse$Act" "queue" "[I", Cond.fieldLink RX3 123 "ActHouse$Act" "kind" "I", Cond.fieldLink RX3 126 "ActHouse$Act" "rank" "I", Cond.methodLink RX3 245 yX1_write, Cond.instanceMethod yX1_write, Cond.selects RX1 yX1_write yX1_write, Cond.initialized RX1, Cond.code yX1_write cX1_write 5 (some .int), Cond.fieldLink RX1 15 "ActHouse$LogBook" "size" "I", Cond.constant RX1 19 (1048576), Cond.fieldLink RX1 11 "ActHouse$LogBook" "entries" "[I", Cond.methodLink RX1 20 yJ7_copyOf_59c91, Cond.static yJ7_copyOf_59c91, Cond.initialized RJ7, Cond.code yJ7_copyOf_59c91 cJ7_copyOf_59c91 3 (some (.array .int))]
def wsX3_finishAct_r2 : List Cond := [Cond.methodLink RJ7 316 ⟨"[I", "clone", "()Ljava/lang/Object;"⟩, Cond.sameMethod "[I" "java/lang/Object" "clone" "()Ljava/lang/Object;", Cond.native ⟨"java/lang/Object", "clone", "()Ljava/lang/Object;"⟩, Cond.instanceMethod ⟨"java/lang/Object", "clone", "()Ljava/lang/Object;"⟩, Cond.selects "[I" ⟨"[I", "clone", "()Ljava/lang/Object;"⟩ ⟨"java/lang/Object", "clone", "()Ljava/lang/Object;"⟩, Cond.classLink RJ7 317 "[I", Cond.arrayClass .int, Cond.methodLink RJ7 304 Lib.Math.min.name, Cond.static Lib.Math.min.name, Cond.initialized "java/lang/Math", Cond.code Lib.Math.min.name Lib.Math.min.code 2 (some .int), Cond.methodLink RJ7 150 arraycopyName, Cond.native arraycopyName, Cond.static arraycopyName, Cond.initialized "java/lang/System", Cond.methodLink RX3 261 yX3_tellValues, Cond.instanceMethod yX3_tellValues, Cond.selects RX3 yX3_tellValues yX3_tellValues, Cond.initialized RX3, Cond.code yX3_tellValues cX3_tellValues 3 none, Cond.fieldLink RX3 22 "ActHouse" "values" "[I", Cond.methodLink RX3 157 yX0_valueAfter, Cond.instanceMethod yX0_valueAfter, Cond.selects RX0 yX0_valueAfter yX0_valueAfter]
def wsX3_finishAct_r3 : List Cond := [Cond.initialized RX0, Cond.code yX0_valueAfter cX0_valueAfter 3 (some .int), Cond.fieldLink RX0 15 "ActHouse$Act" "locks" "[I", Cond.fieldLink RX0 18 "ActHouse$Act" "written" "[I", Cond.fieldLink RX0 21 "ActHouse$Act" "gives" "[I", Cond.methodLink RX3 71 yX3_admit, Cond.instanceMethod yX3_admit, Cond.selects RX3 yX3_admit yX3_admit, Cond.code yX3_admit cX3_admit 7 (some .int), Cond.fieldLink RX3 102 "ActHouse" "actCount" "I", Cond.classLink RX3 25 RX0, Cond.instantiable RX0 20, Cond.fieldLink RX3 31 "ActHouse" "order" "[I", Cond.methodLink RX3 176 yX0_init, Cond.instanceMethod yX0_init, Cond.code yX0_init cX0_init 5 none, Cond.methodLink RX0 3 objectInit, Cond.instanceMethod objectInit, Cond.code objectInit ⟨#[0xb1]⟩ 1 none, Cond.fieldLink RX0 9 "ActHouse$Act" "steps" "[I", Cond.fieldLink RX0 24 "ActHouse$Act" "takes" "[I", Cond.fieldLink RX0 27 "ActHouse$Act" "queue" "[I", Cond.fieldLink RX0 30 "ActHouse$Act" "state" "I", Cond.fieldLink RX0 34 "ActHouse$Act" "heldTick" "I"]
def wsX3_finishAct_r4 : List Cond := [Cond.fieldLink RX0 37 "ActHouse$Act" "begunTick" "I", Cond.fieldLink RX0 40 "ActHouse$Act" "doneTick" "I", Cond.fieldLink RX0 43 "ActHouse$Act" "entry" "I", Cond.fieldLink RX0 46 "ActHouse$Act" "program" "I", Cond.fieldLink RX0 49 "ActHouse$Act" "kind" "I", Cond.fieldLink RX0 52 "ActHouse$Act" "rank" "I", Cond.fieldLink RX0 55 "ActHouse$Act" "parent" "I"]
def wsX3_finishAct : List Cond := .code yX3_finishAct cX3_finishAct 4 none :: ((wsX3_finishAct_r1 ++ (wsX3_finishAct_r2 ++ (wsX3_finishAct_r3 ++ wsX3_finishAct_r4))) ++ wsX30 ++ wsX00 ++ wsX10)
def wsX3_takeStep_r1 : List Cond := [Cond.fieldLink RX3 27 "ActHouse" "acts" "[LActHouse$Act;", Cond.fieldLink RX3 204 "ActHouse$Act" "steps" "[I", Cond.fieldLink RX3 129 "ActHouse$Act" "at" "I", Cond.fieldLink RX3 79 "ActHouse" "now" "I", Cond.fieldLink RX3 132 "ActHouse$Act" "heldTick" "I", Cond.methodLink RX3 200 yX0_hasStep, Cond.instanceMethod yX0_hasStep, Cond.selects RX0 yX0_hasStep yX0_hasStep, Cond.initialized RX0, Cond.code yX0_hasStep cX0_hasStep 1 (some .boolean), Cond.fieldLink RX0 70 "ActHouse$Act" "at" "I", Cond.fieldLink RX0 64 "ActHouse$Act" "length" "I", Cond.methodLink RX3 207 yX3_canBe, Cond.instanceMethod yX3_canBe, Cond.selects RX3 yX3_canBe yX3_canBe, Cond.initialized RX3, Cond.code yX3_canBe cX3_canBe 5 (some .boolean), Cond.fieldLink RX3 19 "ActHouse" "floors" "[I", Cond.fieldLink RX3 194 "ActHouse" "runningCount" "I", Cond.fieldLink RX3 37 "ActHouse" "running" "[I", Cond.methodLink RX3 170 yX3_opOf, Cond.static yX3_opOf, Cond.code yX3_opOf cX3_opOf 1 (some .int), Cond.methodLink RX3 173 yX3_aOf]
def wsX3_takeStep_r2 : List Cond := [Cond.static yX3_aOf, Cond.code yX3_aOf cX3_aOf 1 (some .int), Cond.methodLink RX3 219 yX3_bOf, Cond.static yX3_bOf, Cond.code yX3_bOf cX3_bOf 1 (some .int), Cond.methodLink RX3 75 yX3_leastToCome, Cond.instanceMethod yX3_leastToCome, Cond.selects RX3 yX3_leastToCome yX3_leastToCome, Cond.code yX3_leastToCome cX3_leastToCome 4 (some .int), Cond.fieldLink RX3 22 "ActHouse" "values" "[I", Cond.fieldLink RX3 102 "ActHouse" "actCount" "I", Cond.fieldLink RX3 117 "ActHouse$Act" "state" "I", Cond.fieldLink RX3 229 "ActHouse$Act" "takes" "[I", Cond.methodLink RX3 222 yX3_usesCell, Cond.static yX3_usesCell, Cond.code yX3_usesCell cX3_usesCell 2 (some .boolean), Cond.methodLink RX3 225 yX3_blocks, Cond.static yX3_blocks, Cond.code yX3_blocks cX3_blocks 3 (some .boolean), Cond.fieldLink RX3 151 "ActHouse$Act" "locks" "[I", Cond.methodLink RX3 210 yX3_perform, Cond.instanceMethod yX3_perform, Cond.selects RX3 yX3_perform yX3_perform, Cond.code yX3_perform cX3_perform 6 (some .boolean)]
def wsX3_takeStep_r3 : List Cond := [Cond.fieldLink RX3 148 "ActHouse$Act" "register" "I", Cond.fieldLink RX3 46 "ActHouse" "book" "LActHouse$LogBook;", Cond.methodLink RX3 232 yX0_lockToRead, Cond.instanceMethod yX0_lockToRead, Cond.selects RX0 yX0_lockToRead yX0_lockToRead, Cond.code yX0_lockToRead cX0_lockToRead 2 none, Cond.fieldLink RX0 15 "ActHouse$Act" "locks" "[I", Cond.methodLink RX3 235 yX3_seenBy, Cond.instanceMethod yX3_seenBy, Cond.selects RX3 yX3_seenBy yX3_seenBy, Cond.code yX3_seenBy cX3_seenBy 3 (some .int), Cond.methodLink RX3 157 yX0_valueAfter, Cond.instanceMethod yX0_valueAfter, Cond.selects RX0 yX0_valueAfter yX0_valueAfter, Cond.code yX0_valueAfter cX0_valueAfter 3 (some .int), Cond.fieldLink RX0 18 "ActHouse$Act" "written" "[I", Cond.fieldLink RX0 21 "ActHouse$Act" "gives" "[I", Cond.methodLink RX3 239 yX0_load, Cond.instanceMethod yX0_load, Cond.selects RX0 yX0_load yX0_load, Cond.code yX0_load cX0_load 2 (some .boolean), Cond.constant RX0 73 (1000000), Cond.constant RX0 74 (-1000000), Cond.fieldLink RX0 67 "ActHouse$Act" "register" "I"]
def wsX3_takeStep_r4 : List Cond := [Cond.methodLink RX3 242 yX0_put, Cond.instanceMethod yX0_put, Cond.selects RX0 yX0_put yX0_put, Cond.code yX0_put cX0_put 2 none, Cond.methodLink RX3 245 yX1_write, Cond.instanceMethod yX1_write, Cond.selects RX1 yX1_write yX1_write, Cond.initialized RX1, Cond.code yX1_write cX1_write 5 (some .int), Cond.fieldLink RX1 15 "ActHouse$LogBook" "size" "I", Cond.constant RX1 19 (1048576), Cond.fieldLink RX1 11 "ActHouse$LogBook" "entries" "[I", Cond.methodLink RX1 20 yJ7_copyOf_59c91, Cond.static yJ7_copyOf_59c91, Cond.initialized RJ7, Cond.code yJ7_copyOf_59c91 cJ7_copyOf_59c91 3 (some (.array .int)), Cond.methodLink RJ7 316 ⟨"[I", "clone", "()Ljava/lang/Object;"⟩, Cond.sameMethod "[I" "java/lang/Object" "clone" "()Ljava/lang/Object;", Cond.native ⟨"java/lang/Object", "clone", "()Ljava/lang/Object;"⟩, Cond.instanceMethod ⟨"java/lang/Object", "clone", "()Ljava/lang/Object;"⟩, Cond.selects "[I" ⟨"[I", "clone", "()Ljava/lang/Object;"⟩ ⟨"java/lang/Object", "clone", "()Ljava/lang/Object;"⟩, Cond.classLink RJ7 317 "[I", Cond.arrayClass .int, Cond.methodLink RJ7 304 Lib.Math.min.name]
def wsX3_takeStep_r5 : List Cond := [Cond.static Lib.Math.min.name, Cond.initialized "java/lang/Math", Cond.code Lib.Math.min.name Lib.Math.min.code 2 (some .int), Cond.methodLink RJ7 150 arraycopyName, Cond.native arraycopyName, Cond.static arraycopyName, Cond.initialized "java/lang/System", Cond.methodLink RX3 248 yX0_give, Cond.instanceMethod yX0_give, Cond.selects RX0 yX0_give yX0_give, Cond.code yX0_give cX0_give 3 none, Cond.fieldLink RX0 24 "ActHouse$Act" "takes" "[I", Cond.methodLink RX0 75 Lib.Math.min.name, Cond.methodLink RX3 252 yX0_enqueue, Cond.instanceMethod yX0_enqueue, Cond.selects RX0 yX0_enqueue yX0_enqueue, Cond.code yX0_enqueue cX0_enqueue 2 none, Cond.fieldLink RX0 81 "ActHouse$Act" "queueLength" "I", Cond.fieldLink RX0 27 "ActHouse$Act" "queue" "[I", Cond.methodLink RX3 213 yX3_stopAct, Cond.instanceMethod yX3_stopAct, Cond.selects RX3 yX3_stopAct yX3_stopAct, Cond.code yX3_stopAct cX3_stopAct 3 none, Cond.fieldLink RX3 258 "ActHouse$Act" "entry" "I"]
def wsX3_takeStep_r6 : List Cond := [Cond.methodLink RX3 255 yX0_leave, Cond.instanceMethod yX0_leave, Cond.selects RX0 yX0_leave yX0_leave, Cond.code yX0_leave cX0_leave 2 none, Cond.fieldLink RX0 30 "ActHouse$Act" "state" "I", Cond.fieldLink RX0 40 "ActHouse$Act" "doneTick" "I", Cond.fieldLink RX0 43 "ActHouse$Act" "entry" "I", Cond.methodLink RX0 91 yJ7_fill_53178, Cond.static yJ7_fill_53178, Cond.code yJ7_fill_53178 cJ7_fill_53178 4 none, Cond.methodLink RX3 216 yX3_finishAct, Cond.instanceMethod yX3_finishAct, Cond.selects RX3 yX3_finishAct yX3_finishAct, Cond.code yX3_finishAct cX3_finishAct 4 none, Cond.fieldLink RX3 135 "ActHouse$Act" "doneTick" "I", Cond.fieldLink RX3 154 "ActHouse" "doneCount" "I", Cond.fieldLink RX3 34 "ActHouse" "doneRow" "[I", Cond.fieldLink RX3 265 "ActHouse$Act" "queueLength" "I", Cond.fieldLink RX3 268 "ActHouse$Act" "queue" "[I", Cond.fieldLink RX3 123 "ActHouse$Act" "kind" "I", Cond.fieldLink RX3 126 "ActHouse$Act" "rank" "I", Cond.methodLink RX3 261 yX3_tellValues, Cond.instanceMethod yX3_tellValues, Cond.selects RX3 yX3_tellValues yX3_tellValues]
def wsX3_takeStep_r7 : List Cond := [Cond.code yX3_tellValues cX3_tellValues 3 none, Cond.methodLink RX3 71 yX3_admit, Cond.instanceMethod yX3_admit, Cond.selects RX3 yX3_admit yX3_admit, Cond.code yX3_admit cX3_admit 7 (some .int), Cond.classLink RX3 25 RX0, Cond.instantiable RX0 20, Cond.fieldLink RX3 31 "ActHouse" "order" "[I", Cond.methodLink RX3 176 yX0_init, Cond.instanceMethod yX0_init, Cond.code yX0_init cX0_init 5 none, Cond.methodLink RX0 3 objectInit, Cond.instanceMethod objectInit, Cond.code objectInit ⟨#[0xb1]⟩ 1 none, Cond.fieldLink RX0 9 "ActHouse$Act" "steps" "[I", Cond.fieldLink RX0 34 "ActHouse$Act" "heldTick" "I", Cond.fieldLink RX0 37 "ActHouse$Act" "begunTick" "I", Cond.fieldLink RX0 46 "ActHouse$Act" "program" "I", Cond.fieldLink RX0 49 "ActHouse$Act" "kind" "I", Cond.fieldLink RX0 52 "ActHouse$Act" "rank" "I", Cond.fieldLink RX0 55 "ActHouse$Act" "parent" "I"]
def wsX3_takeStep : List Cond := .code yX3_takeStep cX3_takeStep 4 none :: ((wsX3_takeStep_r1 ++ (wsX3_takeStep_r2 ++ (wsX3_takeStep_r3 ++ (wsX3_takeStep_r4 ++ (wsX3_takeStep_r5 ++ (wsX3_takeStep_r6 ++ wsX3_takeStep_r7)))))) ++ wsX30 ++ wsX00 ++ wsX10)
def wsX3_stepBegun_r1 : List Cond := [Cond.fieldLink RX3 194 "ActHouse" "runningCount" "I", Cond.fieldLink RX3 37 "ActHouse" "running" "[I", Cond.methodLink RX3 191 yX3_gatherRunning, Cond.instanceMethod yX3_gatherRunning, Cond.selects RX3 yX3_gatherRunning yX3_gatherRunning, Cond.initialized RX3, Cond.code yX3_gatherRunning cX3_gatherRunning 2 none, Cond.fieldLink RX3 102 "ActHouse" "actCount" "I", Cond.fieldLink RX3 27 "ActHouse" "acts" "[LActHouse$Act;", Cond.fieldLink RX3 31 "ActHouse" "order" "[I", Cond.fieldLink RX3 117 "ActHouse$Act" "state" "I", Cond.methodLink RX3 197 yX3_takeStep, Cond.instanceMethod yX3_takeStep, Cond.selects RX3 yX3_takeStep yX3_takeStep, Cond.code yX3_takeStep cX3_takeStep 4 none, Cond.fieldLink RX3 204 "ActHouse$Act" "steps" "[I", Cond.fieldLink RX3 129 "ActHouse$Act" "at" "I", Cond.fieldLink RX3 79 "ActHouse" "now" "I", Cond.fieldLink RX3 132 "ActHouse$Act" "heldTick" "I", Cond.methodLink RX3 200 yX0_hasStep, Cond.instanceMethod yX0_hasStep, Cond.selects RX0 yX0_hasStep yX0_hasStep, Cond.initialized RX0, Cond.code yX0_hasStep cX0_hasStep 1 (some .boolean)]
def wsX3_stepBegun_r2 : List Cond := [Cond.fieldLink RX0 70 "ActHouse$Act" "at" "I", Cond.fieldLink RX0 64 "ActHouse$Act" "length" "I", Cond.methodLink RX3 207 yX3_canBe, Cond.instanceMethod yX3_canBe, Cond.selects RX3 yX3_canBe yX3_canBe, Cond.code yX3_canBe cX3_canBe 5 (some .boolean), Cond.fieldLink RX3 19 "ActHouse" "floors" "[I", Cond.methodLink RX3 170 yX3_opOf, Cond.static yX3_opOf, Cond.code yX3_opOf cX3_opOf 1 (some .int), Cond.methodLink RX3 173 yX3_aOf, Cond.static yX3_aOf, Cond.code yX3_aOf cX3_aOf 1 (some .int), Cond.methodLink RX3 219 yX3_bOf, Cond.static yX3_bOf, Cond.code yX3_bOf cX3_bOf 1 (some .int), Cond.methodLink RX3 75 yX3_leastToCome, Cond.instanceMethod yX3_leastToCome, Cond.selects RX3 yX3_leastToCome yX3_leastToCome, Cond.code yX3_leastToCome cX3_leastToCome 4 (some .int), Cond.fieldLink RX3 22 "ActHouse" "values" "[I", Cond.fieldLink RX3 229 "ActHouse$Act" "takes" "[I", Cond.methodLink RX3 222 yX3_usesCell, Cond.static yX3_usesCell]
def wsX3_stepBegun_r3 : List Cond := [Cond.code yX3_usesCell cX3_usesCell 2 (some .boolean), Cond.methodLink RX3 225 yX3_blocks, Cond.static yX3_blocks, Cond.code yX3_blocks cX3_blocks 3 (some .boolean), Cond.fieldLink RX3 151 "ActHouse$Act" "locks" "[I", Cond.methodLink RX3 210 yX3_perform, Cond.instanceMethod yX3_perform, Cond.selects RX3 yX3_perform yX3_perform, Cond.code yX3_perform cX3_perform 6 (some .boolean), Cond.fieldLink RX3 148 "ActHouse$Act" "register" "I", Cond.fieldLink RX3 46 "ActHouse" "book" "LActHouse$LogBook;", Cond.methodLink RX3 232 yX0_lockToRead, Cond.instanceMethod yX0_lockToRead, Cond.selects RX0 yX0_lockToRead yX0_lockToRead, Cond.code yX0_lockToRead cX0_lockToRead 2 none, Cond.fieldLink RX0 15 "ActHouse$Act" "locks" "[I", Cond.methodLink RX3 235 yX3_seenBy, Cond.instanceMethod yX3_seenBy, Cond.selects RX3 yX3_seenBy yX3_seenBy, Cond.code yX3_seenBy cX3_seenBy 3 (some .int), Cond.methodLink RX3 157 yX0_valueAfter, Cond.instanceMethod yX0_valueAfter, Cond.selects RX0 yX0_valueAfter yX0_valueAfter, Cond.code yX0_valueAfter cX0_valueAfter 3 (some .int)]
def wsX3_stepBegun_r4 : List Cond := [Cond.fieldLink RX0 18 "ActHouse$Act" "written" "[I", Cond.fieldLink RX0 21 "ActHouse$Act" "gives" "[I", Cond.methodLink RX3 239 yX0_load, Cond.instanceMethod yX0_load, Cond.selects RX0 yX0_load yX0_load, Cond.code yX0_load cX0_load 2 (some .boolean), Cond.constant RX0 73 (1000000), Cond.constant RX0 74 (-1000000), Cond.fieldLink RX0 67 "ActHouse$Act" "register" "I", Cond.methodLink RX3 242 yX0_put, Cond.instanceMethod yX0_put, Cond.selects RX0 yX0_put yX0_put, Cond.code yX0_put cX0_put 2 none, Cond.methodLink RX3 245 yX1_write, Cond.instanceMethod yX1_write, Cond.selects RX1 yX1_write yX1_write, Cond.initialized RX1, Cond.code yX1_write cX1_write 5 (some .int), Cond.fieldLink RX1 15 "ActHouse$LogBook" "size" "I", Cond.constant RX1 19 (1048576), Cond.fieldLink RX1 11 "ActHouse$LogBook" "entries" "[I", Cond.methodLink RX1 20 yJ7_copyOf_59c91, Cond.static yJ7_copyOf_59c91, Cond.initialized RJ7]
def wsX3_stepBegun_r5 : List Cond := [Cond.code yJ7_copyOf_59c91 cJ7_copyOf_59c91 3 (some (.array .int)), Cond.methodLink RJ7 316 ⟨"[I", "clone", "()Ljava/lang/Object;"⟩, Cond.sameMethod "[I" "java/lang/Object" "clone" "()Ljava/lang/Object;", Cond.native ⟨"java/lang/Object", "clone", "()Ljava/lang/Object;"⟩, Cond.instanceMethod ⟨"java/lang/Object", "clone", "()Ljava/lang/Object;"⟩, Cond.selects "[I" ⟨"[I", "clone", "()Ljava/lang/Object;"⟩ ⟨"java/lang/Object", "clone", "()Ljava/lang/Object;"⟩, Cond.classLink RJ7 317 "[I", Cond.arrayClass .int, Cond.methodLink RJ7 304 Lib.Math.min.name, Cond.static Lib.Math.min.name, Cond.initialized "java/lang/Math", Cond.code Lib.Math.min.name Lib.Math.min.code 2 (some .int), Cond.methodLink RJ7 150 arraycopyName, Cond.native arraycopyName, Cond.static arraycopyName, Cond.initialized "java/lang/System", Cond.methodLink RX3 248 yX0_give, Cond.instanceMethod yX0_give, Cond.selects RX0 yX0_give yX0_give, Cond.code yX0_give cX0_give 3 none, Cond.fieldLink RX0 24 "ActHouse$Act" "takes" "[I", Cond.methodLink RX0 75 Lib.Math.min.name, Cond.methodLink RX3 252 yX0_enqueue, Cond.instanceMethod yX0_enqueue]
def wsX3_stepBegun_r6 : List Cond := [Cond.selects RX0 yX0_enqueue yX0_enqueue, Cond.code yX0_enqueue cX0_enqueue 2 none, Cond.fieldLink RX0 81 "ActHouse$Act" "queueLength" "I", Cond.fieldLink RX0 27 "ActHouse$Act" "queue" "[I", Cond.methodLink RX3 213 yX3_stopAct, Cond.instanceMethod yX3_stopAct, Cond.selects RX3 yX3_stopAct yX3_stopAct, Cond.code yX3_stopAct cX3_stopAct 3 none, Cond.fieldLink RX3 258 "ActHouse$Act" "entry" "I", Cond.methodLink RX3 255 yX0_leave, Cond.instanceMethod yX0_leave, Cond.selects RX0 yX0_leave yX0_leave, Cond.code yX0_leave cX0_leave 2 none, Cond.fieldLink RX0 30 "ActHouse$Act" "state" "I", Cond.fieldLink RX0 40 "ActHouse$Act" "doneTick" "I", Cond.fieldLink RX0 43 "ActHouse$Act" "entry" "I", Cond.methodLink RX0 91 yJ7_fill_53178, Cond.static yJ7_fill_53178, Cond.code yJ7_fill_53178 cJ7_fill_53178 4 none, Cond.methodLink RX3 216 yX3_finishAct, Cond.instanceMethod yX3_finishAct, Cond.selects RX3 yX3_finishAct yX3_finishAct, Cond.code yX3_finishAct cX3_finishAct 4 none, Cond.fieldLink RX3 135 "ActHouse$Act" "doneTick" "I"]
def wsX3_stepBegun_r7 : List Cond := [Cond.fieldLink RX3 154 "ActHouse" "doneCount" "I", Cond.fieldLink RX3 34 "ActHouse" "doneRow" "[I", Cond.fieldLink RX3 265 "ActHouse$Act" "queueLength" "I", Cond.fieldLink RX3 268 "ActHouse$Act" "queue" "[I", Cond.fieldLink RX3 123 "ActHouse$Act" "kind" "I", Cond.fieldLink RX3 126 "ActHouse$Act" "rank" "I", Cond.methodLink RX3 261 yX3_tellValues, Cond.instanceMethod yX3_tellValues, Cond.selects RX3 yX3_tellValues yX3_tellValues, Cond.code yX3_tellValues cX3_tellValues 3 none, Cond.methodLink RX3 71 yX3_admit, Cond.instanceMethod yX3_admit, Cond.selects RX3 yX3_admit yX3_admit, Cond.code yX3_admit cX3_admit 7 (some .int), Cond.classLink RX3 25 RX0, Cond.instantiable RX0 20, Cond.methodLink RX3 176 yX0_init, Cond.instanceMethod yX0_init, Cond.code yX0_init cX0_init 5 none, Cond.methodLink RX0 3 objectInit, Cond.instanceMethod objectInit, Cond.code objectInit ⟨#[0xb1]⟩ 1 none, Cond.fieldLink RX0 9 "ActHouse$Act" "steps" "[I", Cond.fieldLink RX0 34 "ActHouse$Act" "heldTick" "I"]
def wsX3_stepBegun_r8 : List Cond := [Cond.fieldLink RX0 37 "ActHouse$Act" "begunTick" "I", Cond.fieldLink RX0 46 "ActHouse$Act" "program" "I", Cond.fieldLink RX0 49 "ActHouse$Act" "kind" "I", Cond.fieldLink RX0 52 "ActHouse$Act" "rank" "I", Cond.fieldLink RX0 55 "ActHouse$Act" "parent" "I"]
def wsX3_stepBegun : List Cond := .code yX3_stepBegun cX3_stepBegun 2 none :: ((wsX3_stepBegun_r1 ++ (wsX3_stepBegun_r2 ++ (wsX3_stepBegun_r3 ++ (wsX3_stepBegun_r4 ++ (wsX3_stepBegun_r5 ++ (wsX3_stepBegun_r6 ++ (wsX3_stepBegun_r7 ++ wsX3_stepBegun_r8))))))) ++ wsX30 ++ wsX00 ++ wsX10)
def wsX3_drawWaits_r1 : List Cond := [Cond.fieldLink RX3 53 "ActHouse" "waits" "LActHouse$Waits;", Cond.fieldLink RX3 194 "ActHouse" "runningCount" "I", Cond.fieldLink RX3 27 "ActHouse" "acts" "[LActHouse$Act;", Cond.fieldLink RX3 37 "ActHouse" "running" "[I", Cond.fieldLink RX3 117 "ActHouse$Act" "state" "I", Cond.fieldLink RX3 132 "ActHouse$Act" "heldTick" "I", Cond.fieldLink RX3 79 "ActHouse" "now" "I", Cond.fieldLink RX3 204 "ActHouse$Act" "steps" "[I", Cond.fieldLink RX3 129 "ActHouse$Act" "at" "I", Cond.methodLink RX3 284 yX2_clear, Cond.instanceMethod yX2_clear, Cond.selects RX2 yX2_clear yX2_clear, Cond.initialized RX2, Cond.code yX2_clear cX2_clear 2 none, Cond.methodLink RX2 18 Lib.Math.min.name, Cond.static Lib.Math.min.name, Cond.initialized "java/lang/Math", Cond.code Lib.Math.min.name Lib.Math.min.code 2 (some .int), Cond.fieldLink RX2 24 "ActHouse$Waits" "many" "I", Cond.fieldLink RX2 9 "ActHouse$Waits" "direct" "[J", Cond.methodLink RX2 28 yJ7_fill_d0a16, Cond.static yJ7_fill_d0a16, Cond.initialized RJ7, Cond.code yJ7_fill_d0a16 cJ7_fill_d0a16 5 none]
def wsX3_drawWaits_r2 : List Cond := [Cond.methodLink RX3 200 yX0_hasStep, Cond.instanceMethod yX0_hasStep, Cond.selects RX0 yX0_hasStep yX0_hasStep, Cond.initialized RX0, Cond.code yX0_hasStep cX0_hasStep 1 (some .boolean), Cond.fieldLink RX0 70 "ActHouse$Act" "at" "I", Cond.fieldLink RX0 64 "ActHouse$Act" "length" "I", Cond.methodLink RX3 222 yX3_usesCell, Cond.static yX3_usesCell, Cond.initialized RX3, Cond.code yX3_usesCell cX3_usesCell 2 (some .boolean), Cond.methodLink RX3 170 yX3_opOf, Cond.static yX3_opOf, Cond.code yX3_opOf cX3_opOf 1 (some .int), Cond.methodLink RX3 225 yX3_blocks, Cond.static yX3_blocks, Cond.code yX3_blocks cX3_blocks 3 (some .boolean), Cond.fieldLink RX3 151 "ActHouse$Act" "locks" "[I", Cond.methodLink RX3 173 yX3_aOf, Cond.static yX3_aOf, Cond.code yX3_aOf cX3_aOf 1 (some .int), Cond.methodLink RX3 287 yX2_add, Cond.instanceMethod yX2_add, Cond.selects RX2 yX2_add yX2_add]
def wsX3_drawWaits_r3 : List Cond := [Cond.code yX2_add cX2_add 3 none]
def wsX3_drawWaits : List Cond := .code yX3_drawWaits cX3_drawWaits 5 (some .boolean) :: ((wsX3_drawWaits_r1 ++ (wsX3_drawWaits_r2 ++ wsX3_drawWaits_r3)) ++ wsX30 ++ wsX00 ++ wsX20)
def wsX3_isBegunLater : List Cond := .code yX3_isBegunLater cX3_isBegunLater 5 (some .boolean) :: ([.fieldLink RX3 27 "ActHouse" "acts" "[LActHouse$Act;", .fieldLink RX3 144 "ActHouse$Act" "begunTick" "I"] ++ wsX30 ++ wsX00)
def wsX3_lastBegunInRing_r1 : List Cond := [Cond.fieldLink RX3 53 "ActHouse" "waits" "LActHouse$Waits;", Cond.fieldLink RX3 194 "ActHouse" "runningCount" "I", Cond.fieldLink RX3 37 "ActHouse" "running" "[I", Cond.methodLink RX3 290 yX2_close, Cond.instanceMethod yX2_close, Cond.selects RX2 yX2_close yX2_close, Cond.initialized RX2, Cond.code yX2_close cX2_close 3 none, Cond.fieldLink RX2 9 "ActHouse$Waits" "direct" "[J", Cond.fieldLink RX2 15 "ActHouse$Waits" "reach" "[J", Cond.fieldLink RX2 24 "ActHouse$Waits" "many" "I", Cond.methodLink RX2 34 arraycopyName, Cond.native arraycopyName, Cond.static arraycopyName, Cond.initialized "java/lang/System", Cond.methodLink RX3 293 yX2_isInRing, Cond.instanceMethod yX2_isInRing, Cond.selects RX2 yX2_isInRing yX2_isInRing, Cond.code yX2_isInRing cX2_isInRing 2 (some .boolean), Cond.methodLink RX3 296 yX3_isBegunLater, Cond.instanceMethod yX3_isBegunLater, Cond.selects RX3 yX3_isBegunLater yX3_isBegunLater, Cond.initialized RX3, Cond.code yX3_isBegunLater cX3_isBegunLater 5 (some .boolean)]
def wsX3_lastBegunInRing_r2 : List Cond := [Cond.fieldLink RX3 27 "ActHouse" "acts" "[LActHouse$Act;", Cond.fieldLink RX3 144 "ActHouse$Act" "begunTick" "I"]
def wsX3_lastBegunInRing : List Cond := .code yX3_lastBegunInRing cX3_lastBegunInRing 3 (some .int) :: ((wsX3_lastBegunInRing_r1 ++ wsX3_lastBegunInRing_r2) ++ wsX30 ++ wsX20 ++ wsX00)
def wsX3_undoInRing_r1 : List Cond := [Cond.fieldLink RX3 27 "ActHouse" "acts" "[LActHouse$Act;", Cond.fieldLink RX3 46 "ActHouse" "book" "LActHouse$LogBook;", Cond.fieldLink RX3 79 "ActHouse" "now" "I", Cond.fieldLink RX3 167 "ActHouse" "rings" "I", Cond.methodLink RX3 299 yX0_undo, Cond.instanceMethod yX0_undo, Cond.selects RX0 yX0_undo yX0_undo, Cond.initialized RX0, Cond.code yX0_undo cX0_undo 1 none, Cond.fieldLink RX0 88 "ActHouse$Act" "timesUndone" "I", Cond.methodLink RX0 84 yX0_leave, Cond.instanceMethod yX0_leave, Cond.selects RX0 yX0_leave yX0_leave, Cond.code yX0_leave cX0_leave 2 none, Cond.fieldLink RX0 30 "ActHouse$Act" "state" "I", Cond.fieldLink RX0 40 "ActHouse$Act" "doneTick" "I", Cond.fieldLink RX0 43 "ActHouse$Act" "entry" "I", Cond.fieldLink RX0 81 "ActHouse$Act" "queueLength" "I", Cond.fieldLink RX0 15 "ActHouse$Act" "locks" "[I", Cond.fieldLink RX0 21 "ActHouse$Act" "gives" "[I", Cond.fieldLink RX0 24 "ActHouse$Act" "takes" "[I", Cond.methodLink RX0 91 yJ7_fill_53178, Cond.static yJ7_fill_53178, Cond.initialized RJ7]
def wsX3_undoInRing_r2 : List Cond := [Cond.code yJ7_fill_53178 cJ7_fill_53178 4 none, Cond.methodLink RX3 245 yX1_write, Cond.instanceMethod yX1_write, Cond.selects RX1 yX1_write yX1_write, Cond.initialized RX1, Cond.code yX1_write cX1_write 5 (some .int), Cond.fieldLink RX1 15 "ActHouse$LogBook" "size" "I", Cond.constant RX1 19 (1048576), Cond.fieldLink RX1 11 "ActHouse$LogBook" "entries" "[I", Cond.methodLink RX1 20 yJ7_copyOf_59c91, Cond.static yJ7_copyOf_59c91, Cond.code yJ7_copyOf_59c91 cJ7_copyOf_59c91 3 (some (.array .int)), Cond.methodLink RJ7 316 ⟨"[I", "clone", "()Ljava/lang/Object;"⟩, Cond.sameMethod "[I" "java/lang/Object" "clone" "()Ljava/lang/Object;", Cond.native ⟨"java/lang/Object", "clone", "()Ljava/lang/Object;"⟩, Cond.instanceMethod ⟨"java/lang/Object", "clone", "()Ljava/lang/Object;"⟩, Cond.selects "[I" ⟨"[I", "clone", "()Ljava/lang/Object;"⟩ ⟨"java/lang/Object", "clone", "()Ljava/lang/Object;"⟩, Cond.classLink RJ7 317 "[I", Cond.arrayClass .int, Cond.methodLink RJ7 304 Lib.Math.min.name, Cond.static Lib.Math.min.name, Cond.initialized "java/lang/Math", Cond.code Lib.Math.min.name Lib.Math.min.code 2 (some .int), Cond.methodLink RJ7 150 arraycopyName]
def wsX3_undoInRing_r3 : List Cond := [Cond.native arraycopyName, Cond.static arraycopyName, Cond.initialized "java/lang/System"]
def wsX3_undoInRing : List Cond := .code yX3_undoInRing cX3_undoInRing 2 none :: ((wsX3_undoInRing_r1 ++ (wsX3_undoInRing_r2 ++ wsX3_undoInRing_r3)) ++ wsX30 ++ wsX00 ++ wsX10)
def wsX3_breakRings_r1 : List Cond := [Cond.fieldLink RX3 194 "ActHouse" "runningCount" "I", Cond.fieldLink RX3 37 "ActHouse" "running" "[I", Cond.fieldLink RX3 53 "ActHouse" "waits" "LActHouse$Waits;", Cond.methodLink RX3 271 yX3_drawWaits, Cond.instanceMethod yX3_drawWaits, Cond.selects RX3 yX3_drawWaits yX3_drawWaits, Cond.initialized RX3, Cond.code yX3_drawWaits cX3_drawWaits 5 (some .boolean), Cond.fieldLink RX3 27 "ActHouse" "acts" "[LActHouse$Act;", Cond.fieldLink RX3 117 "ActHouse$Act" "state" "I", Cond.fieldLink RX3 132 "ActHouse$Act" "heldTick" "I", Cond.fieldLink RX3 79 "ActHouse" "now" "I", Cond.fieldLink RX3 204 "ActHouse$Act" "steps" "[I", Cond.fieldLink RX3 129 "ActHouse$Act" "at" "I", Cond.methodLink RX3 284 yX2_clear, Cond.instanceMethod yX2_clear, Cond.selects RX2 yX2_clear yX2_clear, Cond.initialized RX2, Cond.code yX2_clear cX2_clear 2 none, Cond.methodLink RX2 18 Lib.Math.min.name, Cond.static Lib.Math.min.name, Cond.initialized "java/lang/Math", Cond.code Lib.Math.min.name Lib.Math.min.code 2 (some .int), Cond.fieldLink RX2 24 "ActHouse$Waits" "many" "I"]
def wsX3_breakRings_r2 : List Cond := [Cond.fieldLink RX2 9 "ActHouse$Waits" "direct" "[J", Cond.methodLink RX2 28 yJ7_fill_d0a16, Cond.static yJ7_fill_d0a16, Cond.initialized RJ7, Cond.code yJ7_fill_d0a16 cJ7_fill_d0a16 5 none, Cond.methodLink RX3 200 yX0_hasStep, Cond.instanceMethod yX0_hasStep, Cond.selects RX0 yX0_hasStep yX0_hasStep, Cond.initialized RX0, Cond.code yX0_hasStep cX0_hasStep 1 (some .boolean), Cond.fieldLink RX0 70 "ActHouse$Act" "at" "I", Cond.fieldLink RX0 64 "ActHouse$Act" "length" "I", Cond.methodLink RX3 222 yX3_usesCell, Cond.static yX3_usesCell, Cond.code yX3_usesCell cX3_usesCell 2 (some .boolean), Cond.methodLink RX3 170 yX3_opOf, Cond.static yX3_opOf, Cond.code yX3_opOf cX3_opOf 1 (some .int), Cond.methodLink RX3 225 yX3_blocks, Cond.static yX3_blocks, Cond.code yX3_blocks cX3_blocks 3 (some .boolean), Cond.fieldLink RX3 151 "ActHouse$Act" "locks" "[I", Cond.methodLink RX3 173 yX3_aOf, Cond.static yX3_aOf]
def wsX3_breakRings_r3 : List Cond := [Cond.code yX3_aOf cX3_aOf 1 (some .int), Cond.methodLink RX3 287 yX2_add, Cond.instanceMethod yX2_add, Cond.selects RX2 yX2_add yX2_add, Cond.code yX2_add cX2_add 3 none, Cond.methodLink RX3 274 yX3_lastBegunInRing, Cond.instanceMethod yX3_lastBegunInRing, Cond.selects RX3 yX3_lastBegunInRing yX3_lastBegunInRing, Cond.code yX3_lastBegunInRing cX3_lastBegunInRing 3 (some .int), Cond.methodLink RX3 290 yX2_close, Cond.instanceMethod yX2_close, Cond.selects RX2 yX2_close yX2_close, Cond.code yX2_close cX2_close 3 none, Cond.fieldLink RX2 15 "ActHouse$Waits" "reach" "[J", Cond.methodLink RX2 34 arraycopyName, Cond.native arraycopyName, Cond.static arraycopyName, Cond.initialized "java/lang/System", Cond.methodLink RX3 293 yX2_isInRing, Cond.instanceMethod yX2_isInRing, Cond.selects RX2 yX2_isInRing yX2_isInRing, Cond.code yX2_isInRing cX2_isInRing 2 (some .boolean), Cond.methodLink RX3 296 yX3_isBegunLater, Cond.instanceMethod yX3_isBegunLater]
def wsX3_breakRings_r4 : List Cond := [Cond.selects RX3 yX3_isBegunLater yX3_isBegunLater, Cond.code yX3_isBegunLater cX3_isBegunLater 5 (some .boolean), Cond.fieldLink RX3 144 "ActHouse$Act" "begunTick" "I", Cond.methodLink RX3 278 yX3_undoInRing, Cond.instanceMethod yX3_undoInRing, Cond.selects RX3 yX3_undoInRing yX3_undoInRing, Cond.code yX3_undoInRing cX3_undoInRing 2 none, Cond.fieldLink RX3 46 "ActHouse" "book" "LActHouse$LogBook;", Cond.fieldLink RX3 167 "ActHouse" "rings" "I", Cond.methodLink RX3 299 yX0_undo, Cond.instanceMethod yX0_undo, Cond.selects RX0 yX0_undo yX0_undo, Cond.code yX0_undo cX0_undo 1 none, Cond.fieldLink RX0 88 "ActHouse$Act" "timesUndone" "I", Cond.methodLink RX0 84 yX0_leave, Cond.instanceMethod yX0_leave, Cond.selects RX0 yX0_leave yX0_leave, Cond.code yX0_leave cX0_leave 2 none, Cond.fieldLink RX0 30 "ActHouse$Act" "state" "I", Cond.fieldLink RX0 40 "ActHouse$Act" "doneTick" "I", Cond.fieldLink RX0 43 "ActHouse$Act" "entry" "I", Cond.fieldLink RX0 81 "ActHouse$Act" "queueLength" "I", Cond.fieldLink RX0 15 "ActHouse$Act" "locks" "[I", Cond.fieldLink RX0 21 "ActHouse$Act" "gives" "[I"]
def wsX3_breakRings_r5 : List Cond := [Cond.fieldLink RX0 24 "ActHouse$Act" "takes" "[I", Cond.methodLink RX0 91 yJ7_fill_53178, Cond.static yJ7_fill_53178, Cond.code yJ7_fill_53178 cJ7_fill_53178 4 none, Cond.methodLink RX3 245 yX1_write, Cond.instanceMethod yX1_write, Cond.selects RX1 yX1_write yX1_write, Cond.initialized RX1, Cond.code yX1_write cX1_write 5 (some .int), Cond.fieldLink RX1 15 "ActHouse$LogBook" "size" "I", Cond.constant RX1 19 (1048576), Cond.fieldLink RX1 11 "ActHouse$LogBook" "entries" "[I", Cond.methodLink RX1 20 yJ7_copyOf_59c91, Cond.static yJ7_copyOf_59c91, Cond.code yJ7_copyOf_59c91 cJ7_copyOf_59c91 3 (some (.array .int)), Cond.methodLink RJ7 316 ⟨"[I", "clone", "()Ljava/lang/Object;"⟩, Cond.sameMethod "[I" "java/lang/Object" "clone" "()Ljava/lang/Object;", Cond.native ⟨"java/lang/Object", "clone", "()Ljava/lang/Object;"⟩, Cond.instanceMethod ⟨"java/lang/Object", "clone", "()Ljava/lang/Object;"⟩, Cond.selects "[I" ⟨"[I", "clone", "()Ljava/lang/Object;"⟩ ⟨"java/lang/Object", "clone", "()Ljava/lang/Object;"⟩, Cond.classLink RJ7 317 "[I", Cond.arrayClass .int, Cond.methodLink RJ7 304 Lib.Math.min.name, Cond.methodLink RJ7 150 arraycopyName]
def wsX3_breakRings_r6 : List Cond := [Cond.methodLink RX3 281 yX2_remove, Cond.instanceMethod yX2_remove, Cond.selects RX2 yX2_remove yX2_remove, Cond.code yX2_remove cX2_remove 2 none]
def wsX3_breakRings : List Cond := .code yX3_breakRings cX3_breakRings 3 none :: ((wsX3_breakRings_r1 ++ (wsX3_breakRings_r2 ++ (wsX3_breakRings_r3 ++ (wsX3_breakRings_r4 ++ (wsX3_breakRings_r5 ++ wsX3_breakRings_r6))))) ++ wsX30 ++ wsX00 ++ wsX20 ++ wsX10)
def wsX3_countBegunOfClasses : List Cond := .code yX3_countBegunOfClasses cX3_countBegunOfClasses 2 none :: ([.fieldLink RX3 40 "ActHouse" "begunOfClass" "[I", .fieldLink RX3 102 "ActHouse" "actCount" "I", .fieldLink RX3 27 "ActHouse" "acts" "[LActHouse$Act;", .fieldLink RX3 117 "ActHouse$Act" "state" "I", .fieldLink RX3 123 "ActHouse$Act" "kind" "I", .methodLink RX3 57 yJ7_fill_53178, .static yJ7_fill_53178, .initialized RJ7, .code yJ7_fill_53178 cJ7_fill_53178 4 none] ++ wsX30 ++ wsX00)
def wsX3_beginWaiting_r1 : List Cond := [Cond.fieldLink RX3 102 "ActHouse" "actCount" "I", Cond.fieldLink RX3 27 "ActHouse" "acts" "[LActHouse$Act;", Cond.fieldLink RX3 31 "ActHouse" "order" "[I", Cond.fieldLink RX3 13 "ActHouse" "programLengths" "[I", Cond.fieldLink RX3 120 "ActHouse$Act" "program" "I", Cond.fieldLink RX3 117 "ActHouse$Act" "state" "I", Cond.fieldLink RX3 40 "ActHouse" "begunOfClass" "[I", Cond.fieldLink RX3 123 "ActHouse$Act" "kind" "I", Cond.fieldLink RX3 16 "ActHouse" "limits" "[I", Cond.fieldLink RX3 9 "ActHouse" "programSteps" "[I", Cond.fieldLink RX3 79 "ActHouse" "now" "I", Cond.fieldLink RX3 46 "ActHouse" "book" "LActHouse$LogBook;", Cond.methodLink RX3 302 yX3_countBegunOfClasses, Cond.instanceMethod yX3_countBegunOfClasses, Cond.selects RX3 yX3_countBegunOfClasses yX3_countBegunOfClasses, Cond.initialized RX3, Cond.code yX3_countBegunOfClasses cX3_countBegunOfClasses 2 none, Cond.methodLink RX3 57 yJ7_fill_53178, Cond.static yJ7_fill_53178, Cond.initialized RJ7, Cond.code yJ7_fill_53178 cJ7_fill_53178 4 none, Cond.methodLink RX3 305 yX0_begin, Cond.instanceMethod yX0_begin, Cond.selects RX0 yX0_begin yX0_begin]
def wsX3_beginWaiting_r2 : List Cond := [Cond.initialized RX0, Cond.code yX0_begin cX0_begin 4 none, Cond.fieldLink RX0 46 "ActHouse$Act" "program" "I", Cond.fieldLink RX0 9 "ActHouse$Act" "steps" "[I", Cond.methodLink RX0 58 arraycopyName, Cond.native arraycopyName, Cond.static arraycopyName, Cond.initialized "java/lang/System", Cond.fieldLink RX0 64 "ActHouse$Act" "length" "I", Cond.fieldLink RX0 30 "ActHouse$Act" "state" "I", Cond.fieldLink RX0 67 "ActHouse$Act" "register" "I", Cond.fieldLink RX0 70 "ActHouse$Act" "at" "I", Cond.fieldLink RX0 37 "ActHouse$Act" "begunTick" "I", Cond.methodLink RX3 245 yX1_write, Cond.instanceMethod yX1_write, Cond.selects RX1 yX1_write yX1_write, Cond.initialized RX1, Cond.code yX1_write cX1_write 5 (some .int), Cond.fieldLink RX1 15 "ActHouse$LogBook" "size" "I", Cond.constant RX1 19 (1048576), Cond.fieldLink RX1 11 "ActHouse$LogBook" "entries" "[I", Cond.methodLink RX1 20 yJ7_copyOf_59c91, Cond.static yJ7_copyOf_59c91, Cond.code yJ7_copyOf_59c91 cJ7_copyOf_59c91 3 (some (.array .int))]
def wsX3_beginWaiting_r3 : List Cond := [Cond.methodLink RJ7 316 ⟨"[I", "clone", "()Ljava/lang/Object;"⟩, Cond.sameMethod "[I" "java/lang/Object" "clone" "()Ljava/lang/Object;", Cond.native ⟨"java/lang/Object", "clone", "()Ljava/lang/Object;"⟩, Cond.instanceMethod ⟨"java/lang/Object", "clone", "()Ljava/lang/Object;"⟩, Cond.selects "[I" ⟨"[I", "clone", "()Ljava/lang/Object;"⟩ ⟨"java/lang/Object", "clone", "()Ljava/lang/Object;"⟩, Cond.classLink RJ7 317 "[I", Cond.arrayClass .int, Cond.methodLink RJ7 304 Lib.Math.min.name, Cond.static Lib.Math.min.name, Cond.initialized "java/lang/Math", Cond.code Lib.Math.min.name Lib.Math.min.code 2 (some .int), Cond.methodLink RJ7 150 arraycopyName]
def wsX3_beginWaiting : List Cond := .code yX3_beginWaiting cX3_beginWaiting 4 none :: ((wsX3_beginWaiting_r1 ++ (wsX3_beginWaiting_r2 ++ wsX3_beginWaiting_r3)) ++ wsX30 ++ wsX00 ++ wsX10)
def wsX3_answerDone : List Cond := .code yX3_answerDone cX3_answerDone 2 none :: ([.fieldLink RX3 46 "ActHouse" "book" "LActHouse$LogBook;", .fieldLink RX3 154 "ActHouse" "doneCount" "I", .fieldLink RX3 27 "ActHouse" "acts" "[LActHouse$Act;", .fieldLink RX3 34 "ActHouse" "doneRow" "[I", .fieldLink RX3 117 "ActHouse$Act" "state" "I", .methodLink RX3 96 yX1_keepAll, .instanceMethod yX1_keepAll, .selects RX1 yX1_keepAll yX1_keepAll, .initialized RX1, .code yX1_keepAll cX1_keepAll 1 none, .fieldLink RX1 15 "ActHouse$LogBook" "size" "I", .fieldLink RX1 26 "ActHouse$LogBook" "kept" "I"] ++ wsX30 ++ wsX00 ++ wsX10)
def wsX3_passTick_r1 : List Cond := [Cond.fieldLink RX3 79 "ActHouse" "now" "I", Cond.methodLink RX3 179 yX3_stepBegun, Cond.instanceMethod yX3_stepBegun, Cond.selects RX3 yX3_stepBegun yX3_stepBegun, Cond.initialized RX3, Cond.code yX3_stepBegun cX3_stepBegun 2 none, Cond.fieldLink RX3 194 "ActHouse" "runningCount" "I", Cond.fieldLink RX3 37 "ActHouse" "running" "[I", Cond.methodLink RX3 191 yX3_gatherRunning, Cond.instanceMethod yX3_gatherRunning, Cond.selects RX3 yX3_gatherRunning yX3_gatherRunning, Cond.code yX3_gatherRunning cX3_gatherRunning 2 none, Cond.fieldLink RX3 102 "ActHouse" "actCount" "I", Cond.fieldLink RX3 27 "ActHouse" "acts" "[LActHouse$Act;", Cond.fieldLink RX3 31 "ActHouse" "order" "[I", Cond.fieldLink RX3 117 "ActHouse$Act" "state" "I", Cond.methodLink RX3 197 yX3_takeStep, Cond.instanceMethod yX3_takeStep, Cond.selects RX3 yX3_takeStep yX3_takeStep, Cond.code yX3_takeStep cX3_takeStep 4 none, Cond.fieldLink RX3 204 "ActHouse$Act" "steps" "[I", Cond.fieldLink RX3 129 "ActHouse$Act" "at" "I", Cond.fieldLink RX3 132 "ActHouse$Act" "heldTick" "I", Cond.methodLink RX3 200 yX0_hasStep]
def wsX3_passTick_r2 : List Cond := [Cond.instanceMethod yX0_hasStep, Cond.selects RX0 yX0_hasStep yX0_hasStep, Cond.initialized RX0, Cond.code yX0_hasStep cX0_hasStep 1 (some .boolean), Cond.fieldLink RX0 70 "ActHouse$Act" "at" "I", Cond.fieldLink RX0 64 "ActHouse$Act" "length" "I", Cond.methodLink RX3 207 yX3_canBe, Cond.instanceMethod yX3_canBe, Cond.selects RX3 yX3_canBe yX3_canBe, Cond.code yX3_canBe cX3_canBe 5 (some .boolean), Cond.fieldLink RX3 19 "ActHouse" "floors" "[I", Cond.methodLink RX3 170 yX3_opOf, Cond.static yX3_opOf, Cond.code yX3_opOf cX3_opOf 1 (some .int), Cond.methodLink RX3 173 yX3_aOf, Cond.static yX3_aOf, Cond.code yX3_aOf cX3_aOf 1 (some .int), Cond.methodLink RX3 219 yX3_bOf, Cond.static yX3_bOf, Cond.code yX3_bOf cX3_bOf 1 (some .int), Cond.methodLink RX3 75 yX3_leastToCome, Cond.instanceMethod yX3_leastToCome, Cond.selects RX3 yX3_leastToCome yX3_leastToCome, Cond.code yX3_leastToCome cX3_leastToCome 4 (some .int)]
def wsX3_passTick_r3 : List Cond := [Cond.fieldLink RX3 22 "ActHouse" "values" "[I", Cond.fieldLink RX3 229 "ActHouse$Act" "takes" "[I", Cond.methodLink RX3 222 yX3_usesCell, Cond.static yX3_usesCell, Cond.code yX3_usesCell cX3_usesCell 2 (some .boolean), Cond.methodLink RX3 225 yX3_blocks, Cond.static yX3_blocks, Cond.code yX3_blocks cX3_blocks 3 (some .boolean), Cond.fieldLink RX3 151 "ActHouse$Act" "locks" "[I", Cond.methodLink RX3 210 yX3_perform, Cond.instanceMethod yX3_perform, Cond.selects RX3 yX3_perform yX3_perform, Cond.code yX3_perform cX3_perform 6 (some .boolean), Cond.fieldLink RX3 148 "ActHouse$Act" "register" "I", Cond.fieldLink RX3 46 "ActHouse" "book" "LActHouse$LogBook;", Cond.methodLink RX3 232 yX0_lockToRead, Cond.instanceMethod yX0_lockToRead, Cond.selects RX0 yX0_lockToRead yX0_lockToRead, Cond.code yX0_lockToRead cX0_lockToRead 2 none, Cond.fieldLink RX0 15 "ActHouse$Act" "locks" "[I", Cond.methodLink RX3 235 yX3_seenBy, Cond.instanceMethod yX3_seenBy, Cond.selects RX3 yX3_seenBy yX3_seenBy, Cond.code yX3_seenBy cX3_seenBy 3 (some .int)]
def wsX3_passTick_r4 : List Cond := [Cond.methodLink RX3 157 yX0_valueAfter, Cond.instanceMethod yX0_valueAfter, Cond.selects RX0 yX0_valueAfter yX0_valueAfter, Cond.code yX0_valueAfter cX0_valueAfter 3 (some .int), Cond.fieldLink RX0 18 "ActHouse$Act" "written" "[I", Cond.fieldLink RX0 21 "ActHouse$Act" "gives" "[I", Cond.methodLink RX3 239 yX0_load, Cond.instanceMethod yX0_load, Cond.selects RX0 yX0_load yX0_load, Cond.code yX0_load cX0_load 2 (some .boolean), Cond.constant RX0 73 (1000000), Cond.constant RX0 74 (-1000000), Cond.fieldLink RX0 67 "ActHouse$Act" "register" "I", Cond.methodLink RX3 242 yX0_put, Cond.instanceMethod yX0_put, Cond.selects RX0 yX0_put yX0_put, Cond.code yX0_put cX0_put 2 none, Cond.methodLink RX3 245 yX1_write, Cond.instanceMethod yX1_write, Cond.selects RX1 yX1_write yX1_write, Cond.initialized RX1, Cond.code yX1_write cX1_write 5 (some .int), Cond.fieldLink RX1 15 "ActHouse$LogBook" "size" "I", Cond.constant RX1 19 (1048576)]
def wsX3_passTick_r5 : List Cond := [Cond.fieldLink RX1 11 "ActHouse$LogBook" "entries" "[I", Cond.methodLink RX1 20 yJ7_copyOf_59c91, Cond.static yJ7_copyOf_59c91, Cond.initialized RJ7, Cond.code yJ7_copyOf_59c91 cJ7_copyOf_59c91 3 (some (.array .int)), Cond.methodLink RJ7 316 ⟨"[I", "clone", "()Ljava/lang/Object;"⟩, Cond.sameMethod "[I" "java/lang/Object" "clone" "()Ljava/lang/Object;", Cond.native ⟨"java/lang/Object", "clone", "()Ljava/lang/Object;"⟩, Cond.instanceMethod ⟨"java/lang/Object", "clone", "()Ljava/lang/Object;"⟩, Cond.selects "[I" ⟨"[I", "clone", "()Ljava/lang/Object;"⟩ ⟨"java/lang/Object", "clone", "()Ljava/lang/Object;"⟩, Cond.classLink RJ7 317 "[I", Cond.arrayClass .int, Cond.methodLink RJ7 304 Lib.Math.min.name, Cond.static Lib.Math.min.name, Cond.initialized "java/lang/Math", Cond.code Lib.Math.min.name Lib.Math.min.code 2 (some .int), Cond.methodLink RJ7 150 arraycopyName, Cond.native arraycopyName, Cond.static arraycopyName, Cond.initialized "java/lang/System", Cond.methodLink RX3 248 yX0_give, Cond.instanceMethod yX0_give, Cond.selects RX0 yX0_give yX0_give, Cond.code yX0_give cX0_give 3 none]
def wsX3_passTick_r6 : List Cond := [Cond.fieldLink RX0 24 "ActHouse$Act" "takes" "[I", Cond.methodLink RX0 75 Lib.Math.min.name, Cond.methodLink RX3 252 yX0_enqueue, Cond.instanceMethod yX0_enqueue, Cond.selects RX0 yX0_enqueue yX0_enqueue, Cond.code yX0_enqueue cX0_enqueue 2 none, Cond.fieldLink RX0 81 "ActHouse$Act" "queueLength" "I", Cond.fieldLink RX0 27 "ActHouse$Act" "queue" "[I", Cond.methodLink RX3 213 yX3_stopAct, Cond.instanceMethod yX3_stopAct, Cond.selects RX3 yX3_stopAct yX3_stopAct, Cond.code yX3_stopAct cX3_stopAct 3 none, Cond.fieldLink RX3 258 "ActHouse$Act" "entry" "I", Cond.methodLink RX3 255 yX0_leave, Cond.instanceMethod yX0_leave, Cond.selects RX0 yX0_leave yX0_leave, Cond.code yX0_leave cX0_leave 2 none, Cond.fieldLink RX0 30 "ActHouse$Act" "state" "I", Cond.fieldLink RX0 40 "ActHouse$Act" "doneTick" "I", Cond.fieldLink RX0 43 "ActHouse$Act" "entry" "I", Cond.methodLink RX0 91 yJ7_fill_53178, Cond.static yJ7_fill_53178, Cond.code yJ7_fill_53178 cJ7_fill_53178 4 none, Cond.methodLink RX3 216 yX3_finishAct]
def wsX3_passTick_r7 : List Cond := [Cond.instanceMethod yX3_finishAct, Cond.selects RX3 yX3_finishAct yX3_finishAct, Cond.code yX3_finishAct cX3_finishAct 4 none, Cond.fieldLink RX3 135 "ActHouse$Act" "doneTick" "I", Cond.fieldLink RX3 154 "ActHouse" "doneCount" "I", Cond.fieldLink RX3 34 "ActHouse" "doneRow" "[I", Cond.fieldLink RX3 265 "ActHouse$Act" "queueLength" "I", Cond.fieldLink RX3 268 "ActHouse$Act" "queue" "[I", Cond.fieldLink RX3 123 "ActHouse$Act" "kind" "I", Cond.fieldLink RX3 126 "ActHouse$Act" "rank" "I", Cond.methodLink RX3 261 yX3_tellValues, Cond.instanceMethod yX3_tellValues, Cond.selects RX3 yX3_tellValues yX3_tellValues, Cond.code yX3_tellValues cX3_tellValues 3 none, Cond.methodLink RX3 71 yX3_admit, Cond.instanceMethod yX3_admit, Cond.selects RX3 yX3_admit yX3_admit, Cond.code yX3_admit cX3_admit 7 (some .int), Cond.classLink RX3 25 RX0, Cond.instantiable RX0 20, Cond.methodLink RX3 176 yX0_init, Cond.instanceMethod yX0_init, Cond.code yX0_init cX0_init 5 none, Cond.methodLink RX0 3 objectInit]
def wsX3_passTick_r8 : List Cond := [Cond.instanceMethod objectInit, Cond.code objectInit ⟨#[0xb1]⟩ 1 none, Cond.fieldLink RX0 9 "ActHouse$Act" "steps" "[I", Cond.fieldLink RX0 34 "ActHouse$Act" "heldTick" "I", Cond.fieldLink RX0 37 "ActHouse$Act" "begunTick" "I", Cond.fieldLink RX0 46 "ActHouse$Act" "program" "I", Cond.fieldLink RX0 49 "ActHouse$Act" "kind" "I", Cond.fieldLink RX0 52 "ActHouse$Act" "rank" "I", Cond.fieldLink RX0 55 "ActHouse$Act" "parent" "I", Cond.methodLink RX3 182 yX3_breakRings, Cond.instanceMethod yX3_breakRings, Cond.selects RX3 yX3_breakRings yX3_breakRings, Cond.code yX3_breakRings cX3_breakRings 3 none, Cond.fieldLink RX3 53 "ActHouse" "waits" "LActHouse$Waits;", Cond.methodLink RX3 271 yX3_drawWaits, Cond.instanceMethod yX3_drawWaits, Cond.selects RX3 yX3_drawWaits yX3_drawWaits, Cond.code yX3_drawWaits cX3_drawWaits 5 (some .boolean), Cond.methodLink RX3 284 yX2_clear, Cond.instanceMethod yX2_clear, Cond.selects RX2 yX2_clear yX2_clear, Cond.initialized RX2, Cond.code yX2_clear cX2_clear 2 none, Cond.methodLink RX2 18 Lib.Math.min.name]
def wsX3_passTick_r9 : List Cond := [Cond.fieldLink RX2 24 "ActHouse$Waits" "many" "I", Cond.fieldLink RX2 9 "ActHouse$Waits" "direct" "[J", Cond.methodLink RX2 28 yJ7_fill_d0a16, Cond.static yJ7_fill_d0a16, Cond.code yJ7_fill_d0a16 cJ7_fill_d0a16 5 none, Cond.methodLink RX3 287 yX2_add, Cond.instanceMethod yX2_add, Cond.selects RX2 yX2_add yX2_add, Cond.code yX2_add cX2_add 3 none, Cond.methodLink RX3 274 yX3_lastBegunInRing, Cond.instanceMethod yX3_lastBegunInRing, Cond.selects RX3 yX3_lastBegunInRing yX3_lastBegunInRing, Cond.code yX3_lastBegunInRing cX3_lastBegunInRing 3 (some .int), Cond.methodLink RX3 290 yX2_close, Cond.instanceMethod yX2_close, Cond.selects RX2 yX2_close yX2_close, Cond.code yX2_close cX2_close 3 none, Cond.fieldLink RX2 15 "ActHouse$Waits" "reach" "[J", Cond.methodLink RX2 34 arraycopyName, Cond.methodLink RX3 293 yX2_isInRing, Cond.instanceMethod yX2_isInRing, Cond.selects RX2 yX2_isInRing yX2_isInRing, Cond.code yX2_isInRing cX2_isInRing 2 (some .boolean), Cond.methodLink RX3 296 yX3_isBegunLater]
def wsX3_passTick_r10 : List Cond := [Cond.instanceMethod yX3_isBegunLater, Cond.selects RX3 yX3_isBegunLater yX3_isBegunLater, Cond.code yX3_isBegunLater cX3_isBegunLater 5 (some .boolean), Cond.fieldLink RX3 144 "ActHouse$Act" "begunTick" "I", Cond.methodLink RX3 278 yX3_undoInRing, Cond.instanceMethod yX3_undoInRing, Cond.selects RX3 yX3_undoInRing yX3_undoInRing, Cond.code yX3_undoInRing cX3_undoInRing 2 none, Cond.fieldLink RX3 167 "ActHouse" "rings" "I", Cond.methodLink RX3 299 yX0_undo, Cond.instanceMethod yX0_undo, Cond.selects RX0 yX0_undo yX0_undo, Cond.code yX0_undo cX0_undo 1 none, Cond.fieldLink RX0 88 "ActHouse$Act" "timesUndone" "I", Cond.methodLink RX0 84 yX0_leave, Cond.methodLink RX3 281 yX2_remove, Cond.instanceMethod yX2_remove, Cond.selects RX2 yX2_remove yX2_remove, Cond.code yX2_remove cX2_remove 2 none, Cond.methodLink RX3 185 yX3_beginWaiting, Cond.instanceMethod yX3_beginWaiting, Cond.selects RX3 yX3_beginWaiting yX3_beginWaiting, Cond.code yX3_beginWaiting cX3_beginWaiting 4 none, Cond.fieldLink RX3 13 "ActHouse" "programLengths" "[I"]
def wsX3_passTick_r11 : List Cond := [Cond.fieldLink RX3 120 "ActHouse$Act" "program" "I", Cond.fieldLink RX3 40 "ActHouse" "begunOfClass" "[I", Cond.fieldLink RX3 16 "ActHouse" "limits" "[I", Cond.fieldLink RX3 9 "ActHouse" "programSteps" "[I", Cond.methodLink RX3 302 yX3_countBegunOfClasses, Cond.instanceMethod yX3_countBegunOfClasses, Cond.selects RX3 yX3_countBegunOfClasses yX3_countBegunOfClasses, Cond.code yX3_countBegunOfClasses cX3_countBegunOfClasses 2 none, Cond.methodLink RX3 57 yJ7_fill_53178, Cond.methodLink RX3 305 yX0_begin, Cond.instanceMethod yX0_begin, Cond.selects RX0 yX0_begin yX0_begin, Cond.code yX0_begin cX0_begin 4 none, Cond.methodLink RX0 58 arraycopyName, Cond.methodLink RX3 188 yX3_answerDone, Cond.instanceMethod yX3_answerDone, Cond.selects RX3 yX3_answerDone yX3_answerDone, Cond.code yX3_answerDone cX3_answerDone 2 none, Cond.methodLink RX3 96 yX1_keepAll, Cond.instanceMethod yX1_keepAll, Cond.selects RX1 yX1_keepAll yX1_keepAll, Cond.code yX1_keepAll cX1_keepAll 1 none, Cond.fieldLink RX1 26 "ActHouse$LogBook" "kept" "I"]
def wsX3_passTick : List Cond := .code yX3_passTick cX3_passTick 1 none :: ((wsX3_passTick_r1 ++ (wsX3_passTick_r2 ++ (wsX3_passTick_r3 ++ (wsX3_passTick_r4 ++ (wsX3_passTick_r5 ++ (wsX3_passTick_r6 ++ (wsX3_passTick_r7 ++ (wsX3_passTick_r8 ++ (wsX3_passTick_r9 ++ (wsX3_passTick_r10 ++ wsX3_passTick_r11)))))))))) ++ wsX30 ++ wsX00 ++ wsX10 ++ wsX20)
def wsX3_go_r1 : List Cond := [Cond.fieldLink RX3 79 "ActHouse" "now" "I", Cond.methodLink RX3 83 yX3_passTick, Cond.instanceMethod yX3_passTick, Cond.selects RX3 yX3_passTick yX3_passTick, Cond.initialized RX3, Cond.code yX3_passTick cX3_passTick 1 none, Cond.methodLink RX3 179 yX3_stepBegun, Cond.instanceMethod yX3_stepBegun, Cond.selects RX3 yX3_stepBegun yX3_stepBegun, Cond.code yX3_stepBegun cX3_stepBegun 2 none, Cond.fieldLink RX3 194 "ActHouse" "runningCount" "I", Cond.fieldLink RX3 37 "ActHouse" "running" "[I", Cond.methodLink RX3 191 yX3_gatherRunning, Cond.instanceMethod yX3_gatherRunning, Cond.selects RX3 yX3_gatherRunning yX3_gatherRunning, Cond.code yX3_gatherRunning cX3_gatherRunning 2 none, Cond.fieldLink RX3 102 "ActHouse" "actCount" "I", Cond.fieldLink RX3 27 "ActHouse" "acts" "[LActHouse$Act;", Cond.fieldLink RX3 31 "ActHouse" "order" "[I", Cond.fieldLink RX3 117 "ActHouse$Act" "state" "I", Cond.methodLink RX3 197 yX3_takeStep, Cond.instanceMethod yX3_takeStep, Cond.selects RX3 yX3_takeStep yX3_takeStep, Cond.code yX3_takeStep cX3_takeStep 4 none]
def wsX3_go_r2 : List Cond := [Cond.fieldLink RX3 204 "ActHouse$Act" "steps" "[I", Cond.fieldLink RX3 129 "ActHouse$Act" "at" "I", Cond.fieldLink RX3 132 "ActHouse$Act" "heldTick" "I", Cond.methodLink RX3 200 yX0_hasStep, Cond.instanceMethod yX0_hasStep, Cond.selects RX0 yX0_hasStep yX0_hasStep, Cond.initialized RX0, Cond.code yX0_hasStep cX0_hasStep 1 (some .boolean), Cond.fieldLink RX0 70 "ActHouse$Act" "at" "I", Cond.fieldLink RX0 64 "ActHouse$Act" "length" "I", Cond.methodLink RX3 207 yX3_canBe, Cond.instanceMethod yX3_canBe, Cond.selects RX3 yX3_canBe yX3_canBe, Cond.code yX3_canBe cX3_canBe 5 (some .boolean), Cond.fieldLink RX3 19 "ActHouse" "floors" "[I", Cond.methodLink RX3 170 yX3_opOf, Cond.static yX3_opOf, Cond.code yX3_opOf cX3_opOf 1 (some .int), Cond.methodLink RX3 173 yX3_aOf, Cond.static yX3_aOf, Cond.code yX3_aOf cX3_aOf 1 (some .int), Cond.methodLink RX3 219 yX3_bOf, Cond.static yX3_bOf, Cond.code yX3_bOf cX3_bOf 1 (some .int)]
def wsX3_go_r3 : List Cond := [Cond.methodLink RX3 75 yX3_leastToCome, Cond.instanceMethod yX3_leastToCome, Cond.selects RX3 yX3_leastToCome yX3_leastToCome, Cond.code yX3_leastToCome cX3_leastToCome 4 (some .int), Cond.fieldLink RX3 22 "ActHouse" "values" "[I", Cond.fieldLink RX3 229 "ActHouse$Act" "takes" "[I", Cond.methodLink RX3 222 yX3_usesCell, Cond.static yX3_usesCell, Cond.code yX3_usesCell cX3_usesCell 2 (some .boolean), Cond.methodLink RX3 225 yX3_blocks, Cond.static yX3_blocks, Cond.code yX3_blocks cX3_blocks 3 (some .boolean), Cond.fieldLink RX3 151 "ActHouse$Act" "locks" "[I", Cond.methodLink RX3 210 yX3_perform, Cond.instanceMethod yX3_perform, Cond.selects RX3 yX3_perform yX3_perform, Cond.code yX3_perform cX3_perform 6 (some .boolean), Cond.fieldLink RX3 148 "ActHouse$Act" "register" "I", Cond.fieldLink RX3 46 "ActHouse" "book" "LActHouse$LogBook;", Cond.methodLink RX3 232 yX0_lockToRead, Cond.instanceMethod yX0_lockToRead, Cond.selects RX0 yX0_lockToRead yX0_lockToRead, Cond.code yX0_lockToRead cX0_lockToRead 2 none, Cond.fieldLink RX0 15 "ActHouse$Act" "locks" "[I"]
def wsX3_go_r4 : List Cond := [Cond.methodLink RX3 235 yX3_seenBy, Cond.instanceMethod yX3_seenBy, Cond.selects RX3 yX3_seenBy yX3_seenBy, Cond.code yX3_seenBy cX3_seenBy 3 (some .int), Cond.methodLink RX3 157 yX0_valueAfter, Cond.instanceMethod yX0_valueAfter, Cond.selects RX0 yX0_valueAfter yX0_valueAfter, Cond.code yX0_valueAfter cX0_valueAfter 3 (some .int), Cond.fieldLink RX0 18 "ActHouse$Act" "written" "[I", Cond.fieldLink RX0 21 "ActHouse$Act" "gives" "[I", Cond.methodLink RX3 239 yX0_load, Cond.instanceMethod yX0_load, Cond.selects RX0 yX0_load yX0_load, Cond.code yX0_load cX0_load 2 (some .boolean), Cond.constant RX0 73 (1000000), Cond.constant RX0 74 (-1000000), Cond.fieldLink RX0 67 "ActHouse$Act" "register" "I", Cond.methodLink RX3 242 yX0_put, Cond.instanceMethod yX0_put, Cond.selects RX0 yX0_put yX0_put, Cond.code yX0_put cX0_put 2 none, Cond.methodLink RX3 245 yX1_write, Cond.instanceMethod yX1_write, Cond.selects RX1 yX1_write yX1_write]
def wsX3_go_r5 : List Cond := [Cond.initialized RX1, Cond.code yX1_write cX1_write 5 (some .int), Cond.fieldLink RX1 15 "ActHouse$LogBook" "size" "I", Cond.constant RX1 19 (1048576), Cond.fieldLink RX1 11 "ActHouse$LogBook" "entries" "[I", Cond.methodLink RX1 20 yJ7_copyOf_59c91, Cond.static yJ7_copyOf_59c91, Cond.initialized RJ7, Cond.code yJ7_copyOf_59c91 cJ7_copyOf_59c91 3 (some (.array .int)), Cond.methodLink RJ7 316 ⟨"[I", "clone", "()Ljava/lang/Object;"⟩, Cond.sameMethod "[I" "java/lang/Object" "clone" "()Ljava/lang/Object;", Cond.native ⟨"java/lang/Object", "clone", "()Ljava/lang/Object;"⟩, Cond.instanceMethod ⟨"java/lang/Object", "clone", "()Ljava/lang/Object;"⟩, Cond.selects "[I" ⟨"[I", "clone", "()Ljava/lang/Object;"⟩ ⟨"java/lang/Object", "clone", "()Ljava/lang/Object;"⟩, Cond.classLink RJ7 317 "[I", Cond.arrayClass .int, Cond.methodLink RJ7 304 Lib.Math.min.name, Cond.static Lib.Math.min.name, Cond.initialized "java/lang/Math", Cond.code Lib.Math.min.name Lib.Math.min.code 2 (some .int), Cond.methodLink RJ7 150 arraycopyName, Cond.native arraycopyName, Cond.static arraycopyName, Cond.initialized "java/lang/System"]
def wsX3_go_r6 : List Cond := [Cond.methodLink RX3 248 yX0_give, Cond.instanceMethod yX0_give, Cond.selects RX0 yX0_give yX0_give, Cond.code yX0_give cX0_give 3 none, Cond.fieldLink RX0 24 "ActHouse$Act" "takes" "[I", Cond.methodLink RX0 75 Lib.Math.min.name, Cond.methodLink RX3 252 yX0_enqueue, Cond.instanceMethod yX0_enqueue, Cond.selects RX0 yX0_enqueue yX0_enqueue, Cond.code yX0_enqueue cX0_enqueue 2 none, Cond.fieldLink RX0 81 "ActHouse$Act" "queueLength" "I", Cond.fieldLink RX0 27 "ActHouse$Act" "queue" "[I", Cond.methodLink RX3 213 yX3_stopAct, Cond.instanceMethod yX3_stopAct, Cond.selects RX3 yX3_stopAct yX3_stopAct, Cond.code yX3_stopAct cX3_stopAct 3 none, Cond.fieldLink RX3 258 "ActHouse$Act" "entry" "I", Cond.methodLink RX3 255 yX0_leave, Cond.instanceMethod yX0_leave, Cond.selects RX0 yX0_leave yX0_leave, Cond.code yX0_leave cX0_leave 2 none, Cond.fieldLink RX0 30 "ActHouse$Act" "state" "I", Cond.fieldLink RX0 40 "ActHouse$Act" "doneTick" "I", Cond.fieldLink RX0 43 "ActHouse$Act" "entry" "I"]
def wsX3_go_r7 : List Cond := [Cond.methodLink RX0 91 yJ7_fill_53178, Cond.static yJ7_fill_53178, Cond.code yJ7_fill_53178 cJ7_fill_53178 4 none, Cond.methodLink RX3 216 yX3_finishAct, Cond.instanceMethod yX3_finishAct, Cond.selects RX3 yX3_finishAct yX3_finishAct, Cond.code yX3_finishAct cX3_finishAct 4 none, Cond.fieldLink RX3 135 "ActHouse$Act" "doneTick" "I", Cond.fieldLink RX3 154 "ActHouse" "doneCount" "I", Cond.fieldLink RX3 34 "ActHouse" "doneRow" "[I", Cond.fieldLink RX3 265 "ActHouse$Act" "queueLength" "I", Cond.fieldLink RX3 268 "ActHouse$Act" "queue" "[I", Cond.fieldLink RX3 123 "ActHouse$Act" "kind" "I", Cond.fieldLink RX3 126 "ActHouse$Act" "rank" "I", Cond.methodLink RX3 261 yX3_tellValues, Cond.instanceMethod yX3_tellValues, Cond.selects RX3 yX3_tellValues yX3_tellValues, Cond.code yX3_tellValues cX3_tellValues 3 none, Cond.methodLink RX3 71 yX3_admit, Cond.instanceMethod yX3_admit, Cond.selects RX3 yX3_admit yX3_admit, Cond.code yX3_admit cX3_admit 7 (some .int), Cond.classLink RX3 25 RX0, Cond.instantiable RX0 20]
def wsX3_go_r8 : List Cond := [Cond.methodLink RX3 176 yX0_init, Cond.instanceMethod yX0_init, Cond.code yX0_init cX0_init 5 none, Cond.methodLink RX0 3 objectInit, Cond.instanceMethod objectInit, Cond.code objectInit ⟨#[0xb1]⟩ 1 none, Cond.fieldLink RX0 9 "ActHouse$Act" "steps" "[I", Cond.fieldLink RX0 34 "ActHouse$Act" "heldTick" "I", Cond.fieldLink RX0 37 "ActHouse$Act" "begunTick" "I", Cond.fieldLink RX0 46 "ActHouse$Act" "program" "I", Cond.fieldLink RX0 49 "ActHouse$Act" "kind" "I", Cond.fieldLink RX0 52 "ActHouse$Act" "rank" "I", Cond.fieldLink RX0 55 "ActHouse$Act" "parent" "I", Cond.methodLink RX3 182 yX3_breakRings, Cond.instanceMethod yX3_breakRings, Cond.selects RX3 yX3_breakRings yX3_breakRings, Cond.code yX3_breakRings cX3_breakRings 3 none, Cond.fieldLink RX3 53 "ActHouse" "waits" "LActHouse$Waits;", Cond.methodLink RX3 271 yX3_drawWaits, Cond.instanceMethod yX3_drawWaits, Cond.selects RX3 yX3_drawWaits yX3_drawWaits, Cond.code yX3_drawWaits cX3_drawWaits 5 (some .boolean), Cond.methodLink RX3 284 yX2_clear, Cond.instanceMethod yX2_clear]
def wsX3_go_r9 : List Cond := [Cond.selects RX2 yX2_clear yX2_clear, Cond.initialized RX2, Cond.code yX2_clear cX2_clear 2 none, Cond.methodLink RX2 18 Lib.Math.min.name, Cond.fieldLink RX2 24 "ActHouse$Waits" "many" "I", Cond.fieldLink RX2 9 "ActHouse$Waits" "direct" "[J", Cond.methodLink RX2 28 yJ7_fill_d0a16, Cond.static yJ7_fill_d0a16, Cond.code yJ7_fill_d0a16 cJ7_fill_d0a16 5 none, Cond.methodLink RX3 287 yX2_add, Cond.instanceMethod yX2_add, Cond.selects RX2 yX2_add yX2_add, Cond.code yX2_add cX2_add 3 none, Cond.methodLink RX3 274 yX3_lastBegunInRing, Cond.instanceMethod yX3_lastBegunInRing, Cond.selects RX3 yX3_lastBegunInRing yX3_lastBegunInRing, Cond.code yX3_lastBegunInRing cX3_lastBegunInRing 3 (some .int), Cond.methodLink RX3 290 yX2_close, Cond.instanceMethod yX2_close, Cond.selects RX2 yX2_close yX2_close, Cond.code yX2_close cX2_close 3 none, Cond.fieldLink RX2 15 "ActHouse$Waits" "reach" "[J", Cond.methodLink RX2 34 arraycopyName, Cond.methodLink RX3 293 yX2_isInRing]
def wsX3_go_r10 : List Cond := [Cond.instanceMethod yX2_isInRing, Cond.selects RX2 yX2_isInRing yX2_isInRing, Cond.code yX2_isInRing cX2_isInRing 2 (some .boolean), Cond.methodLink RX3 296 yX3_isBegunLater, Cond.instanceMethod yX3_isBegunLater, Cond.selects RX3 yX3_isBegunLater yX3_isBegunLater, Cond.code yX3_isBegunLater cX3_isBegunLater 5 (some .boolean), Cond.fieldLink RX3 144 "ActHouse$Act" "begunTick" "I", Cond.methodLink RX3 278 yX3_undoInRing, Cond.instanceMethod yX3_undoInRing, Cond.selects RX3 yX3_undoInRing yX3_undoInRing, Cond.code yX3_undoInRing cX3_undoInRing 2 none, Cond.fieldLink RX3 167 "ActHouse" "rings" "I", Cond.methodLink RX3 299 yX0_undo, Cond.instanceMethod yX0_undo, Cond.selects RX0 yX0_undo yX0_undo, Cond.code yX0_undo cX0_undo 1 none, Cond.fieldLink RX0 88 "ActHouse$Act" "timesUndone" "I", Cond.methodLink RX0 84 yX0_leave, Cond.methodLink RX3 281 yX2_remove, Cond.instanceMethod yX2_remove, Cond.selects RX2 yX2_remove yX2_remove, Cond.code yX2_remove cX2_remove 2 none, Cond.methodLink RX3 185 yX3_beginWaiting]
def wsX3_go_r11 : List Cond := [Cond.instanceMethod yX3_beginWaiting, Cond.selects RX3 yX3_beginWaiting yX3_beginWaiting, Cond.code yX3_beginWaiting cX3_beginWaiting 4 none, Cond.fieldLink RX3 13 "ActHouse" "programLengths" "[I", Cond.fieldLink RX3 120 "ActHouse$Act" "program" "I", Cond.fieldLink RX3 40 "ActHouse" "begunOfClass" "[I", Cond.fieldLink RX3 16 "ActHouse" "limits" "[I", Cond.fieldLink RX3 9 "ActHouse" "programSteps" "[I", Cond.methodLink RX3 302 yX3_countBegunOfClasses, Cond.instanceMethod yX3_countBegunOfClasses, Cond.selects RX3 yX3_countBegunOfClasses yX3_countBegunOfClasses, Cond.code yX3_countBegunOfClasses cX3_countBegunOfClasses 2 none, Cond.methodLink RX3 57 yJ7_fill_53178, Cond.methodLink RX3 305 yX0_begin, Cond.instanceMethod yX0_begin, Cond.selects RX0 yX0_begin yX0_begin, Cond.code yX0_begin cX0_begin 4 none, Cond.methodLink RX0 58 arraycopyName, Cond.methodLink RX3 188 yX3_answerDone, Cond.instanceMethod yX3_answerDone, Cond.selects RX3 yX3_answerDone yX3_answerDone, Cond.code yX3_answerDone cX3_answerDone 2 none, Cond.methodLink RX3 96 yX1_keepAll, Cond.instanceMethod yX1_keepAll]
def wsX3_go_r12 : List Cond := [Cond.selects RX1 yX1_keepAll yX1_keepAll, Cond.code yX1_keepAll cX1_keepAll 1 none, Cond.fieldLink RX1 26 "ActHouse$LogBook" "kept" "I"]
def wsX3_go : List Cond := .code yX3_go cX3_go 3 (some .int) :: ((wsX3_go_r1 ++ (wsX3_go_r2 ++ (wsX3_go_r3 ++ (wsX3_go_r4 ++ (wsX3_go_r5 ++ (wsX3_go_r6 ++ (wsX3_go_r7 ++ (wsX3_go_r8 ++ (wsX3_go_r9 ++ (wsX3_go_r10 ++ (wsX3_go_r11 ++ wsX3_go_r12))))))))))) ++ wsX30 ++ wsX00 ++ wsX10 ++ wsX20)
def wsX3_isLost : List Cond := .code yX3_isLost cX3_isLost 2 (some .boolean) :: ([.fieldLink RX3 27 "ActHouse" "acts" "[LActHouse$Act;", .fieldLink RX3 117 "ActHouse$Act" "state" "I", .fieldLink RX3 258 "ActHouse$Act" "entry" "I", .fieldLink RX3 46 "ActHouse" "book" "LActHouse$LogBook;", .fieldLink RX3 86 "ActHouse$LogBook" "size" "I"] ++ wsX30 ++ wsX00 ++ wsX10)
def wsX3_fallAct_r1 : List Cond := [Cond.fieldLink RX3 27 "ActHouse" "acts" "[LActHouse$Act;", Cond.fieldLink RX3 141 "ActHouse$Act" "parent" "I", Cond.fieldLink RX3 117 "ActHouse$Act" "state" "I", Cond.fieldLink RX3 258 "ActHouse$Act" "entry" "I", Cond.fieldLink RX3 46 "ActHouse" "book" "LActHouse$LogBook;", Cond.fieldLink RX3 86 "ActHouse$LogBook" "size" "I", Cond.methodLink RX3 105 yX3_isLost, Cond.instanceMethod yX3_isLost, Cond.selects RX3 yX3_isLost yX3_isLost, Cond.initialized RX3, Cond.code yX3_isLost cX3_isLost 2 (some .boolean), Cond.methodLink RX3 255 yX0_leave, Cond.instanceMethod yX0_leave, Cond.selects RX0 yX0_leave yX0_leave, Cond.initialized RX0, Cond.code yX0_leave cX0_leave 2 none, Cond.fieldLink RX0 30 "ActHouse$Act" "state" "I", Cond.fieldLink RX0 40 "ActHouse$Act" "doneTick" "I", Cond.fieldLink RX0 43 "ActHouse$Act" "entry" "I", Cond.fieldLink RX0 81 "ActHouse$Act" "queueLength" "I", Cond.fieldLink RX0 15 "ActHouse$Act" "locks" "[I", Cond.fieldLink RX0 21 "ActHouse$Act" "gives" "[I", Cond.fieldLink RX0 24 "ActHouse$Act" "takes" "[I", Cond.methodLink RX0 91 yJ7_fill_53178]
def wsX3_fallAct_r2 : List Cond := [Cond.static yJ7_fill_53178, Cond.initialized RJ7, Cond.code yJ7_fill_53178 cJ7_fill_53178 4 none, Cond.methodLink RX3 299 yX0_undo, Cond.instanceMethod yX0_undo, Cond.selects RX0 yX0_undo yX0_undo, Cond.code yX0_undo cX0_undo 1 none, Cond.fieldLink RX0 88 "ActHouse$Act" "timesUndone" "I", Cond.methodLink RX0 84 yX0_leave]
def wsX3_fallAct : List Cond := .code yX3_fallAct cX3_fallAct 3 none :: ((wsX3_fallAct_r1 ++ wsX3_fallAct_r2) ++ wsX30 ++ wsX00 ++ wsX10)
def wsX3_dropUndoneFromRow : List Cond := .code yX3_dropUndoneFromRow cX3_dropUndoneFromRow 3 none :: ([.fieldLink RX3 154 "ActHouse" "doneCount" "I", .fieldLink RX3 27 "ActHouse" "acts" "[LActHouse$Act;", .fieldLink RX3 34 "ActHouse" "doneRow" "[I", .fieldLink RX3 117 "ActHouse$Act" "state" "I"] ++ wsX30 ++ wsX00)
def wsX3_retellValues : List Cond := .code yX3_retellValues cX3_retellValues 2 none :: ([.fieldLink RX3 22 "ActHouse" "values" "[I", .fieldLink RX3 154 "ActHouse" "doneCount" "I", .fieldLink RX3 27 "ActHouse" "acts" "[LActHouse$Act;", .fieldLink RX3 34 "ActHouse" "doneRow" "[I", .methodLink RX3 57 yJ7_fill_53178, .static yJ7_fill_53178, .initialized RJ7, .code yJ7_fill_53178 cJ7_fill_53178 4 none, .methodLink RX3 261 yX3_tellValues, .instanceMethod yX3_tellValues, .selects RX3 yX3_tellValues yX3_tellValues, .initialized RX3, .code yX3_tellValues cX3_tellValues 3 none, .methodLink RX3 157 yX0_valueAfter, .instanceMethod yX0_valueAfter, .selects RX0 yX0_valueAfter yX0_valueAfter, .initialized RX0, .code yX0_valueAfter cX0_valueAfter 3 (some .int), .fieldLink RX0 15 "ActHouse$Act" "locks" "[I", .fieldLink RX0 18 "ActHouse$Act" "written" "[I", .fieldLink RX0 21 "ActHouse$Act" "gives" "[I"] ++ wsX30 ++ wsX00)
def wsX3_fall_r1 : List Cond := [Cond.fieldLink RX3 46 "ActHouse" "book" "LActHouse$LogBook;", Cond.fieldLink RX3 86 "ActHouse$LogBook" "size" "I", Cond.fieldLink RX3 89 "ActHouse$LogBook" "kept" "I", Cond.fieldLink RX3 99 "ActHouse" "falls" "I", Cond.fieldLink RX3 102 "ActHouse" "actCount" "I", Cond.methodLink RX3 92 yX1_cut, Cond.instanceMethod yX1_cut, Cond.selects RX1 yX1_cut yX1_cut, Cond.initialized RX1, Cond.code yX1_cut cX1_cut 2 none, Cond.fieldLink RX1 15 "ActHouse$LogBook" "size" "I", Cond.methodLink RX3 96 yX1_keepAll, Cond.instanceMethod yX1_keepAll, Cond.selects RX1 yX1_keepAll yX1_keepAll, Cond.code yX1_keepAll cX1_keepAll 1 none, Cond.fieldLink RX1 26 "ActHouse$LogBook" "kept" "I", Cond.methodLink RX3 105 yX3_isLost, Cond.instanceMethod yX3_isLost, Cond.selects RX3 yX3_isLost yX3_isLost, Cond.initialized RX3, Cond.code yX3_isLost cX3_isLost 2 (some .boolean), Cond.fieldLink RX3 27 "ActHouse" "acts" "[LActHouse$Act;", Cond.fieldLink RX3 117 "ActHouse$Act" "state" "I", Cond.fieldLink RX3 258 "ActHouse$Act" "entry" "I"]
def wsX3_fall_r2 : List Cond := [Cond.methodLink RX3 108 yX3_fallAct, Cond.instanceMethod yX3_fallAct, Cond.selects RX3 yX3_fallAct yX3_fallAct, Cond.code yX3_fallAct cX3_fallAct 3 none, Cond.fieldLink RX3 141 "ActHouse$Act" "parent" "I", Cond.methodLink RX3 255 yX0_leave, Cond.instanceMethod yX0_leave, Cond.selects RX0 yX0_leave yX0_leave, Cond.initialized RX0, Cond.code yX0_leave cX0_leave 2 none, Cond.fieldLink RX0 30 "ActHouse$Act" "state" "I", Cond.fieldLink RX0 40 "ActHouse$Act" "doneTick" "I", Cond.fieldLink RX0 43 "ActHouse$Act" "entry" "I", Cond.fieldLink RX0 81 "ActHouse$Act" "queueLength" "I", Cond.fieldLink RX0 15 "ActHouse$Act" "locks" "[I", Cond.fieldLink RX0 21 "ActHouse$Act" "gives" "[I", Cond.fieldLink RX0 24 "ActHouse$Act" "takes" "[I", Cond.methodLink RX0 91 yJ7_fill_53178, Cond.static yJ7_fill_53178, Cond.initialized RJ7, Cond.code yJ7_fill_53178 cJ7_fill_53178 4 none, Cond.methodLink RX3 299 yX0_undo, Cond.instanceMethod yX0_undo, Cond.selects RX0 yX0_undo yX0_undo]
def wsX3_fall_r3 : List Cond := [Cond.code yX0_undo cX0_undo 1 none, Cond.fieldLink RX0 88 "ActHouse$Act" "timesUndone" "I", Cond.methodLink RX0 84 yX0_leave, Cond.methodLink RX3 111 yX3_dropUndoneFromRow, Cond.instanceMethod yX3_dropUndoneFromRow, Cond.selects RX3 yX3_dropUndoneFromRow yX3_dropUndoneFromRow, Cond.code yX3_dropUndoneFromRow cX3_dropUndoneFromRow 3 none, Cond.fieldLink RX3 154 "ActHouse" "doneCount" "I", Cond.fieldLink RX3 34 "ActHouse" "doneRow" "[I", Cond.methodLink RX3 114 yX3_retellValues, Cond.instanceMethod yX3_retellValues, Cond.selects RX3 yX3_retellValues yX3_retellValues, Cond.code yX3_retellValues cX3_retellValues 2 none, Cond.fieldLink RX3 22 "ActHouse" "values" "[I", Cond.methodLink RX3 57 yJ7_fill_53178, Cond.methodLink RX3 261 yX3_tellValues, Cond.instanceMethod yX3_tellValues, Cond.selects RX3 yX3_tellValues yX3_tellValues, Cond.code yX3_tellValues cX3_tellValues 3 none, Cond.methodLink RX3 157 yX0_valueAfter, Cond.instanceMethod yX0_valueAfter, Cond.selects RX0 yX0_valueAfter yX0_valueAfter, Cond.code yX0_valueAfter cX0_valueAfter 3 (some .int), Cond.fieldLink RX0 18 "ActHouse$Act" "written" "[I"]
def wsX3_fall : List Cond := .code yX3_fall cX3_fall 4 (some .int) :: ((wsX3_fall_r1 ++ (wsX3_fall_r2 ++ wsX3_fall_r3)) ++ wsX30 ++ wsX10 ++ wsX00)
def wsX3_told : List Cond := .code yX3_told cX3_told 5 (some .int) :: ([.fieldLink RX3 102 "ActHouse" "actCount" "I", .fieldLink RX3 27 "ActHouse" "acts" "[LActHouse$Act;", .fieldLink RX3 117 "ActHouse$Act" "state" "I", .fieldLink RX3 120 "ActHouse$Act" "program" "I", .fieldLink RX3 123 "ActHouse$Act" "kind" "I", .fieldLink RX3 126 "ActHouse$Act" "rank" "I", .fieldLink RX3 129 "ActHouse$Act" "at" "I", .fieldLink RX3 132 "ActHouse$Act" "heldTick" "I", .fieldLink RX3 79 "ActHouse" "now" "I", .fieldLink RX3 135 "ActHouse$Act" "doneTick" "I", .fieldLink RX3 138 "ActHouse$Act" "timesUndone" "I", .fieldLink RX3 141 "ActHouse$Act" "parent" "I", .fieldLink RX3 144 "ActHouse$Act" "begunTick" "I", .methodLink RX3 63 yX3_isBelow, .static yX3_isBelow, .initialized RX3, .code yX3_isBelow cX3_isBelow 2 (some .boolean)] ++ wsX30 ++ wsX00)
def wsX3_register : List Cond := .code yX3_register cX3_register 2 (some .int) :: ([.fieldLink RX3 102 "ActHouse" "actCount" "I", .fieldLink RX3 27 "ActHouse" "acts" "[LActHouse$Act;", .fieldLink RX3 117 "ActHouse$Act" "state" "I", .constant RX3 147 (-2147483648), .fieldLink RX3 148 "ActHouse$Act" "register" "I", .methodLink RX3 63 yX3_isBelow, .static yX3_isBelow, .initialized RX3, .code yX3_isBelow cX3_isBelow 2 (some .boolean)] ++ wsX30 ++ wsX00)
def wsX3_holds : List Cond := .code yX3_holds cX3_holds 3 (some .int) :: ([.fieldLink RX3 102 "ActHouse" "actCount" "I", .fieldLink RX3 27 "ActHouse" "acts" "[LActHouse$Act;", .fieldLink RX3 117 "ActHouse$Act" "state" "I", .fieldLink RX3 151 "ActHouse$Act" "locks" "[I", .methodLink RX3 63 yX3_isBelow, .static yX3_isBelow, .initialized RX3, .code yX3_isBelow cX3_isBelow 2 (some .boolean)] ++ wsX30 ++ wsX00)
def wsX3_value : List Cond := .code yX3_value cX3_value 6 (some .int) :: ([.fieldLink RX3 79 "ActHouse" "now" "I", .constant RX3 147 (-2147483648), .fieldLink RX3 22 "ActHouse" "values" "[I", .fieldLink RX3 154 "ActHouse" "doneCount" "I", .fieldLink RX3 27 "ActHouse" "acts" "[LActHouse$Act;", .fieldLink RX3 34 "ActHouse" "doneRow" "[I", .fieldLink RX3 135 "ActHouse$Act" "doneTick" "I", .methodLink RX3 63 yX3_isBelow, .static yX3_isBelow, .initialized RX3, .code yX3_isBelow cX3_isBelow 2 (some .boolean), .methodLink RX3 157 yX0_valueAfter, .instanceMethod yX0_valueAfter, .selects RX0 yX0_valueAfter yX0_valueAfter, .initialized RX0, .code yX0_valueAfter cX0_valueAfter 3 (some .int), .fieldLink RX0 15 "ActHouse$Act" "locks" "[I", .fieldLink RX0 18 "ActHouse$Act" "written" "[I", .fieldLink RX0 21 "ActHouse$Act" "gives" "[I"] ++ wsX30 ++ wsX00)
def wsX3_done : List Cond := .code yX3_done cX3_done 2 (some .int) :: ([.fieldLink RX3 154 "ActHouse" "doneCount" "I", .fieldLink RX3 34 "ActHouse" "doneRow" "[I", .methodLink RX3 63 yX3_isBelow, .static yX3_isBelow, .initialized RX3, .code yX3_isBelow cX3_isBelow 2 (some .boolean)] ++ wsX30)
def wsX3_log : List Cond := .code yX3_log cX3_log 3 (some .int) :: ([.fieldLink RX3 46 "ActHouse" "book" "LActHouse$LogBook;", .methodLink RX3 161 yX1_tell, .instanceMethod yX1_tell, .selects RX1 yX1_tell yX1_tell, .initialized RX1, .code yX1_tell cX1_tell 4 (some .int), .fieldLink RX1 15 "ActHouse$LogBook" "size" "I", .fieldLink RX1 11 "ActHouse$LogBook" "entries" "[I"] ++ wsX30 ++ wsX10)
def wsX3_countState : List Cond := .code yX3_countState cX3_countState 4 (some .int) :: ([.fieldLink RX3 102 "ActHouse" "actCount" "I", .fieldLink RX3 27 "ActHouse" "acts" "[LActHouse$Act;", .fieldLink RX3 117 "ActHouse$Act" "state" "I"] ++ wsX30 ++ wsX00)
def wsX3_count : List Cond := .code yX3_count cX3_count 2 (some .int) :: ([.fieldLink RX3 79 "ActHouse" "now" "I", .fieldLink RX3 102 "ActHouse" "actCount" "I", .fieldLink RX3 46 "ActHouse" "book" "LActHouse$LogBook;", .fieldLink RX3 86 "ActHouse$LogBook" "size" "I", .fieldLink RX3 89 "ActHouse$LogBook" "kept" "I", .fieldLink RX3 154 "ActHouse" "doneCount" "I", .fieldLink RX3 167 "ActHouse" "rings" "I", .fieldLink RX3 99 "ActHouse" "falls" "I", .methodLink RX3 164 yX3_countState, .instanceMethod yX3_countState, .selects RX3 yX3_countState yX3_countState, .initialized RX3, .code yX3_countState cX3_countState 4 (some .int), .fieldLink RX3 27 "ActHouse" "acts" "[LActHouse$Act;", .fieldLink RX3 117 "ActHouse$Act" "state" "I"] ++ wsX30 ++ wsX10 ++ wsX00)
def wsX4_init_r1 : List Cond := [Cond.methodLink RX4 1 objectInit, Cond.instanceMethod objectInit, Cond.code objectInit ⟨#[0xb1]⟩ 1 none, Cond.arrayClass .int, Cond.fieldLink RX4 9 "ActHouseModel" "cells" "[I", Cond.fieldLink RX4 13 "ActHouseModel" "counters" "[I", Cond.fieldLink RX4 16 "ActHouseModel" "floors" "[I", Cond.fieldLink RX4 19 "ActHouseModel" "limits" "[I", Cond.fieldLink RX4 22 "ActHouseModel" "longs" "[I", Cond.fieldLink RX4 25 "ActHouseModel" "steps" "[I", Cond.fieldLink RX4 28 "ActHouseModel" "program" "[I", Cond.fieldLink RX4 31 "ActHouseModel" "kind" "[I", Cond.fieldLink RX4 34 "ActHouseModel" "rank" "[I", Cond.fieldLink RX4 37 "ActHouseModel" "state" "[I", Cond.fieldLink RX4 40 "ActHouseModel" "actLong" "[I", Cond.fieldLink RX4 43 "ActHouseModel" "actSteps" "[I", Cond.fieldLink RX4 46 "ActHouseModel" "at" "[I", Cond.fieldLink RX4 49 "ActHouseModel" "register" "[I", Cond.arrayClass .boolean, Cond.fieldLink RX4 52 "ActHouseModel" "isHeld" "[Z", Cond.fieldLink RX4 56 "ActHouseModel" "doneIn" "[I", Cond.fieldLink RX4 59 "ActHouseModel" "undone" "[I", Cond.fieldLink RX4 62 "ActHouseModel" "by" "[I", Cond.fieldLink RX4 65 "ActHouseModel" "begunIn" "[I"]
def wsX4_init_r2 : List Cond := [Cond.fieldLink RX4 68 "ActHouseModel" "isVoid" "[Z", Cond.fieldLink RX4 71 "ActHouseModel" "isAgain" "[Z", Cond.fieldLink RX4 74 "ActHouseModel" "holds" "[I", Cond.fieldLink RX4 77 "ActHouseModel" "writes" "[I", Cond.fieldLink RX4 80 "ActHouseModel" "gives" "[I", Cond.fieldLink RX4 83 "ActHouseModel" "below" "[I", Cond.fieldLink RX4 86 "ActHouseModel" "queued" "[I", Cond.fieldLink RX4 89 "ActHouseModel" "queuedMany" "[I", Cond.fieldLink RX4 92 "ActHouseModel" "done" "[I", Cond.fieldLink RX4 95 "ActHouseModel" "log" "[I", Cond.fieldLink RX4 98 "ActHouseModel" "order" "[I", Cond.fieldLink RX4 101 "ActHouseModel" "isReached" "[Z", Cond.fieldLink RX4 104 "ActHouseModel" "queue" "[I"]
def wsX4_init : List Cond := .code yX4_init cX4_init 1 none :: ((wsX4_init_r1 ++ wsX4_init_r2) ++ wsX40)
def wsX4_in : List Cond := .code yX4_in cX4_in 3 (some .boolean) :: ([])
def wsX4_isProgram : List Cond := .code yX4_isProgram cX4_isProgram 1 (some .boolean) :: ([.methodLink RX4 107 yX4_in, .static yX4_in, .initialized RX4, .code yX4_in cX4_in 3 (some .boolean)])
def wsX4_isAct : List Cond := .code yX4_isAct cX4_isAct 2 (some .boolean) :: ([.fieldLink RX4 111 "ActHouseModel" "acts" "I", .methodLink RX4 107 yX4_in, .static yX4_in, .initialized RX4, .code yX4_in cX4_in 3 (some .boolean)] ++ wsX40)
def wsX4_program : List Cond := .code yX4_program cX4_program 2 (some .boolean) :: ([.fieldLink RX4 22 "ActHouseModel" "longs" "[I", .methodLink RX4 115 yX4_isProgram, .static yX4_isProgram, .initialized RX4, .code yX4_isProgram cX4_isProgram 1 (some .boolean), .methodLink RX4 107 yX4_in, .static yX4_in, .code yX4_in cX4_in 3 (some .boolean)] ++ wsX40)
def wsX4_step : List Cond := .code yX4_step cX4_step 5 (some .int) :: ([.fieldLink RX4 22 "ActHouseModel" "longs" "[I", .fieldLink RX4 25 "ActHouseModel" "steps" "[I", .methodLink RX4 115 yX4_isProgram, .static yX4_isProgram, .initialized RX4, .code yX4_isProgram cX4_isProgram 1 (some .boolean), .methodLink RX4 107 yX4_in, .static yX4_in, .code yX4_in cX4_in 3 (some .boolean)] ++ wsX40)
def wsX4_newAct : List Cond := .code yX4_newAct cX4_newAct 5 (some .int) :: ([.fieldLink RX4 111 "ActHouseModel" "acts" "I", .fieldLink RX4 28 "ActHouseModel" "program" "[I", .fieldLink RX4 31 "ActHouseModel" "kind" "[I", .fieldLink RX4 34 "ActHouseModel" "rank" "[I", .fieldLink RX4 62 "ActHouseModel" "by" "[I", .fieldLink RX4 56 "ActHouseModel" "doneIn" "[I", .fieldLink RX4 65 "ActHouseModel" "begunIn" "[I"] ++ wsX40)
def wsX4_act : List Cond := .code yX4_act cX4_act 4 (some .int) :: ([.methodLink RX4 115 yX4_isProgram, .static yX4_isProgram, .initialized RX4, .code yX4_isProgram cX4_isProgram 1 (some .boolean), .methodLink RX4 107 yX4_in, .static yX4_in, .code yX4_in cX4_in 3 (some .boolean), .methodLink RX4 119 yX4_newAct, .instanceMethod yX4_newAct, .selects RX4 yX4_newAct yX4_newAct, .code yX4_newAct cX4_newAct 5 (some .int), .fieldLink RX4 111 "ActHouseModel" "acts" "I", .fieldLink RX4 28 "ActHouseModel" "program" "[I", .fieldLink RX4 31 "ActHouseModel" "kind" "[I", .fieldLink RX4 34 "ActHouseModel" "rank" "[I", .fieldLink RX4 62 "ActHouseModel" "by" "[I", .fieldLink RX4 56 "ActHouseModel" "doneIn" "[I", .fieldLink RX4 65 "ActHouseModel" "begunIn" "[I"] ++ wsX40)
def wsX4_limit : List Cond := .code yX4_limit cX4_limit 3 (some .boolean) :: ([.fieldLink RX4 19 "ActHouseModel" "limits" "[I", .methodLink RX4 107 yX4_in, .static yX4_in, .initialized RX4, .code yX4_in cX4_in 3 (some .boolean)] ++ wsX40)
def wsX4_least : List Cond := .code yX4_least cX4_least 4 (some .int) :: ([.fieldLink RX4 13 "ActHouseModel" "counters" "[I", .fieldLink RX4 111 "ActHouseModel" "acts" "I", .fieldLink RX4 37 "ActHouseModel" "state" "[I", .fieldLink RX4 83 "ActHouseModel" "below" "[I"] ++ wsX40)
def wsX4_floor : List Cond := .code yX4_floor cX4_floor 3 (some .boolean) :: ([.fieldLink RX4 16 "ActHouseModel" "floors" "[I", .methodLink RX4 107 yX4_in, .static yX4_in, .initialized RX4, .code yX4_in cX4_in 3 (some .boolean), .methodLink RX4 123 yX4_least, .instanceMethod yX4_least, .selects RX4 yX4_least yX4_least, .code yX4_least cX4_least 4 (some .int), .fieldLink RX4 13 "ActHouseModel" "counters" "[I", .fieldLink RX4 111 "ActHouseModel" "acts" "I", .fieldLink RX4 37 "ActHouseModel" "state" "[I", .fieldLink RX4 83 "ActHouseModel" "below" "[I"] ++ wsX40)
def wsX4_logs : List Cond := .code yX4_logs cX4_logs 6 none :: ([.fieldLink RX4 127 "ActHouseModel" "entries" "I", .fieldLink RX4 95 "ActHouseModel" "log" "[I", .arrayClass .int, .fieldLink RX4 130 "ActHouseModel" "now" "I"] ++ wsX40)
def wsX4_clears : List Cond := .code yX4_clears cX4_clears 3 none :: ([.fieldLink RX4 74 "ActHouseModel" "holds" "[I", .fieldLink RX4 80 "ActHouseModel" "gives" "[I", .fieldLink RX4 83 "ActHouseModel" "below" "[I", .fieldLink RX4 89 "ActHouseModel" "queuedMany" "[I", .fieldLink RX4 49 "ActHouseModel" "register" "[I", .fieldLink RX4 46 "ActHouseModel" "at" "[I", .fieldLink RX4 52 "ActHouseModel" "isHeld" "[Z"] ++ wsX40)
def wsX4_lets : List Cond := .code yX4_lets cX4_lets 3 none :: ([.fieldLink RX4 74 "ActHouseModel" "holds" "[I", .fieldLink RX4 52 "ActHouseModel" "isHeld" "[Z"] ++ wsX40)
def wsX4_bars : List Cond := .code yX4_bars cX4_bars 6 (some .boolean) :: ([.fieldLink RX4 37 "ActHouseModel" "state" "[I", .fieldLink RX4 74 "ActHouseModel" "holds" "[I"] ++ wsX40)
def wsX4_isFree : List Cond := .code yX4_isFree cX4_isFree 5 (some .boolean) :: ([.fieldLink RX4 111 "ActHouseModel" "acts" "I", .methodLink RX4 133 yX4_bars, .instanceMethod yX4_bars, .selects RX4 yX4_bars yX4_bars, .initialized RX4, .code yX4_bars cX4_bars 6 (some .boolean), .fieldLink RX4 37 "ActHouseModel" "state" "[I", .fieldLink RX4 74 "ActHouseModel" "holds" "[I"] ++ wsX40)
def wsX4_seen : List Cond := .code yX4_seen cX4_seen 3 (some .int) :: ([.fieldLink RX4 74 "ActHouseModel" "holds" "[I", .fieldLink RX4 77 "ActHouseModel" "writes" "[I", .fieldLink RX4 9 "ActHouseModel" "cells" "[I"] ++ wsX40)
def wsX4_stepOf : List Cond := .code yX4_stepOf cX4_stepOf 2 (some .int) :: ([.fieldLink RX4 43 "ActHouseModel" "actSteps" "[I", .fieldLink RX4 46 "ActHouseModel" "at" "[I"] ++ wsX40)
def wsX4_canDo : List Cond := .code yX4_canDo cX4_canDo 5 (some .boolean) :: ([.fieldLink RX4 16 "ActHouseModel" "floors" "[I", .methodLink RX4 161 yX4_isFree, .instanceMethod yX4_isFree, .selects RX4 yX4_isFree yX4_isFree, .initialized RX4, .code yX4_isFree cX4_isFree 5 (some .boolean), .fieldLink RX4 111 "ActHouseModel" "acts" "I", .methodLink RX4 133 yX4_bars, .instanceMethod yX4_bars, .selects RX4 yX4_bars yX4_bars, .code yX4_bars cX4_bars 6 (some .boolean), .fieldLink RX4 37 "ActHouseModel" "state" "[I", .fieldLink RX4 74 "ActHouseModel" "holds" "[I", .methodLink RX4 123 yX4_least, .instanceMethod yX4_least, .selects RX4 yX4_least yX4_least, .code yX4_least cX4_least 4 (some .int), .fieldLink RX4 13 "ActHouseModel" "counters" "[I", .fieldLink RX4 83 "ActHouseModel" "below" "[I"] ++ wsX40)
def wsX4_gets : List Cond := .code yX4_gets cX4_gets 3 none :: ([.fieldLink RX4 74 "ActHouseModel" "holds" "[I", .fieldLink RX4 9 "ActHouseModel" "cells" "[I", .fieldLink RX4 77 "ActHouseModel" "writes" "[I", .fieldLink RX4 13 "ActHouseModel" "counters" "[I", .fieldLink RX4 80 "ActHouseModel" "gives" "[I"] ++ wsX40)
def wsX4_isDone_r1 : List Cond := [Cond.fieldLink RX4 37 "ActHouseModel" "state" "[I", Cond.fieldLink RX4 56 "ActHouseModel" "doneIn" "[I", Cond.fieldLink RX4 130 "ActHouseModel" "now" "I", Cond.fieldLink RX4 92 "ActHouseModel" "done" "[I", Cond.fieldLink RX4 168 "ActHouseModel" "dones" "I", Cond.fieldLink RX4 89 "ActHouseModel" "queuedMany" "[I", Cond.fieldLink RX4 86 "ActHouseModel" "queued" "[I", Cond.fieldLink RX4 31 "ActHouseModel" "kind" "[I", Cond.fieldLink RX4 34 "ActHouseModel" "rank" "[I", Cond.methodLink RX4 165 yX4_lets, Cond.instanceMethod yX4_lets, Cond.selects RX4 yX4_lets yX4_lets, Cond.initialized RX4, Cond.code yX4_lets cX4_lets 3 none, Cond.fieldLink RX4 74 "ActHouseModel" "holds" "[I", Cond.fieldLink RX4 52 "ActHouseModel" "isHeld" "[Z", Cond.methodLink RX4 148 yX4_logs, Cond.instanceMethod yX4_logs, Cond.selects RX4 yX4_logs yX4_logs, Cond.code yX4_logs cX4_logs 6 none, Cond.fieldLink RX4 127 "ActHouseModel" "entries" "I", Cond.fieldLink RX4 95 "ActHouseModel" "log" "[I", Cond.arrayClass .int, Cond.methodLink RX4 171 yX4_gets]
def wsX4_isDone_r2 : List Cond := [Cond.instanceMethod yX4_gets, Cond.selects RX4 yX4_gets yX4_gets, Cond.code yX4_gets cX4_gets 3 none, Cond.fieldLink RX4 9 "ActHouseModel" "cells" "[I", Cond.fieldLink RX4 77 "ActHouseModel" "writes" "[I", Cond.fieldLink RX4 13 "ActHouseModel" "counters" "[I", Cond.fieldLink RX4 80 "ActHouseModel" "gives" "[I", Cond.methodLink RX4 119 yX4_newAct, Cond.instanceMethod yX4_newAct, Cond.selects RX4 yX4_newAct yX4_newAct, Cond.code yX4_newAct cX4_newAct 5 (some .int), Cond.fieldLink RX4 111 "ActHouseModel" "acts" "I", Cond.fieldLink RX4 28 "ActHouseModel" "program" "[I", Cond.fieldLink RX4 62 "ActHouseModel" "by" "[I", Cond.fieldLink RX4 65 "ActHouseModel" "begunIn" "[I"]
def wsX4_isDone : List Cond := .code yX4_isDone cX4_isDone 3 none :: ((wsX4_isDone_r1 ++ wsX4_isDone_r2) ++ wsX40)
def wsX4_does_r1 : List Cond := [Cond.fieldLink RX4 52 "ActHouseModel" "isHeld" "[Z", Cond.fieldLink RX4 49 "ActHouseModel" "register" "[I", Cond.fieldLink RX4 74 "ActHouseModel" "holds" "[I", Cond.fieldLink RX4 77 "ActHouseModel" "writes" "[I", Cond.fieldLink RX4 80 "ActHouseModel" "gives" "[I", Cond.fieldLink RX4 83 "ActHouseModel" "below" "[I", Cond.fieldLink RX4 86 "ActHouseModel" "queued" "[I", Cond.fieldLink RX4 89 "ActHouseModel" "queuedMany" "[I", Cond.constant RX4 152 (-1000000), Cond.constant RX4 153 (1000000), Cond.fieldLink RX4 37 "ActHouseModel" "state" "[I", Cond.fieldLink RX4 46 "ActHouseModel" "at" "[I", Cond.fieldLink RX4 40 "ActHouseModel" "actLong" "[I", Cond.methodLink RX4 137 yX4_stepOf, Cond.instanceMethod yX4_stepOf, Cond.selects RX4 yX4_stepOf yX4_stepOf, Cond.initialized RX4, Cond.code yX4_stepOf cX4_stepOf 2 (some .int), Cond.fieldLink RX4 43 "ActHouseModel" "actSteps" "[I", Cond.methodLink RX4 140 yX4_canDo, Cond.instanceMethod yX4_canDo, Cond.selects RX4 yX4_canDo yX4_canDo, Cond.code yX4_canDo cX4_canDo 5 (some .boolean), Cond.fieldLink RX4 16 "ActHouseModel" "floors" "[I"]
def wsX4_does_r2 : List Cond := [Cond.methodLink RX4 161 yX4_isFree, Cond.instanceMethod yX4_isFree, Cond.selects RX4 yX4_isFree yX4_isFree, Cond.code yX4_isFree cX4_isFree 5 (some .boolean), Cond.fieldLink RX4 111 "ActHouseModel" "acts" "I", Cond.methodLink RX4 133 yX4_bars, Cond.instanceMethod yX4_bars, Cond.selects RX4 yX4_bars yX4_bars, Cond.code yX4_bars cX4_bars 6 (some .boolean), Cond.methodLink RX4 123 yX4_least, Cond.instanceMethod yX4_least, Cond.selects RX4 yX4_least yX4_least, Cond.code yX4_least cX4_least 4 (some .int), Cond.fieldLink RX4 13 "ActHouseModel" "counters" "[I", Cond.methodLink RX4 144 yX4_seen, Cond.instanceMethod yX4_seen, Cond.selects RX4 yX4_seen yX4_seen, Cond.code yX4_seen cX4_seen 3 (some .int), Cond.fieldLink RX4 9 "ActHouseModel" "cells" "[I", Cond.methodLink RX4 148 yX4_logs, Cond.instanceMethod yX4_logs, Cond.selects RX4 yX4_logs yX4_logs, Cond.code yX4_logs cX4_logs 6 none, Cond.fieldLink RX4 127 "ActHouseModel" "entries" "I"]
def wsX4_does_r3 : List Cond := [Cond.fieldLink RX4 95 "ActHouseModel" "log" "[I", Cond.arrayClass .int, Cond.fieldLink RX4 130 "ActHouseModel" "now" "I", Cond.methodLink RX4 107 yX4_in, Cond.static yX4_in, Cond.code yX4_in cX4_in 3 (some .boolean), Cond.methodLink RX4 154 yX4_clears, Cond.instanceMethod yX4_clears, Cond.selects RX4 yX4_clears yX4_clears, Cond.code yX4_clears cX4_clears 3 none, Cond.methodLink RX4 158 yX4_isDone, Cond.instanceMethod yX4_isDone, Cond.selects RX4 yX4_isDone yX4_isDone, Cond.code yX4_isDone cX4_isDone 3 none, Cond.fieldLink RX4 56 "ActHouseModel" "doneIn" "[I", Cond.fieldLink RX4 92 "ActHouseModel" "done" "[I", Cond.fieldLink RX4 168 "ActHouseModel" "dones" "I", Cond.fieldLink RX4 31 "ActHouseModel" "kind" "[I", Cond.fieldLink RX4 34 "ActHouseModel" "rank" "[I", Cond.methodLink RX4 165 yX4_lets, Cond.instanceMethod yX4_lets, Cond.selects RX4 yX4_lets yX4_lets, Cond.code yX4_lets cX4_lets 3 none, Cond.methodLink RX4 171 yX4_gets]
def wsX4_does_r4 : List Cond := [Cond.instanceMethod yX4_gets, Cond.selects RX4 yX4_gets yX4_gets, Cond.code yX4_gets cX4_gets 3 none, Cond.methodLink RX4 119 yX4_newAct, Cond.instanceMethod yX4_newAct, Cond.selects RX4 yX4_newAct yX4_newAct, Cond.code yX4_newAct cX4_newAct 5 (some .int), Cond.fieldLink RX4 28 "ActHouseModel" "program" "[I", Cond.fieldLink RX4 62 "ActHouseModel" "by" "[I", Cond.fieldLink RX4 65 "ActHouseModel" "begunIn" "[I"]
def wsX4_does : List Cond := .code yX4_does cX4_does 7 none :: ((wsX4_does_r1 ++ (wsX4_does_r2 ++ (wsX4_does_r3 ++ wsX4_does_r4))) ++ wsX40)
def wsX4_isAhead : List Cond := .code yX4_isAhead cX4_isAhead 3 (some .boolean) :: ([.fieldLink RX4 34 "ActHouseModel" "rank" "[I"] ++ wsX40)
def wsX4_sorts : List Cond := .code yX4_sorts cX4_sorts 5 (some .int) :: ([.fieldLink RX4 111 "ActHouseModel" "acts" "I", .fieldLink RX4 37 "ActHouseModel" "state" "[I", .fieldLink RX4 98 "ActHouseModel" "order" "[I", .methodLink RX4 174 yX4_isAhead, .instanceMethod yX4_isAhead, .selects RX4 yX4_isAhead yX4_isAhead, .initialized RX4, .code yX4_isAhead cX4_isAhead 3 (some .boolean), .fieldLink RX4 34 "ActHouseModel" "rank" "[I"] ++ wsX40)
def wsX4_waitsFor : List Cond := .code yX4_waitsFor cX4_waitsFor 5 (some .boolean) :: ([.fieldLink RX4 37 "ActHouseModel" "state" "[I", .fieldLink RX4 52 "ActHouseModel" "isHeld" "[Z", .methodLink RX4 137 yX4_stepOf, .instanceMethod yX4_stepOf, .selects RX4 yX4_stepOf yX4_stepOf, .initialized RX4, .code yX4_stepOf cX4_stepOf 2 (some .int), .fieldLink RX4 43 "ActHouseModel" "actSteps" "[I", .fieldLink RX4 46 "ActHouseModel" "at" "[I", .methodLink RX4 133 yX4_bars, .instanceMethod yX4_bars, .selects RX4 yX4_bars yX4_bars, .code yX4_bars cX4_bars 6 (some .boolean), .fieldLink RX4 74 "ActHouseModel" "holds" "[I"] ++ wsX40)
def wsX4_isInRing : List Cond := .code yX4_isInRing cX4_isInRing 5 (some .boolean) :: ([.fieldLink RX4 111 "ActHouseModel" "acts" "I", .fieldLink RX4 101 "ActHouseModel" "isReached" "[Z", .fieldLink RX4 104 "ActHouseModel" "queue" "[I", .fieldLink RX4 52 "ActHouseModel" "isHeld" "[Z", .methodLink RX4 178 yX4_waitsFor, .instanceMethod yX4_waitsFor, .selects RX4 yX4_waitsFor yX4_waitsFor, .initialized RX4, .code yX4_waitsFor cX4_waitsFor 5 (some .boolean), .fieldLink RX4 37 "ActHouseModel" "state" "[I", .methodLink RX4 137 yX4_stepOf, .instanceMethod yX4_stepOf, .selects RX4 yX4_stepOf yX4_stepOf, .code yX4_stepOf cX4_stepOf 2 (some .int), .fieldLink RX4 43 "ActHouseModel" "actSteps" "[I", .fieldLink RX4 46 "ActHouseModel" "at" "[I", .methodLink RX4 133 yX4_bars, .instanceMethod yX4_bars, .selects RX4 yX4_bars yX4_bars, .code yX4_bars cX4_bars 6 (some .boolean), .fieldLink RX4 74 "ActHouseModel" "holds" "[I"] ++ wsX40)
def wsX4_breaks_r1 : List Cond := [Cond.fieldLink RX4 111 "ActHouseModel" "acts" "I", Cond.fieldLink RX4 37 "ActHouseModel" "state" "[I", Cond.fieldLink RX4 52 "ActHouseModel" "isHeld" "[Z", Cond.fieldLink RX4 65 "ActHouseModel" "begunIn" "[I", Cond.fieldLink RX4 59 "ActHouseModel" "undone" "[I", Cond.fieldLink RX4 184 "ActHouseModel" "rings" "I", Cond.methodLink RX4 181 yX4_isInRing, Cond.instanceMethod yX4_isInRing, Cond.selects RX4 yX4_isInRing yX4_isInRing, Cond.initialized RX4, Cond.code yX4_isInRing cX4_isInRing 5 (some .boolean), Cond.fieldLink RX4 101 "ActHouseModel" "isReached" "[Z", Cond.fieldLink RX4 104 "ActHouseModel" "queue" "[I", Cond.methodLink RX4 178 yX4_waitsFor, Cond.instanceMethod yX4_waitsFor, Cond.selects RX4 yX4_waitsFor yX4_waitsFor, Cond.code yX4_waitsFor cX4_waitsFor 5 (some .boolean), Cond.methodLink RX4 137 yX4_stepOf, Cond.instanceMethod yX4_stepOf, Cond.selects RX4 yX4_stepOf yX4_stepOf, Cond.code yX4_stepOf cX4_stepOf 2 (some .int), Cond.fieldLink RX4 43 "ActHouseModel" "actSteps" "[I", Cond.fieldLink RX4 46 "ActHouseModel" "at" "[I", Cond.methodLink RX4 133 yX4_bars]
def wsX4_breaks_r2 : List Cond := [Cond.instanceMethod yX4_bars, Cond.selects RX4 yX4_bars yX4_bars, Cond.code yX4_bars cX4_bars 6 (some .boolean), Cond.fieldLink RX4 74 "ActHouseModel" "holds" "[I", Cond.methodLink RX4 148 yX4_logs, Cond.instanceMethod yX4_logs, Cond.selects RX4 yX4_logs yX4_logs, Cond.code yX4_logs cX4_logs 6 none, Cond.fieldLink RX4 127 "ActHouseModel" "entries" "I", Cond.fieldLink RX4 95 "ActHouseModel" "log" "[I", Cond.arrayClass .int, Cond.fieldLink RX4 130 "ActHouseModel" "now" "I", Cond.methodLink RX4 154 yX4_clears, Cond.instanceMethod yX4_clears, Cond.selects RX4 yX4_clears yX4_clears, Cond.code yX4_clears cX4_clears 3 none, Cond.fieldLink RX4 80 "ActHouseModel" "gives" "[I", Cond.fieldLink RX4 83 "ActHouseModel" "below" "[I", Cond.fieldLink RX4 89 "ActHouseModel" "queuedMany" "[I", Cond.fieldLink RX4 49 "ActHouseModel" "register" "[I"]
def wsX4_breaks : List Cond := .code yX4_breaks cX4_breaks 3 none :: ((wsX4_breaks_r1 ++ wsX4_breaks_r2) ++ wsX40)
def wsX4_begins_r1 : List Cond := [Cond.fieldLink RX4 98 "ActHouseModel" "order" "[I", Cond.fieldLink RX4 111 "ActHouseModel" "acts" "I", Cond.fieldLink RX4 37 "ActHouseModel" "state" "[I", Cond.fieldLink RX4 31 "ActHouseModel" "kind" "[I", Cond.fieldLink RX4 19 "ActHouseModel" "limits" "[I", Cond.fieldLink RX4 22 "ActHouseModel" "longs" "[I", Cond.fieldLink RX4 28 "ActHouseModel" "program" "[I", Cond.fieldLink RX4 65 "ActHouseModel" "begunIn" "[I", Cond.fieldLink RX4 130 "ActHouseModel" "now" "I", Cond.fieldLink RX4 40 "ActHouseModel" "actLong" "[I", Cond.fieldLink RX4 43 "ActHouseModel" "actSteps" "[I", Cond.fieldLink RX4 25 "ActHouseModel" "steps" "[I", Cond.methodLink RX4 187 yX4_sorts, Cond.instanceMethod yX4_sorts, Cond.selects RX4 yX4_sorts yX4_sorts, Cond.initialized RX4, Cond.code yX4_sorts cX4_sorts 5 (some .int), Cond.methodLink RX4 174 yX4_isAhead, Cond.instanceMethod yX4_isAhead, Cond.selects RX4 yX4_isAhead yX4_isAhead, Cond.code yX4_isAhead cX4_isAhead 3 (some .boolean), Cond.fieldLink RX4 34 "ActHouseModel" "rank" "[I", Cond.methodLink RX4 154 yX4_clears, Cond.instanceMethod yX4_clears]
def wsX4_begins_r2 : List Cond := [Cond.selects RX4 yX4_clears yX4_clears, Cond.code yX4_clears cX4_clears 3 none, Cond.fieldLink RX4 74 "ActHouseModel" "holds" "[I", Cond.fieldLink RX4 80 "ActHouseModel" "gives" "[I", Cond.fieldLink RX4 83 "ActHouseModel" "below" "[I", Cond.fieldLink RX4 89 "ActHouseModel" "queuedMany" "[I", Cond.fieldLink RX4 49 "ActHouseModel" "register" "[I", Cond.fieldLink RX4 46 "ActHouseModel" "at" "[I", Cond.fieldLink RX4 52 "ActHouseModel" "isHeld" "[Z", Cond.methodLink RX4 148 yX4_logs, Cond.instanceMethod yX4_logs, Cond.selects RX4 yX4_logs yX4_logs, Cond.code yX4_logs cX4_logs 6 none, Cond.fieldLink RX4 127 "ActHouseModel" "entries" "I", Cond.fieldLink RX4 95 "ActHouseModel" "log" "[I", Cond.arrayClass .int]
def wsX4_begins : List Cond := .code yX4_begins cX4_begins 6 none :: ((wsX4_begins_r1 ++ wsX4_begins_r2) ++ wsX40)
def wsX4_keeps : List Cond := .code yX4_keeps cX4_keeps 2 none :: ([.fieldLink RX4 127 "ActHouseModel" "entries" "I", .fieldLink RX4 190 "ActHouseModel" "kept" "I", .fieldLink RX4 111 "ActHouseModel" "acts" "I", .fieldLink RX4 37 "ActHouseModel" "state" "[I"] ++ wsX40)
def wsX4_go_r1 : List Cond := [Cond.fieldLink RX4 130 "ActHouseModel" "now" "I", Cond.fieldLink RX4 98 "ActHouseModel" "order" "[I", Cond.methodLink RX4 107 yX4_in, Cond.static yX4_in, Cond.initialized RX4, Cond.code yX4_in cX4_in 3 (some .boolean), Cond.methodLink RX4 187 yX4_sorts, Cond.instanceMethod yX4_sorts, Cond.selects RX4 yX4_sorts yX4_sorts, Cond.code yX4_sorts cX4_sorts 5 (some .int), Cond.fieldLink RX4 111 "ActHouseModel" "acts" "I", Cond.fieldLink RX4 37 "ActHouseModel" "state" "[I", Cond.methodLink RX4 174 yX4_isAhead, Cond.instanceMethod yX4_isAhead, Cond.selects RX4 yX4_isAhead yX4_isAhead, Cond.code yX4_isAhead cX4_isAhead 3 (some .boolean), Cond.fieldLink RX4 34 "ActHouseModel" "rank" "[I", Cond.methodLink RX4 193 yX4_does, Cond.instanceMethod yX4_does, Cond.selects RX4 yX4_does yX4_does, Cond.code yX4_does cX4_does 7 none, Cond.fieldLink RX4 52 "ActHouseModel" "isHeld" "[Z", Cond.fieldLink RX4 49 "ActHouseModel" "register" "[I", Cond.fieldLink RX4 74 "ActHouseModel" "holds" "[I"]
def wsX4_go_r2 : List Cond := [Cond.fieldLink RX4 77 "ActHouseModel" "writes" "[I", Cond.fieldLink RX4 80 "ActHouseModel" "gives" "[I", Cond.fieldLink RX4 83 "ActHouseModel" "below" "[I", Cond.fieldLink RX4 86 "ActHouseModel" "queued" "[I", Cond.fieldLink RX4 89 "ActHouseModel" "queuedMany" "[I", Cond.constant RX4 152 (-1000000), Cond.constant RX4 153 (1000000), Cond.fieldLink RX4 46 "ActHouseModel" "at" "[I", Cond.fieldLink RX4 40 "ActHouseModel" "actLong" "[I", Cond.methodLink RX4 137 yX4_stepOf, Cond.instanceMethod yX4_stepOf, Cond.selects RX4 yX4_stepOf yX4_stepOf, Cond.code yX4_stepOf cX4_stepOf 2 (some .int), Cond.fieldLink RX4 43 "ActHouseModel" "actSteps" "[I", Cond.methodLink RX4 140 yX4_canDo, Cond.instanceMethod yX4_canDo, Cond.selects RX4 yX4_canDo yX4_canDo, Cond.code yX4_canDo cX4_canDo 5 (some .boolean), Cond.fieldLink RX4 16 "ActHouseModel" "floors" "[I", Cond.methodLink RX4 161 yX4_isFree, Cond.instanceMethod yX4_isFree, Cond.selects RX4 yX4_isFree yX4_isFree, Cond.code yX4_isFree cX4_isFree 5 (some .boolean), Cond.methodLink RX4 133 yX4_bars]
def wsX4_go_r3 : List Cond := [Cond.instanceMethod yX4_bars, Cond.selects RX4 yX4_bars yX4_bars, Cond.code yX4_bars cX4_bars 6 (some .boolean), Cond.methodLink RX4 123 yX4_least, Cond.instanceMethod yX4_least, Cond.selects RX4 yX4_least yX4_least, Cond.code yX4_least cX4_least 4 (some .int), Cond.fieldLink RX4 13 "ActHouseModel" "counters" "[I", Cond.methodLink RX4 144 yX4_seen, Cond.instanceMethod yX4_seen, Cond.selects RX4 yX4_seen yX4_seen, Cond.code yX4_seen cX4_seen 3 (some .int), Cond.fieldLink RX4 9 "ActHouseModel" "cells" "[I", Cond.methodLink RX4 148 yX4_logs, Cond.instanceMethod yX4_logs, Cond.selects RX4 yX4_logs yX4_logs, Cond.code yX4_logs cX4_logs 6 none, Cond.fieldLink RX4 127 "ActHouseModel" "entries" "I", Cond.fieldLink RX4 95 "ActHouseModel" "log" "[I", Cond.arrayClass .int, Cond.methodLink RX4 154 yX4_clears, Cond.instanceMethod yX4_clears, Cond.selects RX4 yX4_clears yX4_clears, Cond.code yX4_clears cX4_clears 3 none]
def wsX4_go_r4 : List Cond := [Cond.methodLink RX4 158 yX4_isDone, Cond.instanceMethod yX4_isDone, Cond.selects RX4 yX4_isDone yX4_isDone, Cond.code yX4_isDone cX4_isDone 3 none, Cond.fieldLink RX4 56 "ActHouseModel" "doneIn" "[I", Cond.fieldLink RX4 92 "ActHouseModel" "done" "[I", Cond.fieldLink RX4 168 "ActHouseModel" "dones" "I", Cond.fieldLink RX4 31 "ActHouseModel" "kind" "[I", Cond.methodLink RX4 165 yX4_lets, Cond.instanceMethod yX4_lets, Cond.selects RX4 yX4_lets yX4_lets, Cond.code yX4_lets cX4_lets 3 none, Cond.methodLink RX4 171 yX4_gets, Cond.instanceMethod yX4_gets, Cond.selects RX4 yX4_gets yX4_gets, Cond.code yX4_gets cX4_gets 3 none, Cond.methodLink RX4 119 yX4_newAct, Cond.instanceMethod yX4_newAct, Cond.selects RX4 yX4_newAct yX4_newAct, Cond.code yX4_newAct cX4_newAct 5 (some .int), Cond.fieldLink RX4 28 "ActHouseModel" "program" "[I", Cond.fieldLink RX4 62 "ActHouseModel" "by" "[I", Cond.fieldLink RX4 65 "ActHouseModel" "begunIn" "[I", Cond.methodLink RX4 196 yX4_breaks]
def wsX4_go_r5 : List Cond := [Cond.instanceMethod yX4_breaks, Cond.selects RX4 yX4_breaks yX4_breaks, Cond.code yX4_breaks cX4_breaks 3 none, Cond.fieldLink RX4 59 "ActHouseModel" "undone" "[I", Cond.fieldLink RX4 184 "ActHouseModel" "rings" "I", Cond.methodLink RX4 181 yX4_isInRing, Cond.instanceMethod yX4_isInRing, Cond.selects RX4 yX4_isInRing yX4_isInRing, Cond.code yX4_isInRing cX4_isInRing 5 (some .boolean), Cond.fieldLink RX4 101 "ActHouseModel" "isReached" "[Z", Cond.fieldLink RX4 104 "ActHouseModel" "queue" "[I", Cond.methodLink RX4 178 yX4_waitsFor, Cond.instanceMethod yX4_waitsFor, Cond.selects RX4 yX4_waitsFor yX4_waitsFor, Cond.code yX4_waitsFor cX4_waitsFor 5 (some .boolean), Cond.methodLink RX4 199 yX4_begins, Cond.instanceMethod yX4_begins, Cond.selects RX4 yX4_begins yX4_begins, Cond.code yX4_begins cX4_begins 6 none, Cond.fieldLink RX4 19 "ActHouseModel" "limits" "[I", Cond.fieldLink RX4 22 "ActHouseModel" "longs" "[I", Cond.fieldLink RX4 25 "ActHouseModel" "steps" "[I", Cond.methodLink RX4 202 yX4_keeps, Cond.instanceMethod yX4_keeps]
def wsX4_go_r6 : List Cond := [Cond.selects RX4 yX4_keeps yX4_keeps, Cond.code yX4_keeps cX4_keeps 2 none, Cond.fieldLink RX4 190 "ActHouseModel" "kept" "I"]
def wsX4_go : List Cond := .code yX4_go cX4_go 5 (some .int) :: ((wsX4_go_r1 ++ (wsX4_go_r2 ++ (wsX4_go_r3 ++ (wsX4_go_r4 ++ (wsX4_go_r5 ++ wsX4_go_r6))))) ++ wsX40)
def wsX4_fall_r1 : List Cond := [Cond.fieldLink RX4 127 "ActHouseModel" "entries" "I", Cond.fieldLink RX4 190 "ActHouseModel" "kept" "I", Cond.fieldLink RX4 111 "ActHouseModel" "acts" "I", Cond.fieldLink RX4 71 "ActHouseModel" "isAgain" "[Z", Cond.fieldLink RX4 37 "ActHouseModel" "state" "[I", Cond.fieldLink RX4 95 "ActHouseModel" "log" "[I", Cond.fieldLink RX4 168 "ActHouseModel" "dones" "I", Cond.fieldLink RX4 56 "ActHouseModel" "doneIn" "[I", Cond.fieldLink RX4 68 "ActHouseModel" "isVoid" "[Z", Cond.fieldLink RX4 62 "ActHouseModel" "by" "[I", Cond.fieldLink RX4 59 "ActHouseModel" "undone" "[I", Cond.fieldLink RX4 9 "ActHouseModel" "cells" "[I", Cond.fieldLink RX4 13 "ActHouseModel" "counters" "[I", Cond.fieldLink RX4 92 "ActHouseModel" "done" "[I", Cond.fieldLink RX4 205 "ActHouseModel" "falls" "I", Cond.methodLink RX4 154 yX4_clears, Cond.instanceMethod yX4_clears, Cond.selects RX4 yX4_clears yX4_clears, Cond.initialized RX4, Cond.code yX4_clears cX4_clears 3 none, Cond.fieldLink RX4 74 "ActHouseModel" "holds" "[I", Cond.fieldLink RX4 80 "ActHouseModel" "gives" "[I", Cond.fieldLink RX4 83 "ActHouseModel" "below" "[I", Cond.fieldLink RX4 89 "ActHouseModel" "queuedMany" "[I"]
def wsX4_fall_r2 : List Cond := [Cond.fieldLink RX4 49 "ActHouseModel" "register" "[I", Cond.fieldLink RX4 46 "ActHouseModel" "at" "[I", Cond.fieldLink RX4 52 "ActHouseModel" "isHeld" "[Z", Cond.methodLink RX4 171 yX4_gets, Cond.instanceMethod yX4_gets, Cond.selects RX4 yX4_gets yX4_gets, Cond.code yX4_gets cX4_gets 3 none, Cond.fieldLink RX4 77 "ActHouseModel" "writes" "[I", Cond.methodLink RX4 202 yX4_keeps, Cond.instanceMethod yX4_keeps, Cond.selects RX4 yX4_keeps yX4_keeps, Cond.code yX4_keeps cX4_keeps 2 none]
def wsX4_fall : List Cond := .code yX4_fall cX4_fall 8 (some .int) :: ((wsX4_fall_r1 ++ wsX4_fall_r2) ++ wsX40)
def wsX4_told : List Cond := .code yX4_told cX4_told 4 (some .int) :: ([.fieldLink RX4 37 "ActHouseModel" "state" "[I", .fieldLink RX4 28 "ActHouseModel" "program" "[I", .fieldLink RX4 31 "ActHouseModel" "kind" "[I", .fieldLink RX4 34 "ActHouseModel" "rank" "[I", .fieldLink RX4 46 "ActHouseModel" "at" "[I", .fieldLink RX4 52 "ActHouseModel" "isHeld" "[Z", .fieldLink RX4 56 "ActHouseModel" "doneIn" "[I", .fieldLink RX4 59 "ActHouseModel" "undone" "[I", .fieldLink RX4 62 "ActHouseModel" "by" "[I", .fieldLink RX4 65 "ActHouseModel" "begunIn" "[I", .methodLink RX4 208 yX4_isAct, .instanceMethod yX4_isAct, .selects RX4 yX4_isAct yX4_isAct, .initialized RX4, .code yX4_isAct cX4_isAct 2 (some .boolean), .fieldLink RX4 111 "ActHouseModel" "acts" "I", .methodLink RX4 107 yX4_in, .static yX4_in, .code yX4_in cX4_in 3 (some .boolean)] ++ wsX40)
def wsX4_register : List Cond := .code yX4_register cX4_register 2 (some .int) :: ([.fieldLink RX4 37 "ActHouseModel" "state" "[I", .fieldLink RX4 49 "ActHouseModel" "register" "[I", .constant RX4 211 (-2147483648), .methodLink RX4 208 yX4_isAct, .instanceMethod yX4_isAct, .selects RX4 yX4_isAct yX4_isAct, .initialized RX4, .code yX4_isAct cX4_isAct 2 (some .boolean), .fieldLink RX4 111 "ActHouseModel" "acts" "I", .methodLink RX4 107 yX4_in, .static yX4_in, .code yX4_in cX4_in 3 (some .boolean)] ++ wsX40)
def wsX4_holds : List Cond := .code yX4_holds cX4_holds 3 (some .int) :: ([.fieldLink RX4 37 "ActHouseModel" "state" "[I", .fieldLink RX4 74 "ActHouseModel" "holds" "[I", .methodLink RX4 208 yX4_isAct, .instanceMethod yX4_isAct, .selects RX4 yX4_isAct yX4_isAct, .initialized RX4, .code yX4_isAct cX4_isAct 2 (some .boolean), .fieldLink RX4 111 "ActHouseModel" "acts" "I", .methodLink RX4 107 yX4_in, .static yX4_in, .code yX4_in cX4_in 3 (some .boolean)] ++ wsX40)
def wsX4_value : List Cond := .code yX4_value cX4_value 6 (some .int) :: ([.fieldLink RX4 130 "ActHouseModel" "now" "I", .constant RX4 211 (-2147483648), .fieldLink RX4 168 "ActHouseModel" "dones" "I", .fieldLink RX4 92 "ActHouseModel" "done" "[I", .fieldLink RX4 56 "ActHouseModel" "doneIn" "[I", .fieldLink RX4 80 "ActHouseModel" "gives" "[I", .fieldLink RX4 74 "ActHouseModel" "holds" "[I", .fieldLink RX4 77 "ActHouseModel" "writes" "[I", .methodLink RX4 107 yX4_in, .static yX4_in, .initialized RX4, .code yX4_in cX4_in 3 (some .boolean)] ++ wsX40)
def wsX4_done : List Cond := .code yX4_done cX4_done 2 (some .int) :: ([.fieldLink RX4 168 "ActHouseModel" "dones" "I", .fieldLink RX4 92 "ActHouseModel" "done" "[I", .methodLink RX4 107 yX4_in, .static yX4_in, .initialized RX4, .code yX4_in cX4_in 3 (some .boolean)] ++ wsX40)
def wsX4_log : List Cond := .code yX4_log cX4_log 3 (some .int) :: ([.fieldLink RX4 127 "ActHouseModel" "entries" "I", .fieldLink RX4 95 "ActHouseModel" "log" "[I", .methodLink RX4 107 yX4_in, .static yX4_in, .initialized RX4, .code yX4_in cX4_in 3 (some .boolean)] ++ wsX40)
def wsX4_countOf : List Cond := .code yX4_countOf cX4_countOf 4 (some .int) :: ([.fieldLink RX4 111 "ActHouseModel" "acts" "I", .fieldLink RX4 37 "ActHouseModel" "state" "[I"] ++ wsX40)
def wsX4_count : List Cond := .code yX4_count cX4_count 2 (some .int) :: ([.fieldLink RX4 130 "ActHouseModel" "now" "I", .fieldLink RX4 111 "ActHouseModel" "acts" "I", .fieldLink RX4 127 "ActHouseModel" "entries" "I", .fieldLink RX4 190 "ActHouseModel" "kept" "I", .fieldLink RX4 184 "ActHouseModel" "rings" "I", .fieldLink RX4 205 "ActHouseModel" "falls" "I", .methodLink RX4 212 yX4_countOf, .instanceMethod yX4_countOf, .selects RX4 yX4_countOf yX4_countOf, .initialized RX4, .code yX4_countOf cX4_countOf 4 (some .int), .fieldLink RX4 37 "ActHouseModel" "state" "[I"] ++ wsX40)
def wsJ9_min_7cf53 : List Cond := .code yJ9_min_7cf53 cJ9_min_7cf53 2 (some .int) :: ([])
def wsL_law_r1 : List Cond := [Cond.classLink RL 7 RX3, Cond.instantiable RX3 18, Cond.initialized RX3, Cond.classLink RL 10 RX4, Cond.instantiable RX4 39, Cond.initialized RX4, Cond.methodLink RL 9 yX3_init, Cond.instanceMethod yX3_init, Cond.code yX3_init cX3_init 1 none, Cond.methodLink RX3 3 objectInit, Cond.instanceMethod objectInit, Cond.code objectInit ⟨#[0xb1]⟩ 1 none, Cond.arrayClass .int, Cond.fieldLink RX3 9 "ActHouse" "programSteps" "[I", Cond.fieldLink RX3 13 "ActHouse" "programLengths" "[I", Cond.fieldLink RX3 16 "ActHouse" "limits" "[I", Cond.fieldLink RX3 19 "ActHouse" "floors" "[I", Cond.fieldLink RX3 22 "ActHouse" "values" "[I", Cond.classLink RX3 25 RX0, Cond.fieldLink RX3 27 "ActHouse" "acts" "[LActHouse$Act;", Cond.fieldLink RX3 31 "ActHouse" "order" "[I", Cond.fieldLink RX3 34 "ActHouse" "doneRow" "[I", Cond.fieldLink RX3 37 "ActHouse" "running" "[I", Cond.fieldLink RX3 40 "ActHouse" "begunOfClass" "[I"]
def wsL_law_r2 : List Cond := [Cond.classLink RX3 43 RX1, Cond.instantiable RX1 3, Cond.initialized RX1, Cond.fieldLink RX3 46 "ActHouse" "book" "LActHouse$LogBook;", Cond.classLink RX3 50 RX2, Cond.instantiable RX2 3, Cond.initialized RX2, Cond.fieldLink RX3 53 "ActHouse" "waits" "LActHouse$Waits;", Cond.instanceMethod yX1_init, Cond.code yX1_init cX1_init 1 none, Cond.methodLink RX1 3 objectInit, Cond.fieldLink RX1 11 "ActHouse$LogBook" "entries" "[I", Cond.instanceMethod yX2_init, Cond.code yX2_init cX2_init 1 none, Cond.methodLink RX2 3 objectInit, Cond.arrayClass .long, Cond.fieldLink RX2 9 "ActHouse$Waits" "direct" "[J", Cond.fieldLink RX2 15 "ActHouse$Waits" "reach" "[J", Cond.methodLink RX3 57 yJ7_fill_53178, Cond.static yJ7_fill_53178, Cond.initialized RJ7, Cond.code yJ7_fill_53178 cJ7_fill_53178 4 none, Cond.methodLink RL 12 yX4_init, Cond.instanceMethod yX4_init]
def wsL_law_r3 : List Cond := [Cond.code yX4_init cX4_init 1 none, Cond.methodLink RX4 1 objectInit, Cond.fieldLink RX4 9 "ActHouseModel" "cells" "[I", Cond.fieldLink RX4 13 "ActHouseModel" "counters" "[I", Cond.fieldLink RX4 16 "ActHouseModel" "floors" "[I", Cond.fieldLink RX4 19 "ActHouseModel" "limits" "[I", Cond.fieldLink RX4 22 "ActHouseModel" "longs" "[I", Cond.fieldLink RX4 25 "ActHouseModel" "steps" "[I", Cond.fieldLink RX4 28 "ActHouseModel" "program" "[I", Cond.fieldLink RX4 31 "ActHouseModel" "kind" "[I", Cond.fieldLink RX4 34 "ActHouseModel" "rank" "[I", Cond.fieldLink RX4 37 "ActHouseModel" "state" "[I", Cond.fieldLink RX4 40 "ActHouseModel" "actLong" "[I", Cond.fieldLink RX4 43 "ActHouseModel" "actSteps" "[I", Cond.fieldLink RX4 46 "ActHouseModel" "at" "[I", Cond.fieldLink RX4 49 "ActHouseModel" "register" "[I", Cond.arrayClass .boolean, Cond.fieldLink RX4 52 "ActHouseModel" "isHeld" "[Z", Cond.fieldLink RX4 56 "ActHouseModel" "doneIn" "[I", Cond.fieldLink RX4 59 "ActHouseModel" "undone" "[I", Cond.fieldLink RX4 62 "ActHouseModel" "by" "[I", Cond.fieldLink RX4 65 "ActHouseModel" "begunIn" "[I", Cond.fieldLink RX4 68 "ActHouseModel" "isVoid" "[Z", Cond.fieldLink RX4 71 "ActHouseModel" "isAgain" "[Z"]
def wsL_law_r4 : List Cond := [Cond.fieldLink RX4 74 "ActHouseModel" "holds" "[I", Cond.fieldLink RX4 77 "ActHouseModel" "writes" "[I", Cond.fieldLink RX4 80 "ActHouseModel" "gives" "[I", Cond.fieldLink RX4 83 "ActHouseModel" "below" "[I", Cond.fieldLink RX4 86 "ActHouseModel" "queued" "[I", Cond.fieldLink RX4 89 "ActHouseModel" "queuedMany" "[I", Cond.fieldLink RX4 92 "ActHouseModel" "done" "[I", Cond.fieldLink RX4 95 "ActHouseModel" "log" "[I", Cond.fieldLink RX4 98 "ActHouseModel" "order" "[I", Cond.fieldLink RX4 101 "ActHouseModel" "isReached" "[Z", Cond.fieldLink RX4 104 "ActHouseModel" "queue" "[I", Cond.methodLink RL 13 yX3_program, Cond.instanceMethod yX3_program, Cond.selects RX3 yX3_program yX3_program, Cond.code yX3_program cX3_program 2 (some .boolean), Cond.methodLink RX3 63 yX3_isBelow, Cond.static yX3_isBelow, Cond.code yX3_isBelow cX3_isBelow 2 (some .boolean), Cond.methodLink RL 17 yX4_program, Cond.instanceMethod yX4_program, Cond.selects RX4 yX4_program yX4_program, Cond.code yX4_program cX4_program 2 (some .boolean), Cond.methodLink RX4 115 yX4_isProgram, Cond.static yX4_isProgram]
def wsL_law_r5 : List Cond := [Cond.code yX4_isProgram cX4_isProgram 1 (some .boolean), Cond.methodLink RX4 107 yX4_in, Cond.static yX4_in, Cond.code yX4_in cX4_in 3 (some .boolean), Cond.methodLink RL 18 yX3_step, Cond.instanceMethod yX3_step, Cond.selects RX3 yX3_step yX3_step, Cond.code yX3_step cX3_step 4 (some .int), Cond.methodLink RX3 67 yX3_isStep, Cond.static yX3_isStep, Cond.code yX3_isStep cX3_isStep 1 (some .boolean), Cond.methodLink RX3 170 yX3_opOf, Cond.static yX3_opOf, Cond.code yX3_opOf cX3_opOf 1 (some .int), Cond.methodLink RX3 173 yX3_aOf, Cond.static yX3_aOf, Cond.code yX3_aOf cX3_aOf 1 (some .int), Cond.methodLink RL 22 yX4_step, Cond.instanceMethod yX4_step, Cond.selects RX4 yX4_step yX4_step, Cond.code yX4_step cX4_step 5 (some .int), Cond.methodLink RL 23 yX3_act, Cond.instanceMethod yX3_act, Cond.selects RX3 yX3_act yX3_act]
def wsL_law_r6 : List Cond := [Cond.code yX3_act cX3_act 4 (some .int), Cond.methodLink RX3 71 yX3_admit, Cond.instanceMethod yX3_admit, Cond.selects RX3 yX3_admit yX3_admit, Cond.code yX3_admit cX3_admit 7 (some .int), Cond.fieldLink RX3 102 "ActHouse" "actCount" "I", Cond.instantiable RX0 20, Cond.initialized RX0, Cond.fieldLink RX3 126 "ActHouse$Act" "rank" "I", Cond.methodLink RX3 176 yX0_init, Cond.instanceMethod yX0_init, Cond.code yX0_init cX0_init 5 none, Cond.methodLink RX0 3 objectInit, Cond.fieldLink RX0 9 "ActHouse$Act" "steps" "[I", Cond.fieldLink RX0 15 "ActHouse$Act" "locks" "[I", Cond.fieldLink RX0 18 "ActHouse$Act" "written" "[I", Cond.fieldLink RX0 21 "ActHouse$Act" "gives" "[I", Cond.fieldLink RX0 24 "ActHouse$Act" "takes" "[I", Cond.fieldLink RX0 27 "ActHouse$Act" "queue" "[I", Cond.fieldLink RX0 30 "ActHouse$Act" "state" "I", Cond.fieldLink RX0 34 "ActHouse$Act" "heldTick" "I", Cond.fieldLink RX0 37 "ActHouse$Act" "begunTick" "I", Cond.fieldLink RX0 40 "ActHouse$Act" "doneTick" "I", Cond.fieldLink RX0 43 "ActHouse$Act" "entry" "I"]
def wsL_law_r7 : List Cond := [Cond.fieldLink RX0 46 "ActHouse$Act" "program" "I", Cond.fieldLink RX0 49 "ActHouse$Act" "kind" "I", Cond.fieldLink RX0 52 "ActHouse$Act" "rank" "I", Cond.fieldLink RX0 55 "ActHouse$Act" "parent" "I", Cond.methodLink RL 27 yX4_act, Cond.instanceMethod yX4_act, Cond.selects RX4 yX4_act yX4_act, Cond.code yX4_act cX4_act 4 (some .int), Cond.methodLink RX4 119 yX4_newAct, Cond.instanceMethod yX4_newAct, Cond.selects RX4 yX4_newAct yX4_newAct, Cond.code yX4_newAct cX4_newAct 5 (some .int), Cond.fieldLink RX4 111 "ActHouseModel" "acts" "I", Cond.methodLink RL 28 yX3_limit, Cond.instanceMethod yX3_limit, Cond.selects RX3 yX3_limit yX3_limit, Cond.code yX3_limit cX3_limit 3 (some .boolean), Cond.methodLink RL 32 yX4_limit, Cond.instanceMethod yX4_limit, Cond.selects RX4 yX4_limit yX4_limit, Cond.code yX4_limit cX4_limit 3 (some .boolean), Cond.methodLink RL 33 yX3_floor, Cond.instanceMethod yX3_floor, Cond.selects RX3 yX3_floor yX3_floor]
def wsL_law_r8 : List Cond := [Cond.code yX3_floor cX3_floor 3 (some .boolean), Cond.methodLink RX3 75 yX3_leastToCome, Cond.instanceMethod yX3_leastToCome, Cond.selects RX3 yX3_leastToCome yX3_leastToCome, Cond.code yX3_leastToCome cX3_leastToCome 4 (some .int), Cond.fieldLink RX3 117 "ActHouse$Act" "state" "I", Cond.fieldLink RX3 229 "ActHouse$Act" "takes" "[I", Cond.methodLink RL 36 yX4_floor, Cond.instanceMethod yX4_floor, Cond.selects RX4 yX4_floor yX4_floor, Cond.code yX4_floor cX4_floor 3 (some .boolean), Cond.methodLink RX4 123 yX4_least, Cond.instanceMethod yX4_least, Cond.selects RX4 yX4_least yX4_least, Cond.code yX4_least cX4_least 4 (some .int), Cond.methodLink RL 37 yX3_go, Cond.instanceMethod yX3_go, Cond.selects RX3 yX3_go yX3_go, Cond.code yX3_go cX3_go 3 (some .int), Cond.fieldLink RX3 79 "ActHouse" "now" "I", Cond.methodLink RX3 83 yX3_passTick, Cond.instanceMethod yX3_passTick, Cond.selects RX3 yX3_passTick yX3_passTick, Cond.code yX3_passTick cX3_passTick 1 none]
def wsL_law_r9 : List Cond := [Cond.methodLink RX3 179 yX3_stepBegun, Cond.instanceMethod yX3_stepBegun, Cond.selects RX3 yX3_stepBegun yX3_stepBegun, Cond.code yX3_stepBegun cX3_stepBegun 2 none, Cond.fieldLink RX3 194 "ActHouse" "runningCount" "I", Cond.methodLink RX3 191 yX3_gatherRunning, Cond.instanceMethod yX3_gatherRunning, Cond.selects RX3 yX3_gatherRunning yX3_gatherRunning, Cond.code yX3_gatherRunning cX3_gatherRunning 2 none, Cond.methodLink RX3 197 yX3_takeStep, Cond.instanceMethod yX3_takeStep, Cond.selects RX3 yX3_takeStep yX3_takeStep, Cond.code yX3_takeStep cX3_takeStep 4 none, Cond.fieldLink RX3 204 "ActHouse$Act" "steps" "[I", Cond.fieldLink RX3 129 "ActHouse$Act" "at" "I", Cond.fieldLink RX3 132 "ActHouse$Act" "heldTick" "I", Cond.methodLink RX3 200 yX0_hasStep, Cond.instanceMethod yX0_hasStep, Cond.selects RX0 yX0_hasStep yX0_hasStep, Cond.code yX0_hasStep cX0_hasStep 1 (some .boolean), Cond.fieldLink RX0 70 "ActHouse$Act" "at" "I", Cond.fieldLink RX0 64 "ActHouse$Act" "length" "I", Cond.methodLink RX3 207 yX3_canBe, Cond.instanceMethod yX3_canBe]
def wsL_law_r10 : List Cond := [Cond.selects RX3 yX3_canBe yX3_canBe, Cond.code yX3_canBe cX3_canBe 5 (some .boolean), Cond.methodLink RX3 219 yX3_bOf, Cond.static yX3_bOf, Cond.code yX3_bOf cX3_bOf 1 (some .int), Cond.methodLink RX3 222 yX3_usesCell, Cond.static yX3_usesCell, Cond.code yX3_usesCell cX3_usesCell 2 (some .boolean), Cond.methodLink RX3 225 yX3_blocks, Cond.static yX3_blocks, Cond.code yX3_blocks cX3_blocks 3 (some .boolean), Cond.fieldLink RX3 151 "ActHouse$Act" "locks" "[I", Cond.methodLink RX3 210 yX3_perform, Cond.instanceMethod yX3_perform, Cond.selects RX3 yX3_perform yX3_perform, Cond.code yX3_perform cX3_perform 6 (some .boolean), Cond.fieldLink RX3 148 "ActHouse$Act" "register" "I", Cond.methodLink RX3 232 yX0_lockToRead, Cond.instanceMethod yX0_lockToRead, Cond.selects RX0 yX0_lockToRead yX0_lockToRead, Cond.code yX0_lockToRead cX0_lockToRead 2 none, Cond.methodLink RX3 235 yX3_seenBy, Cond.instanceMethod yX3_seenBy, Cond.selects RX3 yX3_seenBy yX3_seenBy]
def wsL_law_r11 : List Cond := [Cond.code yX3_seenBy cX3_seenBy 3 (some .int), Cond.methodLink RX3 157 yX0_valueAfter, Cond.instanceMethod yX0_valueAfter, Cond.selects RX0 yX0_valueAfter yX0_valueAfter, Cond.code yX0_valueAfter cX0_valueAfter 3 (some .int), Cond.methodLink RX3 239 yX0_load, Cond.instanceMethod yX0_load, Cond.selects RX0 yX0_load yX0_load, Cond.code yX0_load cX0_load 2 (some .boolean), Cond.constant RX0 73 (1000000), Cond.constant RX0 74 (-1000000), Cond.fieldLink RX0 67 "ActHouse$Act" "register" "I", Cond.methodLink RX3 242 yX0_put, Cond.instanceMethod yX0_put, Cond.selects RX0 yX0_put yX0_put, Cond.code yX0_put cX0_put 2 none, Cond.methodLink RX3 245 yX1_write, Cond.instanceMethod yX1_write, Cond.selects RX1 yX1_write yX1_write, Cond.code yX1_write cX1_write 5 (some .int), Cond.fieldLink RX1 15 "ActHouse$LogBook" "size" "I", Cond.constant RX1 19 (1048576), Cond.methodLink RX1 20 yJ7_copyOf_59c91, Cond.static yJ7_copyOf_59c91]
def wsL_law_r12 : List Cond := [Cond.code yJ7_copyOf_59c91 cJ7_copyOf_59c91 3 (some (.array .int)), Cond.methodLink RJ7 316 ⟨"[I", "clone", "()Ljava/lang/Object;"⟩, Cond.sameMethod "[I" "java/lang/Object" "clone" "()Ljava/lang/Object;", Cond.native ⟨"java/lang/Object", "clone", "()Ljava/lang/Object;"⟩, Cond.instanceMethod ⟨"java/lang/Object", "clone", "()Ljava/lang/Object;"⟩, Cond.selects "[I" ⟨"[I", "clone", "()Ljava/lang/Object;"⟩ ⟨"java/lang/Object", "clone", "()Ljava/lang/Object;"⟩, Cond.classLink RJ7 317 "[I", Cond.methodLink RJ7 304 Lib.Math.min.name, Cond.static Lib.Math.min.name, Cond.initialized "java/lang/Math", Cond.code Lib.Math.min.name Lib.Math.min.code 2 (some .int), Cond.methodLink RJ7 150 arraycopyName, Cond.native arraycopyName, Cond.static arraycopyName, Cond.initialized "java/lang/System", Cond.methodLink RX3 248 yX0_give, Cond.instanceMethod yX0_give, Cond.selects RX0 yX0_give yX0_give, Cond.code yX0_give cX0_give 3 none, Cond.methodLink RX0 75 Lib.Math.min.name, Cond.methodLink RX3 252 yX0_enqueue, Cond.instanceMethod yX0_enqueue, Cond.selects RX0 yX0_enqueue yX0_enqueue, Cond.code yX0_enqueue cX0_enqueue 2 none]
def wsL_law_r13 : List Cond := [Cond.fieldLink RX0 81 "ActHouse$Act" "queueLength" "I", Cond.methodLink RX3 213 yX3_stopAct, Cond.instanceMethod yX3_stopAct, Cond.selects RX3 yX3_stopAct yX3_stopAct, Cond.code yX3_stopAct cX3_stopAct 3 none, Cond.fieldLink RX3 258 "ActHouse$Act" "entry" "I", Cond.methodLink RX3 255 yX0_leave, Cond.instanceMethod yX0_leave, Cond.selects RX0 yX0_leave yX0_leave, Cond.code yX0_leave cX0_leave 2 none, Cond.methodLink RX0 91 yJ7_fill_53178, Cond.methodLink RX3 216 yX3_finishAct, Cond.instanceMethod yX3_finishAct, Cond.selects RX3 yX3_finishAct yX3_finishAct, Cond.code yX3_finishAct cX3_finishAct 4 none, Cond.fieldLink RX3 135 "ActHouse$Act" "doneTick" "I", Cond.fieldLink RX3 154 "ActHouse" "doneCount" "I", Cond.fieldLink RX3 265 "ActHouse$Act" "queueLength" "I", Cond.fieldLink RX3 268 "ActHouse$Act" "queue" "[I", Cond.fieldLink RX3 123 "ActHouse$Act" "kind" "I", Cond.methodLink RX3 261 yX3_tellValues, Cond.instanceMethod yX3_tellValues, Cond.selects RX3 yX3_tellValues yX3_tellValues, Cond.code yX3_tellValues cX3_tellValues 3 none]
def wsL_law_r14 : List Cond := [Cond.methodLink RX3 182 yX3_breakRings, Cond.instanceMethod yX3_breakRings, Cond.selects RX3 yX3_breakRings yX3_breakRings, Cond.code yX3_breakRings cX3_breakRings 3 none, Cond.methodLink RX3 271 yX3_drawWaits, Cond.instanceMethod yX3_drawWaits, Cond.selects RX3 yX3_drawWaits yX3_drawWaits, Cond.code yX3_drawWaits cX3_drawWaits 5 (some .boolean), Cond.methodLink RX3 284 yX2_clear, Cond.instanceMethod yX2_clear, Cond.selects RX2 yX2_clear yX2_clear, Cond.code yX2_clear cX2_clear 2 none, Cond.methodLink RX2 18 Lib.Math.min.name, Cond.fieldLink RX2 24 "ActHouse$Waits" "many" "I", Cond.methodLink RX2 28 yJ7_fill_d0a16, Cond.static yJ7_fill_d0a16, Cond.code yJ7_fill_d0a16 cJ7_fill_d0a16 5 none, Cond.methodLink RX3 287 yX2_add, Cond.instanceMethod yX2_add, Cond.selects RX2 yX2_add yX2_add, Cond.code yX2_add cX2_add 3 none, Cond.methodLink RX3 274 yX3_lastBegunInRing, Cond.instanceMethod yX3_lastBegunInRing, Cond.selects RX3 yX3_lastBegunInRing yX3_lastBegunInRing]
def wsL_law_r15 : List Cond := [Cond.code yX3_lastBegunInRing cX3_lastBegunInRing 3 (some .int), Cond.methodLink RX3 290 yX2_close, Cond.instanceMethod yX2_close, Cond.selects RX2 yX2_close yX2_close, Cond.code yX2_close cX2_close 3 none, Cond.methodLink RX2 34 arraycopyName, Cond.methodLink RX3 293 yX2_isInRing, Cond.instanceMethod yX2_isInRing, Cond.selects RX2 yX2_isInRing yX2_isInRing, Cond.code yX2_isInRing cX2_isInRing 2 (some .boolean), Cond.methodLink RX3 296 yX3_isBegunLater, Cond.instanceMethod yX3_isBegunLater, Cond.selects RX3 yX3_isBegunLater yX3_isBegunLater, Cond.code yX3_isBegunLater cX3_isBegunLater 5 (some .boolean), Cond.fieldLink RX3 144 "ActHouse$Act" "begunTick" "I", Cond.methodLink RX3 278 yX3_undoInRing, Cond.instanceMethod yX3_undoInRing, Cond.selects RX3 yX3_undoInRing yX3_undoInRing, Cond.code yX3_undoInRing cX3_undoInRing 2 none, Cond.fieldLink RX3 167 "ActHouse" "rings" "I", Cond.methodLink RX3 299 yX0_undo, Cond.instanceMethod yX0_undo, Cond.selects RX0 yX0_undo yX0_undo, Cond.code yX0_undo cX0_undo 1 none]
def wsL_law_r16 : List Cond := [Cond.fieldLink RX0 88 "ActHouse$Act" "timesUndone" "I", Cond.methodLink RX0 84 yX0_leave, Cond.methodLink RX3 281 yX2_remove, Cond.instanceMethod yX2_remove, Cond.selects RX2 yX2_remove yX2_remove, Cond.code yX2_remove cX2_remove 2 none, Cond.methodLink RX3 185 yX3_beginWaiting, Cond.instanceMethod yX3_beginWaiting, Cond.selects RX3 yX3_beginWaiting yX3_beginWaiting, Cond.code yX3_beginWaiting cX3_beginWaiting 4 none, Cond.fieldLink RX3 120 "ActHouse$Act" "program" "I", Cond.methodLink RX3 302 yX3_countBegunOfClasses, Cond.instanceMethod yX3_countBegunOfClasses, Cond.selects RX3 yX3_countBegunOfClasses yX3_countBegunOfClasses, Cond.code yX3_countBegunOfClasses cX3_countBegunOfClasses 2 none, Cond.methodLink RX3 305 yX0_begin, Cond.instanceMethod yX0_begin, Cond.selects RX0 yX0_begin yX0_begin, Cond.code yX0_begin cX0_begin 4 none, Cond.methodLink RX0 58 arraycopyName, Cond.methodLink RX3 188 yX3_answerDone, Cond.instanceMethod yX3_answerDone, Cond.selects RX3 yX3_answerDone yX3_answerDone, Cond.code yX3_answerDone cX3_answerDone 2 none]
def wsL_law_r17 : List Cond := [Cond.methodLink RX3 96 yX1_keepAll, Cond.instanceMethod yX1_keepAll, Cond.selects RX1 yX1_keepAll yX1_keepAll, Cond.code yX1_keepAll cX1_keepAll 1 none, Cond.fieldLink RX1 26 "ActHouse$LogBook" "kept" "I", Cond.methodLink RL 41 yX4_go, Cond.instanceMethod yX4_go, Cond.selects RX4 yX4_go yX4_go, Cond.code yX4_go cX4_go 5 (some .int), Cond.fieldLink RX4 130 "ActHouseModel" "now" "I", Cond.methodLink RX4 187 yX4_sorts, Cond.instanceMethod yX4_sorts, Cond.selects RX4 yX4_sorts yX4_sorts, Cond.code yX4_sorts cX4_sorts 5 (some .int), Cond.methodLink RX4 174 yX4_isAhead, Cond.instanceMethod yX4_isAhead, Cond.selects RX4 yX4_isAhead yX4_isAhead, Cond.code yX4_isAhead cX4_isAhead 3 (some .boolean), Cond.methodLink RX4 193 yX4_does, Cond.instanceMethod yX4_does, Cond.selects RX4 yX4_does yX4_does, Cond.code yX4_does cX4_does 7 none, Cond.constant RX4 152 (-1000000), Cond.constant RX4 153 (1000000)]
def wsL_law_r18 : List Cond := [Cond.methodLink RX4 137 yX4_stepOf, Cond.instanceMethod yX4_stepOf, Cond.selects RX4 yX4_stepOf yX4_stepOf, Cond.code yX4_stepOf cX4_stepOf 2 (some .int), Cond.methodLink RX4 140 yX4_canDo, Cond.instanceMethod yX4_canDo, Cond.selects RX4 yX4_canDo yX4_canDo, Cond.code yX4_canDo cX4_canDo 5 (some .boolean), Cond.methodLink RX4 161 yX4_isFree, Cond.instanceMethod yX4_isFree, Cond.selects RX4 yX4_isFree yX4_isFree, Cond.code yX4_isFree cX4_isFree 5 (some .boolean), Cond.methodLink RX4 133 yX4_bars, Cond.instanceMethod yX4_bars, Cond.selects RX4 yX4_bars yX4_bars, Cond.code yX4_bars cX4_bars 6 (some .boolean), Cond.methodLink RX4 144 yX4_seen, Cond.instanceMethod yX4_seen, Cond.selects RX4 yX4_seen yX4_seen, Cond.code yX4_seen cX4_seen 3 (some .int), Cond.methodLink RX4 148 yX4_logs, Cond.instanceMethod yX4_logs, Cond.selects RX4 yX4_logs yX4_logs, Cond.code yX4_logs cX4_logs 6 none]
def wsL_law_r19 : List Cond := [Cond.fieldLink RX4 127 "ActHouseModel" "entries" "I", Cond.methodLink RX4 154 yX4_clears, Cond.instanceMethod yX4_clears, Cond.selects RX4 yX4_clears yX4_clears, Cond.code yX4_clears cX4_clears 3 none, Cond.methodLink RX4 158 yX4_isDone, Cond.instanceMethod yX4_isDone, Cond.selects RX4 yX4_isDone yX4_isDone, Cond.code yX4_isDone cX4_isDone 3 none, Cond.fieldLink RX4 168 "ActHouseModel" "dones" "I", Cond.methodLink RX4 165 yX4_lets, Cond.instanceMethod yX4_lets, Cond.selects RX4 yX4_lets yX4_lets, Cond.code yX4_lets cX4_lets 3 none, Cond.methodLink RX4 171 yX4_gets, Cond.instanceMethod yX4_gets, Cond.selects RX4 yX4_gets yX4_gets, Cond.code yX4_gets cX4_gets 3 none, Cond.methodLink RX4 196 yX4_breaks, Cond.instanceMethod yX4_breaks, Cond.selects RX4 yX4_breaks yX4_breaks, Cond.code yX4_breaks cX4_breaks 3 none, Cond.fieldLink RX4 184 "ActHouseModel" "rings" "I", Cond.methodLink RX4 181 yX4_isInRing]
def wsL_law_r20 : List Cond := [Cond.instanceMethod yX4_isInRing, Cond.selects RX4 yX4_isInRing yX4_isInRing, Cond.code yX4_isInRing cX4_isInRing 5 (some .boolean), Cond.methodLink RX4 178 yX4_waitsFor, Cond.instanceMethod yX4_waitsFor, Cond.selects RX4 yX4_waitsFor yX4_waitsFor, Cond.code yX4_waitsFor cX4_waitsFor 5 (some .boolean), Cond.methodLink RX4 199 yX4_begins, Cond.instanceMethod yX4_begins, Cond.selects RX4 yX4_begins yX4_begins, Cond.code yX4_begins cX4_begins 6 none, Cond.methodLink RX4 202 yX4_keeps, Cond.instanceMethod yX4_keeps, Cond.selects RX4 yX4_keeps yX4_keeps, Cond.code yX4_keeps cX4_keeps 2 none, Cond.fieldLink RX4 190 "ActHouseModel" "kept" "I", Cond.methodLink RL 42 yX3_fall, Cond.instanceMethod yX3_fall, Cond.selects RX3 yX3_fall yX3_fall, Cond.code yX3_fall cX3_fall 4 (some .int), Cond.fieldLink RX3 86 "ActHouse$LogBook" "size" "I", Cond.fieldLink RX3 89 "ActHouse$LogBook" "kept" "I", Cond.fieldLink RX3 99 "ActHouse" "falls" "I", Cond.methodLink RX3 92 yX1_cut]
def wsL_law_r21 : List Cond := [Cond.instanceMethod yX1_cut, Cond.selects RX1 yX1_cut yX1_cut, Cond.code yX1_cut cX1_cut 2 none, Cond.methodLink RX3 105 yX3_isLost, Cond.instanceMethod yX3_isLost, Cond.selects RX3 yX3_isLost yX3_isLost, Cond.code yX3_isLost cX3_isLost 2 (some .boolean), Cond.methodLink RX3 108 yX3_fallAct, Cond.instanceMethod yX3_fallAct, Cond.selects RX3 yX3_fallAct yX3_fallAct, Cond.code yX3_fallAct cX3_fallAct 3 none, Cond.fieldLink RX3 141 "ActHouse$Act" "parent" "I", Cond.methodLink RX3 111 yX3_dropUndoneFromRow, Cond.instanceMethod yX3_dropUndoneFromRow, Cond.selects RX3 yX3_dropUndoneFromRow yX3_dropUndoneFromRow, Cond.code yX3_dropUndoneFromRow cX3_dropUndoneFromRow 3 none, Cond.methodLink RX3 114 yX3_retellValues, Cond.instanceMethod yX3_retellValues, Cond.selects RX3 yX3_retellValues yX3_retellValues, Cond.code yX3_retellValues cX3_retellValues 2 none, Cond.methodLink RL 45 yX4_fall, Cond.instanceMethod yX4_fall, Cond.selects RX4 yX4_fall yX4_fall, Cond.code yX4_fall cX4_fall 8 (some .int)]
def wsL_law_r22 : List Cond := [Cond.fieldLink RX4 205 "ActHouseModel" "falls" "I", Cond.methodLink RL 46 yX3_told, Cond.instanceMethod yX3_told, Cond.selects RX3 yX3_told yX3_told, Cond.code yX3_told cX3_told 5 (some .int), Cond.fieldLink RX3 138 "ActHouse$Act" "timesUndone" "I", Cond.methodLink RL 49 yX4_told, Cond.instanceMethod yX4_told, Cond.selects RX4 yX4_told yX4_told, Cond.code yX4_told cX4_told 4 (some .int), Cond.methodLink RX4 208 yX4_isAct, Cond.instanceMethod yX4_isAct, Cond.selects RX4 yX4_isAct yX4_isAct, Cond.code yX4_isAct cX4_isAct 2 (some .boolean), Cond.methodLink RL 50 yX3_register, Cond.instanceMethod yX3_register, Cond.selects RX3 yX3_register yX3_register, Cond.code yX3_register cX3_register 2 (some .int), Cond.constant RX3 147 (-2147483648), Cond.methodLink RL 53 yX4_register, Cond.instanceMethod yX4_register, Cond.selects RX4 yX4_register yX4_register, Cond.code yX4_register cX4_register 2 (some .int), Cond.constant RX4 211 (-2147483648)]
def wsL_law_r23 : List Cond := [Cond.methodLink RL 54 yX3_holds, Cond.instanceMethod yX3_holds, Cond.selects RX3 yX3_holds yX3_holds, Cond.code yX3_holds cX3_holds 3 (some .int), Cond.methodLink RL 57 yX4_holds, Cond.instanceMethod yX4_holds, Cond.selects RX4 yX4_holds yX4_holds, Cond.code yX4_holds cX4_holds 3 (some .int), Cond.methodLink RL 58 yX3_value, Cond.instanceMethod yX3_value, Cond.selects RX3 yX3_value yX3_value, Cond.code yX3_value cX3_value 6 (some .int), Cond.methodLink RL 61 yX4_value, Cond.instanceMethod yX4_value, Cond.selects RX4 yX4_value yX4_value, Cond.code yX4_value cX4_value 6 (some .int), Cond.methodLink RL 62 yX3_done, Cond.instanceMethod yX3_done, Cond.selects RX3 yX3_done yX3_done, Cond.code yX3_done cX3_done 2 (some .int), Cond.methodLink RL 65 yX4_done, Cond.instanceMethod yX4_done, Cond.selects RX4 yX4_done yX4_done, Cond.code yX4_done cX4_done 2 (some .int)]
def wsL_law_r24 : List Cond := [Cond.methodLink RL 66 yX3_log, Cond.instanceMethod yX3_log, Cond.selects RX3 yX3_log yX3_log, Cond.code yX3_log cX3_log 3 (some .int), Cond.methodLink RX3 161 yX1_tell, Cond.instanceMethod yX1_tell, Cond.selects RX1 yX1_tell yX1_tell, Cond.code yX1_tell cX1_tell 4 (some .int), Cond.methodLink RL 69 yX4_log, Cond.instanceMethod yX4_log, Cond.selects RX4 yX4_log yX4_log, Cond.code yX4_log cX4_log 3 (some .int), Cond.methodLink RL 70 yX3_count, Cond.instanceMethod yX3_count, Cond.selects RX3 yX3_count yX3_count, Cond.code yX3_count cX3_count 2 (some .int), Cond.methodLink RX3 164 yX3_countState, Cond.instanceMethod yX3_countState, Cond.selects RX3 yX3_countState yX3_countState, Cond.code yX3_countState cX3_countState 4 (some .int), Cond.methodLink RL 73 yX4_count, Cond.instanceMethod yX4_count, Cond.selects RX4 yX4_count yX4_count, Cond.code yX4_count cX4_count 2 (some .int)]
def wsL_law_r25 : List Cond := [Cond.methodLink RX4 212 yX4_countOf, Cond.instanceMethod yX4_countOf, Cond.selects RX4 yX4_countOf yX4_countOf, Cond.code yX4_countOf cX4_countOf 4 (some .int)]
def wsL_law : List Cond := (wsL_law_r1 ++ (wsL_law_r2 ++ (wsL_law_r3 ++ (wsL_law_r4 ++ (wsL_law_r5 ++ (wsL_law_r6 ++ (wsL_law_r7 ++ (wsL_law_r8 ++ (wsL_law_r9 ++ (wsL_law_r10 ++ (wsL_law_r11 ++ (wsL_law_r12 ++ (wsL_law_r13 ++ (wsL_law_r14 ++ (wsL_law_r15 ++ (wsL_law_r16 ++ (wsL_law_r17 ++ (wsL_law_r18 ++ (wsL_law_r19 ++ (wsL_law_r20 ++ (wsL_law_r21 ++ (wsL_law_r22 ++ (wsL_law_r23 ++ (wsL_law_r24 ++ wsL_law_r25)))))))))))))))))))))))) ++ wsX30 ++ wsX40 ++ wsX10 ++ wsX20 ++ wsX00 ++ ([] : List Cond)
end
section
set_option maxRecDepth 20000 in
theorem wsL_law_r1_in : ∀ w ∈ wsL_law_r1, w ∈ lw_tbl := fun w h => (goodIn_p wsL_law_r1 [60, 63] rfl (by decide +kernel) w h).1
set_option maxRecDepth 20000 in
theorem wsL_law_r2_in : ∀ w ∈ wsL_law_r2, w ∈ lw_tbl := fun w h => (goodIn_p wsL_law_r2 [70, 89, 104] rfl (by decide +kernel) w h).1
set_option maxRecDepth 20000 in
theorem wsL_law_r3_in : ∀ w ∈ wsL_law_r3, w ∈ lw_tbl := fun w h => (goodIn_p wsL_law_r3 [529] rfl (by decide +kernel) w h).1
set_option maxRecDepth 20000 in
theorem wsL_law_r4_in : ∀ w ∈ wsL_law_r4, w ∈ lw_tbl := fun w h => (goodIn_p wsL_law_r4 [163, 166, 653] rfl (by decide +kernel) w h).1
set_option maxRecDepth 20000 in
theorem wsL_law_r5_in : ∀ w ∈ wsL_law_r5, w ∈ lw_tbl := fun w h => (goodIn_p wsL_law_r5 [656, 659, 170, 173, 176, 179, 663] rfl (by decide +kernel) w h).1
set_option maxRecDepth 20000 in
theorem wsL_law_r6_in : ∀ w ∈ wsL_law_r6, w ∈ lw_tbl := fun w h => (goodIn_p wsL_law_r6 [183, 187, 191] rfl (by decide +kernel) w h).1
set_option maxRecDepth 20000 in
theorem wsL_law_r7_in : ∀ w ∈ wsL_law_r7, w ∈ lw_tbl := fun w h => (goodIn_p wsL_law_r7 [667, 671, 274, 675] rfl (by decide +kernel) w h).1
set_option maxRecDepth 20000 in
theorem wsL_law_r8_in : ∀ w ∈ wsL_law_r8, w ∈ lw_tbl := fun w h => (goodIn_p wsL_law_r8 [278, 282, 679, 683, 286, 290] rfl (by decide +kernel) w h).1
set_option maxRecDepth 20000 in
theorem wsL_law_r9_in : ∀ w ∈ wsL_law_r9, w ∈ lw_tbl := fun w h => (goodIn_p wsL_law_r9 [294, 298, 302, 306] rfl (by decide +kernel) w h).1
set_option maxRecDepth 20000 in
theorem wsL_law_r10_in : ∀ w ∈ wsL_law_r10, w ∈ lw_tbl := fun w h => (goodIn_p wsL_law_r10 [310, 313, 316, 319, 323, 327] rfl (by decide +kernel) w h).1
set_option maxRecDepth 20000 in
theorem wsL_law_r11_in : ∀ w ∈ wsL_law_r11, w ∈ lw_tbl := fun w h => (goodIn_p wsL_law_r11 [331, 335, 339, 345, 349] rfl (by decide +kernel) w h).1
set_option maxRecDepth 20000 in
theorem wsL_law_r12_in : ∀ w ∈ wsL_law_r12, w ∈ lw_tbl := fun w h => (goodIn_p wsL_law_r12 [353, 363, 370, 375] rfl (by decide +kernel) w h).1
set_option maxRecDepth 20000 in
theorem wsL_law_r13_in : ∀ w ∈ wsL_law_r13, w ∈ lw_tbl := fun w h => (goodIn_p wsL_law_r13 [379, 383, 388, 392] rfl (by decide +kernel) w h).1
set_option maxRecDepth 20000 in
theorem wsL_law_r14_in : ∀ w ∈ wsL_law_r14, w ∈ lw_tbl := fun w h => (goodIn_p wsL_law_r14 [396, 400, 404, 408, 412] rfl (by decide +kernel) w h).1
set_option maxRecDepth 20000 in
theorem wsL_law_r15_in : ∀ w ∈ wsL_law_r15, w ∈ lw_tbl := fun w h => (goodIn_p wsL_law_r15 [416, 420, 425, 429, 433, 437] rfl (by decide +kernel) w h).1
set_option maxRecDepth 20000 in
theorem wsL_law_r16_in : ∀ w ∈ wsL_law_r16, w ∈ lw_tbl := fun w h => (goodIn_p wsL_law_r16 [442, 446, 450, 454, 459] rfl (by decide +kernel) w h).1
set_option maxRecDepth 20000 in
theorem wsL_law_r17_in : ∀ w ∈ wsL_law_r17, w ∈ lw_tbl := fun w h => (goodIn_p wsL_law_r17 [463, 687, 691, 695, 699] rfl (by decide +kernel) w h).1
set_option maxRecDepth 20000 in
theorem wsL_law_r18_in : ∀ w ∈ wsL_law_r18, w ∈ lw_tbl := fun w h => (goodIn_p wsL_law_r18 [703, 707, 711, 715, 719, 723] rfl (by decide +kernel) w h).1
set_option maxRecDepth 20000 in
theorem wsL_law_r19_in : ∀ w ∈ wsL_law_r19, w ∈ lw_tbl := fun w h => (goodIn_p wsL_law_r19 [729, 733, 737, 741, 745] rfl (by decide +kernel) w h).1
set_option maxRecDepth 20000 in
theorem wsL_law_r20_in : ∀ w ∈ wsL_law_r20, w ∈ lw_tbl := fun w h => (goodIn_p wsL_law_r20 [749, 753, 757, 761, 467] rfl (by decide +kernel) w h).1
set_option maxRecDepth 20000 in
theorem wsL_law_r21_in : ∀ w ∈ wsL_law_r21, w ∈ lw_tbl := fun w h => (goodIn_p wsL_law_r21 [471, 475, 479, 483, 487, 765] rfl (by decide +kernel) w h).1
set_option maxRecDepth 20000 in
theorem wsL_law_r22_in : ∀ w ∈ wsL_law_r22, w ∈ lw_tbl := fun w h => (goodIn_p wsL_law_r22 [491, 769, 773, 495, 777] rfl (by decide +kernel) w h).1
set_option maxRecDepth 20000 in
theorem wsL_law_r23_in : ∀ w ∈ wsL_law_r23, w ∈ lw_tbl := fun w h => (goodIn_p wsL_law_r23 [500, 782, 504, 786, 508, 790] rfl (by decide +kernel) w h).1
set_option maxRecDepth 20000 in
theorem wsL_law_r24_in : ∀ w ∈ wsL_law_r24, w ∈ lw_tbl := fun w h => (goodIn_p wsL_law_r24 [512, 516, 794, 520, 524, 798] rfl (by decide +kernel) w h).1
set_option maxRecDepth 20000 in
theorem wsL_law_r25_in : ∀ w ∈ wsL_law_r25, w ∈ lw_tbl := fun w h => (goodIn_p wsL_law_r25 [802] rfl (by decide +kernel) w h).1
set_option maxRecDepth 20000 in
theorem wsX30_inl : ∀ w ∈ wsX30, w ∈ lw_tbl := by decide +kernel
set_option maxRecDepth 20000 in
theorem wsX40_inl : ∀ w ∈ wsX40, w ∈ lw_tbl := by decide +kernel
set_option maxRecDepth 20000 in
theorem wsX10_inl : ∀ w ∈ wsX10, w ∈ lw_tbl := by decide +kernel
set_option maxRecDepth 20000 in
theorem wsX20_inl : ∀ w ∈ wsX20, w ∈ lw_tbl := by decide +kernel
set_option maxRecDepth 20000 in
theorem wsX00_inl : ∀ w ∈ wsX00, w ∈ lw_tbl := by decide +kernel
theorem wsL_law_in : ∀ w ∈ wsL_law, w ∈ lw_tbl := (List.forall_mem_append.mpr ⟨(List.forall_mem_append.mpr ⟨(List.forall_mem_append.mpr ⟨(List.forall_mem_append.mpr ⟨(List.forall_mem_append.mpr ⟨(List.forall_mem_append.mpr ⟨(List.forall_mem_append.mpr ⟨wsL_law_r1_in, (List.forall_mem_append.mpr ⟨wsL_law_r2_in, (List.forall_mem_append.mpr ⟨wsL_law_r3_in, (List.forall_mem_append.mpr ⟨wsL_law_r4_in, (List.forall_mem_append.mpr ⟨wsL_law_r5_in, (List.forall_mem_append.mpr ⟨wsL_law_r6_in, (List.forall_mem_append.mpr ⟨wsL_law_r7_in, (List.forall_mem_append.mpr ⟨wsL_law_r8_in, (List.forall_mem_append.mpr ⟨wsL_law_r9_in, (List.forall_mem_append.mpr ⟨wsL_law_r10_in, (List.forall_mem_append.mpr ⟨wsL_law_r11_in, (List.forall_mem_append.mpr ⟨wsL_law_r12_in, (List.forall_mem_append.mpr ⟨wsL_law_r13_in, (List.forall_mem_append.mpr ⟨wsL_law_r14_in, (List.forall_mem_append.mpr ⟨wsL_law_r15_in, (List.forall_mem_append.mpr ⟨wsL_law_r16_in, (List.forall_mem_append.mpr ⟨wsL_law_r17_in, (List.forall_mem_append.mpr ⟨wsL_law_r18_in, (List.forall_mem_append.mpr ⟨wsL_law_r19_in, (List.forall_mem_append.mpr ⟨wsL_law_r20_in, (List.forall_mem_append.mpr ⟨wsL_law_r21_in, (List.forall_mem_append.mpr ⟨wsL_law_r22_in, (List.forall_mem_append.mpr ⟨wsL_law_r23_in, (List.forall_mem_append.mpr ⟨wsL_law_r24_in, wsL_law_r25_in⟩)⟩)⟩)⟩)⟩)⟩)⟩)⟩)⟩)⟩)⟩)⟩)⟩)⟩)⟩)⟩)⟩)⟩)⟩)⟩)⟩)⟩)⟩)⟩), wsX30_inl⟩), wsX40_inl⟩), wsX10_inl⟩), wsX20_inl⟩), wsX00_inl⟩), fun _ h => absurd h List.not_mem_nil⟩)
end
section
theorem inlX0 : ∀ w ∈ wsX00, w ∈ wsL_law := fun _ h => List.mem_append_left _ (List.mem_append_right _ h)
theorem inX0 : ∀ w ∈ wsX00, w ∈ lw_tbl := fun w h => wsL_law_in w (inlX0 w h)
theorem inlX1 : ∀ w ∈ wsX10, w ∈ wsL_law := fun _ h => List.mem_append_left _ (List.mem_append_left _ (List.mem_append_left _ (List.mem_append_right _ h)))
theorem inX1 : ∀ w ∈ wsX10, w ∈ lw_tbl := fun w h => wsL_law_in w (inlX1 w h)
theorem inlX2 : ∀ w ∈ wsX20, w ∈ wsL_law := fun _ h => List.mem_append_left _ (List.mem_append_left _ (List.mem_append_right _ h))
theorem inX2 : ∀ w ∈ wsX20, w ∈ lw_tbl := fun w h => wsL_law_in w (inlX2 w h)
theorem inlX3 : ∀ w ∈ wsX30, w ∈ wsL_law := fun _ h => List.mem_append_left _ (List.mem_append_left _ (List.mem_append_left _ (List.mem_append_left _ (List.mem_append_left _ (List.mem_append_right _ h)))))
theorem inX3 : ∀ w ∈ wsX30, w ∈ lw_tbl := fun w h => wsL_law_in w (inlX3 w h)
theorem inlX4 : ∀ w ∈ wsX40, w ∈ wsL_law := fun _ h => List.mem_append_left _ (List.mem_append_left _ (List.mem_append_left _ (List.mem_append_left _ (List.mem_append_right _ h))))
theorem inX4 : ∀ w ∈ wsX40, w ∈ lw_tbl := fun w h => wsL_law_in w (inlX4 w h)
theorem inJx8e188 : ∀ w ∈ wsJx8e1880, w ∈ lw_tbl := by decide +kernel
theorem inJ9 : ∀ w ∈ wsJ90, w ∈ lw_tbl := by decide +kernel
theorem inJ10 : ∀ w ∈ wsJ100, w ∈ lw_tbl := by decide +kernel
theorem inJ7 : ∀ w ∈ wsJ70, w ∈ lw_tbl := by decide +kernel
theorem dX0_init_0 : decode cX0_init 0 = .ok (.aload_n 0, 1) := by decide +kernel
theorem dX0_init_1 : decode cX0_init 1 = .ok (.invokespecial 3, 3) := by decide +kernel
theorem dX0_init_4 : decode cX0_init 4 = .ok (.aload_n 0, 1) := by decide +kernel
theorem dX0_init_5 : decode cX0_init 5 = .ok (.bipush 12, 2) := by decide +kernel
theorem dX0_init_7 : decode cX0_init 7 = .ok (.newarray .int, 2) := by decide +kernel
theorem dX0_init_9 : decode cX0_init 9 = .ok (.putfield 9, 3) := by decide +kernel
theorem dX0_init_12 : decode cX0_init 12 = .ok (.aload_n 0, 1) := by decide +kernel
theorem dX0_init_13 : decode cX0_init 13 = .ok (.bipush 24, 2) := by decide +kernel
theorem dX0_init_15 : decode cX0_init 15 = .ok (.newarray .int, 2) := by decide +kernel
theorem dX0_init_17 : decode cX0_init 17 = .ok (.putfield 15, 3) := by decide +kernel
theorem dX0_init_20 : decode cX0_init 20 = .ok (.aload_n 0, 1) := by decide +kernel
theorem dX0_init_21 : decode cX0_init 21 = .ok (.bipush 24, 2) := by decide +kernel
theorem dX0_init_23 : decode cX0_init 23 = .ok (.newarray .int, 2) := by decide +kernel
theorem dX0_init_25 : decode cX0_init 25 = .ok (.putfield 18, 3) := by decide +kernel
theorem dX0_init_28 : decode cX0_init 28 = .ok (.aload_n 0, 1) := by decide +kernel
theorem dX0_init_29 : decode cX0_init 29 = .ok (.bipush 8, 2) := by decide +kernel
theorem dX0_init_31 : decode cX0_init 31 = .ok (.newarray .int, 2) := by decide +kernel
theorem dX0_init_33 : decode cX0_init 33 = .ok (.putfield 21, 3) := by decide +kernel
theorem dX0_init_36 : decode cX0_init 36 = .ok (.aload_n 0, 1) := by decide +kernel
theorem dX0_init_37 : decode cX0_init 37 = .ok (.bipush 8, 2) := by decide +kernel
theorem dX0_init_39 : decode cX0_init 39 = .ok (.newarray .int, 2) := by decide +kernel
theorem dX0_init_41 : decode cX0_init 41 = .ok (.putfield 24, 3) := by decide +kernel
theorem dX0_init_44 : decode cX0_init 44 = .ok (.aload_n 0, 1) := by decide +kernel
theorem dX0_init_45 : decode cX0_init 45 = .ok (.bipush 12, 2) := by decide +kernel
theorem dX0_init_47 : decode cX0_init 47 = .ok (.newarray .int, 2) := by decide +kernel
theorem dX0_init_49 : decode cX0_init 49 = .ok (.putfield 27, 3) := by decide +kernel
theorem dX0_init_52 : decode cX0_init 52 = .ok (.aload_n 0, 1) := by decide +kernel
theorem dX0_init_53 : decode cX0_init 53 = .ok (.iconst 0, 1) := by decide +kernel
theorem dX0_init_54 : decode cX0_init 54 = .ok (.putfield 30, 3) := by decide +kernel
theorem dX0_init_57 : decode cX0_init 57 = .ok (.aload_n 0, 1) := by decide +kernel
theorem dX0_init_58 : decode cX0_init 58 = .ok (.iconst (-1), 1) := by decide +kernel
theorem dX0_init_59 : decode cX0_init 59 = .ok (.putfield 34, 3) := by decide +kernel
theorem dX0_init_62 : decode cX0_init 62 = .ok (.aload_n 0, 1) := by decide +kernel
theorem dX0_init_63 : decode cX0_init 63 = .ok (.iconst (-1), 1) := by decide +kernel
theorem dX0_init_64 : decode cX0_init 64 = .ok (.putfield 37, 3) := by decide +kernel
theorem dX0_init_67 : decode cX0_init 67 = .ok (.aload_n 0, 1) := by decide +kernel
theorem dX0_init_68 : decode cX0_init 68 = .ok (.iconst (-1), 1) := by decide +kernel
theorem dX0_init_69 : decode cX0_init 69 = .ok (.putfield 40, 3) := by decide +kernel
theorem dX0_init_72 : decode cX0_init 72 = .ok (.aload_n 0, 1) := by decide +kernel
theorem dX0_init_73 : decode cX0_init 73 = .ok (.iconst (-1), 1) := by decide +kernel
theorem dX0_init_74 : decode cX0_init 74 = .ok (.putfield 43, 3) := by decide +kernel
theorem dX0_init_77 : decode cX0_init 77 = .ok (.aload_n 0, 1) := by decide +kernel
theorem dX0_init_78 : decode cX0_init 78 = .ok (.iload_n 1, 1) := by decide +kernel
theorem dX0_init_79 : decode cX0_init 79 = .ok (.putfield 46, 3) := by decide +kernel
theorem dX0_init_82 : decode cX0_init 82 = .ok (.aload_n 0, 1) := by decide +kernel
theorem dX0_init_83 : decode cX0_init 83 = .ok (.iload_n 2, 1) := by decide +kernel
theorem dX0_init_84 : decode cX0_init 84 = .ok (.putfield 49, 3) := by decide +kernel
theorem dX0_init_87 : decode cX0_init 87 = .ok (.aload_n 0, 1) := by decide +kernel
theorem dX0_init_88 : decode cX0_init 88 = .ok (.iload_n 3, 1) := by decide +kernel
theorem dX0_init_89 : decode cX0_init 89 = .ok (.putfield 52, 3) := by decide +kernel
theorem dX0_init_92 : decode cX0_init 92 = .ok (.aload_n 0, 1) := by decide +kernel
theorem dX0_init_93 : decode cX0_init 93 = .ok (.iload 4, 2) := by decide +kernel
theorem dX0_init_95 : decode cX0_init 95 = .ok (.putfield 55, 3) := by decide +kernel
theorem dX0_init_98 : decode cX0_init 98 = .ok (.return_, 1) := by decide +kernel
theorem dX0_begin_0 : decode cX0_begin 0 = .ok (.aload_n 1, 1) := by decide +kernel
theorem dX0_begin_1 : decode cX0_begin 1 = .ok (.aload_n 0, 1) := by decide +kernel
theorem dX0_begin_2 : decode cX0_begin 2 = .ok (.getfield 46, 3) := by decide +kernel
theorem dX0_begin_5 : decode cX0_begin 5 = .ok (.bipush 12, 2) := by decide +kernel
theorem dX0_begin_7 : decode cX0_begin 7 = .ok (.imul, 1) := by decide +kernel
theorem dX0_begin_8 : decode cX0_begin 8 = .ok (.aload_n 0, 1) := by decide +kernel
theorem dX0_begin_9 : decode cX0_begin 9 = .ok (.getfield 9, 3) := by decide +kernel
theorem dX0_begin_12 : decode cX0_begin 12 = .ok (.iconst 0, 1) := by decide +kernel
theorem dX0_begin_13 : decode cX0_begin 13 = .ok (.iload_n 2, 1) := by decide +kernel
theorem dX0_begin_14 : decode cX0_begin 14 = .ok (.invokestatic 58, 3) := by decide +kernel
theorem dX0_begin_17 : decode cX0_begin 17 = .ok (.aload_n 0, 1) := by decide +kernel
theorem dX0_begin_18 : decode cX0_begin 18 = .ok (.iload_n 2, 1) := by decide +kernel
theorem dX0_begin_19 : decode cX0_begin 19 = .ok (.putfield 64, 3) := by decide +kernel
theorem dX0_begin_22 : decode cX0_begin 22 = .ok (.aload_n 0, 1) := by decide +kernel
theorem dX0_begin_23 : decode cX0_begin 23 = .ok (.iconst 1, 1) := by decide +kernel
theorem dX0_begin_24 : decode cX0_begin 24 = .ok (.putfield 30, 3) := by decide +kernel
theorem dX0_begin_27 : decode cX0_begin 27 = .ok (.aload_n 0, 1) := by decide +kernel
theorem dX0_begin_28 : decode cX0_begin 28 = .ok (.iconst 0, 1) := by decide +kernel
theorem dX0_begin_29 : decode cX0_begin 29 = .ok (.putfield 67, 3) := by decide +kernel
theorem dX0_begin_32 : decode cX0_begin 32 = .ok (.aload_n 0, 1) := by decide +kernel
theorem dX0_begin_33 : decode cX0_begin 33 = .ok (.iconst 0, 1) := by decide +kernel
theorem dX0_begin_34 : decode cX0_begin 34 = .ok (.putfield 70, 3) := by decide +kernel
theorem dX0_begin_37 : decode cX0_begin 37 = .ok (.aload_n 0, 1) := by decide +kernel
theorem dX0_begin_38 : decode cX0_begin 38 = .ok (.iload_n 3, 1) := by decide +kernel
theorem dX0_begin_39 : decode cX0_begin 39 = .ok (.putfield 37, 3) := by decide +kernel
theorem dX0_begin_42 : decode cX0_begin 42 = .ok (.return_, 1) := by decide +kernel
theorem dX0_hasStep_0 : decode cX0_hasStep 0 = .ok (.aload_n 0, 1) := by decide +kernel
theorem dX0_hasStep_1 : decode cX0_hasStep 1 = .ok (.getfield 70, 3) := by decide +kernel
theorem dX0_hasStep_4 : decode cX0_hasStep 4 = .ok (.ifCond .lt 18, 3) := by decide +kernel
theorem dX0_hasStep_7 : decode cX0_hasStep 7 = .ok (.aload_n 0, 1) := by decide +kernel
theorem dX0_hasStep_8 : decode cX0_hasStep 8 = .ok (.getfield 70, 3) := by decide +kernel
theorem dX0_hasStep_11 : decode cX0_hasStep 11 = .ok (.aload_n 0, 1) := by decide +kernel
theorem dX0_hasStep_12 : decode cX0_hasStep 12 = .ok (.getfield 64, 3) := by decide +kernel
theorem dX0_hasStep_15 : decode cX0_hasStep 15 = .ok (.if_icmp .ge 7, 3) := by decide +kernel
theorem dX0_hasStep_18 : decode cX0_hasStep 18 = .ok (.iconst 1, 1) := by decide +kernel
theorem dX0_hasStep_19 : decode cX0_hasStep 19 = .ok (.goto 4, 3) := by decide +kernel
theorem dX0_hasStep_22 : decode cX0_hasStep 22 = .ok (.iconst 0, 1) := by decide +kernel
theorem dX0_hasStep_23 : decode cX0_hasStep 23 = .ok (.ireturn, 1) := by decide +kernel
theorem dX0_load_0 : decode cX0_load 0 = .ok (.iload_n 1, 1) := by decide +kernel
theorem dX0_load_1 : decode cX0_load 1 = .ok (.ldc 73, 2) := by decide +kernel
theorem dX0_load_3 : decode cX0_load 3 = .ok (.if_icmp .gt 9, 3) := by decide +kernel
theorem dX0_load_6 : decode cX0_load 6 = .ok (.iload_n 1, 1) := by decide +kernel
theorem dX0_load_7 : decode cX0_load 7 = .ok (.ldc 74, 2) := by decide +kernel
theorem dX0_load_9 : decode cX0_load 9 = .ok (.if_icmp .ge 5, 3) := by decide +kernel
theorem dX0_load_12 : decode cX0_load 12 = .ok (.iconst 0, 1) := by decide +kernel
theorem dX0_load_13 : decode cX0_load 13 = .ok (.ireturn, 1) := by decide +kernel
theorem dX0_load_14 : decode cX0_load 14 = .ok (.aload_n 0, 1) := by decide +kernel
theorem dX0_load_15 : decode cX0_load 15 = .ok (.iload_n 1, 1) := by decide +kernel
theorem dX0_load_16 : decode cX0_load 16 = .ok (.putfield 67, 3) := by decide +kernel
theorem dX0_load_19 : decode cX0_load 19 = .ok (.iconst 1, 1) := by decide +kernel
theorem dX0_load_20 : decode cX0_load 20 = .ok (.ireturn, 1) := by decide +kernel
theorem dX0_lockToRead_0 : decode cX0_lockToRead 0 = .ok (.aload_n 0, 1) := by decide +kernel
theorem dX0_lockToRead_1 : decode cX0_lockToRead 1 = .ok (.getfield 15, 3) := by decide +kernel
theorem dX0_lockToRead_4 : decode cX0_lockToRead 4 = .ok (.iload_n 1, 1) := by decide +kernel
theorem dX0_lockToRead_5 : decode cX0_lockToRead 5 = .ok (.iaload, 1) := by decide +kernel
theorem dX0_lockToRead_6 : decode cX0_lockToRead 6 = .ok (.ifCond .ne 10, 3) := by decide +kernel
theorem dX0_lockToRead_9 : decode cX0_lockToRead 9 = .ok (.aload_n 0, 1) := by decide +kernel
theorem dX0_lockToRead_10 : decode cX0_lockToRead 10 = .ok (.getfield 15, 3) := by decide +kernel
theorem dX0_lockToRead_13 : decode cX0_lockToRead 13 = .ok (.iload_n 1, 1) := by decide +kernel
theorem dX0_lockToRead_14 : decode cX0_lockToRead 14 = .ok (.iconst 1, 1) := by decide +kernel
theorem dX0_lockToRead_15 : decode cX0_lockToRead 15 = .ok (.iastore, 1) := by decide +kernel
theorem dX0_lockToRead_16 : decode cX0_lockToRead 16 = .ok (.return_, 1) := by decide +kernel
theorem dX0_put_0 : decode cX0_put 0 = .ok (.aload_n 0, 1) := by decide +kernel
theorem dX0_put_1 : decode cX0_put 1 = .ok (.getfield 15, 3) := by decide +kernel
theorem dX0_put_4 : decode cX0_put 4 = .ok (.iload_n 1, 1) := by decide +kernel
theorem dX0_put_5 : decode cX0_put 5 = .ok (.iconst 2, 1) := by decide +kernel
theorem dX0_put_6 : decode cX0_put 6 = .ok (.iastore, 1) := by decide +kernel
theorem dX0_put_7 : decode cX0_put 7 = .ok (.aload_n 0, 1) := by decide +kernel
theorem dX0_put_8 : decode cX0_put 8 = .ok (.getfield 18, 3) := by decide +kernel
theorem dX0_put_11 : decode cX0_put 11 = .ok (.iload_n 1, 1) := by decide +kernel
theorem dX0_put_12 : decode cX0_put 12 = .ok (.aload_n 0, 1) := by decide +kernel
theorem dX0_put_13 : decode cX0_put 13 = .ok (.getfield 67, 3) := by decide +kernel
theorem dX0_put_16 : decode cX0_put 16 = .ok (.iastore, 1) := by decide +kernel
theorem dX0_put_17 : decode cX0_put 17 = .ok (.return_, 1) := by decide +kernel
theorem dX0_give_0 : decode cX0_give 0 = .ok (.aload_n 0, 1) := by decide +kernel
theorem dX0_give_1 : decode cX0_give 1 = .ok (.getfield 21, 3) := by decide +kernel
theorem dX0_give_4 : decode cX0_give 4 = .ok (.iload_n 1, 1) := by decide +kernel
theorem dX0_give_5 : decode cX0_give 5 = .ok (.dup2, 1) := by decide +kernel
theorem dX0_give_6 : decode cX0_give 6 = .ok (.iaload, 1) := by decide +kernel
theorem dX0_give_7 : decode cX0_give 7 = .ok (.iload_n 2, 1) := by decide +kernel
theorem dX0_give_8 : decode cX0_give 8 = .ok (.iadd, 1) := by decide +kernel
theorem dX0_give_9 : decode cX0_give 9 = .ok (.iastore, 1) := by decide +kernel
theorem dX0_give_10 : decode cX0_give 10 = .ok (.aload_n 0, 1) := by decide +kernel
theorem dX0_give_11 : decode cX0_give 11 = .ok (.getfield 24, 3) := by decide +kernel
theorem dX0_give_14 : decode cX0_give 14 = .ok (.iload_n 1, 1) := by decide +kernel
theorem dX0_give_15 : decode cX0_give 15 = .ok (.dup2, 1) := by decide +kernel
theorem dX0_give_16 : decode cX0_give 16 = .ok (.iaload, 1) := by decide +kernel
theorem dX0_give_17 : decode cX0_give 17 = .ok (.iload_n 2, 1) := by decide +kernel
theorem dX0_give_18 : decode cX0_give 18 = .ok (.iconst 0, 1) := by decide +kernel
theorem dX0_give_19 : decode cX0_give 19 = .ok (.invokestatic 75, 3) := by decide +kernel
theorem dX0_give_22 : decode cX0_give 22 = .ok (.iadd, 1) := by decide +kernel
theorem dX0_give_23 : decode cX0_give 23 = .ok (.iastore, 1) := by decide +kernel
theorem dX0_give_24 : decode cX0_give 24 = .ok (.return_, 1) := by decide +kernel
theorem dX0_enqueue_0 : decode cX0_enqueue 0 = .ok (.aload_n 0, 1) := by decide +kernel
theorem dX0_enqueue_1 : decode cX0_enqueue 1 = .ok (.getfield 81, 3) := by decide +kernel
theorem dX0_enqueue_4 : decode cX0_enqueue 4 = .ok (.bipush 12, 2) := by decide +kernel
theorem dX0_enqueue_6 : decode cX0_enqueue 6 = .ok (.if_icmp .ge 23, 3) := by decide +kernel
theorem dX0_enqueue_9 : decode cX0_enqueue 9 = .ok (.aload_n 0, 1) := by decide +kernel
theorem dX0_enqueue_10 : decode cX0_enqueue 10 = .ok (.getfield 27, 3) := by decide +kernel
theorem dX0_enqueue_13 : decode cX0_enqueue 13 = .ok (.aload_n 0, 1) := by decide +kernel
theorem dX0_enqueue_14 : decode cX0_enqueue 14 = .ok (.getfield 81, 3) := by decide +kernel
theorem dX0_enqueue_17 : decode cX0_enqueue 17 = .ok (.iload_n 1, 1) := by decide +kernel
theorem dX0_enqueue_18 : decode cX0_enqueue 18 = .ok (.iastore, 1) := by decide +kernel
theorem dX0_enqueue_19 : decode cX0_enqueue 19 = .ok (.aload_n 0, 1) := by decide +kernel
theorem dX0_enqueue_20 : decode cX0_enqueue 20 = .ok (.dup, 1) := by decide +kernel
theorem dX0_enqueue_21 : decode cX0_enqueue 21 = .ok (.getfield 81, 3) := by decide +kernel
theorem dX0_enqueue_24 : decode cX0_enqueue 24 = .ok (.iconst 1, 1) := by decide +kernel
theorem dX0_enqueue_25 : decode cX0_enqueue 25 = .ok (.iadd, 1) := by decide +kernel
theorem dX0_enqueue_26 : decode cX0_enqueue 26 = .ok (.putfield 81, 3) := by decide +kernel
theorem dX0_enqueue_29 : decode cX0_enqueue 29 = .ok (.return_, 1) := by decide +kernel
theorem dX0_valueAfter_0 : decode cX0_valueAfter 0 = .ok (.iload_n 1, 1) := by decide +kernel
theorem dX0_valueAfter_1 : decode cX0_valueAfter 1 = .ok (.bipush 24, 2) := by decide +kernel
theorem dX0_valueAfter_3 : decode cX0_valueAfter 3 = .ok (.if_icmp .ge 24, 3) := by decide +kernel
theorem dX0_valueAfter_6 : decode cX0_valueAfter 6 = .ok (.aload_n 0, 1) := by decide +kernel
theorem dX0_valueAfter_7 : decode cX0_valueAfter 7 = .ok (.getfield 15, 3) := by decide +kernel
theorem dX0_valueAfter_10 : decode cX0_valueAfter 10 = .ok (.iload_n 1, 1) := by decide +kernel
theorem dX0_valueAfter_11 : decode cX0_valueAfter 11 = .ok (.iaload, 1) := by decide +kernel
theorem dX0_valueAfter_12 : decode cX0_valueAfter 12 = .ok (.iconst 2, 1) := by decide +kernel
theorem dX0_valueAfter_13 : decode cX0_valueAfter 13 = .ok (.if_icmp .ne 12, 3) := by decide +kernel
theorem dX0_valueAfter_16 : decode cX0_valueAfter 16 = .ok (.aload_n 0, 1) := by decide +kernel
theorem dX0_valueAfter_17 : decode cX0_valueAfter 17 = .ok (.getfield 18, 3) := by decide +kernel
theorem dX0_valueAfter_20 : decode cX0_valueAfter 20 = .ok (.iload_n 1, 1) := by decide +kernel
theorem dX0_valueAfter_21 : decode cX0_valueAfter 21 = .ok (.iaload, 1) := by decide +kernel
theorem dX0_valueAfter_22 : decode cX0_valueAfter 22 = .ok (.goto 4, 3) := by decide +kernel
theorem dX0_valueAfter_25 : decode cX0_valueAfter 25 = .ok (.iload_n 2, 1) := by decide +kernel
theorem dX0_valueAfter_26 : decode cX0_valueAfter 26 = .ok (.ireturn, 1) := by decide +kernel
theorem dX0_valueAfter_27 : decode cX0_valueAfter 27 = .ok (.iload_n 2, 1) := by decide +kernel
theorem dX0_valueAfter_28 : decode cX0_valueAfter 28 = .ok (.aload_n 0, 1) := by decide +kernel
theorem dX0_valueAfter_29 : decode cX0_valueAfter 29 = .ok (.getfield 21, 3) := by decide +kernel
theorem dX0_valueAfter_32 : decode cX0_valueAfter 32 = .ok (.iload_n 1, 1) := by decide +kernel
theorem dX0_valueAfter_33 : decode cX0_valueAfter 33 = .ok (.bipush 24, 2) := by decide +kernel
theorem dX0_valueAfter_35 : decode cX0_valueAfter 35 = .ok (.isub, 1) := by decide +kernel
theorem dX0_valueAfter_36 : decode cX0_valueAfter 36 = .ok (.iaload, 1) := by decide +kernel
theorem dX0_valueAfter_37 : decode cX0_valueAfter 37 = .ok (.iadd, 1) := by decide +kernel
theorem dX0_valueAfter_38 : decode cX0_valueAfter 38 = .ok (.ireturn, 1) := by decide +kernel
set_option maxRecDepth 20000 in
theorem ggX0_undo_X0_leave : GoodIn wsX0_undo wsX0_leave := goodIn_r _ [6, 7, 8, 9, 10, 11, 12, 13, 14, 15, 16, 17, 18, 19, 20, 21, 22, 23, 24, 25, 26, 27, 28, 29, 30, 31, 32, 33, 34, 35, 36, 37] (by decide +kernel) (by decide +kernel)
set_option maxRecDepth 20000 in
theorem gX0_undo_X0_leave : GoodIn wsX0_undo (wsV RX0 84 RX0 yX0_leave wsX0_leave) := goodIn_app (goodIn_of _ (by decide +kernel)) ggX0_undo_X0_leave
theorem dX0_undo_0 : decode cX0_undo 0 = .ok (.aload_n 0, 1) := by decide +kernel
theorem dX0_undo_1 : decode cX0_undo 1 = .ok (.iconst 0, 1) := by decide +kernel
theorem dX0_undo_2 : decode cX0_undo 2 = .ok (.invokevirtual 84, 3) := by decide +kernel
theorem dX0_undo_5 : decode cX0_undo 5 = .ok (.aload_n 0, 1) := by decide +kernel
theorem dX0_undo_6 : decode cX0_undo 6 = .ok (.dup, 1) := by decide +kernel
theorem dX0_undo_7 : decode cX0_undo 7 = .ok (.getfield 88, 3) := by decide +kernel
theorem dX0_undo_10 : decode cX0_undo 10 = .ok (.iconst 1, 1) := by decide +kernel
theorem dX0_undo_11 : decode cX0_undo 11 = .ok (.iadd, 1) := by decide +kernel
theorem dX0_undo_12 : decode cX0_undo 12 = .ok (.putfield 88, 3) := by decide +kernel
theorem dX0_undo_15 : decode cX0_undo 15 = .ok (.return_, 1) := by decide +kernel
set_option maxRecDepth 20000 in
theorem ggX0_leave_J7_fill_53178 : GoodIn wsX0_leave wsJ7_fill_53178 := goodIn_r _ [11] (by decide +kernel) (by decide +kernel)
set_option maxRecDepth 20000 in
theorem gX0_leave_J7_fill_53178 : GoodIn wsX0_leave (va_wsS RX0 91 yJ7_fill_53178 wsJ7_fill_53178) := goodIn_app (goodIn_of _ (by decide +kernel)) ggX0_leave_J7_fill_53178
theorem dX0_leave_0 : decode cX0_leave 0 = .ok (.aload_n 0, 1) := by decide +kernel
theorem dX0_leave_1 : decode cX0_leave 1 = .ok (.iload_n 1, 1) := by decide +kernel
theorem dX0_leave_2 : decode cX0_leave 2 = .ok (.putfield 30, 3) := by decide +kernel
theorem dX0_leave_5 : decode cX0_leave 5 = .ok (.aload_n 0, 1) := by decide +kernel
theorem dX0_leave_6 : decode cX0_leave 6 = .ok (.iconst (-1), 1) := by decide +kernel
theorem dX0_leave_7 : decode cX0_leave 7 = .ok (.putfield 40, 3) := by decide +kernel
theorem dX0_leave_10 : decode cX0_leave 10 = .ok (.aload_n 0, 1) := by decide +kernel
theorem dX0_leave_11 : decode cX0_leave 11 = .ok (.iconst (-1), 1) := by decide +kernel
theorem dX0_leave_12 : decode cX0_leave 12 = .ok (.putfield 43, 3) := by decide +kernel
theorem dX0_leave_15 : decode cX0_leave 15 = .ok (.aload_n 0, 1) := by decide +kernel
theorem dX0_leave_16 : decode cX0_leave 16 = .ok (.iconst 0, 1) := by decide +kernel
theorem dX0_leave_17 : decode cX0_leave 17 = .ok (.putfield 81, 3) := by decide +kernel
theorem dX0_leave_20 : decode cX0_leave 20 = .ok (.aload_n 0, 1) := by decide +kernel
theorem dX0_leave_21 : decode cX0_leave 21 = .ok (.getfield 15, 3) := by decide +kernel
theorem dX0_leave_24 : decode cX0_leave 24 = .ok (.iconst 0, 1) := by decide +kernel
theorem dX0_leave_25 : decode cX0_leave 25 = .ok (.invokestatic 91, 3) := by decide +kernel
theorem dX0_leave_28 : decode cX0_leave 28 = .ok (.aload_n 0, 1) := by decide +kernel
theorem dX0_leave_29 : decode cX0_leave 29 = .ok (.getfield 21, 3) := by decide +kernel
theorem dX0_leave_32 : decode cX0_leave 32 = .ok (.iconst 0, 1) := by decide +kernel
theorem dX0_leave_33 : decode cX0_leave 33 = .ok (.invokestatic 91, 3) := by decide +kernel
theorem dX0_leave_36 : decode cX0_leave 36 = .ok (.aload_n 0, 1) := by decide +kernel
theorem dX0_leave_37 : decode cX0_leave 37 = .ok (.getfield 24, 3) := by decide +kernel
theorem dX0_leave_40 : decode cX0_leave 40 = .ok (.iconst 0, 1) := by decide +kernel
theorem dX0_leave_41 : decode cX0_leave 41 = .ok (.invokestatic 91, 3) := by decide +kernel
theorem dX0_leave_44 : decode cX0_leave 44 = .ok (.return_, 1) := by decide +kernel
theorem dX1_init_0 : decode cX1_init 0 = .ok (.aload_n 0, 1) := by decide +kernel
theorem dX1_init_1 : decode cX1_init 1 = .ok (.invokespecial 3, 3) := by decide +kernel
theorem dX1_init_4 : decode cX1_init 4 = .ok (.aload_n 0, 1) := by decide +kernel
theorem dX1_init_5 : decode cX1_init 5 = .ok (.sipush 256, 3) := by decide +kernel
theorem dX1_init_8 : decode cX1_init 8 = .ok (.newarray .int, 2) := by decide +kernel
theorem dX1_init_10 : decode cX1_init 10 = .ok (.putfield 11, 3) := by decide +kernel
theorem dX1_init_13 : decode cX1_init 13 = .ok (.return_, 1) := by decide +kernel
set_option maxRecDepth 20000 in
theorem ggX1_write_J7_copyOf_59c91 : GoodIn wsX1_write wsJ7_copyOf_59c91 := goodIn_r _ [7, 8, 9, 10, 11, 12, 13, 14, 15, 16, 17, 18, 19, 20, 21, 22] (by decide +kernel) (by decide +kernel)
set_option maxRecDepth 20000 in
theorem gX1_write_J7_copyOf_59c91 : GoodIn wsX1_write (va_wsS RX1 20 yJ7_copyOf_59c91 wsJ7_copyOf_59c91) := goodIn_app (goodIn_of _ (by decide +kernel)) ggX1_write_J7_copyOf_59c91
theorem dX1_write_0 : decode cX1_write 0 = .ok (.aload_n 0, 1) := by decide +kernel
theorem dX1_write_1 : decode cX1_write 1 = .ok (.getfield 15, 3) := by decide +kernel
theorem dX1_write_4 : decode cX1_write 4 = .ok (.ldc 19, 2) := by decide +kernel
theorem dX1_write_6 : decode cX1_write 6 = .ok (.if_icmp .lt 5, 3) := by decide +kernel
theorem dX1_write_9 : decode cX1_write 9 = .ok (.iconst (-1), 1) := by decide +kernel
theorem dX1_write_10 : decode cX1_write 10 = .ok (.ireturn, 1) := by decide +kernel
theorem dX1_write_11 : decode cX1_write 11 = .ok (.aload_n 0, 1) := by decide +kernel
theorem dX1_write_12 : decode cX1_write 12 = .ok (.getfield 15, 3) := by decide +kernel
theorem dX1_write_15 : decode cX1_write 15 = .ok (.aload_n 0, 1) := by decide +kernel
theorem dX1_write_16 : decode cX1_write 16 = .ok (.getfield 11, 3) := by decide +kernel
theorem dX1_write_19 : decode cX1_write 19 = .ok (.arraylength, 1) := by decide +kernel
theorem dX1_write_20 : decode cX1_write 20 = .ok (.if_icmp .lt 21, 3) := by decide +kernel
theorem dX1_write_23 : decode cX1_write 23 = .ok (.aload_n 0, 1) := by decide +kernel
theorem dX1_write_24 : decode cX1_write 24 = .ok (.aload_n 0, 1) := by decide +kernel
theorem dX1_write_25 : decode cX1_write 25 = .ok (.getfield 11, 3) := by decide +kernel
theorem dX1_write_28 : decode cX1_write 28 = .ok (.aload_n 0, 1) := by decide +kernel
theorem dX1_write_29 : decode cX1_write 29 = .ok (.getfield 11, 3) := by decide +kernel
theorem dX1_write_32 : decode cX1_write 32 = .ok (.arraylength, 1) := by decide +kernel
theorem dX1_write_33 : decode cX1_write 33 = .ok (.iconst 2, 1) := by decide +kernel
theorem dX1_write_34 : decode cX1_write 34 = .ok (.imul, 1) := by decide +kernel
theorem dX1_write_35 : decode cX1_write 35 = .ok (.invokestatic 20, 3) := by decide +kernel
theorem dX1_write_38 : decode cX1_write 38 = .ok (.putfield 11, 3) := by decide +kernel
theorem dX1_write_41 : decode cX1_write 41 = .ok (.aload_n 0, 1) := by decide +kernel
theorem dX1_write_42 : decode cX1_write 42 = .ok (.getfield 11, 3) := by decide +kernel
theorem dX1_write_45 : decode cX1_write 45 = .ok (.aload_n 0, 1) := by decide +kernel
theorem dX1_write_46 : decode cX1_write 46 = .ok (.getfield 15, 3) := by decide +kernel
theorem dX1_write_49 : decode cX1_write 49 = .ok (.iload 4, 2) := by decide +kernel
theorem dX1_write_51 : decode cX1_write 51 = .ok (.bipush 15, 2) := by decide +kernel
theorem dX1_write_53 : decode cX1_write 53 = .ok (.ishl, 1) := by decide +kernel
theorem dX1_write_54 : decode cX1_write 54 = .ok (.iload_n 3, 1) := by decide +kernel
theorem dX1_write_55 : decode cX1_write 55 = .ok (.iconst 1, 1) := by decide +kernel
theorem dX1_write_56 : decode cX1_write 56 = .ok (.iadd, 1) := by decide +kernel
theorem dX1_write_57 : decode cX1_write 57 = .ok (.bipush 10, 2) := by decide +kernel
theorem dX1_write_59 : decode cX1_write 59 = .ok (.ishl, 1) := by decide +kernel
theorem dX1_write_60 : decode cX1_write 60 = .ok (.ior, 1) := by decide +kernel
theorem dX1_write_61 : decode cX1_write 61 = .ok (.iload_n 2, 1) := by decide +kernel
theorem dX1_write_62 : decode cX1_write 62 = .ok (.iconst 3, 1) := by decide +kernel
theorem dX1_write_63 : decode cX1_write 63 = .ok (.ishl, 1) := by decide +kernel
theorem dX1_write_64 : decode cX1_write 64 = .ok (.ior, 1) := by decide +kernel
theorem dX1_write_65 : decode cX1_write 65 = .ok (.iload_n 1, 1) := by decide +kernel
theorem dX1_write_66 : decode cX1_write 66 = .ok (.ior, 1) := by decide +kernel
theorem dX1_write_67 : decode cX1_write 67 = .ok (.iastore, 1) := by decide +kernel
theorem dX1_write_68 : decode cX1_write 68 = .ok (.aload_n 0, 1) := by decide +kernel
theorem dX1_write_69 : decode cX1_write 69 = .ok (.dup, 1) := by decide +kernel
theorem dX1_write_70 : decode cX1_write 70 = .ok (.getfield 15, 3) := by decide +kernel
theorem dX1_write_73 : decode cX1_write 73 = .ok (.iconst 1, 1) := by decide +kernel
theorem dX1_write_74 : decode cX1_write 74 = .ok (.iadd, 1) := by decide +kernel
theorem dX1_write_75 : decode cX1_write 75 = .ok (.putfield 15, 3) := by decide +kernel
theorem dX1_write_78 : decode cX1_write 78 = .ok (.aload_n 0, 1) := by decide +kernel
theorem dX1_write_79 : decode cX1_write 79 = .ok (.getfield 15, 3) := by decide +kernel
theorem dX1_write_82 : decode cX1_write 82 = .ok (.iconst 1, 1) := by decide +kernel
theorem dX1_write_83 : decode cX1_write 83 = .ok (.isub, 1) := by decide +kernel
theorem dX1_write_84 : decode cX1_write 84 = .ok (.ireturn, 1) := by decide +kernel
theorem dX1_keepAll_0 : decode cX1_keepAll 0 = .ok (.aload_n 0, 1) := by decide +kernel
theorem dX1_keepAll_1 : decode cX1_keepAll 1 = .ok (.aload_n 0, 1) := by decide +kernel
theorem dX1_keepAll_2 : decode cX1_keepAll 2 = .ok (.getfield 15, 3) := by decide +kernel
theorem dX1_keepAll_5 : decode cX1_keepAll 5 = .ok (.putfield 26, 3) := by decide +kernel
theorem dX1_keepAll_8 : decode cX1_keepAll 8 = .ok (.return_, 1) := by decide +kernel
theorem dX1_cut_0 : decode cX1_cut 0 = .ok (.iload_n 1, 1) := by decide +kernel
theorem dX1_cut_1 : decode cX1_cut 1 = .ok (.ifCond .lt 16, 3) := by decide +kernel
theorem dX1_cut_4 : decode cX1_cut 4 = .ok (.iload_n 1, 1) := by decide +kernel
theorem dX1_cut_5 : decode cX1_cut 5 = .ok (.aload_n 0, 1) := by decide +kernel
theorem dX1_cut_6 : decode cX1_cut 6 = .ok (.getfield 15, 3) := by decide +kernel
theorem dX1_cut_9 : decode cX1_cut 9 = .ok (.if_icmp .gt 8, 3) := by decide +kernel
theorem dX1_cut_12 : decode cX1_cut 12 = .ok (.aload_n 0, 1) := by decide +kernel
theorem dX1_cut_13 : decode cX1_cut 13 = .ok (.iload_n 1, 1) := by decide +kernel
theorem dX1_cut_14 : decode cX1_cut 14 = .ok (.putfield 15, 3) := by decide +kernel
theorem dX1_cut_17 : decode cX1_cut 17 = .ok (.return_, 1) := by decide +kernel
theorem dX1_tell_0 : decode cX1_tell 0 = .ok (.iload_n 1, 1) := by decide +kernel
theorem dX1_tell_1 : decode cX1_tell 1 = .ok (.ifCond .lt 11, 3) := by decide +kernel
theorem dX1_tell_4 : decode cX1_tell 4 = .ok (.iload_n 1, 1) := by decide +kernel
theorem dX1_tell_5 : decode cX1_tell 5 = .ok (.aload_n 0, 1) := by decide +kernel
theorem dX1_tell_6 : decode cX1_tell 6 = .ok (.getfield 15, 3) := by decide +kernel
theorem dX1_tell_9 : decode cX1_tell 9 = .ok (.if_icmp .lt 5, 3) := by decide +kernel
theorem dX1_tell_12 : decode cX1_tell 12 = .ok (.iconst (-1), 1) := by decide +kernel
theorem dX1_tell_13 : decode cX1_tell 13 = .ok (.ireturn, 1) := by decide +kernel
theorem dX1_tell_14 : decode cX1_tell 14 = .ok (.aload_n 0, 1) := by decide +kernel
theorem dX1_tell_15 : decode cX1_tell 15 = .ok (.getfield 11, 3) := by decide +kernel
theorem dX1_tell_18 : decode cX1_tell 18 = .ok (.iload_n 1, 1) := by decide +kernel
theorem dX1_tell_19 : decode cX1_tell 19 = .ok (.iaload, 1) := by decide +kernel
theorem dX1_tell_20 : decode cX1_tell 20 = .ok (.istore_n 3, 1) := by decide +kernel
theorem dX1_tell_21 : decode cX1_tell 21 = .ok (.iload_n 2, 1) := by decide +kernel
theorem dX1_tell_22 : decode cX1_tell 22 = .ok (.tableswitch 57 0 3 #[30, 35, 42, 52], 30) := by decide +kernel
theorem dX1_tell_52 : decode cX1_tell 52 = .ok (.iload_n 3, 1) := by decide +kernel
theorem dX1_tell_53 : decode cX1_tell 53 = .ok (.bipush 7, 2) := by decide +kernel
theorem dX1_tell_55 : decode cX1_tell 55 = .ok (.iand, 1) := by decide +kernel
theorem dX1_tell_56 : decode cX1_tell 56 = .ok (.ireturn, 1) := by decide +kernel
theorem dX1_tell_57 : decode cX1_tell 57 = .ok (.iload_n 3, 1) := by decide +kernel
theorem dX1_tell_58 : decode cX1_tell 58 = .ok (.iconst 3, 1) := by decide +kernel
theorem dX1_tell_59 : decode cX1_tell 59 = .ok (.ishr, 1) := by decide +kernel
theorem dX1_tell_60 : decode cX1_tell 60 = .ok (.bipush 127, 2) := by decide +kernel
theorem dX1_tell_62 : decode cX1_tell 62 = .ok (.iand, 1) := by decide +kernel
theorem dX1_tell_63 : decode cX1_tell 63 = .ok (.ireturn, 1) := by decide +kernel
theorem dX1_tell_64 : decode cX1_tell 64 = .ok (.iload_n 3, 1) := by decide +kernel
theorem dX1_tell_65 : decode cX1_tell 65 = .ok (.bipush 10, 2) := by decide +kernel
theorem dX1_tell_67 : decode cX1_tell 67 = .ok (.ishr, 1) := by decide +kernel
theorem dX1_tell_68 : decode cX1_tell 68 = .ok (.bipush 31, 2) := by decide +kernel
theorem dX1_tell_70 : decode cX1_tell 70 = .ok (.iand, 1) := by decide +kernel
theorem dX1_tell_71 : decode cX1_tell 71 = .ok (.iconst 1, 1) := by decide +kernel
theorem dX1_tell_72 : decode cX1_tell 72 = .ok (.isub, 1) := by decide +kernel
theorem dX1_tell_73 : decode cX1_tell 73 = .ok (.ireturn, 1) := by decide +kernel
theorem dX1_tell_74 : decode cX1_tell 74 = .ok (.iload_n 3, 1) := by decide +kernel
theorem dX1_tell_75 : decode cX1_tell 75 = .ok (.bipush 15, 2) := by decide +kernel
theorem dX1_tell_77 : decode cX1_tell 77 = .ok (.ishr, 1) := by decide +kernel
theorem dX1_tell_78 : decode cX1_tell 78 = .ok (.ireturn, 1) := by decide +kernel
theorem dX1_tell_79 : decode cX1_tell 79 = .ok (.iconst (-1), 1) := by decide +kernel
theorem dX1_tell_80 : decode cX1_tell 80 = .ok (.ireturn, 1) := by decide +kernel
theorem dX2_init_0 : decode cX2_init 0 = .ok (.aload_n 0, 1) := by decide +kernel
theorem dX2_init_1 : decode cX2_init 1 = .ok (.invokespecial 3, 3) := by decide +kernel
theorem dX2_init_4 : decode cX2_init 4 = .ok (.aload_n 0, 1) := by decide +kernel
theorem dX2_init_5 : decode cX2_init 5 = .ok (.bipush 36, 2) := by decide +kernel
theorem dX2_init_7 : decode cX2_init 7 = .ok (.newarray .long, 2) := by decide +kernel
theorem dX2_init_9 : decode cX2_init 9 = .ok (.putfield 9, 3) := by decide +kernel
theorem dX2_init_12 : decode cX2_init 12 = .ok (.aload_n 0, 1) := by decide +kernel
theorem dX2_init_13 : decode cX2_init 13 = .ok (.bipush 36, 2) := by decide +kernel
theorem dX2_init_15 : decode cX2_init 15 = .ok (.newarray .long, 2) := by decide +kernel
theorem dX2_init_17 : decode cX2_init 17 = .ok (.putfield 15, 3) := by decide +kernel
theorem dX2_init_20 : decode cX2_init 20 = .ok (.return_, 1) := by decide +kernel
set_option maxRecDepth 20000 in
theorem ggX2_clear_J7_fill_d0a16 : GoodIn wsX2_clear wsJ7_fill_d0a16 := goodIn_r _ [10] (by decide +kernel) (by decide +kernel)
set_option maxRecDepth 20000 in
theorem gX2_clear_J7_fill_d0a16 : GoodIn wsX2_clear (va_wsS RX2 28 yJ7_fill_d0a16 wsJ7_fill_d0a16) := goodIn_app (goodIn_of _ (by decide +kernel)) ggX2_clear_J7_fill_d0a16
theorem dX2_clear_0 : decode cX2_clear 0 = .ok (.aload_n 0, 1) := by decide +kernel
theorem dX2_clear_1 : decode cX2_clear 1 = .ok (.iload_n 1, 1) := by decide +kernel
theorem dX2_clear_2 : decode cX2_clear 2 = .ok (.bipush 36, 2) := by decide +kernel
theorem dX2_clear_4 : decode cX2_clear 4 = .ok (.invokestatic 18, 3) := by decide +kernel
theorem dX2_clear_7 : decode cX2_clear 7 = .ok (.putfield 24, 3) := by decide +kernel
theorem dX2_clear_10 : decode cX2_clear 10 = .ok (.aload_n 0, 1) := by decide +kernel
theorem dX2_clear_11 : decode cX2_clear 11 = .ok (.getfield 9, 3) := by decide +kernel
theorem dX2_clear_14 : decode cX2_clear 14 = .ok (.lconst 0, 1) := by decide +kernel
theorem dX2_clear_15 : decode cX2_clear 15 = .ok (.invokestatic 28, 3) := by decide +kernel
theorem dX2_clear_18 : decode cX2_clear 18 = .ok (.return_, 1) := by decide +kernel
theorem dX2_add_0 : decode cX2_add 0 = .ok (.aload_n 0, 1) := by decide +kernel
theorem dX2_add_1 : decode cX2_add 1 = .ok (.getfield 9, 3) := by decide +kernel
theorem dX2_add_4 : decode cX2_add 4 = .ok (.iload_n 1, 1) := by decide +kernel
theorem dX2_add_5 : decode cX2_add 5 = .ok (.dup2, 1) := by decide +kernel
theorem dX2_add_6 : decode cX2_add 6 = .ok (.laload, 1) := by decide +kernel
theorem dX2_add_7 : decode cX2_add 7 = .ok (.lconst 1, 1) := by decide +kernel
theorem dX2_add_8 : decode cX2_add 8 = .ok (.iload_n 2, 1) := by decide +kernel
theorem dX2_add_9 : decode cX2_add 9 = .ok (.lshl, 1) := by decide +kernel
theorem dX2_add_10 : decode cX2_add 10 = .ok (.lor, 1) := by decide +kernel
theorem dX2_add_11 : decode cX2_add 11 = .ok (.lastore, 1) := by decide +kernel
theorem dX2_add_12 : decode cX2_add 12 = .ok (.return_, 1) := by decide +kernel
theorem dX2_remove_0 : decode cX2_remove 0 = .ok (.aload_n 0, 1) := by decide +kernel
theorem dX2_remove_1 : decode cX2_remove 1 = .ok (.getfield 9, 3) := by decide +kernel
theorem dX2_remove_4 : decode cX2_remove 4 = .ok (.iload_n 1, 1) := by decide +kernel
theorem dX2_remove_5 : decode cX2_remove 5 = .ok (.lconst 0, 1) := by decide +kernel
theorem dX2_remove_6 : decode cX2_remove 6 = .ok (.lastore, 1) := by decide +kernel
theorem dX2_remove_7 : decode cX2_remove 7 = .ok (.return_, 1) := by decide +kernel
theorem dX2_close_0 : decode cX2_close 0 = .ok (.aload_n 0, 1) := by decide +kernel
theorem dX2_close_1 : decode cX2_close 1 = .ok (.getfield 9, 3) := by decide +kernel
theorem dX2_close_4 : decode cX2_close 4 = .ok (.iconst 0, 1) := by decide +kernel
theorem dX2_close_5 : decode cX2_close 5 = .ok (.aload_n 0, 1) := by decide +kernel
theorem dX2_close_6 : decode cX2_close 6 = .ok (.getfield 15, 3) := by decide +kernel
theorem dX2_close_9 : decode cX2_close 9 = .ok (.iconst 0, 1) := by decide +kernel
theorem dX2_close_10 : decode cX2_close 10 = .ok (.aload_n 0, 1) := by decide +kernel
theorem dX2_close_11 : decode cX2_close 11 = .ok (.getfield 24, 3) := by decide +kernel
theorem dX2_close_14 : decode cX2_close 14 = .ok (.invokestatic 34, 3) := by decide +kernel
theorem dX2_close_17 : decode cX2_close 17 = .ok (.iconst 0, 1) := by decide +kernel
theorem dX2_close_18 : decode cX2_close 18 = .ok (.istore_n 1, 1) := by decide +kernel
theorem dX2_close_19 : decode cX2_close 19 = .ok (.iload_n 1, 1) := by decide +kernel
theorem dX2_close_20 : decode cX2_close 20 = .ok (.aload_n 0, 1) := by decide +kernel
theorem dX2_close_21 : decode cX2_close 21 = .ok (.getfield 24, 3) := by decide +kernel
theorem dX2_close_24 : decode cX2_close 24 = .ok (.if_icmp .ge 55, 3) := by decide +kernel
theorem dX2_close_27 : decode cX2_close 27 = .ok (.iconst 0, 1) := by decide +kernel
theorem dX2_close_28 : decode cX2_close 28 = .ok (.istore_n 2, 1) := by decide +kernel
theorem dX2_close_29 : decode cX2_close 29 = .ok (.iload_n 2, 1) := by decide +kernel
theorem dX2_close_30 : decode cX2_close 30 = .ok (.aload_n 0, 1) := by decide +kernel
theorem dX2_close_31 : decode cX2_close 31 = .ok (.getfield 24, 3) := by decide +kernel
theorem dX2_close_34 : decode cX2_close 34 = .ok (.if_icmp .ge 39, 3) := by decide +kernel
theorem dX2_close_37 : decode cX2_close 37 = .ok (.aload_n 0, 1) := by decide +kernel
theorem dX2_close_38 : decode cX2_close 38 = .ok (.getfield 15, 3) := by decide +kernel
theorem dX2_close_41 : decode cX2_close 41 = .ok (.iload_n 2, 1) := by decide +kernel
theorem dX2_close_42 : decode cX2_close 42 = .ok (.laload, 1) := by decide +kernel
theorem dX2_close_43 : decode cX2_close 43 = .ok (.iload_n 1, 1) := by decide +kernel
theorem dX2_close_44 : decode cX2_close 44 = .ok (.lshr, 1) := by decide +kernel
theorem dX2_close_45 : decode cX2_close 45 = .ok (.lconst 1, 1) := by decide +kernel
theorem dX2_close_46 : decode cX2_close 46 = .ok (.land, 1) := by decide +kernel
theorem dX2_close_47 : decode cX2_close 47 = .ok (.lconst 0, 1) := by decide +kernel
theorem dX2_close_48 : decode cX2_close 48 = .ok (.lcmp, 1) := by decide +kernel
theorem dX2_close_49 : decode cX2_close 49 = .ok (.ifCond .eq 18, 3) := by decide +kernel
theorem dX2_close_52 : decode cX2_close 52 = .ok (.aload_n 0, 1) := by decide +kernel
theorem dX2_close_53 : decode cX2_close 53 = .ok (.getfield 15, 3) := by decide +kernel
theorem dX2_close_56 : decode cX2_close 56 = .ok (.iload_n 2, 1) := by decide +kernel
theorem dX2_close_57 : decode cX2_close 57 = .ok (.dup2, 1) := by decide +kernel
theorem dX2_close_58 : decode cX2_close 58 = .ok (.laload, 1) := by decide +kernel
theorem dX2_close_59 : decode cX2_close 59 = .ok (.aload_n 0, 1) := by decide +kernel
theorem dX2_close_60 : decode cX2_close 60 = .ok (.getfield 15, 3) := by decide +kernel
theorem dX2_close_63 : decode cX2_close 63 = .ok (.iload_n 1, 1) := by decide +kernel
theorem dX2_close_64 : decode cX2_close 64 = .ok (.laload, 1) := by decide +kernel
theorem dX2_close_65 : decode cX2_close 65 = .ok (.lor, 1) := by decide +kernel
theorem dX2_close_66 : decode cX2_close 66 = .ok (.lastore, 1) := by decide +kernel
theorem dX2_close_67 : decode cX2_close 67 = .ok (.iinc 2 1, 3) := by decide +kernel
theorem dX2_close_70 : decode cX2_close 70 = .ok (.goto (-41), 3) := by decide +kernel
theorem dX2_close_73 : decode cX2_close 73 = .ok (.iinc 1 1, 3) := by decide +kernel
theorem dX2_close_76 : decode cX2_close 76 = .ok (.goto (-57), 3) := by decide +kernel
theorem dX2_close_79 : decode cX2_close 79 = .ok (.return_, 1) := by decide +kernel
theorem dX2_isInRing_0 : decode cX2_isInRing 0 = .ok (.aload_n 0, 1) := by decide +kernel
theorem dX2_isInRing_1 : decode cX2_isInRing 1 = .ok (.getfield 15, 3) := by decide +kernel
theorem dX2_isInRing_4 : decode cX2_isInRing 4 = .ok (.iload_n 1, 1) := by decide +kernel
theorem dX2_isInRing_5 : decode cX2_isInRing 5 = .ok (.laload, 1) := by decide +kernel
theorem dX2_isInRing_6 : decode cX2_isInRing 6 = .ok (.iload_n 1, 1) := by decide +kernel
theorem dX2_isInRing_7 : decode cX2_isInRing 7 = .ok (.lshr, 1) := by decide +kernel
theorem dX2_isInRing_8 : decode cX2_isInRing 8 = .ok (.lconst 1, 1) := by decide +kernel
theorem dX2_isInRing_9 : decode cX2_isInRing 9 = .ok (.land, 1) := by decide +kernel
theorem dX2_isInRing_10 : decode cX2_isInRing 10 = .ok (.lconst 0, 1) := by decide +kernel
theorem dX2_isInRing_11 : decode cX2_isInRing 11 = .ok (.lcmp, 1) := by decide +kernel
theorem dX2_isInRing_12 : decode cX2_isInRing 12 = .ok (.ifCond .eq 7, 3) := by decide +kernel
theorem dX2_isInRing_15 : decode cX2_isInRing 15 = .ok (.iconst 1, 1) := by decide +kernel
theorem dX2_isInRing_16 : decode cX2_isInRing 16 = .ok (.goto 4, 3) := by decide +kernel
theorem dX2_isInRing_19 : decode cX2_isInRing 19 = .ok (.iconst 0, 1) := by decide +kernel
theorem dX2_isInRing_20 : decode cX2_isInRing 20 = .ok (.ireturn, 1) := by decide +kernel
set_option maxRecDepth 20000 in
theorem ggX3_init_X1_init : GoodIn wsX3_init wsX1_init := goodIn_r _ [25, 26, 2, 3, 4, 27, 56, 57, 58] (by decide +kernel) (by decide +kernel)
set_option maxRecDepth 20000 in
theorem gX3_init_X1_init_n45 : GoodIn wsX3_init (wsX1_init) := ggX3_init_X1_init
set_option maxRecDepth 20000 in
theorem ggX3_init_X2_init : GoodIn wsX3_init wsX2_init := goodIn_r _ [29, 30, 2, 3, 31, 32, 33, 59, 60, 61] (by decide +kernel) (by decide +kernel)
set_option maxRecDepth 20000 in
theorem gX3_init_X2_init_n52 : GoodIn wsX3_init (wsX2_init) := ggX3_init_X2_init
set_option maxRecDepth 20000 in
theorem ggX3_init_J7_fill_53178 : GoodIn wsX3_init wsJ7_fill_53178 := goodIn_r _ [37] (by decide +kernel) (by decide +kernel)
set_option maxRecDepth 20000 in
theorem gX3_init_J7_fill_53178 : GoodIn wsX3_init (va_wsS RX3 57 yJ7_fill_53178 wsJ7_fill_53178) := goodIn_app (goodIn_of _ (by decide +kernel)) ggX3_init_J7_fill_53178
theorem dX3_init_0 : decode cX3_init 0 = .ok (.aload_n 0, 1) := by decide +kernel
theorem dX3_init_1 : decode cX3_init 1 = .ok (.invokespecial 3, 3) := by decide +kernel
theorem dX3_init_4 : decode cX3_init 4 = .ok (.aload_n 0, 1) := by decide +kernel
theorem dX3_init_5 : decode cX3_init 5 = .ok (.bipush 96, 2) := by decide +kernel
theorem dX3_init_7 : decode cX3_init 7 = .ok (.newarray .int, 2) := by decide +kernel
theorem dX3_init_9 : decode cX3_init 9 = .ok (.putfield 9, 3) := by decide +kernel
theorem dX3_init_12 : decode cX3_init 12 = .ok (.aload_n 0, 1) := by decide +kernel
theorem dX3_init_13 : decode cX3_init 13 = .ok (.bipush 8, 2) := by decide +kernel
theorem dX3_init_15 : decode cX3_init 15 = .ok (.newarray .int, 2) := by decide +kernel
theorem dX3_init_17 : decode cX3_init 17 = .ok (.putfield 13, 3) := by decide +kernel
theorem dX3_init_20 : decode cX3_init 20 = .ok (.aload_n 0, 1) := by decide +kernel
theorem dX3_init_21 : decode cX3_init 21 = .ok (.iconst 4, 1) := by decide +kernel
theorem dX3_init_22 : decode cX3_init 22 = .ok (.newarray .int, 2) := by decide +kernel
theorem dX3_init_24 : decode cX3_init 24 = .ok (.putfield 16, 3) := by decide +kernel
theorem dX3_init_27 : decode cX3_init 27 = .ok (.aload_n 0, 1) := by decide +kernel
theorem dX3_init_28 : decode cX3_init 28 = .ok (.bipush 8, 2) := by decide +kernel
theorem dX3_init_30 : decode cX3_init 30 = .ok (.newarray .int, 2) := by decide +kernel
theorem dX3_init_32 : decode cX3_init 32 = .ok (.putfield 19, 3) := by decide +kernel
theorem dX3_init_35 : decode cX3_init 35 = .ok (.aload_n 0, 1) := by decide +kernel
theorem dX3_init_36 : decode cX3_init 36 = .ok (.bipush 32, 2) := by decide +kernel
theorem dX3_init_38 : decode cX3_init 38 = .ok (.newarray .int, 2) := by decide +kernel
theorem dX3_init_40 : decode cX3_init 40 = .ok (.putfield 22, 3) := by decide +kernel
theorem dX3_init_43 : decode cX3_init 43 = .ok (.aload_n 0, 1) := by decide +kernel
theorem dX3_init_44 : decode cX3_init 44 = .ok (.bipush 80, 2) := by decide +kernel
theorem dX3_init_46 : decode cX3_init 46 = .ok (.anewarray 25, 3) := by decide +kernel
theorem dX3_init_49 : decode cX3_init 49 = .ok (.putfield 27, 3) := by decide +kernel
theorem dX3_init_52 : decode cX3_init 52 = .ok (.aload_n 0, 1) := by decide +kernel
theorem dX3_init_53 : decode cX3_init 53 = .ok (.bipush 80, 2) := by decide +kernel
theorem dX3_init_55 : decode cX3_init 55 = .ok (.newarray .int, 2) := by decide +kernel
theorem dX3_init_57 : decode cX3_init 57 = .ok (.putfield 31, 3) := by decide +kernel
theorem dX3_init_60 : decode cX3_init 60 = .ok (.aload_n 0, 1) := by decide +kernel
theorem dX3_init_61 : decode cX3_init 61 = .ok (.bipush 80, 2) := by decide +kernel
theorem dX3_init_63 : decode cX3_init 63 = .ok (.newarray .int, 2) := by decide +kernel
theorem dX3_init_65 : decode cX3_init 65 = .ok (.putfield 34, 3) := by decide +kernel
theorem dX3_init_68 : decode cX3_init 68 = .ok (.aload_n 0, 1) := by decide +kernel
theorem dX3_init_69 : decode cX3_init 69 = .ok (.bipush 36, 2) := by decide +kernel
theorem dX3_init_71 : decode cX3_init 71 = .ok (.newarray .int, 2) := by decide +kernel
theorem dX3_init_73 : decode cX3_init 73 = .ok (.putfield 37, 3) := by decide +kernel
theorem dX3_init_76 : decode cX3_init 76 = .ok (.aload_n 0, 1) := by decide +kernel
theorem dX3_init_77 : decode cX3_init 77 = .ok (.iconst 4, 1) := by decide +kernel
theorem dX3_init_78 : decode cX3_init 78 = .ok (.newarray .int, 2) := by decide +kernel
theorem dX3_init_80 : decode cX3_init 80 = .ok (.putfield 40, 3) := by decide +kernel
theorem dX3_init_83 : decode cX3_init 83 = .ok (.aload_n 0, 1) := by decide +kernel
theorem dX3_init_84 : decode cX3_init 84 = .ok (.new 43, 3) := by decide +kernel
theorem dX3_init_87 : decode cX3_init 87 = .ok (.dup, 1) := by decide +kernel
theorem dX3_init_88 : decode cX3_init 88 = .ok (.invokespecial 45, 3) := by decide +kernel
theorem dX3_init_91 : decode cX3_init 91 = .ok (.putfield 46, 3) := by decide +kernel
theorem dX3_init_94 : decode cX3_init 94 = .ok (.aload_n 0, 1) := by decide +kernel
theorem dX3_init_95 : decode cX3_init 95 = .ok (.new 50, 3) := by decide +kernel
theorem dX3_init_98 : decode cX3_init 98 = .ok (.dup, 1) := by decide +kernel
theorem dX3_init_99 : decode cX3_init 99 = .ok (.invokespecial 52, 3) := by decide +kernel
theorem dX3_init_102 : decode cX3_init 102 = .ok (.putfield 53, 3) := by decide +kernel
theorem dX3_init_105 : decode cX3_init 105 = .ok (.aload_n 0, 1) := by decide +kernel
theorem dX3_init_106 : decode cX3_init 106 = .ok (.getfield 16, 3) := by decide +kernel
theorem dX3_init_109 : decode cX3_init 109 = .ok (.iconst 3, 1) := by decide +kernel
theorem dX3_init_110 : decode cX3_init 110 = .ok (.invokestatic 57, 3) := by decide +kernel
theorem dX3_init_113 : decode cX3_init 113 = .ok (.return_, 1) := by decide +kernel
set_option maxRecDepth 20000 in
theorem ggX3_program_X3_isBelow : GoodIn wsX3_program wsX3_isBelow := goodIn_r _ [5] (by decide +kernel) (by decide +kernel)
set_option maxRecDepth 20000 in
theorem gX3_program_X3_isBelow : GoodIn wsX3_program (va_wsS RX3 63 yX3_isBelow wsX3_isBelow) := goodIn_app (goodIn_of _ (by decide +kernel)) ggX3_program_X3_isBelow
theorem dX3_program_0 : decode cX3_program 0 = .ok (.iload_n 1, 1) := by decide +kernel
theorem dX3_program_1 : decode cX3_program 1 = .ok (.bipush 8, 2) := by decide +kernel
theorem dX3_program_3 : decode cX3_program 3 = .ok (.invokestatic 63, 3) := by decide +kernel
theorem dX3_program_6 : decode cX3_program 6 = .ok (.ifCond .ne 5, 3) := by decide +kernel
theorem dX3_program_9 : decode cX3_program 9 = .ok (.iconst 0, 1) := by decide +kernel
theorem dX3_program_10 : decode cX3_program 10 = .ok (.ireturn, 1) := by decide +kernel
theorem dX3_program_11 : decode cX3_program 11 = .ok (.aload_n 0, 1) := by decide +kernel
theorem dX3_program_12 : decode cX3_program 12 = .ok (.getfield 13, 3) := by decide +kernel
theorem dX3_program_15 : decode cX3_program 15 = .ok (.iload_n 1, 1) := by decide +kernel
theorem dX3_program_16 : decode cX3_program 16 = .ok (.iconst 0, 1) := by decide +kernel
theorem dX3_program_17 : decode cX3_program 17 = .ok (.iastore, 1) := by decide +kernel
theorem dX3_program_18 : decode cX3_program 18 = .ok (.iconst 1, 1) := by decide +kernel
theorem dX3_program_19 : decode cX3_program 19 = .ok (.ireturn, 1) := by decide +kernel
set_option maxRecDepth 20000 in
theorem ggX3_step_X3_isBelow : GoodIn wsX3_step wsX3_isBelow := goodIn_r _ [6] (by decide +kernel) (by decide +kernel)
set_option maxRecDepth 20000 in
theorem gX3_step_X3_isBelow : GoodIn wsX3_step (va_wsS RX3 63 yX3_isBelow wsX3_isBelow) := goodIn_app (goodIn_of _ (by decide +kernel)) ggX3_step_X3_isBelow
set_option maxRecDepth 20000 in
theorem ggX3_step_X3_isStep : GoodIn wsX3_step wsX3_isStep := goodIn_r _ [9, 10, 11, 5, 12, 13, 14, 15] (by decide +kernel) (by decide +kernel)
set_option maxRecDepth 20000 in
theorem gX3_step_X3_isStep : GoodIn wsX3_step (va_wsS RX3 67 yX3_isStep wsX3_isStep) := goodIn_app (goodIn_of _ (by decide +kernel)) ggX3_step_X3_isStep
theorem dX3_step_0 : decode cX3_step 0 = .ok (.iload_n 1, 1) := by decide +kernel
theorem dX3_step_1 : decode cX3_step 1 = .ok (.bipush 8, 2) := by decide +kernel
theorem dX3_step_3 : decode cX3_step 3 = .ok (.invokestatic 63, 3) := by decide +kernel
theorem dX3_step_6 : decode cX3_step 6 = .ok (.ifCond .eq 10, 3) := by decide +kernel
theorem dX3_step_9 : decode cX3_step 9 = .ok (.iload_n 2, 1) := by decide +kernel
theorem dX3_step_10 : decode cX3_step 10 = .ok (.invokestatic 67, 3) := by decide +kernel
theorem dX3_step_13 : decode cX3_step 13 = .ok (.ifCond .ne 5, 3) := by decide +kernel
theorem dX3_step_16 : decode cX3_step 16 = .ok (.iconst (-1), 1) := by decide +kernel
theorem dX3_step_17 : decode cX3_step 17 = .ok (.ireturn, 1) := by decide +kernel
theorem dX3_step_18 : decode cX3_step 18 = .ok (.aload_n 0, 1) := by decide +kernel
theorem dX3_step_19 : decode cX3_step 19 = .ok (.getfield 13, 3) := by decide +kernel
theorem dX3_step_22 : decode cX3_step 22 = .ok (.iload_n 1, 1) := by decide +kernel
theorem dX3_step_23 : decode cX3_step 23 = .ok (.iaload, 1) := by decide +kernel
theorem dX3_step_24 : decode cX3_step 24 = .ok (.istore_n 3, 1) := by decide +kernel
theorem dX3_step_25 : decode cX3_step 25 = .ok (.iload_n 3, 1) := by decide +kernel
theorem dX3_step_26 : decode cX3_step 26 = .ok (.bipush 12, 2) := by decide +kernel
theorem dX3_step_28 : decode cX3_step 28 = .ok (.if_icmp .lt 5, 3) := by decide +kernel
theorem dX3_step_31 : decode cX3_step 31 = .ok (.iconst (-1), 1) := by decide +kernel
theorem dX3_step_32 : decode cX3_step 32 = .ok (.ireturn, 1) := by decide +kernel
theorem dX3_step_33 : decode cX3_step 33 = .ok (.aload_n 0, 1) := by decide +kernel
theorem dX3_step_34 : decode cX3_step 34 = .ok (.getfield 9, 3) := by decide +kernel
theorem dX3_step_37 : decode cX3_step 37 = .ok (.iload_n 1, 1) := by decide +kernel
theorem dX3_step_38 : decode cX3_step 38 = .ok (.bipush 12, 2) := by decide +kernel
theorem dX3_step_40 : decode cX3_step 40 = .ok (.imul, 1) := by decide +kernel
theorem dX3_step_41 : decode cX3_step 41 = .ok (.iload_n 3, 1) := by decide +kernel
theorem dX3_step_42 : decode cX3_step 42 = .ok (.iadd, 1) := by decide +kernel
theorem dX3_step_43 : decode cX3_step 43 = .ok (.iload_n 2, 1) := by decide +kernel
theorem dX3_step_44 : decode cX3_step 44 = .ok (.iastore, 1) := by decide +kernel
theorem dX3_step_45 : decode cX3_step 45 = .ok (.aload_n 0, 1) := by decide +kernel
theorem dX3_step_46 : decode cX3_step 46 = .ok (.getfield 13, 3) := by decide +kernel
theorem dX3_step_49 : decode cX3_step 49 = .ok (.iload_n 1, 1) := by decide +kernel
theorem dX3_step_50 : decode cX3_step 50 = .ok (.iload_n 3, 1) := by decide +kernel
theorem dX3_step_51 : decode cX3_step 51 = .ok (.iconst 1, 1) := by decide +kernel
theorem dX3_step_52 : decode cX3_step 52 = .ok (.iadd, 1) := by decide +kernel
theorem dX3_step_53 : decode cX3_step 53 = .ok (.iastore, 1) := by decide +kernel
theorem dX3_step_54 : decode cX3_step 54 = .ok (.iload_n 3, 1) := by decide +kernel
theorem dX3_step_55 : decode cX3_step 55 = .ok (.iconst 1, 1) := by decide +kernel
theorem dX3_step_56 : decode cX3_step 56 = .ok (.iadd, 1) := by decide +kernel
theorem dX3_step_57 : decode cX3_step 57 = .ok (.ireturn, 1) := by decide +kernel
set_option maxRecDepth 20000 in
theorem ggX3_act_X3_isBelow : GoodIn wsX3_act wsX3_isBelow := goodIn_r _ [4] (by decide +kernel) (by decide +kernel)
set_option maxRecDepth 20000 in
theorem gX3_act_X3_isBelow : GoodIn wsX3_act (va_wsS RX3 63 yX3_isBelow wsX3_isBelow) := goodIn_app (goodIn_of _ (by decide +kernel)) ggX3_act_X3_isBelow
set_option maxRecDepth 20000 in
theorem ggX3_act_X3_admit : GoodIn wsX3_act wsX3_admit := goodIn_r _ [8, 9, 10, 11, 12, 13, 14, 15, 16, 17, 18, 19, 20, 21, 22, 23, 24, 25, 26, 27, 28, 29, 30, 31, 32, 33, 34, 35, 36, 37, 38, 39, 40, 41, 42, 43, 44, 45, 46, 47, 48, 49, 50, 51, 52, 53, 54, 55, 56, 57, 58, 59, 60, 61, 62, 63, 64, 65, 66, 67, 68, 69, 70, 71, 72, 73, 74, 75] (by decide +kernel) (by decide +kernel)
set_option maxRecDepth 20000 in
theorem gX3_act_X3_admit : GoodIn wsX3_act (wsV RX3 71 RX3 yX3_admit wsX3_admit) := goodIn_app (goodIn_of _ (by decide +kernel)) ggX3_act_X3_admit
theorem dX3_act_0 : decode cX3_act 0 = .ok (.iload_n 1, 1) := by decide +kernel
theorem dX3_act_1 : decode cX3_act 1 = .ok (.bipush 8, 2) := by decide +kernel
theorem dX3_act_3 : decode cX3_act 3 = .ok (.invokestatic 63, 3) := by decide +kernel
theorem dX3_act_6 : decode cX3_act 6 = .ok (.ifCond .eq 20, 3) := by decide +kernel
theorem dX3_act_9 : decode cX3_act 9 = .ok (.iload_n 2, 1) := by decide +kernel
theorem dX3_act_10 : decode cX3_act 10 = .ok (.iconst 4, 1) := by decide +kernel
theorem dX3_act_11 : decode cX3_act 11 = .ok (.invokestatic 63, 3) := by decide +kernel
theorem dX3_act_14 : decode cX3_act 14 = .ok (.ifCond .eq 12, 3) := by decide +kernel
theorem dX3_act_17 : decode cX3_act 17 = .ok (.iload_n 3, 1) := by decide +kernel
theorem dX3_act_18 : decode cX3_act 18 = .ok (.bipush 10, 2) := by decide +kernel
theorem dX3_act_20 : decode cX3_act 20 = .ok (.invokestatic 63, 3) := by decide +kernel
theorem dX3_act_23 : decode cX3_act 23 = .ok (.ifCond .ne 5, 3) := by decide +kernel
theorem dX3_act_26 : decode cX3_act 26 = .ok (.iconst (-1), 1) := by decide +kernel
theorem dX3_act_27 : decode cX3_act 27 = .ok (.ireturn, 1) := by decide +kernel
theorem dX3_act_28 : decode cX3_act 28 = .ok (.aload_n 0, 1) := by decide +kernel
theorem dX3_act_29 : decode cX3_act 29 = .ok (.iload_n 1, 1) := by decide +kernel
theorem dX3_act_30 : decode cX3_act 30 = .ok (.iload_n 2, 1) := by decide +kernel
theorem dX3_act_31 : decode cX3_act 31 = .ok (.iload_n 3, 1) := by decide +kernel
theorem dX3_act_32 : decode cX3_act 32 = .ok (.iconst (-1), 1) := by decide +kernel
theorem dX3_act_33 : decode cX3_act 33 = .ok (.invokevirtual 71, 3) := by decide +kernel
theorem dX3_act_36 : decode cX3_act 36 = .ok (.ireturn, 1) := by decide +kernel
set_option maxRecDepth 20000 in
theorem ggX3_limit_X3_isBelow : GoodIn wsX3_limit wsX3_isBelow := goodIn_r _ [5] (by decide +kernel) (by decide +kernel)
set_option maxRecDepth 20000 in
theorem gX3_limit_X3_isBelow : GoodIn wsX3_limit (va_wsS RX3 63 yX3_isBelow wsX3_isBelow) := goodIn_app (goodIn_of _ (by decide +kernel)) ggX3_limit_X3_isBelow
theorem dX3_limit_0 : decode cX3_limit 0 = .ok (.iload_n 1, 1) := by decide +kernel
theorem dX3_limit_1 : decode cX3_limit 1 = .ok (.iconst 4, 1) := by decide +kernel
theorem dX3_limit_2 : decode cX3_limit 2 = .ok (.invokestatic 63, 3) := by decide +kernel
theorem dX3_limit_5 : decode cX3_limit 5 = .ok (.ifCond .eq 13, 3) := by decide +kernel
theorem dX3_limit_8 : decode cX3_limit 8 = .ok (.iload_n 2, 1) := by decide +kernel
theorem dX3_limit_9 : decode cX3_limit 9 = .ok (.ifCond .lt 9, 3) := by decide +kernel
theorem dX3_limit_12 : decode cX3_limit 12 = .ok (.iload_n 2, 1) := by decide +kernel
theorem dX3_limit_13 : decode cX3_limit 13 = .ok (.bipush 9, 2) := by decide +kernel
theorem dX3_limit_15 : decode cX3_limit 15 = .ok (.if_icmp .le 5, 3) := by decide +kernel
theorem dX3_limit_18 : decode cX3_limit 18 = .ok (.iconst 0, 1) := by decide +kernel
theorem dX3_limit_19 : decode cX3_limit 19 = .ok (.ireturn, 1) := by decide +kernel
theorem dX3_limit_20 : decode cX3_limit 20 = .ok (.aload_n 0, 1) := by decide +kernel
theorem dX3_limit_21 : decode cX3_limit 21 = .ok (.getfield 16, 3) := by decide +kernel
theorem dX3_limit_24 : decode cX3_limit 24 = .ok (.iload_n 1, 1) := by decide +kernel
theorem dX3_limit_25 : decode cX3_limit 25 = .ok (.iload_n 2, 1) := by decide +kernel
theorem dX3_limit_26 : decode cX3_limit 26 = .ok (.iastore, 1) := by decide +kernel
theorem dX3_limit_27 : decode cX3_limit 27 = .ok (.iconst 1, 1) := by decide +kernel
theorem dX3_limit_28 : decode cX3_limit 28 = .ok (.ireturn, 1) := by decide +kernel
set_option maxRecDepth 20000 in
theorem ggX3_floor_X3_isBelow : GoodIn wsX3_floor wsX3_isBelow := goodIn_r _ [5] (by decide +kernel) (by decide +kernel)
set_option maxRecDepth 20000 in
theorem gX3_floor_X3_isBelow : GoodIn wsX3_floor (va_wsS RX3 63 yX3_isBelow wsX3_isBelow) := goodIn_app (goodIn_of _ (by decide +kernel)) ggX3_floor_X3_isBelow
set_option maxRecDepth 20000 in
theorem ggX3_floor_X3_leastToCome : GoodIn wsX3_floor wsX3_leastToCome := goodIn_r _ [9, 10, 11, 12, 13, 14, 15, 16, 17, 18, 19, 20, 21, 22, 23, 24, 25, 26, 27, 28, 29, 30, 31, 32, 33, 34, 35, 36, 37, 38, 39, 40, 41, 42, 43, 44, 45, 46, 47, 48, 49, 50, 51, 52] (by decide +kernel) (by decide +kernel)
set_option maxRecDepth 20000 in
theorem gX3_floor_X3_leastToCome : GoodIn wsX3_floor (wsV RX3 75 RX3 yX3_leastToCome wsX3_leastToCome) := goodIn_app (goodIn_of _ (by decide +kernel)) ggX3_floor_X3_leastToCome
theorem dX3_floor_0 : decode cX3_floor 0 = .ok (.iload_n 1, 1) := by decide +kernel
theorem dX3_floor_1 : decode cX3_floor 1 = .ok (.bipush 8, 2) := by decide +kernel
theorem dX3_floor_3 : decode cX3_floor 3 = .ok (.invokestatic 63, 3) := by decide +kernel
theorem dX3_floor_6 : decode cX3_floor 6 = .ok (.ifCond .eq 14, 3) := by decide +kernel
theorem dX3_floor_9 : decode cX3_floor 9 = .ok (.iload_n 2, 1) := by decide +kernel
theorem dX3_floor_10 : decode cX3_floor 10 = .ok (.sipush (-1000), 3) := by decide +kernel
theorem dX3_floor_13 : decode cX3_floor 13 = .ok (.if_icmp .lt 7, 3) := by decide +kernel
theorem dX3_floor_16 : decode cX3_floor 16 = .ok (.iload_n 2, 1) := by decide +kernel
theorem dX3_floor_17 : decode cX3_floor 17 = .ok (.ifCond .le 5, 3) := by decide +kernel
theorem dX3_floor_20 : decode cX3_floor 20 = .ok (.iconst 0, 1) := by decide +kernel
theorem dX3_floor_21 : decode cX3_floor 21 = .ok (.ireturn, 1) := by decide +kernel
theorem dX3_floor_22 : decode cX3_floor 22 = .ok (.aload_n 0, 1) := by decide +kernel
theorem dX3_floor_23 : decode cX3_floor 23 = .ok (.iload_n 1, 1) := by decide +kernel
theorem dX3_floor_24 : decode cX3_floor 24 = .ok (.invokevirtual 75, 3) := by decide +kernel
theorem dX3_floor_27 : decode cX3_floor 27 = .ok (.iload_n 2, 1) := by decide +kernel
theorem dX3_floor_28 : decode cX3_floor 28 = .ok (.if_icmp .ge 5, 3) := by decide +kernel
theorem dX3_floor_31 : decode cX3_floor 31 = .ok (.iconst 0, 1) := by decide +kernel
theorem dX3_floor_32 : decode cX3_floor 32 = .ok (.ireturn, 1) := by decide +kernel
theorem dX3_floor_33 : decode cX3_floor 33 = .ok (.aload_n 0, 1) := by decide +kernel
theorem dX3_floor_34 : decode cX3_floor 34 = .ok (.getfield 19, 3) := by decide +kernel
theorem dX3_floor_37 : decode cX3_floor 37 = .ok (.iload_n 1, 1) := by decide +kernel
theorem dX3_floor_38 : decode cX3_floor 38 = .ok (.iload_n 2, 1) := by decide +kernel
theorem dX3_floor_39 : decode cX3_floor 39 = .ok (.iastore, 1) := by decide +kernel
theorem dX3_floor_40 : decode cX3_floor 40 = .ok (.iconst 1, 1) := by decide +kernel
theorem dX3_floor_41 : decode cX3_floor 41 = .ok (.ireturn, 1) := by decide +kernel
set_option maxRecDepth 20000 in
theorem ggX3_go_X3_passTick : GoodIn wsX3_go wsX3_passTick := goodIn_r _ [6, 1, 7, 8, 9, 5, 10, 11, 12, 13, 14, 15, 16, 17, 18, 19, 20, 21, 22, 23, 24, 25, 26, 27, 28, 29, 30, 31, 32, 33, 34, 35, 36, 37, 38, 39, 40, 41, 42, 43, 44, 45, 46, 47, 48, 49, 50, 51, 52, 53, 54, 55, 56, 57, 58, 59, 60, 61, 62, 63, 64, 65, 66, 67, 68, 69, 70, 71, 72, 73, 74, 75, 76, 77, 78, 79, 80, 81, 82, 83, 84, 85, 86, 87, 88, 89, 90, 91, 92, 93, 94, 95, 96, 97, 98, 99, 100, 101, 102, 103, 104, 105, 106, 107, 108, 109, 110, 111, 112, 113, 114, 115, 116, 117, 118, 119, 120, 121, 122, 123, 124, 125, 126, 127, 128, 129, 130, 131, 132, 133, 134, 135, 136, 137, 138, 139, 140, 141, 142, 143, 144, 145, 146, 147, 148, 149, 150, 151, 152, 153, 154, 155, 156, 157, 158, 159, 160, 161, 162, 163, 164, 165, 166, 167, 168, 169, 170, 171, 172, 173, 174, 175, 176, 177, 178, 179, 180, 181, 182, 183, 184, 185, 186, 187, 188, 189, 190, 191, 192, 193, 194, 195, 196, 197, 198, 199, 200, 201, 202, 203, 204, 205, 206, 207, 208, 209, 210, 211, 212, 213, 214, 215, 216, 217, 218, 219, 220, 221, 222, 223, 224, 225, 226, 227, 228, 229, 230, 231, 232, 233, 234, 235, 236, 237, 238, 239, 240, 241, 242, 243, 244, 245, 246, 247, 248, 249, 250, 251, 252, 253, 254, 255, 256, 257, 258, 259, 260, 261, 262, 263, 264, 265, 266, 267, 268, 269, 270, 271, 272, 273, 274, 275, 276, 277, 278, 279, 280, 281, 282, 283, 284, 285, 286, 287, 288, 289, 290, 291, 292, 293, 294, 295, 296, 297, 298, 299, 300, 301, 302, 303, 304, 305, 306, 307, 308, 309, 310, 311] (by decide +kernel) (by decide +kernel)
set_option maxRecDepth 20000 in
theorem gX3_go_X3_passTick : GoodIn wsX3_go (wsV RX3 83 RX3 yX3_passTick wsX3_passTick) := goodIn_app (goodIn_of _ (by decide +kernel)) ggX3_go_X3_passTick
theorem dX3_go_0 : decode cX3_go 0 = .ok (.iload_n 1, 1) := by decide +kernel
theorem dX3_go_1 : decode cX3_go 1 = .ok (.ifCond .lt 10, 3) := by decide +kernel
theorem dX3_go_4 : decode cX3_go 4 = .ok (.iload_n 1, 1) := by decide +kernel
theorem dX3_go_5 : decode cX3_go 5 = .ok (.sipush 200, 3) := by decide +kernel
theorem dX3_go_8 : decode cX3_go 8 = .ok (.if_icmp .le 5, 3) := by decide +kernel
theorem dX3_go_11 : decode cX3_go 11 = .ok (.iconst (-1), 1) := by decide +kernel
theorem dX3_go_12 : decode cX3_go 12 = .ok (.ireturn, 1) := by decide +kernel
theorem dX3_go_13 : decode cX3_go 13 = .ok (.iconst 0, 1) := by decide +kernel
theorem dX3_go_14 : decode cX3_go 14 = .ok (.istore_n 2, 1) := by decide +kernel
theorem dX3_go_15 : decode cX3_go 15 = .ok (.iload_n 2, 1) := by decide +kernel
theorem dX3_go_16 : decode cX3_go 16 = .ok (.iload_n 1, 1) := by decide +kernel
theorem dX3_go_17 : decode cX3_go 17 = .ok (.if_icmp .ge 23, 3) := by decide +kernel
theorem dX3_go_20 : decode cX3_go 20 = .ok (.aload_n 0, 1) := by decide +kernel
theorem dX3_go_21 : decode cX3_go 21 = .ok (.getfield 79, 3) := by decide +kernel
theorem dX3_go_24 : decode cX3_go 24 = .ok (.sipush 5000, 3) := by decide +kernel
theorem dX3_go_27 : decode cX3_go 27 = .ok (.if_icmp .ge 13, 3) := by decide +kernel
theorem dX3_go_30 : decode cX3_go 30 = .ok (.aload_n 0, 1) := by decide +kernel
theorem dX3_go_31 : decode cX3_go 31 = .ok (.invokevirtual 83, 3) := by decide +kernel
theorem dX3_go_34 : decode cX3_go 34 = .ok (.iinc 2 1, 3) := by decide +kernel
theorem dX3_go_37 : decode cX3_go 37 = .ok (.goto (-22), 3) := by decide +kernel
theorem dX3_go_40 : decode cX3_go 40 = .ok (.aload_n 0, 1) := by decide +kernel
theorem dX3_go_41 : decode cX3_go 41 = .ok (.getfield 79, 3) := by decide +kernel
theorem dX3_go_44 : decode cX3_go 44 = .ok (.ireturn, 1) := by decide +kernel
set_option maxRecDepth 20000 in
theorem ggX3_fall_X1_cut : GoodIn wsX3_fall wsX1_cut := goodIn_r _ [10, 11, 91, 92, 93] (by decide +kernel) (by decide +kernel)
set_option maxRecDepth 20000 in
theorem gX3_fall_X1_cut : GoodIn wsX3_fall (wsV RX3 92 RX1 yX1_cut wsX1_cut) := goodIn_app (goodIn_of _ (by decide +kernel)) ggX3_fall_X1_cut
set_option maxRecDepth 20000 in
theorem ggX3_fall_X1_keepAll : GoodIn wsX3_fall wsX1_keepAll := goodIn_r _ [15, 11, 16, 91, 92, 93] (by decide +kernel) (by decide +kernel)
set_option maxRecDepth 20000 in
theorem gX3_fall_X1_keepAll : GoodIn wsX3_fall (wsV RX3 96 RX1 yX1_keepAll wsX1_keepAll) := goodIn_app (goodIn_of _ (by decide +kernel)) ggX3_fall_X1_keepAll
set_option maxRecDepth 20000 in
theorem ggX3_fall_X3_isLost : GoodIn wsX3_fall wsX3_isLost := goodIn_r _ [21, 22, 23, 24, 1, 2, 73, 74, 75, 76, 77, 78, 79, 80, 81, 82, 83, 84, 85, 86, 87, 88, 89, 90, 94, 95, 96, 97, 98, 99, 100, 101, 102, 103, 104, 105, 106, 107, 108, 109, 110, 111, 112, 113, 91, 92, 93] (by decide +kernel) (by decide +kernel)
set_option maxRecDepth 20000 in
theorem gX3_fall_X3_isLost : GoodIn wsX3_fall (wsV RX3 105 RX3 yX3_isLost wsX3_isLost) := goodIn_app (goodIn_of _ (by decide +kernel)) ggX3_fall_X3_isLost
set_option maxRecDepth 20000 in
theorem ggX3_fall_X3_fallAct : GoodIn wsX3_fall wsX3_fallAct := goodIn_r _ [28, 22, 29, 23, 24, 1, 2, 17, 18, 19, 20, 21, 30, 31, 32, 33, 34, 35, 36, 37, 38, 39, 40, 41, 42, 43, 44, 45, 46, 47, 48, 49, 50, 51, 73, 74, 75, 76, 77, 78, 79, 80, 81, 82, 83, 84, 85, 86, 87, 88, 89, 90, 94, 95, 96, 97, 98, 99, 100, 101, 102, 103, 104, 105, 106, 107, 108, 109, 110, 111, 112, 113, 91, 92, 93] (by decide +kernel) (by decide +kernel)
set_option maxRecDepth 20000 in
theorem gX3_fall_X3_fallAct : GoodIn wsX3_fall (wsV RX3 108 RX3 yX3_fallAct wsX3_fallAct) := goodIn_app (goodIn_of _ (by decide +kernel)) ggX3_fall_X3_fallAct
set_option maxRecDepth 20000 in
theorem ggX3_fall_X3_dropUndoneFromRow : GoodIn wsX3_fall wsX3_dropUndoneFromRow := goodIn_r _ [55, 56, 22, 57, 23, 73, 74, 75, 76, 77, 78, 79, 80, 81, 82, 83, 84, 85, 86, 87, 88, 89, 90, 94, 95, 96, 97, 98, 99, 100, 101, 102, 103, 104, 105, 106, 107, 108, 109, 110, 111, 112, 113] (by decide +kernel) (by decide +kernel)
set_option maxRecDepth 20000 in
theorem gX3_fall_X3_dropUndoneFromRow : GoodIn wsX3_fall (wsV RX3 111 RX3 yX3_dropUndoneFromRow wsX3_dropUndoneFromRow) := goodIn_app (goodIn_of _ (by decide +kernel)) ggX3_fall_X3_dropUndoneFromRow
set_option maxRecDepth 20000 in
theorem ggX3_fall_X3_retellValues : GoodIn wsX3_fall wsX3_retellValues := goodIn_r _ [61, 62, 56, 22, 57, 63, 43, 44, 45, 64, 65, 66, 20, 67, 68, 69, 70, 33, 71, 39, 72, 40, 73, 74, 75, 76, 77, 78, 79, 80, 81, 82, 83, 84, 85, 86, 87, 88, 89, 90, 94, 95, 96, 97, 98, 99, 100, 101, 102, 103, 104, 105, 106, 107, 108, 109, 110, 111, 112, 113] (by decide +kernel) (by decide +kernel)
set_option maxRecDepth 20000 in
theorem gX3_fall_X3_retellValues : GoodIn wsX3_fall (wsV RX3 114 RX3 yX3_retellValues wsX3_retellValues) := goodIn_app (goodIn_of _ (by decide +kernel)) ggX3_fall_X3_retellValues
theorem dX3_fall_0 : decode cX3_fall 0 = .ok (.iload_n 1, 1) := by decide +kernel
theorem dX3_fall_1 : decode cX3_fall 1 = .ok (.ifCond .lt 22, 3) := by decide +kernel
theorem dX3_fall_4 : decode cX3_fall 4 = .ok (.iload_n 1, 1) := by decide +kernel
theorem dX3_fall_5 : decode cX3_fall 5 = .ok (.aload_n 0, 1) := by decide +kernel
theorem dX3_fall_6 : decode cX3_fall 6 = .ok (.getfield 46, 3) := by decide +kernel
theorem dX3_fall_9 : decode cX3_fall 9 = .ok (.getfield 86, 3) := by decide +kernel
theorem dX3_fall_12 : decode cX3_fall 12 = .ok (.aload_n 0, 1) := by decide +kernel
theorem dX3_fall_13 : decode cX3_fall 13 = .ok (.getfield 46, 3) := by decide +kernel
theorem dX3_fall_16 : decode cX3_fall 16 = .ok (.getfield 89, 3) := by decide +kernel
theorem dX3_fall_19 : decode cX3_fall 19 = .ok (.isub, 1) := by decide +kernel
theorem dX3_fall_20 : decode cX3_fall 20 = .ok (.if_icmp .le 5, 3) := by decide +kernel
theorem dX3_fall_23 : decode cX3_fall 23 = .ok (.iconst (-1), 1) := by decide +kernel
theorem dX3_fall_24 : decode cX3_fall 24 = .ok (.ireturn, 1) := by decide +kernel
theorem dX3_fall_25 : decode cX3_fall 25 = .ok (.aload_n 0, 1) := by decide +kernel
theorem dX3_fall_26 : decode cX3_fall 26 = .ok (.getfield 46, 3) := by decide +kernel
theorem dX3_fall_29 : decode cX3_fall 29 = .ok (.aload_n 0, 1) := by decide +kernel
theorem dX3_fall_30 : decode cX3_fall 30 = .ok (.getfield 46, 3) := by decide +kernel
theorem dX3_fall_33 : decode cX3_fall 33 = .ok (.getfield 89, 3) := by decide +kernel
theorem dX3_fall_36 : decode cX3_fall 36 = .ok (.iload_n 1, 1) := by decide +kernel
theorem dX3_fall_37 : decode cX3_fall 37 = .ok (.iadd, 1) := by decide +kernel
theorem dX3_fall_38 : decode cX3_fall 38 = .ok (.invokevirtual 92, 3) := by decide +kernel
theorem dX3_fall_41 : decode cX3_fall 41 = .ok (.aload_n 0, 1) := by decide +kernel
theorem dX3_fall_42 : decode cX3_fall 42 = .ok (.getfield 46, 3) := by decide +kernel
theorem dX3_fall_45 : decode cX3_fall 45 = .ok (.invokevirtual 96, 3) := by decide +kernel
theorem dX3_fall_48 : decode cX3_fall 48 = .ok (.aload_n 0, 1) := by decide +kernel
theorem dX3_fall_49 : decode cX3_fall 49 = .ok (.dup, 1) := by decide +kernel
theorem dX3_fall_50 : decode cX3_fall 50 = .ok (.getfield 99, 3) := by decide +kernel
theorem dX3_fall_53 : decode cX3_fall 53 = .ok (.iconst 1, 1) := by decide +kernel
theorem dX3_fall_54 : decode cX3_fall 54 = .ok (.iadd, 1) := by decide +kernel
theorem dX3_fall_55 : decode cX3_fall 55 = .ok (.putfield 99, 3) := by decide +kernel
theorem dX3_fall_58 : decode cX3_fall 58 = .ok (.iconst 0, 1) := by decide +kernel
theorem dX3_fall_59 : decode cX3_fall 59 = .ok (.istore_n 2, 1) := by decide +kernel
theorem dX3_fall_60 : decode cX3_fall 60 = .ok (.aload_n 0, 1) := by decide +kernel
theorem dX3_fall_61 : decode cX3_fall 61 = .ok (.getfield 102, 3) := by decide +kernel
theorem dX3_fall_64 : decode cX3_fall 64 = .ok (.iconst 1, 1) := by decide +kernel
theorem dX3_fall_65 : decode cX3_fall 65 = .ok (.isub, 1) := by decide +kernel
theorem dX3_fall_66 : decode cX3_fall 66 = .ok (.istore_n 3, 1) := by decide +kernel
theorem dX3_fall_67 : decode cX3_fall 67 = .ok (.iload_n 3, 1) := by decide +kernel
theorem dX3_fall_68 : decode cX3_fall 68 = .ok (.ifCond .lt 25, 3) := by decide +kernel
theorem dX3_fall_71 : decode cX3_fall 71 = .ok (.aload_n 0, 1) := by decide +kernel
theorem dX3_fall_72 : decode cX3_fall 72 = .ok (.iload_n 3, 1) := by decide +kernel
theorem dX3_fall_73 : decode cX3_fall 73 = .ok (.invokevirtual 105, 3) := by decide +kernel
theorem dX3_fall_76 : decode cX3_fall 76 = .ok (.ifCond .eq 6, 3) := by decide +kernel
theorem dX3_fall_79 : decode cX3_fall 79 = .ok (.iinc 2 1, 3) := by decide +kernel
theorem dX3_fall_82 : decode cX3_fall 82 = .ok (.aload_n 0, 1) := by decide +kernel
theorem dX3_fall_83 : decode cX3_fall 83 = .ok (.iload_n 3, 1) := by decide +kernel
theorem dX3_fall_84 : decode cX3_fall 84 = .ok (.invokevirtual 108, 3) := by decide +kernel
theorem dX3_fall_87 : decode cX3_fall 87 = .ok (.iinc 3 (-1), 3) := by decide +kernel
theorem dX3_fall_90 : decode cX3_fall 90 = .ok (.goto (-23), 3) := by decide +kernel
theorem dX3_fall_93 : decode cX3_fall 93 = .ok (.aload_n 0, 1) := by decide +kernel
theorem dX3_fall_94 : decode cX3_fall 94 = .ok (.invokevirtual 111, 3) := by decide +kernel
theorem dX3_fall_97 : decode cX3_fall 97 = .ok (.aload_n 0, 1) := by decide +kernel
theorem dX3_fall_98 : decode cX3_fall 98 = .ok (.invokevirtual 114, 3) := by decide +kernel
theorem dX3_fall_101 : decode cX3_fall 101 = .ok (.iload_n 2, 1) := by decide +kernel
theorem dX3_fall_102 : decode cX3_fall 102 = .ok (.ireturn, 1) := by decide +kernel
set_option maxRecDepth 20000 in
theorem ggX3_told_X3_isBelow : GoodIn wsX3_told wsX3_isBelow := goodIn_r _ [17] (by decide +kernel) (by decide +kernel)
set_option maxRecDepth 20000 in
theorem gX3_told_X3_isBelow : GoodIn wsX3_told (va_wsS RX3 63 yX3_isBelow wsX3_isBelow) := goodIn_app (goodIn_of _ (by decide +kernel)) ggX3_told_X3_isBelow
theorem dX3_told_0 : decode cX3_told 0 = .ok (.iload_n 1, 1) := by decide +kernel
theorem dX3_told_1 : decode cX3_told 1 = .ok (.aload_n 0, 1) := by decide +kernel
theorem dX3_told_2 : decode cX3_told 2 = .ok (.getfield 102, 3) := by decide +kernel
theorem dX3_told_5 : decode cX3_told 5 = .ok (.invokestatic 63, 3) := by decide +kernel
theorem dX3_told_8 : decode cX3_told 8 = .ok (.ifCond .ne 5, 3) := by decide +kernel
theorem dX3_told_11 : decode cX3_told 11 = .ok (.iconst (-1), 1) := by decide +kernel
theorem dX3_told_12 : decode cX3_told 12 = .ok (.ireturn, 1) := by decide +kernel
theorem dX3_told_13 : decode cX3_told 13 = .ok (.aload_n 0, 1) := by decide +kernel
theorem dX3_told_14 : decode cX3_told 14 = .ok (.getfield 27, 3) := by decide +kernel
theorem dX3_told_17 : decode cX3_told 17 = .ok (.iload_n 1, 1) := by decide +kernel
theorem dX3_told_18 : decode cX3_told 18 = .ok (.aaload, 1) := by decide +kernel
theorem dX3_told_19 : decode cX3_told 19 = .ok (.astore_n 3, 1) := by decide +kernel
theorem dX3_told_20 : decode cX3_told 20 = .ok (.aload_n 3, 1) := by decide +kernel
theorem dX3_told_21 : decode cX3_told 21 = .ok (.getfield 117, 3) := by decide +kernel
theorem dX3_told_24 : decode cX3_told 24 = .ok (.iconst 1, 1) := by decide +kernel
theorem dX3_told_25 : decode cX3_told 25 = .ok (.if_icmp .ne 7, 3) := by decide +kernel
theorem dX3_told_28 : decode cX3_told 28 = .ok (.iconst 1, 1) := by decide +kernel
theorem dX3_told_29 : decode cX3_told 29 = .ok (.goto 4, 3) := by decide +kernel
theorem dX3_told_32 : decode cX3_told 32 = .ok (.iconst 0, 1) := by decide +kernel
theorem dX3_told_33 : decode cX3_told 33 = .ok (.istore 4, 2) := by decide +kernel
theorem dX3_told_35 : decode cX3_told 35 = .ok (.iload_n 2, 1) := by decide +kernel
theorem dX3_told_36 : decode cX3_told 36 = .ok (.tableswitch 134 0 9 #[56, 61, 66, 71, 76, 90, 114, 119, 124, 129], 56) := by decide +kernel
theorem dX3_told_92 : decode cX3_told 92 = .ok (.aload_n 3, 1) := by decide +kernel
theorem dX3_told_93 : decode cX3_told 93 = .ok (.getfield 117, 3) := by decide +kernel
theorem dX3_told_96 : decode cX3_told 96 = .ok (.ireturn, 1) := by decide +kernel
theorem dX3_told_97 : decode cX3_told 97 = .ok (.aload_n 3, 1) := by decide +kernel
theorem dX3_told_98 : decode cX3_told 98 = .ok (.getfield 120, 3) := by decide +kernel
theorem dX3_told_101 : decode cX3_told 101 = .ok (.ireturn, 1) := by decide +kernel
theorem dX3_told_102 : decode cX3_told 102 = .ok (.aload_n 3, 1) := by decide +kernel
theorem dX3_told_103 : decode cX3_told 103 = .ok (.getfield 123, 3) := by decide +kernel
theorem dX3_told_106 : decode cX3_told 106 = .ok (.ireturn, 1) := by decide +kernel
theorem dX3_told_107 : decode cX3_told 107 = .ok (.aload_n 3, 1) := by decide +kernel
theorem dX3_told_108 : decode cX3_told 108 = .ok (.getfield 126, 3) := by decide +kernel
theorem dX3_told_111 : decode cX3_told 111 = .ok (.ireturn, 1) := by decide +kernel
theorem dX3_told_112 : decode cX3_told 112 = .ok (.iload 4, 2) := by decide +kernel
theorem dX3_told_114 : decode cX3_told 114 = .ok (.ifCond .eq 10, 3) := by decide +kernel
theorem dX3_told_117 : decode cX3_told 117 = .ok (.aload_n 3, 1) := by decide +kernel
theorem dX3_told_118 : decode cX3_told 118 = .ok (.getfield 129, 3) := by decide +kernel
theorem dX3_told_121 : decode cX3_told 121 = .ok (.goto 4, 3) := by decide +kernel
theorem dX3_told_124 : decode cX3_told 124 = .ok (.iconst (-1), 1) := by decide +kernel
theorem dX3_told_125 : decode cX3_told 125 = .ok (.ireturn, 1) := by decide +kernel
theorem dX3_told_126 : decode cX3_told 126 = .ok (.iload 4, 2) := by decide +kernel
theorem dX3_told_128 : decode cX3_told 128 = .ok (.ifCond .eq 20, 3) := by decide +kernel
theorem dX3_told_131 : decode cX3_told 131 = .ok (.aload_n 3, 1) := by decide +kernel
theorem dX3_told_132 : decode cX3_told 132 = .ok (.getfield 132, 3) := by decide +kernel
theorem dX3_told_135 : decode cX3_told 135 = .ok (.aload_n 0, 1) := by decide +kernel
theorem dX3_told_136 : decode cX3_told 136 = .ok (.getfield 79, 3) := by decide +kernel
theorem dX3_told_139 : decode cX3_told 139 = .ok (.iconst 1, 1) := by decide +kernel
theorem dX3_told_140 : decode cX3_told 140 = .ok (.isub, 1) := by decide +kernel
theorem dX3_told_141 : decode cX3_told 141 = .ok (.if_icmp .ne 7, 3) := by decide +kernel
theorem dX3_told_144 : decode cX3_told 144 = .ok (.iconst 1, 1) := by decide +kernel
theorem dX3_told_145 : decode cX3_told 145 = .ok (.goto 4, 3) := by decide +kernel
theorem dX3_told_148 : decode cX3_told 148 = .ok (.iconst 0, 1) := by decide +kernel
theorem dX3_told_149 : decode cX3_told 149 = .ok (.ireturn, 1) := by decide +kernel
theorem dX3_told_150 : decode cX3_told 150 = .ok (.aload_n 3, 1) := by decide +kernel
theorem dX3_told_151 : decode cX3_told 151 = .ok (.getfield 135, 3) := by decide +kernel
theorem dX3_told_154 : decode cX3_told 154 = .ok (.ireturn, 1) := by decide +kernel
theorem dX3_told_155 : decode cX3_told 155 = .ok (.aload_n 3, 1) := by decide +kernel
theorem dX3_told_156 : decode cX3_told 156 = .ok (.getfield 138, 3) := by decide +kernel
theorem dX3_told_159 : decode cX3_told 159 = .ok (.ireturn, 1) := by decide +kernel
theorem dX3_told_160 : decode cX3_told 160 = .ok (.aload_n 3, 1) := by decide +kernel
theorem dX3_told_161 : decode cX3_told 161 = .ok (.getfield 141, 3) := by decide +kernel
theorem dX3_told_164 : decode cX3_told 164 = .ok (.ireturn, 1) := by decide +kernel
theorem dX3_told_165 : decode cX3_told 165 = .ok (.aload_n 3, 1) := by decide +kernel
theorem dX3_told_166 : decode cX3_told 166 = .ok (.getfield 144, 3) := by decide +kernel
theorem dX3_told_169 : decode cX3_told 169 = .ok (.ireturn, 1) := by decide +kernel
theorem dX3_told_170 : decode cX3_told 170 = .ok (.iconst (-1), 1) := by decide +kernel
theorem dX3_told_171 : decode cX3_told 171 = .ok (.ireturn, 1) := by decide +kernel
set_option maxRecDepth 20000 in
theorem ggX3_register_X3_isBelow : GoodIn wsX3_register wsX3_isBelow := goodIn_r _ [9] (by decide +kernel) (by decide +kernel)
set_option maxRecDepth 20000 in
theorem gX3_register_X3_isBelow : GoodIn wsX3_register (va_wsS RX3 63 yX3_isBelow wsX3_isBelow) := goodIn_app (goodIn_of _ (by decide +kernel)) ggX3_register_X3_isBelow
theorem dX3_register_0 : decode cX3_register 0 = .ok (.iload_n 1, 1) := by decide +kernel
theorem dX3_register_1 : decode cX3_register 1 = .ok (.aload_n 0, 1) := by decide +kernel
theorem dX3_register_2 : decode cX3_register 2 = .ok (.getfield 102, 3) := by decide +kernel
theorem dX3_register_5 : decode cX3_register 5 = .ok (.invokestatic 63, 3) := by decide +kernel
theorem dX3_register_8 : decode cX3_register 8 = .ok (.ifCond .eq 16, 3) := by decide +kernel
theorem dX3_register_11 : decode cX3_register 11 = .ok (.aload_n 0, 1) := by decide +kernel
theorem dX3_register_12 : decode cX3_register 12 = .ok (.getfield 27, 3) := by decide +kernel
theorem dX3_register_15 : decode cX3_register 15 = .ok (.iload_n 1, 1) := by decide +kernel
theorem dX3_register_16 : decode cX3_register 16 = .ok (.aaload, 1) := by decide +kernel
theorem dX3_register_17 : decode cX3_register 17 = .ok (.getfield 117, 3) := by decide +kernel
theorem dX3_register_20 : decode cX3_register 20 = .ok (.iconst 1, 1) := by decide +kernel
theorem dX3_register_21 : decode cX3_register 21 = .ok (.if_icmp .eq 6, 3) := by decide +kernel
theorem dX3_register_24 : decode cX3_register 24 = .ok (.ldc 147, 2) := by decide +kernel
theorem dX3_register_26 : decode cX3_register 26 = .ok (.ireturn, 1) := by decide +kernel
theorem dX3_register_27 : decode cX3_register 27 = .ok (.aload_n 0, 1) := by decide +kernel
theorem dX3_register_28 : decode cX3_register 28 = .ok (.getfield 27, 3) := by decide +kernel
theorem dX3_register_31 : decode cX3_register 31 = .ok (.iload_n 1, 1) := by decide +kernel
theorem dX3_register_32 : decode cX3_register 32 = .ok (.aaload, 1) := by decide +kernel
theorem dX3_register_33 : decode cX3_register 33 = .ok (.getfield 148, 3) := by decide +kernel
theorem dX3_register_36 : decode cX3_register 36 = .ok (.ireturn, 1) := by decide +kernel
set_option maxRecDepth 20000 in
theorem ggX3_holds_X3_isBelow : GoodIn wsX3_holds wsX3_isBelow := goodIn_r _ [8] (by decide +kernel) (by decide +kernel)
set_option maxRecDepth 20000 in
theorem gX3_holds_X3_isBelow : GoodIn wsX3_holds (va_wsS RX3 63 yX3_isBelow wsX3_isBelow) := goodIn_app (goodIn_of _ (by decide +kernel)) ggX3_holds_X3_isBelow
theorem dX3_holds_0 : decode cX3_holds 0 = .ok (.iload_n 1, 1) := by decide +kernel
theorem dX3_holds_1 : decode cX3_holds 1 = .ok (.aload_n 0, 1) := by decide +kernel
theorem dX3_holds_2 : decode cX3_holds 2 = .ok (.getfield 102, 3) := by decide +kernel
theorem dX3_holds_5 : decode cX3_holds 5 = .ok (.invokestatic 63, 3) := by decide +kernel
theorem dX3_holds_8 : decode cX3_holds 8 = .ok (.ifCond .eq 12, 3) := by decide +kernel
theorem dX3_holds_11 : decode cX3_holds 11 = .ok (.iload_n 2, 1) := by decide +kernel
theorem dX3_holds_12 : decode cX3_holds 12 = .ok (.bipush 24, 2) := by decide +kernel
theorem dX3_holds_14 : decode cX3_holds 14 = .ok (.invokestatic 63, 3) := by decide +kernel
theorem dX3_holds_17 : decode cX3_holds 17 = .ok (.ifCond .ne 5, 3) := by decide +kernel
theorem dX3_holds_20 : decode cX3_holds 20 = .ok (.iconst (-1), 1) := by decide +kernel
theorem dX3_holds_21 : decode cX3_holds 21 = .ok (.ireturn, 1) := by decide +kernel
theorem dX3_holds_22 : decode cX3_holds 22 = .ok (.aload_n 0, 1) := by decide +kernel
theorem dX3_holds_23 : decode cX3_holds 23 = .ok (.getfield 27, 3) := by decide +kernel
theorem dX3_holds_26 : decode cX3_holds 26 = .ok (.iload_n 1, 1) := by decide +kernel
theorem dX3_holds_27 : decode cX3_holds 27 = .ok (.aaload, 1) := by decide +kernel
theorem dX3_holds_28 : decode cX3_holds 28 = .ok (.getfield 117, 3) := by decide +kernel
theorem dX3_holds_31 : decode cX3_holds 31 = .ok (.iconst 1, 1) := by decide +kernel
theorem dX3_holds_32 : decode cX3_holds 32 = .ok (.if_icmp .ne 17, 3) := by decide +kernel
theorem dX3_holds_35 : decode cX3_holds 35 = .ok (.aload_n 0, 1) := by decide +kernel
theorem dX3_holds_36 : decode cX3_holds 36 = .ok (.getfield 27, 3) := by decide +kernel
theorem dX3_holds_39 : decode cX3_holds 39 = .ok (.iload_n 1, 1) := by decide +kernel
theorem dX3_holds_40 : decode cX3_holds 40 = .ok (.aaload, 1) := by decide +kernel
theorem dX3_holds_41 : decode cX3_holds 41 = .ok (.getfield 151, 3) := by decide +kernel
theorem dX3_holds_44 : decode cX3_holds 44 = .ok (.iload_n 2, 1) := by decide +kernel
theorem dX3_holds_45 : decode cX3_holds 45 = .ok (.iaload, 1) := by decide +kernel
theorem dX3_holds_46 : decode cX3_holds 46 = .ok (.goto 4, 3) := by decide +kernel
theorem dX3_holds_49 : decode cX3_holds 49 = .ok (.iconst 0, 1) := by decide +kernel
theorem dX3_holds_50 : decode cX3_holds 50 = .ok (.ireturn, 1) := by decide +kernel
set_option maxRecDepth 20000 in
theorem ggX3_value_X3_isBelow : GoodIn wsX3_value wsX3_isBelow := goodIn_r _ [11] (by decide +kernel) (by decide +kernel)
set_option maxRecDepth 20000 in
theorem gX3_value_X3_isBelow : GoodIn wsX3_value (va_wsS RX3 63 yX3_isBelow wsX3_isBelow) := goodIn_app (goodIn_of _ (by decide +kernel)) ggX3_value_X3_isBelow
set_option maxRecDepth 20000 in
theorem ggX3_value_X0_valueAfter : GoodIn wsX3_value wsX0_valueAfter := goodIn_r _ [16, 17, 18, 19, 38, 39, 40, 41, 42, 43, 44, 45, 46, 47, 48, 49, 50, 51, 52, 53, 54, 55, 56, 57] (by decide +kernel) (by decide +kernel)
set_option maxRecDepth 20000 in
theorem gX3_value_X0_valueAfter : GoodIn wsX3_value (wsV RX3 157 RX0 yX0_valueAfter wsX0_valueAfter) := goodIn_app (goodIn_of _ (by decide +kernel)) ggX3_value_X0_valueAfter
theorem dX3_value_0 : decode cX3_value 0 = .ok (.iload_n 1, 1) := by decide +kernel
theorem dX3_value_1 : decode cX3_value 1 = .ok (.bipush 32, 2) := by decide +kernel
theorem dX3_value_3 : decode cX3_value 3 = .ok (.invokestatic 63, 3) := by decide +kernel
theorem dX3_value_6 : decode cX3_value 6 = .ok (.ifCond .eq 15, 3) := by decide +kernel
theorem dX3_value_9 : decode cX3_value 9 = .ok (.iload_n 2, 1) := by decide +kernel
theorem dX3_value_10 : decode cX3_value 10 = .ok (.ifCond .lt 11, 3) := by decide +kernel
theorem dX3_value_13 : decode cX3_value 13 = .ok (.iload_n 2, 1) := by decide +kernel
theorem dX3_value_14 : decode cX3_value 14 = .ok (.aload_n 0, 1) := by decide +kernel
theorem dX3_value_15 : decode cX3_value 15 = .ok (.getfield 79, 3) := by decide +kernel
theorem dX3_value_18 : decode cX3_value 18 = .ok (.if_icmp .le 6, 3) := by decide +kernel
theorem dX3_value_21 : decode cX3_value 21 = .ok (.ldc 147, 2) := by decide +kernel
theorem dX3_value_23 : decode cX3_value 23 = .ok (.ireturn, 1) := by decide +kernel
theorem dX3_value_24 : decode cX3_value 24 = .ok (.iload_n 2, 1) := by decide +kernel
theorem dX3_value_25 : decode cX3_value 25 = .ok (.aload_n 0, 1) := by decide +kernel
theorem dX3_value_26 : decode cX3_value 26 = .ok (.getfield 79, 3) := by decide +kernel
theorem dX3_value_29 : decode cX3_value 29 = .ok (.if_icmp .ne 10, 3) := by decide +kernel
theorem dX3_value_32 : decode cX3_value 32 = .ok (.aload_n 0, 1) := by decide +kernel
theorem dX3_value_33 : decode cX3_value 33 = .ok (.getfield 22, 3) := by decide +kernel
theorem dX3_value_36 : decode cX3_value 36 = .ok (.iload_n 1, 1) := by decide +kernel
theorem dX3_value_37 : decode cX3_value 37 = .ok (.iaload, 1) := by decide +kernel
theorem dX3_value_38 : decode cX3_value 38 = .ok (.ireturn, 1) := by decide +kernel
theorem dX3_value_39 : decode cX3_value 39 = .ok (.iconst 0, 1) := by decide +kernel
theorem dX3_value_40 : decode cX3_value 40 = .ok (.istore_n 3, 1) := by decide +kernel
theorem dX3_value_41 : decode cX3_value 41 = .ok (.iconst 0, 1) := by decide +kernel
theorem dX3_value_42 : decode cX3_value 42 = .ok (.istore 4, 2) := by decide +kernel
theorem dX3_value_44 : decode cX3_value 44 = .ok (.iload 4, 2) := by decide +kernel
end
section
theorem dX3_value_46 : decode cX3_value 46 = .ok (.aload_n 0, 1) := by decide +kernel
theorem dX3_value_47 : decode cX3_value 47 = .ok (.getfield 154, 3) := by decide +kernel
theorem dX3_value_50 : decode cX3_value 50 = .ok (.if_icmp .ge 40, 3) := by decide +kernel
theorem dX3_value_53 : decode cX3_value 53 = .ok (.aload_n 0, 1) := by decide +kernel
theorem dX3_value_54 : decode cX3_value 54 = .ok (.getfield 27, 3) := by decide +kernel
theorem dX3_value_57 : decode cX3_value 57 = .ok (.aload_n 0, 1) := by decide +kernel
theorem dX3_value_58 : decode cX3_value 58 = .ok (.getfield 34, 3) := by decide +kernel
theorem dX3_value_61 : decode cX3_value 61 = .ok (.iload 4, 2) := by decide +kernel
theorem dX3_value_63 : decode cX3_value 63 = .ok (.iaload, 1) := by decide +kernel
theorem dX3_value_64 : decode cX3_value 64 = .ok (.aaload, 1) := by decide +kernel
theorem dX3_value_65 : decode cX3_value 65 = .ok (.astore 5, 2) := by decide +kernel
theorem dX3_value_67 : decode cX3_value 67 = .ok (.aload 5, 2) := by decide +kernel
theorem dX3_value_69 : decode cX3_value 69 = .ok (.getfield 135, 3) := by decide +kernel
theorem dX3_value_72 : decode cX3_value 72 = .ok (.iload_n 2, 1) := by decide +kernel
theorem dX3_value_73 : decode cX3_value 73 = .ok (.if_icmp .gt 11, 3) := by decide +kernel
theorem dX3_value_76 : decode cX3_value 76 = .ok (.aload 5, 2) := by decide +kernel
theorem dX3_value_78 : decode cX3_value 78 = .ok (.iload_n 1, 1) := by decide +kernel
theorem dX3_value_79 : decode cX3_value 79 = .ok (.iload_n 3, 1) := by decide +kernel
theorem dX3_value_80 : decode cX3_value 80 = .ok (.invokevirtual 157, 3) := by decide +kernel
theorem dX3_value_83 : decode cX3_value 83 = .ok (.istore_n 3, 1) := by decide +kernel
theorem dX3_value_84 : decode cX3_value 84 = .ok (.iinc 4 1, 3) := by decide +kernel
theorem dX3_value_87 : decode cX3_value 87 = .ok (.goto (-43), 3) := by decide +kernel
theorem dX3_value_90 : decode cX3_value 90 = .ok (.iload_n 3, 1) := by decide +kernel
theorem dX3_value_91 : decode cX3_value 91 = .ok (.ireturn, 1) := by decide +kernel
set_option maxRecDepth 20000 in
theorem ggX3_done_X3_isBelow : GoodIn wsX3_done wsX3_isBelow := goodIn_r _ [6] (by decide +kernel) (by decide +kernel)
set_option maxRecDepth 20000 in
theorem gX3_done_X3_isBelow : GoodIn wsX3_done (va_wsS RX3 63 yX3_isBelow wsX3_isBelow) := goodIn_app (goodIn_of _ (by decide +kernel)) ggX3_done_X3_isBelow
theorem dX3_done_0 : decode cX3_done 0 = .ok (.iload_n 1, 1) := by decide +kernel
theorem dX3_done_1 : decode cX3_done 1 = .ok (.aload_n 0, 1) := by decide +kernel
theorem dX3_done_2 : decode cX3_done 2 = .ok (.getfield 154, 3) := by decide +kernel
theorem dX3_done_5 : decode cX3_done 5 = .ok (.invokestatic 63, 3) := by decide +kernel
theorem dX3_done_8 : decode cX3_done 8 = .ok (.ifCond .eq 12, 3) := by decide +kernel
theorem dX3_done_11 : decode cX3_done 11 = .ok (.aload_n 0, 1) := by decide +kernel
theorem dX3_done_12 : decode cX3_done 12 = .ok (.getfield 34, 3) := by decide +kernel
theorem dX3_done_15 : decode cX3_done 15 = .ok (.iload_n 1, 1) := by decide +kernel
theorem dX3_done_16 : decode cX3_done 16 = .ok (.iaload, 1) := by decide +kernel
theorem dX3_done_17 : decode cX3_done 17 = .ok (.goto 4, 3) := by decide +kernel
theorem dX3_done_20 : decode cX3_done 20 = .ok (.iconst (-1), 1) := by decide +kernel
theorem dX3_done_21 : decode cX3_done 21 = .ok (.ireturn, 1) := by decide +kernel
set_option maxRecDepth 20000 in
theorem ggX3_log_X1_tell : GoodIn wsX3_log wsX1_tell := goodIn_r _ [6, 7, 8, 27, 28, 29] (by decide +kernel) (by decide +kernel)
set_option maxRecDepth 20000 in
theorem gX3_log_X1_tell : GoodIn wsX3_log (wsV RX3 161 RX1 yX1_tell wsX1_tell) := goodIn_app (goodIn_of _ (by decide +kernel)) ggX3_log_X1_tell
theorem dX3_log_0 : decode cX3_log 0 = .ok (.aload_n 0, 1) := by decide +kernel
theorem dX3_log_1 : decode cX3_log 1 = .ok (.getfield 46, 3) := by decide +kernel
theorem dX3_log_4 : decode cX3_log 4 = .ok (.iload_n 1, 1) := by decide +kernel
theorem dX3_log_5 : decode cX3_log 5 = .ok (.iload_n 2, 1) := by decide +kernel
theorem dX3_log_6 : decode cX3_log 6 = .ok (.invokevirtual 161, 3) := by decide +kernel
theorem dX3_log_9 : decode cX3_log 9 = .ok (.ireturn, 1) := by decide +kernel
set_option maxRecDepth 20000 in
theorem ggX3_count_X3_countState : GoodIn wsX3_count wsX3_countState := goodIn_r _ [13, 2, 14, 15, 16, 17, 18, 19, 20, 21, 22, 23, 24, 25, 26, 27, 28, 29, 30, 31, 32, 33, 37, 38, 39, 40, 41, 42, 43, 44, 45, 46, 47, 48, 49, 50, 51, 52, 53, 54, 55, 56] (by decide +kernel) (by decide +kernel)
set_option maxRecDepth 20000 in
theorem gX3_count_X3_countState : GoodIn wsX3_count (wsV RX3 164 RX3 yX3_countState wsX3_countState) := goodIn_app (goodIn_of _ (by decide +kernel)) ggX3_count_X3_countState
theorem dX3_count_0 : decode cX3_count 0 = .ok (.iload_n 1, 1) := by decide +kernel
theorem dX3_count_1 : decode cX3_count 1 = .ok (.tableswitch 104 0 8 #[51, 56, 61, 69, 77, 83, 89, 94, 99], 51) := by decide +kernel
theorem dX3_count_52 : decode cX3_count 52 = .ok (.aload_n 0, 1) := by decide +kernel
theorem dX3_count_53 : decode cX3_count 53 = .ok (.getfield 79, 3) := by decide +kernel
theorem dX3_count_56 : decode cX3_count 56 = .ok (.ireturn, 1) := by decide +kernel
theorem dX3_count_57 : decode cX3_count 57 = .ok (.aload_n 0, 1) := by decide +kernel
theorem dX3_count_58 : decode cX3_count 58 = .ok (.getfield 102, 3) := by decide +kernel
theorem dX3_count_61 : decode cX3_count 61 = .ok (.ireturn, 1) := by decide +kernel
theorem dX3_count_62 : decode cX3_count 62 = .ok (.aload_n 0, 1) := by decide +kernel
theorem dX3_count_63 : decode cX3_count 63 = .ok (.getfield 46, 3) := by decide +kernel
theorem dX3_count_66 : decode cX3_count 66 = .ok (.getfield 86, 3) := by decide +kernel
theorem dX3_count_69 : decode cX3_count 69 = .ok (.ireturn, 1) := by decide +kernel
theorem dX3_count_70 : decode cX3_count 70 = .ok (.aload_n 0, 1) := by decide +kernel
theorem dX3_count_71 : decode cX3_count 71 = .ok (.getfield 46, 3) := by decide +kernel
theorem dX3_count_74 : decode cX3_count 74 = .ok (.getfield 89, 3) := by decide +kernel
theorem dX3_count_77 : decode cX3_count 77 = .ok (.ireturn, 1) := by decide +kernel
theorem dX3_count_78 : decode cX3_count 78 = .ok (.aload_n 0, 1) := by decide +kernel
theorem dX3_count_79 : decode cX3_count 79 = .ok (.iconst 0, 1) := by decide +kernel
theorem dX3_count_80 : decode cX3_count 80 = .ok (.invokevirtual 164, 3) := by decide +kernel
theorem dX3_count_83 : decode cX3_count 83 = .ok (.ireturn, 1) := by decide +kernel
theorem dX3_count_84 : decode cX3_count 84 = .ok (.aload_n 0, 1) := by decide +kernel
theorem dX3_count_85 : decode cX3_count 85 = .ok (.iconst 1, 1) := by decide +kernel
theorem dX3_count_86 : decode cX3_count 86 = .ok (.invokevirtual 164, 3) := by decide +kernel
theorem dX3_count_89 : decode cX3_count 89 = .ok (.ireturn, 1) := by decide +kernel
theorem dX3_count_90 : decode cX3_count 90 = .ok (.aload_n 0, 1) := by decide +kernel
theorem dX3_count_91 : decode cX3_count 91 = .ok (.getfield 154, 3) := by decide +kernel
theorem dX3_count_94 : decode cX3_count 94 = .ok (.ireturn, 1) := by decide +kernel
theorem dX3_count_95 : decode cX3_count 95 = .ok (.aload_n 0, 1) := by decide +kernel
theorem dX3_count_96 : decode cX3_count 96 = .ok (.getfield 167, 3) := by decide +kernel
theorem dX3_count_99 : decode cX3_count 99 = .ok (.ireturn, 1) := by decide +kernel
theorem dX3_count_100 : decode cX3_count 100 = .ok (.aload_n 0, 1) := by decide +kernel
theorem dX3_count_101 : decode cX3_count 101 = .ok (.getfield 99, 3) := by decide +kernel
theorem dX3_count_104 : decode cX3_count 104 = .ok (.ireturn, 1) := by decide +kernel
theorem dX3_count_105 : decode cX3_count 105 = .ok (.iconst (-1), 1) := by decide +kernel
theorem dX3_count_106 : decode cX3_count 106 = .ok (.ireturn, 1) := by decide +kernel
theorem dX3_isBelow_0 : decode cX3_isBelow 0 = .ok (.iload_n 0, 1) := by decide +kernel
theorem dX3_isBelow_1 : decode cX3_isBelow 1 = .ok (.ifCond .lt 12, 3) := by decide +kernel
theorem dX3_isBelow_4 : decode cX3_isBelow 4 = .ok (.iload_n 0, 1) := by decide +kernel
theorem dX3_isBelow_5 : decode cX3_isBelow 5 = .ok (.iload_n 1, 1) := by decide +kernel
theorem dX3_isBelow_6 : decode cX3_isBelow 6 = .ok (.if_icmp .ge 7, 3) := by decide +kernel
theorem dX3_isBelow_9 : decode cX3_isBelow 9 = .ok (.iconst 1, 1) := by decide +kernel
theorem dX3_isBelow_10 : decode cX3_isBelow 10 = .ok (.goto 4, 3) := by decide +kernel
theorem dX3_isBelow_13 : decode cX3_isBelow 13 = .ok (.iconst 0, 1) := by decide +kernel
theorem dX3_isBelow_14 : decode cX3_isBelow 14 = .ok (.ireturn, 1) := by decide +kernel
theorem dX3_opOf_0 : decode cX3_opOf 0 = .ok (.iload_n 0, 1) := by decide +kernel
theorem dX3_opOf_1 : decode cX3_opOf 1 = .ok (.sipush 10000, 3) := by decide +kernel
theorem dX3_opOf_4 : decode cX3_opOf 4 = .ok (.idiv, 1) := by decide +kernel
theorem dX3_opOf_5 : decode cX3_opOf 5 = .ok (.ireturn, 1) := by decide +kernel
theorem dX3_aOf_0 : decode cX3_aOf 0 = .ok (.iload_n 0, 1) := by decide +kernel
theorem dX3_aOf_1 : decode cX3_aOf 1 = .ok (.bipush 100, 2) := by decide +kernel
theorem dX3_aOf_3 : decode cX3_aOf 3 = .ok (.idiv, 1) := by decide +kernel
theorem dX3_aOf_4 : decode cX3_aOf 4 = .ok (.bipush 100, 2) := by decide +kernel
theorem dX3_aOf_6 : decode cX3_aOf 6 = .ok (.irem, 1) := by decide +kernel
theorem dX3_aOf_7 : decode cX3_aOf 7 = .ok (.ireturn, 1) := by decide +kernel
theorem dX3_bOf_0 : decode cX3_bOf 0 = .ok (.iload_n 0, 1) := by decide +kernel
theorem dX3_bOf_1 : decode cX3_bOf 1 = .ok (.bipush 100, 2) := by decide +kernel
theorem dX3_bOf_3 : decode cX3_bOf 3 = .ok (.irem, 1) := by decide +kernel
theorem dX3_bOf_4 : decode cX3_bOf 4 = .ok (.ireturn, 1) := by decide +kernel
set_option maxRecDepth 20000 in
theorem ggX3_isStep_X3_opOf : GoodIn wsX3_isStep wsX3_opOf := goodIn_r _ [4] (by decide +kernel) (by decide +kernel)
set_option maxRecDepth 20000 in
theorem gX3_isStep_X3_opOf : GoodIn wsX3_isStep (va_wsS RX3 170 yX3_opOf wsX3_opOf) := goodIn_app (goodIn_of _ (by decide +kernel)) ggX3_isStep_X3_opOf
set_option maxRecDepth 20000 in
theorem ggX3_isStep_X3_aOf : GoodIn wsX3_isStep wsX3_aOf := goodIn_r _ [7] (by decide +kernel) (by decide +kernel)
set_option maxRecDepth 20000 in
theorem gX3_isStep_X3_aOf : GoodIn wsX3_isStep (va_wsS RX3 173 yX3_aOf wsX3_aOf) := goodIn_app (goodIn_of _ (by decide +kernel)) ggX3_isStep_X3_aOf
theorem dX3_isStep_0 : decode cX3_isStep 0 = .ok (.iload_n 0, 1) := by decide +kernel
theorem dX3_isStep_1 : decode cX3_isStep 1 = .ok (.ifCond .lt 12, 3) := by decide +kernel
theorem dX3_isStep_4 : decode cX3_isStep 4 = .ok (.iload_n 0, 1) := by decide +kernel
theorem dX3_isStep_5 : decode cX3_isStep 5 = .ok (.invokestatic 170, 3) := by decide +kernel
theorem dX3_isStep_8 : decode cX3_isStep 8 = .ok (.bipush 8, 2) := by decide +kernel
theorem dX3_isStep_10 : decode cX3_isStep 10 = .ok (.if_icmp .le 5, 3) := by decide +kernel
theorem dX3_isStep_13 : decode cX3_isStep 13 = .ok (.iconst 0, 1) := by decide +kernel
theorem dX3_isStep_14 : decode cX3_isStep 14 = .ok (.ireturn, 1) := by decide +kernel
theorem dX3_isStep_15 : decode cX3_isStep 15 = .ok (.iload_n 0, 1) := by decide +kernel
theorem dX3_isStep_16 : decode cX3_isStep 16 = .ok (.invokestatic 170, 3) := by decide +kernel
theorem dX3_isStep_19 : decode cX3_isStep 19 = .ok (.tableswitch 90 0 7 #[45, 90, 90, 45, 45, 90, 60, 75], 45) := by decide +kernel
theorem dX3_isStep_64 : decode cX3_isStep 64 = .ok (.iload_n 0, 1) := by decide +kernel
theorem dX3_isStep_65 : decode cX3_isStep 65 = .ok (.invokestatic 173, 3) := by decide +kernel
theorem dX3_isStep_68 : decode cX3_isStep 68 = .ok (.bipush 24, 2) := by decide +kernel
theorem dX3_isStep_70 : decode cX3_isStep 70 = .ok (.if_icmp .ge 7, 3) := by decide +kernel
theorem dX3_isStep_73 : decode cX3_isStep 73 = .ok (.iconst 1, 1) := by decide +kernel
theorem dX3_isStep_74 : decode cX3_isStep 74 = .ok (.goto 4, 3) := by decide +kernel
theorem dX3_isStep_77 : decode cX3_isStep 77 = .ok (.iconst 0, 1) := by decide +kernel
theorem dX3_isStep_78 : decode cX3_isStep 78 = .ok (.ireturn, 1) := by decide +kernel
theorem dX3_isStep_79 : decode cX3_isStep 79 = .ok (.iload_n 0, 1) := by decide +kernel
theorem dX3_isStep_80 : decode cX3_isStep 80 = .ok (.invokestatic 173, 3) := by decide +kernel
theorem dX3_isStep_83 : decode cX3_isStep 83 = .ok (.bipush 8, 2) := by decide +kernel
theorem dX3_isStep_85 : decode cX3_isStep 85 = .ok (.if_icmp .ge 7, 3) := by decide +kernel
theorem dX3_isStep_88 : decode cX3_isStep 88 = .ok (.iconst 1, 1) := by decide +kernel
theorem dX3_isStep_89 : decode cX3_isStep 89 = .ok (.goto 4, 3) := by decide +kernel
theorem dX3_isStep_92 : decode cX3_isStep 92 = .ok (.iconst 0, 1) := by decide +kernel
theorem dX3_isStep_93 : decode cX3_isStep 93 = .ok (.ireturn, 1) := by decide +kernel
theorem dX3_isStep_94 : decode cX3_isStep 94 = .ok (.iload_n 0, 1) := by decide +kernel
theorem dX3_isStep_95 : decode cX3_isStep 95 = .ok (.invokestatic 173, 3) := by decide +kernel
theorem dX3_isStep_98 : decode cX3_isStep 98 = .ok (.bipush 8, 2) := by decide +kernel
theorem dX3_isStep_100 : decode cX3_isStep 100 = .ok (.if_icmp .ge 7, 3) := by decide +kernel
theorem dX3_isStep_103 : decode cX3_isStep 103 = .ok (.iconst 1, 1) := by decide +kernel
theorem dX3_isStep_104 : decode cX3_isStep 104 = .ok (.goto 4, 3) := by decide +kernel
theorem dX3_isStep_107 : decode cX3_isStep 107 = .ok (.iconst 0, 1) := by decide +kernel
theorem dX3_isStep_108 : decode cX3_isStep 108 = .ok (.ireturn, 1) := by decide +kernel
theorem dX3_isStep_109 : decode cX3_isStep 109 = .ok (.iconst 1, 1) := by decide +kernel
theorem dX3_isStep_110 : decode cX3_isStep 110 = .ok (.ireturn, 1) := by decide +kernel
set_option maxRecDepth 20000 in
theorem ggX3_usesCell_X3_opOf : GoodIn wsX3_usesCell wsX3_opOf := goodIn_r _ [4] (by decide +kernel) (by decide +kernel)
set_option maxRecDepth 20000 in
theorem gX3_usesCell_X3_opOf : GoodIn wsX3_usesCell (va_wsS RX3 170 yX3_opOf wsX3_opOf) := goodIn_app (goodIn_of _ (by decide +kernel)) ggX3_usesCell_X3_opOf
theorem dX3_usesCell_0 : decode cX3_usesCell 0 = .ok (.iload_n 0, 1) := by decide +kernel
theorem dX3_usesCell_1 : decode cX3_usesCell 1 = .ok (.invokestatic 170, 3) := by decide +kernel
theorem dX3_usesCell_4 : decode cX3_usesCell 4 = .ok (.istore_n 1, 1) := by decide +kernel
theorem dX3_usesCell_5 : decode cX3_usesCell 5 = .ok (.iload_n 1, 1) := by decide +kernel
theorem dX3_usesCell_6 : decode cX3_usesCell 6 = .ok (.ifCond .eq 13, 3) := by decide +kernel
theorem dX3_usesCell_9 : decode cX3_usesCell 9 = .ok (.iload_n 1, 1) := by decide +kernel
theorem dX3_usesCell_10 : decode cX3_usesCell 10 = .ok (.iconst 3, 1) := by decide +kernel
theorem dX3_usesCell_11 : decode cX3_usesCell 11 = .ok (.if_icmp .eq 8, 3) := by decide +kernel
theorem dX3_usesCell_14 : decode cX3_usesCell 14 = .ok (.iload_n 1, 1) := by decide +kernel
theorem dX3_usesCell_15 : decode cX3_usesCell 15 = .ok (.iconst 4, 1) := by decide +kernel
theorem dX3_usesCell_16 : decode cX3_usesCell 16 = .ok (.if_icmp .ne 7, 3) := by decide +kernel
theorem dX3_usesCell_19 : decode cX3_usesCell 19 = .ok (.iconst 1, 1) := by decide +kernel
theorem dX3_usesCell_20 : decode cX3_usesCell 20 = .ok (.goto 4, 3) := by decide +kernel
theorem dX3_usesCell_23 : decode cX3_usesCell 23 = .ok (.iconst 0, 1) := by decide +kernel
theorem dX3_usesCell_24 : decode cX3_usesCell 24 = .ok (.ireturn, 1) := by decide +kernel
theorem dX3_countState_0 : decode cX3_countState 0 = .ok (.iconst 0, 1) := by decide +kernel
theorem dX3_countState_1 : decode cX3_countState 1 = .ok (.istore_n 2, 1) := by decide +kernel
theorem dX3_countState_2 : decode cX3_countState 2 = .ok (.iconst 0, 1) := by decide +kernel
theorem dX3_countState_3 : decode cX3_countState 3 = .ok (.istore_n 3, 1) := by decide +kernel
theorem dX3_countState_4 : decode cX3_countState 4 = .ok (.iload_n 3, 1) := by decide +kernel
theorem dX3_countState_5 : decode cX3_countState 5 = .ok (.aload_n 0, 1) := by decide +kernel
theorem dX3_countState_6 : decode cX3_countState 6 = .ok (.getfield 102, 3) := by decide +kernel
theorem dX3_countState_9 : decode cX3_countState 9 = .ok (.if_icmp .ge 25, 3) := by decide +kernel
theorem dX3_countState_12 : decode cX3_countState 12 = .ok (.aload_n 0, 1) := by decide +kernel
theorem dX3_countState_13 : decode cX3_countState 13 = .ok (.getfield 27, 3) := by decide +kernel
theorem dX3_countState_16 : decode cX3_countState 16 = .ok (.iload_n 3, 1) := by decide +kernel
theorem dX3_countState_17 : decode cX3_countState 17 = .ok (.aaload, 1) := by decide +kernel
theorem dX3_countState_18 : decode cX3_countState 18 = .ok (.getfield 117, 3) := by decide +kernel
theorem dX3_countState_21 : decode cX3_countState 21 = .ok (.iload_n 1, 1) := by decide +kernel
theorem dX3_countState_22 : decode cX3_countState 22 = .ok (.if_icmp .ne 6, 3) := by decide +kernel
theorem dX3_countState_25 : decode cX3_countState 25 = .ok (.iinc 2 1, 3) := by decide +kernel
theorem dX3_countState_28 : decode cX3_countState 28 = .ok (.iinc 3 1, 3) := by decide +kernel
theorem dX3_countState_31 : decode cX3_countState 31 = .ok (.goto (-27), 3) := by decide +kernel
theorem dX3_countState_34 : decode cX3_countState 34 = .ok (.iload_n 2, 1) := by decide +kernel
theorem dX3_countState_35 : decode cX3_countState 35 = .ok (.ireturn, 1) := by decide +kernel
set_option maxRecDepth 20000 in
theorem ggX3_admit_X0_init : GoodIn wsX3_admit wsX0_init := goodIn_r _ [10, 11, 12, 13, 14, 15, 16, 17, 18, 19, 20, 21, 22, 23, 24, 25, 26, 27, 28, 29, 48, 49, 50, 51, 52, 53, 54, 55, 56, 57, 58, 59, 60, 61, 62, 63, 64, 65, 66, 67] (by decide +kernel) (by decide +kernel)
set_option maxRecDepth 20000 in
theorem gX3_admit_X0_init : GoodIn wsX3_admit (wsX0_init) := ggX3_admit_X0_init
theorem dX3_admit_0 : decode cX3_admit 0 = .ok (.aload_n 0, 1) := by decide +kernel
theorem dX3_admit_1 : decode cX3_admit 1 = .ok (.getfield 102, 3) := by decide +kernel
theorem dX3_admit_4 : decode cX3_admit 4 = .ok (.bipush 80, 2) := by decide +kernel
theorem dX3_admit_6 : decode cX3_admit 6 = .ok (.if_icmp .lt 5, 3) := by decide +kernel
theorem dX3_admit_9 : decode cX3_admit 9 = .ok (.iconst (-1), 1) := by decide +kernel
theorem dX3_admit_10 : decode cX3_admit 10 = .ok (.ireturn, 1) := by decide +kernel
theorem dX3_admit_11 : decode cX3_admit 11 = .ok (.aload_n 0, 1) := by decide +kernel
theorem dX3_admit_12 : decode cX3_admit 12 = .ok (.getfield 102, 3) := by decide +kernel
theorem dX3_admit_15 : decode cX3_admit 15 = .ok (.istore 5, 2) := by decide +kernel
theorem dX3_admit_17 : decode cX3_admit 17 = .ok (.aload_n 0, 1) := by decide +kernel
theorem dX3_admit_18 : decode cX3_admit 18 = .ok (.getfield 27, 3) := by decide +kernel
theorem dX3_admit_21 : decode cX3_admit 21 = .ok (.iload 5, 2) := by decide +kernel
theorem dX3_admit_23 : decode cX3_admit 23 = .ok (.new 25, 3) := by decide +kernel
theorem dX3_admit_26 : decode cX3_admit 26 = .ok (.dup, 1) := by decide +kernel
theorem dX3_admit_27 : decode cX3_admit 27 = .ok (.iload_n 1, 1) := by decide +kernel
theorem dX3_admit_28 : decode cX3_admit 28 = .ok (.iload_n 2, 1) := by decide +kernel
theorem dX3_admit_29 : decode cX3_admit 29 = .ok (.iload_n 3, 1) := by decide +kernel
theorem dX3_admit_30 : decode cX3_admit 30 = .ok (.iload 4, 2) := by decide +kernel
theorem dX3_admit_32 : decode cX3_admit 32 = .ok (.invokespecial 176, 3) := by decide +kernel
theorem dX3_admit_35 : decode cX3_admit 35 = .ok (.aastore, 1) := by decide +kernel
theorem dX3_admit_36 : decode cX3_admit 36 = .ok (.iload 5, 2) := by decide +kernel
theorem dX3_admit_38 : decode cX3_admit 38 = .ok (.istore 6, 2) := by decide +kernel
theorem dX3_admit_40 : decode cX3_admit 40 = .ok (.iload 6, 2) := by decide +kernel
theorem dX3_admit_42 : decode cX3_admit 42 = .ok (.ifCond .le 46, 3) := by decide +kernel
theorem dX3_admit_45 : decode cX3_admit 45 = .ok (.aload_n 0, 1) := by decide +kernel
theorem dX3_admit_46 : decode cX3_admit 46 = .ok (.getfield 27, 3) := by decide +kernel
theorem dX3_admit_49 : decode cX3_admit 49 = .ok (.aload_n 0, 1) := by decide +kernel
theorem dX3_admit_50 : decode cX3_admit 50 = .ok (.getfield 31, 3) := by decide +kernel
theorem dX3_admit_53 : decode cX3_admit 53 = .ok (.iload 6, 2) := by decide +kernel
theorem dX3_admit_55 : decode cX3_admit 55 = .ok (.iconst 1, 1) := by decide +kernel
theorem dX3_admit_56 : decode cX3_admit 56 = .ok (.isub, 1) := by decide +kernel
theorem dX3_admit_57 : decode cX3_admit 57 = .ok (.iaload, 1) := by decide +kernel
theorem dX3_admit_58 : decode cX3_admit 58 = .ok (.aaload, 1) := by decide +kernel
theorem dX3_admit_59 : decode cX3_admit 59 = .ok (.getfield 126, 3) := by decide +kernel
theorem dX3_admit_62 : decode cX3_admit 62 = .ok (.iload_n 3, 1) := by decide +kernel
theorem dX3_admit_63 : decode cX3_admit 63 = .ok (.if_icmp .le 25, 3) := by decide +kernel
theorem dX3_admit_66 : decode cX3_admit 66 = .ok (.aload_n 0, 1) := by decide +kernel
theorem dX3_admit_67 : decode cX3_admit 67 = .ok (.getfield 31, 3) := by decide +kernel
theorem dX3_admit_70 : decode cX3_admit 70 = .ok (.iload 6, 2) := by decide +kernel
theorem dX3_admit_72 : decode cX3_admit 72 = .ok (.aload_n 0, 1) := by decide +kernel
theorem dX3_admit_73 : decode cX3_admit 73 = .ok (.getfield 31, 3) := by decide +kernel
theorem dX3_admit_76 : decode cX3_admit 76 = .ok (.iload 6, 2) := by decide +kernel
theorem dX3_admit_78 : decode cX3_admit 78 = .ok (.iconst 1, 1) := by decide +kernel
theorem dX3_admit_79 : decode cX3_admit 79 = .ok (.isub, 1) := by decide +kernel
theorem dX3_admit_80 : decode cX3_admit 80 = .ok (.iaload, 1) := by decide +kernel
theorem dX3_admit_81 : decode cX3_admit 81 = .ok (.iastore, 1) := by decide +kernel
theorem dX3_admit_82 : decode cX3_admit 82 = .ok (.iinc 6 (-1), 3) := by decide +kernel
theorem dX3_admit_85 : decode cX3_admit 85 = .ok (.goto (-45), 3) := by decide +kernel
theorem dX3_admit_88 : decode cX3_admit 88 = .ok (.aload_n 0, 1) := by decide +kernel
theorem dX3_admit_89 : decode cX3_admit 89 = .ok (.getfield 31, 3) := by decide +kernel
theorem dX3_admit_92 : decode cX3_admit 92 = .ok (.iload 6, 2) := by decide +kernel
theorem dX3_admit_94 : decode cX3_admit 94 = .ok (.iload 5, 2) := by decide +kernel
theorem dX3_admit_96 : decode cX3_admit 96 = .ok (.iastore, 1) := by decide +kernel
theorem dX3_admit_97 : decode cX3_admit 97 = .ok (.aload_n 0, 1) := by decide +kernel
theorem dX3_admit_98 : decode cX3_admit 98 = .ok (.dup, 1) := by decide +kernel
theorem dX3_admit_99 : decode cX3_admit 99 = .ok (.getfield 102, 3) := by decide +kernel
theorem dX3_admit_102 : decode cX3_admit 102 = .ok (.iconst 1, 1) := by decide +kernel
theorem dX3_admit_103 : decode cX3_admit 103 = .ok (.iadd, 1) := by decide +kernel
theorem dX3_admit_104 : decode cX3_admit 104 = .ok (.putfield 102, 3) := by decide +kernel
theorem dX3_admit_107 : decode cX3_admit 107 = .ok (.iload 5, 2) := by decide +kernel
theorem dX3_admit_109 : decode cX3_admit 109 = .ok (.ireturn, 1) := by decide +kernel
set_option maxRecDepth 20000 in
theorem ggX3_passTick_X3_stepBegun : GoodIn wsX3_passTick wsX3_stepBegun := goodIn_r _ [6, 7, 8, 9, 10, 11, 5, 12, 13, 14, 15, 16, 17, 18, 19, 20, 21, 22, 1, 23, 24, 25, 26, 27, 28, 29, 30, 31, 32, 33, 34, 35, 36, 37, 38, 39, 40, 41, 42, 43, 44, 45, 46, 47, 48, 49, 50, 51, 52, 53, 54, 55, 56, 57, 58, 59, 60, 61, 62, 63, 64, 65, 66, 67, 68, 69, 70, 71, 72, 73, 74, 75, 76, 77, 78, 79, 80, 81, 82, 83, 84, 85, 86, 87, 88, 89, 90, 91, 92, 93, 94, 95, 96, 97, 98, 99, 100, 101, 102, 103, 104, 105, 106, 107, 108, 109, 110, 111, 112, 113, 114, 115, 116, 117, 118, 119, 120, 121, 122, 123, 124, 125, 126, 127, 128, 129, 130, 131, 132, 133, 134, 135, 136, 137, 138, 139, 140, 141, 142, 143, 144, 145, 146, 147, 148, 149, 150, 151, 152, 153, 154, 155, 156, 157, 158, 159, 160, 161, 162, 163, 164, 165, 166, 167, 168, 169, 170, 171, 172, 173, 174, 175, 176, 177, 264, 265, 266, 267, 268, 269, 270, 271, 272, 273, 274, 275, 276, 277, 278, 279, 280, 281, 282, 283, 284, 285, 286, 287, 288, 289, 290, 291, 292, 293, 294, 295, 296, 297, 298, 299, 300, 301, 302, 303, 304] (by decide +kernel) (by decide +kernel)
set_option maxRecDepth 20000 in
theorem gX3_passTick_X3_stepBegun : GoodIn wsX3_passTick (wsV RX3 179 RX3 yX3_stepBegun wsX3_stepBegun) := goodIn_app (goodIn_of _ (by decide +kernel)) ggX3_passTick_X3_stepBegun
set_option maxRecDepth 20000 in
theorem ggX3_passTick_X3_breakRings : GoodIn wsX3_passTick wsX3_breakRings := goodIn_r _ [181, 7, 8, 182, 183, 184, 185, 5, 186, 14, 16, 23, 1, 21, 22, 187, 188, 189, 190, 191, 192, 110, 111, 112, 193, 194, 195, 196, 100, 197, 24, 25, 26, 27, 28, 29, 30, 51, 52, 53, 36, 37, 38, 54, 55, 56, 57, 39, 40, 41, 198, 199, 200, 201, 202, 203, 204, 205, 206, 207, 208, 209, 210, 211, 114, 115, 116, 212, 213, 214, 215, 216, 217, 218, 219, 220, 221, 222, 223, 224, 63, 225, 226, 227, 228, 229, 230, 231, 135, 136, 137, 138, 139, 140, 127, 68, 78, 121, 141, 142, 143, 90, 91, 92, 93, 94, 95, 96, 97, 98, 99, 101, 102, 103, 104, 105, 106, 107, 108, 109, 113, 232, 233, 234, 235, 264, 265, 266, 267, 268, 269, 270, 271, 272, 273, 274, 275, 276, 277, 278, 279, 280, 281, 282, 283, 284, 285, 286, 287, 288, 289, 290, 291, 292, 293, 294, 295, 296, 297, 298, 299, 300, 301, 305, 306, 307, 302, 303, 304] (by decide +kernel) (by decide +kernel)
set_option maxRecDepth 20000 in
theorem gX3_passTick_X3_breakRings : GoodIn wsX3_passTick (wsV RX3 182 RX3 yX3_breakRings wsX3_breakRings) := goodIn_app (goodIn_of _ (by decide +kernel)) ggX3_passTick_X3_breakRings
set_option maxRecDepth 20000 in
theorem ggX3_passTick_X3_beginWaiting : GoodIn wsX3_passTick wsX3_beginWaiting := goodIn_r _ [239, 13, 14, 15, 240, 241, 16, 242, 153, 243, 244, 1, 63, 245, 246, 247, 5, 248, 249, 142, 100, 143, 250, 251, 252, 27, 253, 174, 171, 254, 114, 115, 116, 30, 138, 85, 29, 173, 90, 91, 92, 93, 94, 95, 96, 97, 98, 99, 101, 102, 103, 104, 105, 106, 107, 108, 109, 110, 111, 112, 113, 264, 265, 266, 267, 268, 269, 270, 271, 272, 273, 274, 275, 276, 277, 278, 279, 280, 281, 282, 283, 284, 285, 286, 287, 288, 289, 290, 291, 292, 293, 294, 295, 296, 297, 298, 299, 300, 301, 302, 303, 304] (by decide +kernel) (by decide +kernel)
set_option maxRecDepth 20000 in
theorem gX3_passTick_X3_beginWaiting : GoodIn wsX3_passTick (wsV RX3 185 RX3 yX3_beginWaiting wsX3_beginWaiting) := goodIn_app (goodIn_of _ (by decide +kernel)) ggX3_passTick_X3_beginWaiting
set_option maxRecDepth 20000 in
theorem ggX3_passTick_X3_answerDone : GoodIn wsX3_passTick wsX3_answerDone := goodIn_r _ [258, 63, 149, 14, 150, 16, 259, 260, 261, 93, 262, 95, 263, 264, 265, 266, 267, 268, 269, 270, 271, 272, 273, 274, 275, 276, 277, 278, 279, 280, 281, 282, 283, 284, 285, 286, 287, 288, 289, 290, 291, 292, 293, 294, 295, 296, 297, 298, 299, 300, 301, 302, 303, 304] (by decide +kernel) (by decide +kernel)
set_option maxRecDepth 20000 in
theorem gX3_passTick_X3_answerDone : GoodIn wsX3_passTick (wsV RX3 188 RX3 yX3_answerDone wsX3_answerDone) := goodIn_app (goodIn_of _ (by decide +kernel)) ggX3_passTick_X3_answerDone
theorem dX3_passTick_0 : decode cX3_passTick 0 = .ok (.aload_n 0, 1) := by decide +kernel
theorem dX3_passTick_1 : decode cX3_passTick 1 = .ok (.invokevirtual 179, 3) := by decide +kernel
theorem dX3_passTick_4 : decode cX3_passTick 4 = .ok (.aload_n 0, 1) := by decide +kernel
theorem dX3_passTick_5 : decode cX3_passTick 5 = .ok (.invokevirtual 182, 3) := by decide +kernel
theorem dX3_passTick_8 : decode cX3_passTick 8 = .ok (.aload_n 0, 1) := by decide +kernel
theorem dX3_passTick_9 : decode cX3_passTick 9 = .ok (.invokevirtual 185, 3) := by decide +kernel
theorem dX3_passTick_12 : decode cX3_passTick 12 = .ok (.aload_n 0, 1) := by decide +kernel
theorem dX3_passTick_13 : decode cX3_passTick 13 = .ok (.getfield 79, 3) := by decide +kernel
theorem dX3_passTick_16 : decode cX3_passTick 16 = .ok (.iconst 4, 1) := by decide +kernel
theorem dX3_passTick_17 : decode cX3_passTick 17 = .ok (.irem, 1) := by decide +kernel
theorem dX3_passTick_18 : decode cX3_passTick 18 = .ok (.iconst 3, 1) := by decide +kernel
theorem dX3_passTick_19 : decode cX3_passTick 19 = .ok (.if_icmp .ne 7, 3) := by decide +kernel
theorem dX3_passTick_22 : decode cX3_passTick 22 = .ok (.aload_n 0, 1) := by decide +kernel
theorem dX3_passTick_23 : decode cX3_passTick 23 = .ok (.invokevirtual 188, 3) := by decide +kernel
theorem dX3_passTick_26 : decode cX3_passTick 26 = .ok (.aload_n 0, 1) := by decide +kernel
theorem dX3_passTick_27 : decode cX3_passTick 27 = .ok (.dup, 1) := by decide +kernel
theorem dX3_passTick_28 : decode cX3_passTick 28 = .ok (.getfield 79, 3) := by decide +kernel
theorem dX3_passTick_31 : decode cX3_passTick 31 = .ok (.iconst 1, 1) := by decide +kernel
theorem dX3_passTick_32 : decode cX3_passTick 32 = .ok (.iadd, 1) := by decide +kernel
theorem dX3_passTick_33 : decode cX3_passTick 33 = .ok (.putfield 79, 3) := by decide +kernel
theorem dX3_passTick_36 : decode cX3_passTick 36 = .ok (.return_, 1) := by decide +kernel
set_option maxRecDepth 20000 in
theorem ggX3_stepBegun_X3_gatherRunning : GoodIn wsX3_stepBegun wsX3_gatherRunning := goodIn_r _ [7, 1, 8, 9, 10, 11, 2, 174, 175, 176, 177, 178, 179, 180, 181, 182, 183, 184, 185, 186, 187, 188, 189, 190, 191, 192, 193, 194, 195, 196, 197, 198, 199, 200, 201, 202, 203, 204, 205, 206, 207, 208, 209, 210, 211] (by decide +kernel) (by decide +kernel)
set_option maxRecDepth 20000 in
theorem gX3_stepBegun_X3_gatherRunning : GoodIn wsX3_stepBegun (wsV RX3 191 RX3 yX3_gatherRunning wsX3_gatherRunning) := goodIn_app (goodIn_of _ (by decide +kernel)) ggX3_stepBegun_X3_gatherRunning
set_option maxRecDepth 20000 in
theorem ggX3_stepBegun_X3_takeStep : GoodIn wsX3_stepBegun wsX3_takeStep := goodIn_r _ [15, 9, 16, 17, 18, 19, 20, 21, 22, 23, 24, 25, 26, 27, 28, 29, 6, 30, 31, 1, 2, 32, 33, 34, 35, 36, 37, 38, 39, 40, 41, 42, 43, 44, 45, 8, 11, 46, 47, 48, 49, 50, 51, 52, 53, 54, 55, 56, 57, 58, 59, 60, 61, 62, 63, 64, 65, 66, 67, 68, 69, 70, 71, 72, 73, 74, 75, 76, 77, 78, 79, 80, 81, 82, 83, 84, 85, 86, 87, 88, 89, 90, 91, 92, 93, 94, 95, 96, 97, 98, 99, 100, 101, 102, 103, 104, 105, 106, 107, 108, 109, 110, 111, 112, 113, 114, 115, 116, 117, 118, 119, 120, 121, 122, 123, 124, 125, 126, 127, 128, 129, 130, 131, 132, 133, 134, 135, 136, 137, 138, 139, 140, 141, 142, 143, 144, 145, 146, 147, 148, 149, 150, 151, 152, 153, 154, 155, 156, 157, 158, 159, 160, 10, 161, 162, 163, 164, 165, 166, 167, 168, 169, 170, 171, 172, 173, 174, 175, 176, 177, 178, 179, 180, 181, 182, 183, 184, 185, 186, 187, 188, 189, 190, 191, 192, 193, 194, 195, 196, 197, 198, 199, 200, 201, 202, 203, 204, 205, 206, 207, 208, 209, 210, 211, 212, 213, 214] (by decide +kernel) (by decide +kernel)
set_option maxRecDepth 20000 in
theorem gX3_stepBegun_X3_takeStep : GoodIn wsX3_stepBegun (wsV RX3 197 RX3 yX3_takeStep wsX3_takeStep) := goodIn_app (goodIn_of _ (by decide +kernel)) ggX3_stepBegun_X3_takeStep
theorem dX3_stepBegun_0 : decode cX3_stepBegun 0 = .ok (.aload_n 0, 1) := by decide +kernel
theorem dX3_stepBegun_1 : decode cX3_stepBegun 1 = .ok (.invokevirtual 191, 3) := by decide +kernel
theorem dX3_stepBegun_4 : decode cX3_stepBegun 4 = .ok (.iconst 0, 1) := by decide +kernel
theorem dX3_stepBegun_5 : decode cX3_stepBegun 5 = .ok (.istore_n 1, 1) := by decide +kernel
theorem dX3_stepBegun_6 : decode cX3_stepBegun 6 = .ok (.iload_n 1, 1) := by decide +kernel
theorem dX3_stepBegun_7 : decode cX3_stepBegun 7 = .ok (.aload_n 0, 1) := by decide +kernel
theorem dX3_stepBegun_8 : decode cX3_stepBegun 8 = .ok (.getfield 194, 3) := by decide +kernel
theorem dX3_stepBegun_11 : decode cX3_stepBegun 11 = .ok (.if_icmp .ge 19, 3) := by decide +kernel
theorem dX3_stepBegun_14 : decode cX3_stepBegun 14 = .ok (.aload_n 0, 1) := by decide +kernel
theorem dX3_stepBegun_15 : decode cX3_stepBegun 15 = .ok (.aload_n 0, 1) := by decide +kernel
theorem dX3_stepBegun_16 : decode cX3_stepBegun 16 = .ok (.getfield 37, 3) := by decide +kernel
theorem dX3_stepBegun_19 : decode cX3_stepBegun 19 = .ok (.iload_n 1, 1) := by decide +kernel
theorem dX3_stepBegun_20 : decode cX3_stepBegun 20 = .ok (.iaload, 1) := by decide +kernel
theorem dX3_stepBegun_21 : decode cX3_stepBegun 21 = .ok (.invokevirtual 197, 3) := by decide +kernel
theorem dX3_stepBegun_24 : decode cX3_stepBegun 24 = .ok (.iinc 1 1, 3) := by decide +kernel
theorem dX3_stepBegun_27 : decode cX3_stepBegun 27 = .ok (.goto (-21), 3) := by decide +kernel
theorem dX3_stepBegun_30 : decode cX3_stepBegun 30 = .ok (.return_, 1) := by decide +kernel
theorem dX3_gatherRunning_0 : decode cX3_gatherRunning 0 = .ok (.aload_n 0, 1) := by decide +kernel
theorem dX3_gatherRunning_1 : decode cX3_gatherRunning 1 = .ok (.iconst 0, 1) := by decide +kernel
theorem dX3_gatherRunning_2 : decode cX3_gatherRunning 2 = .ok (.putfield 194, 3) := by decide +kernel
theorem dX3_gatherRunning_5 : decode cX3_gatherRunning 5 = .ok (.iconst 0, 1) := by decide +kernel
theorem dX3_gatherRunning_6 : decode cX3_gatherRunning 6 = .ok (.istore_n 1, 1) := by decide +kernel
theorem dX3_gatherRunning_7 : decode cX3_gatherRunning 7 = .ok (.iload_n 1, 1) := by decide +kernel
theorem dX3_gatherRunning_8 : decode cX3_gatherRunning 8 = .ok (.aload_n 0, 1) := by decide +kernel
theorem dX3_gatherRunning_9 : decode cX3_gatherRunning 9 = .ok (.getfield 102, 3) := by decide +kernel
theorem dX3_gatherRunning_12 : decode cX3_gatherRunning 12 = .ok (.if_icmp .ge 61, 3) := by decide +kernel
theorem dX3_gatherRunning_15 : decode cX3_gatherRunning 15 = .ok (.aload_n 0, 1) := by decide +kernel
theorem dX3_gatherRunning_16 : decode cX3_gatherRunning 16 = .ok (.getfield 194, 3) := by decide +kernel
theorem dX3_gatherRunning_19 : decode cX3_gatherRunning 19 = .ok (.bipush 36, 2) := by decide +kernel
theorem dX3_gatherRunning_21 : decode cX3_gatherRunning 21 = .ok (.if_icmp .ge 52, 3) := by decide +kernel
theorem dX3_gatherRunning_24 : decode cX3_gatherRunning 24 = .ok (.aload_n 0, 1) := by decide +kernel
theorem dX3_gatherRunning_25 : decode cX3_gatherRunning 25 = .ok (.getfield 27, 3) := by decide +kernel
theorem dX3_gatherRunning_28 : decode cX3_gatherRunning 28 = .ok (.aload_n 0, 1) := by decide +kernel
theorem dX3_gatherRunning_29 : decode cX3_gatherRunning 29 = .ok (.getfield 31, 3) := by decide +kernel
theorem dX3_gatherRunning_32 : decode cX3_gatherRunning 32 = .ok (.iload_n 1, 1) := by decide +kernel
theorem dX3_gatherRunning_33 : decode cX3_gatherRunning 33 = .ok (.iaload, 1) := by decide +kernel
theorem dX3_gatherRunning_34 : decode cX3_gatherRunning 34 = .ok (.aaload, 1) := by decide +kernel
theorem dX3_gatherRunning_35 : decode cX3_gatherRunning 35 = .ok (.getfield 117, 3) := by decide +kernel
theorem dX3_gatherRunning_38 : decode cX3_gatherRunning 38 = .ok (.iconst 1, 1) := by decide +kernel
theorem dX3_gatherRunning_39 : decode cX3_gatherRunning 39 = .ok (.if_icmp .ne 28, 3) := by decide +kernel
theorem dX3_gatherRunning_42 : decode cX3_gatherRunning 42 = .ok (.aload_n 0, 1) := by decide +kernel
theorem dX3_gatherRunning_43 : decode cX3_gatherRunning 43 = .ok (.getfield 37, 3) := by decide +kernel
theorem dX3_gatherRunning_46 : decode cX3_gatherRunning 46 = .ok (.aload_n 0, 1) := by decide +kernel
theorem dX3_gatherRunning_47 : decode cX3_gatherRunning 47 = .ok (.getfield 194, 3) := by decide +kernel
theorem dX3_gatherRunning_50 : decode cX3_gatherRunning 50 = .ok (.aload_n 0, 1) := by decide +kernel
theorem dX3_gatherRunning_51 : decode cX3_gatherRunning 51 = .ok (.getfield 31, 3) := by decide +kernel
theorem dX3_gatherRunning_54 : decode cX3_gatherRunning 54 = .ok (.iload_n 1, 1) := by decide +kernel
theorem dX3_gatherRunning_55 : decode cX3_gatherRunning 55 = .ok (.iaload, 1) := by decide +kernel
theorem dX3_gatherRunning_56 : decode cX3_gatherRunning 56 = .ok (.iastore, 1) := by decide +kernel
theorem dX3_gatherRunning_57 : decode cX3_gatherRunning 57 = .ok (.aload_n 0, 1) := by decide +kernel
theorem dX3_gatherRunning_58 : decode cX3_gatherRunning 58 = .ok (.dup, 1) := by decide +kernel
theorem dX3_gatherRunning_59 : decode cX3_gatherRunning 59 = .ok (.getfield 194, 3) := by decide +kernel
theorem dX3_gatherRunning_62 : decode cX3_gatherRunning 62 = .ok (.iconst 1, 1) := by decide +kernel
theorem dX3_gatherRunning_63 : decode cX3_gatherRunning 63 = .ok (.iadd, 1) := by decide +kernel
theorem dX3_gatherRunning_64 : decode cX3_gatherRunning 64 = .ok (.putfield 194, 3) := by decide +kernel
theorem dX3_gatherRunning_67 : decode cX3_gatherRunning 67 = .ok (.iinc 1 1, 3) := by decide +kernel
theorem dX3_gatherRunning_70 : decode cX3_gatherRunning 70 = .ok (.goto (-63), 3) := by decide +kernel
theorem dX3_gatherRunning_73 : decode cX3_gatherRunning 73 = .ok (.return_, 1) := by decide +kernel
set_option maxRecDepth 20000 in
theorem ggX3_takeStep_X0_hasStep : GoodIn wsX3_takeStep wsX0_hasStep := goodIn_r _ [10, 11, 12, 184, 185, 186, 187, 188, 189, 190, 191, 192, 193, 194, 195, 196, 197, 198, 199, 200, 201, 202, 203] (by decide +kernel) (by decide +kernel)
set_option maxRecDepth 20000 in
theorem gX3_takeStep_X0_hasStep : GoodIn wsX3_takeStep (wsV RX3 200 RX0 yX0_hasStep wsX0_hasStep) := goodIn_app (goodIn_of _ (by decide +kernel)) ggX3_takeStep_X0_hasStep
set_option maxRecDepth 20000 in
theorem ggX3_takeStep_X3_canBe : GoodIn wsX3_takeStep wsX3_canBe := goodIn_r _ [17, 18, 19, 20, 1, 21, 22, 16, 23, 24, 25, 26, 27, 28, 29, 30, 31, 32, 33, 34, 35, 36, 37, 38, 39, 40, 41, 42, 43, 44, 166, 167, 168, 169, 170, 171, 172, 173, 174, 175, 176, 177, 178, 179, 180, 181, 182, 183, 184, 185, 186, 187, 188, 189, 190, 191, 192, 193, 194, 195, 196, 197, 198, 199, 200, 201, 202, 203] (by decide +kernel) (by decide +kernel)
set_option maxRecDepth 20000 in
theorem gX3_takeStep_X3_canBe : GoodIn wsX3_takeStep (wsV RX3 207 RX3 yX3_canBe wsX3_canBe) := goodIn_app (goodIn_of _ (by decide +kernel)) ggX3_takeStep_X3_canBe
set_option maxRecDepth 20000 in
theorem ggX3_takeStep_X3_perform : GoodIn wsX3_takeStep wsX3_perform := goodIn_r _ [48, 1, 49, 50, 4, 3, 24, 25, 16, 26, 27, 28, 29, 21, 22, 23, 51, 52, 53, 9, 54, 55, 56, 57, 58, 59, 34, 60, 61, 62, 63, 64, 65, 66, 67, 68, 69, 70, 71, 72, 73, 74, 75, 76, 77, 78, 79, 80, 81, 82, 83, 84, 85, 86, 87, 88, 89, 90, 91, 92, 93, 94, 95, 96, 97, 98, 99, 100, 101, 102, 103, 104, 105, 106, 107, 108, 109, 110, 111, 112, 113, 114, 115, 166, 167, 168, 169, 170, 171, 172, 173, 174, 175, 176, 177, 178, 179, 180, 181, 182, 183, 184, 185, 186, 187, 188, 189, 190, 191, 192, 193, 194, 195, 196, 197, 198, 199, 200, 201, 202, 203, 204, 205, 206] (by decide +kernel) (by decide +kernel)
set_option maxRecDepth 20000 in
theorem gX3_takeStep_X3_perform : GoodIn wsX3_takeStep (wsV RX3 210 RX3 yX3_perform wsX3_perform) := goodIn_app (goodIn_of _ (by decide +kernel)) ggX3_takeStep_X3_perform
set_option maxRecDepth 20000 in
theorem ggX3_takeStep_X3_stopAct : GoodIn wsX3_takeStep wsX3_stopAct := goodIn_r _ [119, 1, 50, 4, 120, 121, 122, 123, 9, 124, 125, 126, 127, 114, 55, 65, 108, 128, 129, 87, 130, 77, 78, 79, 80, 81, 82, 83, 84, 85, 86, 88, 89, 90, 91, 92, 93, 94, 95, 96, 97, 98, 99, 100, 101, 102, 103, 166, 167, 168, 169, 170, 171, 172, 173, 174, 175, 176, 177, 178, 179, 180, 181, 182, 183, 184, 185, 186, 187, 188, 189, 190, 191, 192, 193, 194, 195, 196, 197, 198, 199, 200, 201, 202, 203, 204, 205, 206] (by decide +kernel) (by decide +kernel)
set_option maxRecDepth 20000 in
theorem gX3_takeStep_X3_stopAct : GoodIn wsX3_takeStep (wsV RX3 213 RX3 yX3_stopAct wsX3_stopAct) := goodIn_app (goodIn_of _ (by decide +kernel)) ggX3_takeStep_X3_stopAct
set_option maxRecDepth 20000 in
theorem ggX3_takeStep_X3_finishAct : GoodIn wsX3_takeStep wsX3_finishAct := goodIn_r _ [134, 1, 36, 4, 135, 50, 120, 136, 137, 138, 139, 140, 141, 77, 78, 79, 80, 81, 82, 83, 84, 85, 86, 87, 88, 89, 90, 91, 92, 93, 94, 95, 96, 97, 98, 99, 100, 101, 102, 103, 142, 143, 144, 16, 145, 34, 60, 61, 62, 9, 63, 55, 64, 65, 146, 147, 148, 149, 35, 150, 151, 152, 153, 154, 155, 156, 157, 158, 159, 108, 115, 125, 160, 161, 126, 127, 162, 163, 164, 165, 166, 167, 168, 169, 170, 171, 172, 173, 174, 175, 176, 177, 178, 179, 180, 181, 182, 183, 184, 185, 186, 187, 188, 189, 190, 191, 192, 193, 194, 195, 196, 197, 198, 199, 200, 201, 202, 203, 204, 205, 206] (by decide +kernel) (by decide +kernel)
set_option maxRecDepth 20000 in
theorem gX3_takeStep_X3_finishAct : GoodIn wsX3_takeStep (wsV RX3 216 RX3 yX3_finishAct wsX3_finishAct) := goodIn_app (goodIn_of _ (by decide +kernel)) ggX3_takeStep_X3_finishAct
theorem dX3_takeStep_0 : decode cX3_takeStep 0 = .ok (.aload_n 0, 1) := by decide +kernel
theorem dX3_takeStep_1 : decode cX3_takeStep 1 = .ok (.getfield 27, 3) := by decide +kernel
theorem dX3_takeStep_4 : decode cX3_takeStep 4 = .ok (.iload_n 1, 1) := by decide +kernel
theorem dX3_takeStep_5 : decode cX3_takeStep 5 = .ok (.aaload, 1) := by decide +kernel
theorem dX3_takeStep_6 : decode cX3_takeStep 6 = .ok (.astore_n 2, 1) := by decide +kernel
theorem dX3_takeStep_7 : decode cX3_takeStep 7 = .ok (.aload_n 2, 1) := by decide +kernel
theorem dX3_takeStep_8 : decode cX3_takeStep 8 = .ok (.invokevirtual 200, 3) := by decide +kernel
theorem dX3_takeStep_11 : decode cX3_takeStep 11 = .ok (.ifCond .eq 56, 3) := by decide +kernel
theorem dX3_takeStep_14 : decode cX3_takeStep 14 = .ok (.aload_n 2, 1) := by decide +kernel
theorem dX3_takeStep_15 : decode cX3_takeStep 15 = .ok (.getfield 204, 3) := by decide +kernel
theorem dX3_takeStep_18 : decode cX3_takeStep 18 = .ok (.aload_n 2, 1) := by decide +kernel
theorem dX3_takeStep_19 : decode cX3_takeStep 19 = .ok (.getfield 129, 3) := by decide +kernel
theorem dX3_takeStep_22 : decode cX3_takeStep 22 = .ok (.iaload, 1) := by decide +kernel
theorem dX3_takeStep_23 : decode cX3_takeStep 23 = .ok (.istore_n 3, 1) := by decide +kernel
theorem dX3_takeStep_24 : decode cX3_takeStep 24 = .ok (.aload_n 0, 1) := by decide +kernel
theorem dX3_takeStep_25 : decode cX3_takeStep 25 = .ok (.iload_n 1, 1) := by decide +kernel
theorem dX3_takeStep_26 : decode cX3_takeStep 26 = .ok (.iload_n 3, 1) := by decide +kernel
theorem dX3_takeStep_27 : decode cX3_takeStep 27 = .ok (.invokevirtual 207, 3) := by decide +kernel
theorem dX3_takeStep_30 : decode cX3_takeStep 30 = .ok (.ifCond .ne 12, 3) := by decide +kernel
theorem dX3_takeStep_33 : decode cX3_takeStep 33 = .ok (.aload_n 2, 1) := by decide +kernel
theorem dX3_takeStep_34 : decode cX3_takeStep 34 = .ok (.aload_n 0, 1) := by decide +kernel
theorem dX3_takeStep_35 : decode cX3_takeStep 35 = .ok (.getfield 79, 3) := by decide +kernel
theorem dX3_takeStep_38 : decode cX3_takeStep 38 = .ok (.putfield 132, 3) := by decide +kernel
theorem dX3_takeStep_41 : decode cX3_takeStep 41 = .ok (.return_, 1) := by decide +kernel
theorem dX3_takeStep_42 : decode cX3_takeStep 42 = .ok (.aload_n 2, 1) := by decide +kernel
theorem dX3_takeStep_43 : decode cX3_takeStep 43 = .ok (.dup, 1) := by decide +kernel
theorem dX3_takeStep_44 : decode cX3_takeStep 44 = .ok (.getfield 129, 3) := by decide +kernel
theorem dX3_takeStep_47 : decode cX3_takeStep 47 = .ok (.iconst 1, 1) := by decide +kernel
theorem dX3_takeStep_48 : decode cX3_takeStep 48 = .ok (.iadd, 1) := by decide +kernel
theorem dX3_takeStep_49 : decode cX3_takeStep 49 = .ok (.putfield 129, 3) := by decide +kernel
theorem dX3_takeStep_52 : decode cX3_takeStep 52 = .ok (.aload_n 0, 1) := by decide +kernel
theorem dX3_takeStep_53 : decode cX3_takeStep 53 = .ok (.iload_n 1, 1) := by decide +kernel
theorem dX3_takeStep_54 : decode cX3_takeStep 54 = .ok (.iload_n 3, 1) := by decide +kernel
theorem dX3_takeStep_55 : decode cX3_takeStep 55 = .ok (.invokevirtual 210, 3) := by decide +kernel
theorem dX3_takeStep_58 : decode cX3_takeStep 58 = .ok (.ifCond .ne 9, 3) := by decide +kernel
theorem dX3_takeStep_61 : decode cX3_takeStep 61 = .ok (.aload_n 0, 1) := by decide +kernel
theorem dX3_takeStep_62 : decode cX3_takeStep 62 = .ok (.iload_n 1, 1) := by decide +kernel
theorem dX3_takeStep_63 : decode cX3_takeStep 63 = .ok (.invokevirtual 213, 3) := by decide +kernel
theorem dX3_takeStep_66 : decode cX3_takeStep 66 = .ok (.return_, 1) := by decide +kernel
theorem dX3_takeStep_67 : decode cX3_takeStep 67 = .ok (.aload_n 2, 1) := by decide +kernel
theorem dX3_takeStep_68 : decode cX3_takeStep 68 = .ok (.invokevirtual 200, 3) := by decide +kernel
theorem dX3_takeStep_71 : decode cX3_takeStep 71 = .ok (.ifCond .ne 8, 3) := by decide +kernel
theorem dX3_takeStep_74 : decode cX3_takeStep 74 = .ok (.aload_n 0, 1) := by decide +kernel
theorem dX3_takeStep_75 : decode cX3_takeStep 75 = .ok (.iload_n 1, 1) := by decide +kernel
theorem dX3_takeStep_76 : decode cX3_takeStep 76 = .ok (.invokevirtual 216, 3) := by decide +kernel
theorem dX3_takeStep_79 : decode cX3_takeStep 79 = .ok (.return_, 1) := by decide +kernel
set_option maxRecDepth 20000 in
theorem ggX3_canBe_X3_opOf : GoodIn wsX3_canBe wsX3_opOf := goodIn_r _ [8] (by decide +kernel) (by decide +kernel)
set_option maxRecDepth 20000 in
theorem gX3_canBe_X3_opOf : GoodIn wsX3_canBe (va_wsS RX3 170 yX3_opOf wsX3_opOf) := goodIn_app (goodIn_of _ (by decide +kernel)) ggX3_canBe_X3_opOf
set_option maxRecDepth 20000 in
theorem ggX3_canBe_X3_aOf : GoodIn wsX3_canBe wsX3_aOf := goodIn_r _ [11] (by decide +kernel) (by decide +kernel)
set_option maxRecDepth 20000 in
theorem gX3_canBe_X3_aOf : GoodIn wsX3_canBe (va_wsS RX3 173 yX3_aOf wsX3_aOf) := goodIn_app (goodIn_of _ (by decide +kernel)) ggX3_canBe_X3_aOf
set_option maxRecDepth 20000 in
theorem ggX3_canBe_X3_bOf : GoodIn wsX3_canBe wsX3_bOf := goodIn_r _ [14] (by decide +kernel) (by decide +kernel)
set_option maxRecDepth 20000 in
theorem gX3_canBe_X3_bOf : GoodIn wsX3_canBe (va_wsS RX3 219 yX3_bOf wsX3_bOf) := goodIn_app (goodIn_of _ (by decide +kernel)) ggX3_canBe_X3_bOf
set_option maxRecDepth 20000 in
theorem ggX3_canBe_X3_leastToCome : GoodIn wsX3_canBe wsX3_leastToCome := goodIn_r _ [18, 19, 20, 4, 21, 22, 30, 31, 32, 33, 34, 35, 36, 37, 38, 39, 40, 41, 42, 43, 44, 45, 46, 47, 48, 49, 50, 51, 52, 53, 54, 55, 56, 57, 58, 59, 60, 61, 62, 63, 64, 65, 66, 67] (by decide +kernel) (by decide +kernel)
set_option maxRecDepth 20000 in
theorem gX3_canBe_X3_leastToCome : GoodIn wsX3_canBe (wsV RX3 75 RX3 yX3_leastToCome wsX3_leastToCome) := goodIn_app (goodIn_of _ (by decide +kernel)) ggX3_canBe_X3_leastToCome
set_option maxRecDepth 20000 in
theorem ggX3_canBe_X3_usesCell : GoodIn wsX3_canBe wsX3_usesCell := goodIn_r _ [25, 5, 6, 7, 8] (by decide +kernel) (by decide +kernel)
set_option maxRecDepth 20000 in
theorem gX3_canBe_X3_usesCell : GoodIn wsX3_canBe (va_wsS RX3 222 yX3_usesCell wsX3_usesCell) := goodIn_app (goodIn_of _ (by decide +kernel)) ggX3_canBe_X3_usesCell
set_option maxRecDepth 20000 in
theorem ggX3_canBe_X3_blocks : GoodIn wsX3_canBe wsX3_blocks := goodIn_r _ [28, 21, 29, 9, 10, 7, 11, 5, 6, 8, 48, 49, 50, 51, 52, 53, 54, 55, 56, 57, 58, 59, 60, 61, 62, 63, 64, 65, 66, 67] (by decide +kernel) (by decide +kernel)
set_option maxRecDepth 20000 in
theorem gX3_canBe_X3_blocks : GoodIn wsX3_canBe (va_wsS RX3 225 yX3_blocks wsX3_blocks) := goodIn_app (goodIn_of _ (by decide +kernel)) ggX3_canBe_X3_blocks
theorem dX3_canBe_0 : decode cX3_canBe 0 = .ok (.iload_n 2, 1) := by decide +kernel
theorem dX3_canBe_1 : decode cX3_canBe 1 = .ok (.invokestatic 170, 3) := by decide +kernel
theorem dX3_canBe_4 : decode cX3_canBe 4 = .ok (.bipush 6, 2) := by decide +kernel
theorem dX3_canBe_6 : decode cX3_canBe 6 = .ok (.if_icmp .ne 45, 3) := by decide +kernel
theorem dX3_canBe_9 : decode cX3_canBe 9 = .ok (.iload_n 2, 1) := by decide +kernel
theorem dX3_canBe_10 : decode cX3_canBe 10 = .ok (.invokestatic 173, 3) := by decide +kernel
theorem dX3_canBe_13 : decode cX3_canBe 13 = .ok (.istore_n 3, 1) := by decide +kernel
theorem dX3_canBe_14 : decode cX3_canBe 14 = .ok (.iload_n 2, 1) := by decide +kernel
theorem dX3_canBe_15 : decode cX3_canBe 15 = .ok (.invokestatic 219, 3) := by decide +kernel
theorem dX3_canBe_18 : decode cX3_canBe 18 = .ok (.bipush 50, 2) := by decide +kernel
theorem dX3_canBe_20 : decode cX3_canBe 20 = .ok (.isub, 1) := by decide +kernel
theorem dX3_canBe_21 : decode cX3_canBe 21 = .ok (.istore 4, 2) := by decide +kernel
theorem dX3_canBe_23 : decode cX3_canBe 23 = .ok (.iload 4, 2) := by decide +kernel
theorem dX3_canBe_25 : decode cX3_canBe 25 = .ok (.ifCond .ge 20, 3) := by decide +kernel
theorem dX3_canBe_28 : decode cX3_canBe 28 = .ok (.aload_n 0, 1) := by decide +kernel
theorem dX3_canBe_29 : decode cX3_canBe 29 = .ok (.iload_n 3, 1) := by decide +kernel
theorem dX3_canBe_30 : decode cX3_canBe 30 = .ok (.invokevirtual 75, 3) := by decide +kernel
theorem dX3_canBe_33 : decode cX3_canBe 33 = .ok (.iload 4, 2) := by decide +kernel
theorem dX3_canBe_35 : decode cX3_canBe 35 = .ok (.iadd, 1) := by decide +kernel
theorem dX3_canBe_36 : decode cX3_canBe 36 = .ok (.aload_n 0, 1) := by decide +kernel
theorem dX3_canBe_37 : decode cX3_canBe 37 = .ok (.getfield 19, 3) := by decide +kernel
theorem dX3_canBe_40 : decode cX3_canBe 40 = .ok (.iload_n 3, 1) := by decide +kernel
theorem dX3_canBe_41 : decode cX3_canBe 41 = .ok (.iaload, 1) := by decide +kernel
theorem dX3_canBe_42 : decode cX3_canBe 42 = .ok (.if_icmp .lt 7, 3) := by decide +kernel
theorem dX3_canBe_45 : decode cX3_canBe 45 = .ok (.iconst 1, 1) := by decide +kernel
theorem dX3_canBe_46 : decode cX3_canBe 46 = .ok (.goto 4, 3) := by decide +kernel
theorem dX3_canBe_49 : decode cX3_canBe 49 = .ok (.iconst 0, 1) := by decide +kernel
theorem dX3_canBe_50 : decode cX3_canBe 50 = .ok (.ireturn, 1) := by decide +kernel
theorem dX3_canBe_51 : decode cX3_canBe 51 = .ok (.iload_n 2, 1) := by decide +kernel
theorem dX3_canBe_52 : decode cX3_canBe 52 = .ok (.invokestatic 222, 3) := by decide +kernel
theorem dX3_canBe_55 : decode cX3_canBe 55 = .ok (.ifCond .ne 5, 3) := by decide +kernel
theorem dX3_canBe_58 : decode cX3_canBe 58 = .ok (.iconst 1, 1) := by decide +kernel
theorem dX3_canBe_59 : decode cX3_canBe 59 = .ok (.ireturn, 1) := by decide +kernel
theorem dX3_canBe_60 : decode cX3_canBe 60 = .ok (.iconst 0, 1) := by decide +kernel
theorem dX3_canBe_61 : decode cX3_canBe 61 = .ok (.istore_n 3, 1) := by decide +kernel
theorem dX3_canBe_62 : decode cX3_canBe 62 = .ok (.iload_n 3, 1) := by decide +kernel
theorem dX3_canBe_63 : decode cX3_canBe 63 = .ok (.aload_n 0, 1) := by decide +kernel
theorem dX3_canBe_64 : decode cX3_canBe 64 = .ok (.getfield 194, 3) := by decide +kernel
theorem dX3_canBe_67 : decode cX3_canBe 67 = .ok (.if_icmp .ge 39, 3) := by decide +kernel
theorem dX3_canBe_70 : decode cX3_canBe 70 = .ok (.aload_n 0, 1) := by decide +kernel
theorem dX3_canBe_71 : decode cX3_canBe 71 = .ok (.getfield 37, 3) := by decide +kernel
theorem dX3_canBe_74 : decode cX3_canBe 74 = .ok (.iload_n 3, 1) := by decide +kernel
theorem dX3_canBe_75 : decode cX3_canBe 75 = .ok (.iaload, 1) := by decide +kernel
theorem dX3_canBe_76 : decode cX3_canBe 76 = .ok (.iload_n 1, 1) := by decide +kernel
theorem dX3_canBe_77 : decode cX3_canBe 77 = .ok (.if_icmp .eq 23, 3) := by decide +kernel
theorem dX3_canBe_80 : decode cX3_canBe 80 = .ok (.aload_n 0, 1) := by decide +kernel
theorem dX3_canBe_81 : decode cX3_canBe 81 = .ok (.getfield 27, 3) := by decide +kernel
theorem dX3_canBe_84 : decode cX3_canBe 84 = .ok (.aload_n 0, 1) := by decide +kernel
theorem dX3_canBe_85 : decode cX3_canBe 85 = .ok (.getfield 37, 3) := by decide +kernel
theorem dX3_canBe_88 : decode cX3_canBe 88 = .ok (.iload_n 3, 1) := by decide +kernel
theorem dX3_canBe_89 : decode cX3_canBe 89 = .ok (.iaload, 1) := by decide +kernel
theorem dX3_canBe_90 : decode cX3_canBe 90 = .ok (.aaload, 1) := by decide +kernel
theorem dX3_canBe_91 : decode cX3_canBe 91 = .ok (.iload_n 2, 1) := by decide +kernel
theorem dX3_canBe_92 : decode cX3_canBe 92 = .ok (.invokestatic 225, 3) := by decide +kernel
theorem dX3_canBe_95 : decode cX3_canBe 95 = .ok (.ifCond .eq 5, 3) := by decide +kernel
theorem dX3_canBe_98 : decode cX3_canBe 98 = .ok (.iconst 0, 1) := by decide +kernel
theorem dX3_canBe_99 : decode cX3_canBe 99 = .ok (.ireturn, 1) := by decide +kernel
theorem dX3_canBe_100 : decode cX3_canBe 100 = .ok (.iinc 3 1, 3) := by decide +kernel
theorem dX3_canBe_103 : decode cX3_canBe 103 = .ok (.goto (-41), 3) := by decide +kernel
theorem dX3_canBe_106 : decode cX3_canBe 106 = .ok (.iconst 1, 1) := by decide +kernel
theorem dX3_canBe_107 : decode cX3_canBe 107 = .ok (.ireturn, 1) := by decide +kernel
set_option maxRecDepth 20000 in
theorem ggX3_blocks_X3_aOf : GoodIn wsX3_blocks wsX3_aOf := goodIn_r _ [6] (by decide +kernel) (by decide +kernel)
set_option maxRecDepth 20000 in
theorem gX3_blocks_X3_aOf : GoodIn wsX3_blocks (va_wsS RX3 173 yX3_aOf wsX3_aOf) := goodIn_app (goodIn_of _ (by decide +kernel)) ggX3_blocks_X3_aOf
set_option maxRecDepth 20000 in
theorem ggX3_blocks_X3_opOf : GoodIn wsX3_blocks wsX3_opOf := goodIn_r _ [9] (by decide +kernel) (by decide +kernel)
set_option maxRecDepth 20000 in
theorem gX3_blocks_X3_opOf : GoodIn wsX3_blocks (va_wsS RX3 170 yX3_opOf wsX3_opOf) := goodIn_app (goodIn_of _ (by decide +kernel)) ggX3_blocks_X3_opOf
theorem dX3_blocks_0 : decode cX3_blocks 0 = .ok (.aload_n 0, 1) := by decide +kernel
theorem dX3_blocks_1 : decode cX3_blocks 1 = .ok (.getfield 117, 3) := by decide +kernel
theorem dX3_blocks_4 : decode cX3_blocks 4 = .ok (.iconst 1, 1) := by decide +kernel
theorem dX3_blocks_5 : decode cX3_blocks 5 = .ok (.if_icmp .eq 5, 3) := by decide +kernel
theorem dX3_blocks_8 : decode cX3_blocks 8 = .ok (.iconst 0, 1) := by decide +kernel
theorem dX3_blocks_9 : decode cX3_blocks 9 = .ok (.ireturn, 1) := by decide +kernel
theorem dX3_blocks_10 : decode cX3_blocks 10 = .ok (.aload_n 0, 1) := by decide +kernel
theorem dX3_blocks_11 : decode cX3_blocks 11 = .ok (.getfield 151, 3) := by decide +kernel
theorem dX3_blocks_14 : decode cX3_blocks 14 = .ok (.iload_n 1, 1) := by decide +kernel
theorem dX3_blocks_15 : decode cX3_blocks 15 = .ok (.invokestatic 173, 3) := by decide +kernel
theorem dX3_blocks_18 : decode cX3_blocks 18 = .ok (.iaload, 1) := by decide +kernel
theorem dX3_blocks_19 : decode cX3_blocks 19 = .ok (.istore_n 2, 1) := by decide +kernel
theorem dX3_blocks_20 : decode cX3_blocks 20 = .ok (.iload_n 1, 1) := by decide +kernel
theorem dX3_blocks_21 : decode cX3_blocks 21 = .ok (.invokestatic 170, 3) := by decide +kernel
theorem dX3_blocks_24 : decode cX3_blocks 24 = .ok (.iconst 3, 1) := by decide +kernel
theorem dX3_blocks_25 : decode cX3_blocks 25 = .ok (.if_icmp .ne 15, 3) := by decide +kernel
theorem dX3_blocks_28 : decode cX3_blocks 28 = .ok (.iload_n 2, 1) := by decide +kernel
theorem dX3_blocks_29 : decode cX3_blocks 29 = .ok (.ifCond .eq 7, 3) := by decide +kernel
theorem dX3_blocks_32 : decode cX3_blocks 32 = .ok (.iconst 1, 1) := by decide +kernel
theorem dX3_blocks_33 : decode cX3_blocks 33 = .ok (.goto 17, 3) := by decide +kernel
theorem dX3_blocks_36 : decode cX3_blocks 36 = .ok (.iconst 0, 1) := by decide +kernel
theorem dX3_blocks_37 : decode cX3_blocks 37 = .ok (.goto 13, 3) := by decide +kernel
theorem dX3_blocks_40 : decode cX3_blocks 40 = .ok (.iload_n 2, 1) := by decide +kernel
theorem dX3_blocks_41 : decode cX3_blocks 41 = .ok (.iconst 2, 1) := by decide +kernel
theorem dX3_blocks_42 : decode cX3_blocks 42 = .ok (.if_icmp .ne 7, 3) := by decide +kernel
theorem dX3_blocks_45 : decode cX3_blocks 45 = .ok (.iconst 1, 1) := by decide +kernel
theorem dX3_blocks_46 : decode cX3_blocks 46 = .ok (.goto 4, 3) := by decide +kernel
theorem dX3_blocks_49 : decode cX3_blocks 49 = .ok (.iconst 0, 1) := by decide +kernel
theorem dX3_blocks_50 : decode cX3_blocks 50 = .ok (.ireturn, 1) := by decide +kernel
theorem dX3_leastToCome_0 : decode cX3_leastToCome 0 = .ok (.aload_n 0, 1) := by decide +kernel
theorem dX3_leastToCome_1 : decode cX3_leastToCome 1 = .ok (.getfield 22, 3) := by decide +kernel
theorem dX3_leastToCome_4 : decode cX3_leastToCome 4 = .ok (.bipush 24, 2) := by decide +kernel
theorem dX3_leastToCome_6 : decode cX3_leastToCome 6 = .ok (.iload_n 1, 1) := by decide +kernel
theorem dX3_leastToCome_7 : decode cX3_leastToCome 7 = .ok (.iadd, 1) := by decide +kernel
theorem dX3_leastToCome_8 : decode cX3_leastToCome 8 = .ok (.iaload, 1) := by decide +kernel
theorem dX3_leastToCome_9 : decode cX3_leastToCome 9 = .ok (.istore_n 2, 1) := by decide +kernel
theorem dX3_leastToCome_10 : decode cX3_leastToCome 10 = .ok (.iconst 0, 1) := by decide +kernel
theorem dX3_leastToCome_11 : decode cX3_leastToCome 11 = .ok (.istore_n 3, 1) := by decide +kernel
theorem dX3_leastToCome_12 : decode cX3_leastToCome 12 = .ok (.iload_n 3, 1) := by decide +kernel
theorem dX3_leastToCome_13 : decode cX3_leastToCome 13 = .ok (.aload_n 0, 1) := by decide +kernel
theorem dX3_leastToCome_14 : decode cX3_leastToCome 14 = .ok (.getfield 102, 3) := by decide +kernel
theorem dX3_leastToCome_17 : decode cX3_leastToCome 17 = .ok (.if_icmp .ge 36, 3) := by decide +kernel
theorem dX3_leastToCome_20 : decode cX3_leastToCome 20 = .ok (.aload_n 0, 1) := by decide +kernel
theorem dX3_leastToCome_21 : decode cX3_leastToCome 21 = .ok (.getfield 27, 3) := by decide +kernel
theorem dX3_leastToCome_24 : decode cX3_leastToCome 24 = .ok (.iload_n 3, 1) := by decide +kernel
theorem dX3_leastToCome_25 : decode cX3_leastToCome 25 = .ok (.aaload, 1) := by decide +kernel
theorem dX3_leastToCome_26 : decode cX3_leastToCome 26 = .ok (.getfield 117, 3) := by decide +kernel
theorem dX3_leastToCome_29 : decode cX3_leastToCome 29 = .ok (.iconst 1, 1) := by decide +kernel
theorem dX3_leastToCome_30 : decode cX3_leastToCome 30 = .ok (.if_icmp .ne 17, 3) := by decide +kernel
theorem dX3_leastToCome_33 : decode cX3_leastToCome 33 = .ok (.iload_n 2, 1) := by decide +kernel
theorem dX3_leastToCome_34 : decode cX3_leastToCome 34 = .ok (.aload_n 0, 1) := by decide +kernel
theorem dX3_leastToCome_35 : decode cX3_leastToCome 35 = .ok (.getfield 27, 3) := by decide +kernel
theorem dX3_leastToCome_38 : decode cX3_leastToCome 38 = .ok (.iload_n 3, 1) := by decide +kernel
theorem dX3_leastToCome_39 : decode cX3_leastToCome 39 = .ok (.aaload, 1) := by decide +kernel
theorem dX3_leastToCome_40 : decode cX3_leastToCome 40 = .ok (.getfield 229, 3) := by decide +kernel
theorem dX3_leastToCome_43 : decode cX3_leastToCome 43 = .ok (.iload_n 1, 1) := by decide +kernel
theorem dX3_leastToCome_44 : decode cX3_leastToCome 44 = .ok (.iaload, 1) := by decide +kernel
theorem dX3_leastToCome_45 : decode cX3_leastToCome 45 = .ok (.iadd, 1) := by decide +kernel
theorem dX3_leastToCome_46 : decode cX3_leastToCome 46 = .ok (.istore_n 2, 1) := by decide +kernel
theorem dX3_leastToCome_47 : decode cX3_leastToCome 47 = .ok (.iinc 3 1, 3) := by decide +kernel
theorem dX3_leastToCome_50 : decode cX3_leastToCome 50 = .ok (.goto (-38), 3) := by decide +kernel
theorem dX3_leastToCome_53 : decode cX3_leastToCome 53 = .ok (.iload_n 2, 1) := by decide +kernel
theorem dX3_leastToCome_54 : decode cX3_leastToCome 54 = .ok (.ireturn, 1) := by decide +kernel
set_option maxRecDepth 20000 in
theorem ggX3_perform_X3_aOf : GoodIn wsX3_perform wsX3_aOf := goodIn_r _ [9] (by decide +kernel) (by decide +kernel)
set_option maxRecDepth 20000 in
theorem gX3_perform_X3_aOf : GoodIn wsX3_perform (va_wsS RX3 173 yX3_aOf wsX3_aOf) := goodIn_app (goodIn_of _ (by decide +kernel)) ggX3_perform_X3_aOf
set_option maxRecDepth 20000 in
theorem ggX3_perform_X3_bOf : GoodIn wsX3_perform wsX3_bOf := goodIn_r _ [12] (by decide +kernel) (by decide +kernel)
set_option maxRecDepth 20000 in
theorem gX3_perform_X3_bOf : GoodIn wsX3_perform (va_wsS RX3 219 yX3_bOf wsX3_bOf) := goodIn_app (goodIn_of _ (by decide +kernel)) ggX3_perform_X3_bOf
set_option maxRecDepth 20000 in
theorem ggX3_perform_X3_opOf : GoodIn wsX3_perform wsX3_opOf := goodIn_r _ [15] (by decide +kernel) (by decide +kernel)
set_option maxRecDepth 20000 in
theorem gX3_perform_X3_opOf : GoodIn wsX3_perform (va_wsS RX3 170 yX3_opOf wsX3_opOf) := goodIn_app (goodIn_of _ (by decide +kernel)) ggX3_perform_X3_opOf
set_option maxRecDepth 20000 in
theorem ggX3_perform_X0_lockToRead : GoodIn wsX3_perform wsX0_lockToRead := goodIn_r _ [20, 21, 101, 102, 103, 104, 105, 106, 107, 108, 109, 110, 111, 112, 113, 114, 115, 116, 117, 118, 119, 120] (by decide +kernel) (by decide +kernel)
set_option maxRecDepth 20000 in
theorem gX3_perform_X0_lockToRead : GoodIn wsX3_perform (wsV RX3 232 RX0 yX0_lockToRead wsX0_lockToRead) := goodIn_app (goodIn_of _ (by decide +kernel)) ggX3_perform_X0_lockToRead
set_option maxRecDepth 20000 in
theorem ggX3_perform_X3_seenBy : GoodIn wsX3_perform wsX3_seenBy := goodIn_r _ [25, 26, 27, 28, 29, 19, 30, 21, 31, 32, 83, 84, 85, 86, 87, 88, 89, 90, 91, 92, 93, 94, 95, 96, 97, 98, 99, 100, 101, 102, 103, 104, 105, 106, 107, 108, 109, 110, 111, 112, 113, 114, 115, 116, 117, 118, 119, 120] (by decide +kernel) (by decide +kernel)
set_option maxRecDepth 20000 in
theorem gX3_perform_X3_seenBy : GoodIn wsX3_perform (wsV RX3 235 RX3 yX3_seenBy wsX3_seenBy) := goodIn_app (goodIn_of _ (by decide +kernel)) ggX3_perform_X3_seenBy
set_option maxRecDepth 20000 in
theorem ggX3_perform_X0_load : GoodIn wsX3_perform wsX0_load := goodIn_r _ [36, 37, 38, 39, 101, 102, 103, 104, 105, 106, 107, 108, 109, 110, 111, 112, 113, 114, 115, 116, 117, 118, 119, 120] (by decide +kernel) (by decide +kernel)
set_option maxRecDepth 20000 in
theorem gX3_perform_X0_load : GoodIn wsX3_perform (wsV RX3 239 RX0 yX0_load wsX0_load) := goodIn_app (goodIn_of _ (by decide +kernel)) ggX3_perform_X0_load
set_option maxRecDepth 20000 in
theorem ggX3_perform_X0_put : GoodIn wsX3_perform wsX0_put := goodIn_r _ [43, 21, 31, 39, 101, 102, 103, 104, 105, 106, 107, 108, 109, 110, 111, 112, 113, 114, 115, 116, 117, 118, 119, 120] (by decide +kernel) (by decide +kernel)
set_option maxRecDepth 20000 in
theorem gX3_perform_X0_put : GoodIn wsX3_perform (wsV RX3 242 RX0 yX0_put wsX0_put) := goodIn_app (goodIn_of _ (by decide +kernel)) ggX3_perform_X0_put
set_option maxRecDepth 20000 in
theorem ggX3_perform_X1_write : GoodIn wsX3_perform wsX1_write := goodIn_r _ [48, 49, 50, 51, 52, 53, 54, 55, 56, 57, 58, 59, 60, 61, 62, 63, 64, 65, 66, 67, 68, 69, 70, 121, 122, 123] (by decide +kernel) (by decide +kernel)
set_option maxRecDepth 20000 in
theorem gX3_perform_X1_write : GoodIn wsX3_perform (wsV RX3 245 RX1 yX1_write wsX1_write) := goodIn_app (goodIn_of _ (by decide +kernel)) ggX3_perform_X1_write
set_option maxRecDepth 20000 in
theorem ggX3_perform_X0_give : GoodIn wsX3_perform wsX0_give := goodIn_r _ [74, 32, 75, 76, 64, 65, 66, 101, 102, 103, 104, 105, 106, 107, 108, 109, 110, 111, 112, 113, 114, 115, 116, 117, 118, 119, 120] (by decide +kernel) (by decide +kernel)
set_option maxRecDepth 20000 in
theorem gX3_perform_X0_give : GoodIn wsX3_perform (wsV RX3 248 RX0 yX0_give wsX0_give) := goodIn_app (goodIn_of _ (by decide +kernel)) ggX3_perform_X0_give
set_option maxRecDepth 20000 in
theorem ggX3_perform_X0_enqueue : GoodIn wsX3_perform wsX0_enqueue := goodIn_r _ [80, 81, 82, 101, 102, 103, 104, 105, 106, 107, 108, 109, 110, 111, 112, 113, 114, 115, 116, 117, 118, 119, 120] (by decide +kernel) (by decide +kernel)
set_option maxRecDepth 20000 in
theorem gX3_perform_X0_enqueue : GoodIn wsX3_perform (wsV RX3 252 RX0 yX0_enqueue wsX0_enqueue) := goodIn_app (goodIn_of _ (by decide +kernel)) ggX3_perform_X0_enqueue
theorem dX3_perform_0 : decode cX3_perform 0 = .ok (.aload_n 0, 1) := by decide +kernel
theorem dX3_perform_1 : decode cX3_perform 1 = .ok (.getfield 27, 3) := by decide +kernel
theorem dX3_perform_4 : decode cX3_perform 4 = .ok (.iload_n 1, 1) := by decide +kernel
theorem dX3_perform_5 : decode cX3_perform 5 = .ok (.aaload, 1) := by decide +kernel
theorem dX3_perform_6 : decode cX3_perform 6 = .ok (.astore_n 3, 1) := by decide +kernel
theorem dX3_perform_7 : decode cX3_perform 7 = .ok (.iload_n 2, 1) := by decide +kernel
theorem dX3_perform_8 : decode cX3_perform 8 = .ok (.invokestatic 173, 3) := by decide +kernel
theorem dX3_perform_11 : decode cX3_perform 11 = .ok (.istore 4, 2) := by decide +kernel
theorem dX3_perform_13 : decode cX3_perform 13 = .ok (.iload_n 2, 1) := by decide +kernel
theorem dX3_perform_14 : decode cX3_perform 14 = .ok (.invokestatic 219, 3) := by decide +kernel
theorem dX3_perform_17 : decode cX3_perform 17 = .ok (.istore 5, 2) := by decide +kernel
theorem dX3_perform_19 : decode cX3_perform 19 = .ok (.iload_n 2, 1) := by decide +kernel
theorem dX3_perform_20 : decode cX3_perform 20 = .ok (.invokestatic 170, 3) := by decide +kernel
theorem dX3_perform_23 : decode cX3_perform 23 = .ok (.tableswitch 197 0 8 #[49, 67, 77, 92, 116, 139, 152, 165, 173], 49) := by decide +kernel
theorem dX3_perform_72 : decode cX3_perform 72 = .ok (.aload_n 3, 1) := by decide +kernel
theorem dX3_perform_73 : decode cX3_perform 73 = .ok (.iload 4, 2) := by decide +kernel
theorem dX3_perform_75 : decode cX3_perform 75 = .ok (.invokevirtual 232, 3) := by decide +kernel
theorem dX3_perform_78 : decode cX3_perform 78 = .ok (.aload_n 3, 1) := by decide +kernel
theorem dX3_perform_79 : decode cX3_perform 79 = .ok (.aload_n 0, 1) := by decide +kernel
theorem dX3_perform_80 : decode cX3_perform 80 = .ok (.aload_n 3, 1) := by decide +kernel
theorem dX3_perform_81 : decode cX3_perform 81 = .ok (.iload 4, 2) := by decide +kernel
theorem dX3_perform_83 : decode cX3_perform 83 = .ok (.invokevirtual 235, 3) := by decide +kernel
theorem dX3_perform_86 : decode cX3_perform 86 = .ok (.invokevirtual 239, 3) := by decide +kernel
theorem dX3_perform_89 : decode cX3_perform 89 = .ok (.ireturn, 1) := by decide +kernel
theorem dX3_perform_90 : decode cX3_perform 90 = .ok (.aload_n 3, 1) := by decide +kernel
theorem dX3_perform_91 : decode cX3_perform 91 = .ok (.iload 5, 2) := by decide +kernel
theorem dX3_perform_93 : decode cX3_perform 93 = .ok (.bipush 50, 2) := by decide +kernel
theorem dX3_perform_95 : decode cX3_perform 95 = .ok (.isub, 1) := by decide +kernel
theorem dX3_perform_96 : decode cX3_perform 96 = .ok (.invokevirtual 239, 3) := by decide +kernel
theorem dX3_perform_99 : decode cX3_perform 99 = .ok (.ireturn, 1) := by decide +kernel
theorem dX3_perform_100 : decode cX3_perform 100 = .ok (.aload_n 3, 1) := by decide +kernel
theorem dX3_perform_101 : decode cX3_perform 101 = .ok (.aload_n 3, 1) := by decide +kernel
theorem dX3_perform_102 : decode cX3_perform 102 = .ok (.getfield 148, 3) := by decide +kernel
theorem dX3_perform_105 : decode cX3_perform 105 = .ok (.iload 5, 2) := by decide +kernel
theorem dX3_perform_107 : decode cX3_perform 107 = .ok (.iadd, 1) := by decide +kernel
theorem dX3_perform_108 : decode cX3_perform 108 = .ok (.bipush 50, 2) := by decide +kernel
theorem dX3_perform_110 : decode cX3_perform 110 = .ok (.isub, 1) := by decide +kernel
theorem dX3_perform_111 : decode cX3_perform 111 = .ok (.invokevirtual 239, 3) := by decide +kernel
theorem dX3_perform_114 : decode cX3_perform 114 = .ok (.ireturn, 1) := by decide +kernel
theorem dX3_perform_115 : decode cX3_perform 115 = .ok (.aload_n 3, 1) := by decide +kernel
theorem dX3_perform_116 : decode cX3_perform 116 = .ok (.iload 4, 2) := by decide +kernel
theorem dX3_perform_118 : decode cX3_perform 118 = .ok (.invokevirtual 242, 3) := by decide +kernel
theorem dX3_perform_121 : decode cX3_perform 121 = .ok (.aload_n 0, 1) := by decide +kernel
theorem dX3_perform_122 : decode cX3_perform 122 = .ok (.getfield 46, 3) := by decide +kernel
theorem dX3_perform_125 : decode cX3_perform 125 = .ok (.iconst 1, 1) := by decide +kernel
theorem dX3_perform_126 : decode cX3_perform 126 = .ok (.iload_n 1, 1) := by decide +kernel
theorem dX3_perform_127 : decode cX3_perform 127 = .ok (.iload 4, 2) := by decide +kernel
theorem dX3_perform_129 : decode cX3_perform 129 = .ok (.aload_n 0, 1) := by decide +kernel
theorem dX3_perform_130 : decode cX3_perform 130 = .ok (.getfield 79, 3) := by decide +kernel
theorem dX3_perform_133 : decode cX3_perform 133 = .ok (.invokevirtual 245, 3) := by decide +kernel
theorem dX3_perform_136 : decode cX3_perform 136 = .ok (.pop, 1) := by decide +kernel
theorem dX3_perform_137 : decode cX3_perform 137 = .ok (.iconst 1, 1) := by decide +kernel
theorem dX3_perform_138 : decode cX3_perform 138 = .ok (.ireturn, 1) := by decide +kernel
theorem dX3_perform_139 : decode cX3_perform 139 = .ok (.aload_n 3, 1) := by decide +kernel
theorem dX3_perform_140 : decode cX3_perform 140 = .ok (.iload 4, 2) := by decide +kernel
theorem dX3_perform_142 : decode cX3_perform 142 = .ok (.invokevirtual 232, 3) := by decide +kernel
theorem dX3_perform_145 : decode cX3_perform 145 = .ok (.aload_n 3, 1) := by decide +kernel
theorem dX3_perform_146 : decode cX3_perform 146 = .ok (.aload_n 3, 1) := by decide +kernel
theorem dX3_perform_147 : decode cX3_perform 147 = .ok (.getfield 148, 3) := by decide +kernel
theorem dX3_perform_150 : decode cX3_perform 150 = .ok (.aload_n 0, 1) := by decide +kernel
theorem dX3_perform_151 : decode cX3_perform 151 = .ok (.aload_n 3, 1) := by decide +kernel
theorem dX3_perform_152 : decode cX3_perform 152 = .ok (.iload 4, 2) := by decide +kernel
theorem dX3_perform_154 : decode cX3_perform 154 = .ok (.invokevirtual 235, 3) := by decide +kernel
theorem dX3_perform_157 : decode cX3_perform 157 = .ok (.iadd, 1) := by decide +kernel
theorem dX3_perform_158 : decode cX3_perform 158 = .ok (.invokevirtual 239, 3) := by decide +kernel
theorem dX3_perform_161 : decode cX3_perform 161 = .ok (.ireturn, 1) := by decide +kernel
theorem dX3_perform_162 : decode cX3_perform 162 = .ok (.aload_n 3, 1) := by decide +kernel
theorem dX3_perform_163 : decode cX3_perform 163 = .ok (.getfield 148, 3) := by decide +kernel
theorem dX3_perform_166 : decode cX3_perform 166 = .ok (.ifCond .lt 7, 3) := by decide +kernel
theorem dX3_perform_169 : decode cX3_perform 169 = .ok (.iconst 1, 1) := by decide +kernel
theorem dX3_perform_170 : decode cX3_perform 170 = .ok (.goto 4, 3) := by decide +kernel
theorem dX3_perform_173 : decode cX3_perform 173 = .ok (.iconst 0, 1) := by decide +kernel
theorem dX3_perform_174 : decode cX3_perform 174 = .ok (.ireturn, 1) := by decide +kernel
theorem dX3_perform_175 : decode cX3_perform 175 = .ok (.aload_n 3, 1) := by decide +kernel
theorem dX3_perform_176 : decode cX3_perform 176 = .ok (.iload 4, 2) := by decide +kernel
theorem dX3_perform_178 : decode cX3_perform 178 = .ok (.iload 5, 2) := by decide +kernel
theorem dX3_perform_180 : decode cX3_perform 180 = .ok (.bipush 50, 2) := by decide +kernel
theorem dX3_perform_182 : decode cX3_perform 182 = .ok (.isub, 1) := by decide +kernel
theorem dX3_perform_183 : decode cX3_perform 183 = .ok (.invokevirtual 248, 3) := by decide +kernel
theorem dX3_perform_186 : decode cX3_perform 186 = .ok (.iconst 1, 1) := by decide +kernel
theorem dX3_perform_187 : decode cX3_perform 187 = .ok (.ireturn, 1) := by decide +kernel
theorem dX3_perform_188 : decode cX3_perform 188 = .ok (.aload_n 3, 1) := by decide +kernel
theorem dX3_perform_189 : decode cX3_perform 189 = .ok (.iload 4, 2) := by decide +kernel
theorem dX3_perform_191 : decode cX3_perform 191 = .ok (.invokevirtual 252, 3) := by decide +kernel
theorem dX3_perform_194 : decode cX3_perform 194 = .ok (.iconst 1, 1) := by decide +kernel
theorem dX3_perform_195 : decode cX3_perform 195 = .ok (.ireturn, 1) := by decide +kernel
theorem dX3_perform_196 : decode cX3_perform 196 = .ok (.aload_n 3, 1) := by decide +kernel
theorem dX3_perform_197 : decode cX3_perform 197 = .ok (.dup, 1) := by decide +kernel
theorem dX3_perform_198 : decode cX3_perform 198 = .ok (.getfield 129, 3) := by decide +kernel
theorem dX3_perform_201 : decode cX3_perform 201 = .ok (.aload_n 3, 1) := by decide +kernel
theorem dX3_perform_202 : decode cX3_perform 202 = .ok (.getfield 148, 3) := by decide +kernel
theorem dX3_perform_205 : decode cX3_perform 205 = .ok (.ifCond .ge 8, 3) := by decide +kernel
theorem dX3_perform_208 : decode cX3_perform 208 = .ok (.iload 5, 2) := by decide +kernel
theorem dX3_perform_210 : decode cX3_perform 210 = .ok (.goto 4, 3) := by decide +kernel
theorem dX3_perform_213 : decode cX3_perform 213 = .ok (.iconst 0, 1) := by decide +kernel
theorem dX3_perform_214 : decode cX3_perform 214 = .ok (.iadd, 1) := by decide +kernel
theorem dX3_perform_215 : decode cX3_perform 215 = .ok (.putfield 129, 3) := by decide +kernel
theorem dX3_perform_218 : decode cX3_perform 218 = .ok (.iconst 1, 1) := by decide +kernel
theorem dX3_perform_219 : decode cX3_perform 219 = .ok (.ireturn, 1) := by decide +kernel
theorem dX3_perform_220 : decode cX3_perform 220 = .ok (.iconst 1, 1) := by decide +kernel
theorem dX3_perform_221 : decode cX3_perform 221 = .ok (.ireturn, 1) := by decide +kernel
set_option maxRecDepth 20000 in
theorem ggX3_seenBy_X0_valueAfter : GoodIn wsX3_seenBy wsX0_valueAfter := goodIn_r _ [6, 7, 8, 9, 28, 29, 30, 31, 32, 33, 34, 35, 36, 37, 38, 39, 40, 41, 42, 43, 44, 45, 46, 47] (by decide +kernel) (by decide +kernel)
set_option maxRecDepth 20000 in
theorem gX3_seenBy_X0_valueAfter : GoodIn wsX3_seenBy (wsV RX3 157 RX0 yX0_valueAfter wsX0_valueAfter) := goodIn_app (goodIn_of _ (by decide +kernel)) ggX3_seenBy_X0_valueAfter
theorem dX3_seenBy_0 : decode cX3_seenBy 0 = .ok (.aload_n 1, 1) := by decide +kernel
theorem dX3_seenBy_1 : decode cX3_seenBy 1 = .ok (.iload_n 2, 1) := by decide +kernel
theorem dX3_seenBy_2 : decode cX3_seenBy 2 = .ok (.aload_n 0, 1) := by decide +kernel
theorem dX3_seenBy_3 : decode cX3_seenBy 3 = .ok (.getfield 22, 3) := by decide +kernel
theorem dX3_seenBy_6 : decode cX3_seenBy 6 = .ok (.iload_n 2, 1) := by decide +kernel
theorem dX3_seenBy_7 : decode cX3_seenBy 7 = .ok (.iaload, 1) := by decide +kernel
theorem dX3_seenBy_8 : decode cX3_seenBy 8 = .ok (.invokevirtual 157, 3) := by decide +kernel
theorem dX3_seenBy_11 : decode cX3_seenBy 11 = .ok (.ireturn, 1) := by decide +kernel
set_option maxRecDepth 20000 in
theorem ggX3_stopAct_X0_leave : GoodIn wsX3_stopAct wsX0_leave := goodIn_r _ [9, 10, 11, 12, 13, 14, 15, 16, 17, 18, 19, 20, 65, 66, 67, 68, 69, 70, 71, 72, 73, 74, 75, 76, 77, 78, 79, 80, 81, 82, 83, 84] (by decide +kernel) (by decide +kernel)
set_option maxRecDepth 20000 in
theorem gX3_stopAct_X0_leave : GoodIn wsX3_stopAct (wsV RX3 255 RX0 yX0_leave wsX0_leave) := goodIn_app (goodIn_of _ (by decide +kernel)) ggX3_stopAct_X0_leave
set_option maxRecDepth 20000 in
theorem ggX3_stopAct_X1_write : GoodIn wsX3_stopAct wsX1_write := goodIn_r _ [25, 26, 27, 28, 29, 30, 19, 31, 32, 33, 34, 35, 36, 37, 38, 39, 40, 41, 42, 43, 44, 45, 46, 85, 86, 87] (by decide +kernel) (by decide +kernel)
set_option maxRecDepth 20000 in
theorem gX3_stopAct_X1_write : GoodIn wsX3_stopAct (wsV RX3 245 RX1 yX1_write wsX1_write) := goodIn_app (goodIn_of _ (by decide +kernel)) ggX3_stopAct_X1_write
theorem dX3_stopAct_0 : decode cX3_stopAct 0 = .ok (.aload_n 0, 1) := by decide +kernel
theorem dX3_stopAct_1 : decode cX3_stopAct 1 = .ok (.getfield 27, 3) := by decide +kernel
theorem dX3_stopAct_4 : decode cX3_stopAct 4 = .ok (.iload_n 1, 1) := by decide +kernel
theorem dX3_stopAct_5 : decode cX3_stopAct 5 = .ok (.aaload, 1) := by decide +kernel
theorem dX3_stopAct_6 : decode cX3_stopAct 6 = .ok (.astore_n 2, 1) := by decide +kernel
theorem dX3_stopAct_7 : decode cX3_stopAct 7 = .ok (.aload_n 2, 1) := by decide +kernel
theorem dX3_stopAct_8 : decode cX3_stopAct 8 = .ok (.iconst 4, 1) := by decide +kernel
theorem dX3_stopAct_9 : decode cX3_stopAct 9 = .ok (.invokevirtual 255, 3) := by decide +kernel
theorem dX3_stopAct_12 : decode cX3_stopAct 12 = .ok (.aload_n 2, 1) := by decide +kernel
theorem dX3_stopAct_13 : decode cX3_stopAct 13 = .ok (.aload_n 0, 1) := by decide +kernel
theorem dX3_stopAct_14 : decode cX3_stopAct 14 = .ok (.getfield 46, 3) := by decide +kernel
theorem dX3_stopAct_17 : decode cX3_stopAct 17 = .ok (.iconst 3, 1) := by decide +kernel
theorem dX3_stopAct_18 : decode cX3_stopAct 18 = .ok (.iload_n 1, 1) := by decide +kernel
theorem dX3_stopAct_19 : decode cX3_stopAct 19 = .ok (.iconst (-1), 1) := by decide +kernel
theorem dX3_stopAct_20 : decode cX3_stopAct 20 = .ok (.aload_n 0, 1) := by decide +kernel
theorem dX3_stopAct_21 : decode cX3_stopAct 21 = .ok (.getfield 79, 3) := by decide +kernel
theorem dX3_stopAct_24 : decode cX3_stopAct 24 = .ok (.invokevirtual 245, 3) := by decide +kernel
theorem dX3_stopAct_27 : decode cX3_stopAct 27 = .ok (.putfield 258, 3) := by decide +kernel
theorem dX3_stopAct_30 : decode cX3_stopAct 30 = .ok (.return_, 1) := by decide +kernel
set_option maxRecDepth 20000 in
theorem ggX3_finishAct_X1_write : GoodIn wsX3_finishAct wsX1_write := goodIn_r _ [17, 18, 19, 20, 21, 22, 23, 24, 25, 26, 27, 28, 29, 30, 31, 32, 33, 34, 35, 36, 37, 38, 39, 118, 119, 120] (by decide +kernel) (by decide +kernel)
set_option maxRecDepth 20000 in
theorem gX3_finishAct_X1_write : GoodIn wsX3_finishAct (wsV RX3 245 RX1 yX1_write wsX1_write) := goodIn_app (goodIn_of _ (by decide +kernel)) ggX3_finishAct_X1_write
set_option maxRecDepth 20000 in
theorem ggX3_finishAct_X3_tellValues : GoodIn wsX3_finishAct wsX3_tellValues := goodIn_r _ [44, 45, 46, 47, 48, 49, 50, 51, 52, 53, 80, 81, 82, 83, 84, 85, 86, 87, 88, 89, 90, 91, 92, 93, 94, 95, 96, 97, 98, 99, 100, 101, 102, 103, 104, 105, 106, 107, 108, 109, 110, 111, 112, 113, 114, 115, 116, 117] (by decide +kernel) (by decide +kernel)
set_option maxRecDepth 20000 in
theorem gX3_finishAct_X3_tellValues : GoodIn wsX3_finishAct (wsV RX3 261 RX3 yX3_tellValues wsX3_tellValues) := goodIn_app (goodIn_of _ (by decide +kernel)) ggX3_finishAct_X3_tellValues
set_option maxRecDepth 20000 in
theorem ggX3_finishAct_X3_admit : GoodIn wsX3_finishAct wsX3_admit := goodIn_r _ [57, 58, 1, 59, 60, 49, 61, 12, 62, 63, 64, 65, 66, 67, 31, 68, 51, 52, 53, 69, 70, 71, 72, 73, 74, 75, 76, 77, 78, 79, 80, 81, 82, 83, 84, 85, 86, 87, 88, 89, 90, 91, 92, 93, 94, 95, 96, 97, 98, 99, 100, 101, 102, 103, 104, 105, 106, 107, 108, 109, 110, 111, 112, 113, 114, 115, 116, 117] (by decide +kernel) (by decide +kernel)
set_option maxRecDepth 20000 in
theorem gX3_finishAct_X3_admit : GoodIn wsX3_finishAct (wsV RX3 71 RX3 yX3_admit wsX3_admit) := goodIn_app (goodIn_of _ (by decide +kernel)) ggX3_finishAct_X3_admit
theorem dX3_finishAct_0 : decode cX3_finishAct 0 = .ok (.aload_n 0, 1) := by decide +kernel
theorem dX3_finishAct_1 : decode cX3_finishAct 1 = .ok (.getfield 27, 3) := by decide +kernel
theorem dX3_finishAct_4 : decode cX3_finishAct 4 = .ok (.iload_n 1, 1) := by decide +kernel
theorem dX3_finishAct_5 : decode cX3_finishAct 5 = .ok (.aaload, 1) := by decide +kernel
theorem dX3_finishAct_6 : decode cX3_finishAct 6 = .ok (.astore_n 2, 1) := by decide +kernel
theorem dX3_finishAct_7 : decode cX3_finishAct 7 = .ok (.aload_n 2, 1) := by decide +kernel
theorem dX3_finishAct_8 : decode cX3_finishAct 8 = .ok (.iconst 2, 1) := by decide +kernel
theorem dX3_finishAct_9 : decode cX3_finishAct 9 = .ok (.putfield 117, 3) := by decide +kernel
theorem dX3_finishAct_12 : decode cX3_finishAct 12 = .ok (.aload_n 2, 1) := by decide +kernel
theorem dX3_finishAct_13 : decode cX3_finishAct 13 = .ok (.aload_n 0, 1) := by decide +kernel
theorem dX3_finishAct_14 : decode cX3_finishAct 14 = .ok (.getfield 79, 3) := by decide +kernel
theorem dX3_finishAct_17 : decode cX3_finishAct 17 = .ok (.putfield 135, 3) := by decide +kernel
theorem dX3_finishAct_20 : decode cX3_finishAct 20 = .ok (.aload_n 2, 1) := by decide +kernel
theorem dX3_finishAct_21 : decode cX3_finishAct 21 = .ok (.aload_n 0, 1) := by decide +kernel
theorem dX3_finishAct_22 : decode cX3_finishAct 22 = .ok (.getfield 46, 3) := by decide +kernel
theorem dX3_finishAct_25 : decode cX3_finishAct 25 = .ok (.iconst 2, 1) := by decide +kernel
theorem dX3_finishAct_26 : decode cX3_finishAct 26 = .ok (.iload_n 1, 1) := by decide +kernel
theorem dX3_finishAct_27 : decode cX3_finishAct 27 = .ok (.iconst (-1), 1) := by decide +kernel
theorem dX3_finishAct_28 : decode cX3_finishAct 28 = .ok (.aload_n 0, 1) := by decide +kernel
theorem dX3_finishAct_29 : decode cX3_finishAct 29 = .ok (.getfield 79, 3) := by decide +kernel
theorem dX3_finishAct_32 : decode cX3_finishAct 32 = .ok (.invokevirtual 245, 3) := by decide +kernel
theorem dX3_finishAct_35 : decode cX3_finishAct 35 = .ok (.putfield 258, 3) := by decide +kernel
theorem dX3_finishAct_38 : decode cX3_finishAct 38 = .ok (.aload_n 0, 1) := by decide +kernel
theorem dX3_finishAct_39 : decode cX3_finishAct 39 = .ok (.getfield 154, 3) := by decide +kernel
theorem dX3_finishAct_42 : decode cX3_finishAct 42 = .ok (.bipush 80, 2) := by decide +kernel
theorem dX3_finishAct_44 : decode cX3_finishAct 44 = .ok (.if_icmp .ge 23, 3) := by decide +kernel
theorem dX3_finishAct_47 : decode cX3_finishAct 47 = .ok (.aload_n 0, 1) := by decide +kernel
theorem dX3_finishAct_48 : decode cX3_finishAct 48 = .ok (.getfield 34, 3) := by decide +kernel
theorem dX3_finishAct_51 : decode cX3_finishAct 51 = .ok (.aload_n 0, 1) := by decide +kernel
theorem dX3_finishAct_52 : decode cX3_finishAct 52 = .ok (.getfield 154, 3) := by decide +kernel
theorem dX3_finishAct_55 : decode cX3_finishAct 55 = .ok (.iload_n 1, 1) := by decide +kernel
theorem dX3_finishAct_56 : decode cX3_finishAct 56 = .ok (.iastore, 1) := by decide +kernel
theorem dX3_finishAct_57 : decode cX3_finishAct 57 = .ok (.aload_n 0, 1) := by decide +kernel
theorem dX3_finishAct_58 : decode cX3_finishAct 58 = .ok (.dup, 1) := by decide +kernel
theorem dX3_finishAct_59 : decode cX3_finishAct 59 = .ok (.getfield 154, 3) := by decide +kernel
theorem dX3_finishAct_62 : decode cX3_finishAct 62 = .ok (.iconst 1, 1) := by decide +kernel
theorem dX3_finishAct_63 : decode cX3_finishAct 63 = .ok (.iadd, 1) := by decide +kernel
theorem dX3_finishAct_64 : decode cX3_finishAct 64 = .ok (.putfield 154, 3) := by decide +kernel
theorem dX3_finishAct_67 : decode cX3_finishAct 67 = .ok (.aload_n 0, 1) := by decide +kernel
theorem dX3_finishAct_68 : decode cX3_finishAct 68 = .ok (.aload_n 2, 1) := by decide +kernel
theorem dX3_finishAct_69 : decode cX3_finishAct 69 = .ok (.invokevirtual 261, 3) := by decide +kernel
theorem dX3_finishAct_72 : decode cX3_finishAct 72 = .ok (.iconst 0, 1) := by decide +kernel
theorem dX3_finishAct_73 : decode cX3_finishAct 73 = .ok (.istore_n 3, 1) := by decide +kernel
theorem dX3_finishAct_74 : decode cX3_finishAct 74 = .ok (.iload_n 3, 1) := by decide +kernel
theorem dX3_finishAct_75 : decode cX3_finishAct 75 = .ok (.aload_n 2, 1) := by decide +kernel
theorem dX3_finishAct_76 : decode cX3_finishAct 76 = .ok (.getfield 265, 3) := by decide +kernel
theorem dX3_finishAct_79 : decode cX3_finishAct 79 = .ok (.if_icmp .ge 29, 3) := by decide +kernel
theorem dX3_finishAct_82 : decode cX3_finishAct 82 = .ok (.aload_n 0, 1) := by decide +kernel
theorem dX3_finishAct_83 : decode cX3_finishAct 83 = .ok (.aload_n 2, 1) := by decide +kernel
theorem dX3_finishAct_84 : decode cX3_finishAct 84 = .ok (.getfield 268, 3) := by decide +kernel
theorem dX3_finishAct_87 : decode cX3_finishAct 87 = .ok (.iload_n 3, 1) := by decide +kernel
theorem dX3_finishAct_88 : decode cX3_finishAct 88 = .ok (.iaload, 1) := by decide +kernel
theorem dX3_finishAct_89 : decode cX3_finishAct 89 = .ok (.aload_n 2, 1) := by decide +kernel
theorem dX3_finishAct_90 : decode cX3_finishAct 90 = .ok (.getfield 123, 3) := by decide +kernel
theorem dX3_finishAct_93 : decode cX3_finishAct 93 = .ok (.aload_n 2, 1) := by decide +kernel
theorem dX3_finishAct_94 : decode cX3_finishAct 94 = .ok (.getfield 126, 3) := by decide +kernel
theorem dX3_finishAct_97 : decode cX3_finishAct 97 = .ok (.iload_n 1, 1) := by decide +kernel
theorem dX3_finishAct_98 : decode cX3_finishAct 98 = .ok (.invokevirtual 71, 3) := by decide +kernel
theorem dX3_finishAct_101 : decode cX3_finishAct 101 = .ok (.pop, 1) := by decide +kernel
theorem dX3_finishAct_102 : decode cX3_finishAct 102 = .ok (.iinc 3 1, 3) := by decide +kernel
theorem dX3_finishAct_105 : decode cX3_finishAct 105 = .ok (.goto (-31), 3) := by decide +kernel
theorem dX3_finishAct_108 : decode cX3_finishAct 108 = .ok (.return_, 1) := by decide +kernel
set_option maxRecDepth 20000 in
theorem ggX3_tellValues_X0_valueAfter : GoodIn wsX3_tellValues wsX0_valueAfter := goodIn_r _ [6, 7, 8, 9, 28, 29, 30, 31, 32, 33, 34, 35, 36, 37, 38, 39, 40, 41, 42, 43, 44, 45, 46, 47] (by decide +kernel) (by decide +kernel)
set_option maxRecDepth 20000 in
theorem gX3_tellValues_X0_valueAfter : GoodIn wsX3_tellValues (wsV RX3 157 RX0 yX0_valueAfter wsX0_valueAfter) := goodIn_app (goodIn_of _ (by decide +kernel)) ggX3_tellValues_X0_valueAfter
theorem dX3_tellValues_0 : decode cX3_tellValues 0 = .ok (.iconst 0, 1) := by decide +kernel
theorem dX3_tellValues_1 : decode cX3_tellValues 1 = .ok (.istore_n 2, 1) := by decide +kernel
theorem dX3_tellValues_2 : decode cX3_tellValues 2 = .ok (.iload_n 2, 1) := by decide +kernel
theorem dX3_tellValues_3 : decode cX3_tellValues 3 = .ok (.bipush 32, 2) := by decide +kernel
theorem dX3_tellValues_5 : decode cX3_tellValues 5 = .ok (.if_icmp .ge 26, 3) := by decide +kernel
theorem dX3_tellValues_8 : decode cX3_tellValues 8 = .ok (.aload_n 0, 1) := by decide +kernel
theorem dX3_tellValues_9 : decode cX3_tellValues 9 = .ok (.getfield 22, 3) := by decide +kernel
theorem dX3_tellValues_12 : decode cX3_tellValues 12 = .ok (.iload_n 2, 1) := by decide +kernel
theorem dX3_tellValues_13 : decode cX3_tellValues 13 = .ok (.aload_n 1, 1) := by decide +kernel
theorem dX3_tellValues_14 : decode cX3_tellValues 14 = .ok (.iload_n 2, 1) := by decide +kernel
theorem dX3_tellValues_15 : decode cX3_tellValues 15 = .ok (.aload_n 0, 1) := by decide +kernel
theorem dX3_tellValues_16 : decode cX3_tellValues 16 = .ok (.getfield 22, 3) := by decide +kernel
theorem dX3_tellValues_19 : decode cX3_tellValues 19 = .ok (.iload_n 2, 1) := by decide +kernel
theorem dX3_tellValues_20 : decode cX3_tellValues 20 = .ok (.iaload, 1) := by decide +kernel
theorem dX3_tellValues_21 : decode cX3_tellValues 21 = .ok (.invokevirtual 157, 3) := by decide +kernel
theorem dX3_tellValues_24 : decode cX3_tellValues 24 = .ok (.iastore, 1) := by decide +kernel
theorem dX3_tellValues_25 : decode cX3_tellValues 25 = .ok (.iinc 2 1, 3) := by decide +kernel
theorem dX3_tellValues_28 : decode cX3_tellValues 28 = .ok (.goto (-26), 3) := by decide +kernel
theorem dX3_tellValues_31 : decode cX3_tellValues 31 = .ok (.return_, 1) := by decide +kernel
set_option maxRecDepth 20000 in
theorem ggX3_breakRings_X3_drawWaits : GoodIn wsX3_breakRings wsX3_drawWaits := goodIn_r _ [8, 3, 1, 9, 2, 10, 11, 12, 13, 14, 15, 16, 17, 18, 19, 20, 21, 22, 23, 24, 25, 26, 27, 28, 29, 30, 31, 32, 33, 34, 35, 36, 37, 38, 7, 39, 40, 41, 42, 43, 44, 45, 46, 47, 48, 49, 50, 51, 52, 53, 125, 126, 127, 128, 129, 130, 131, 132, 133, 134, 135, 136, 137, 138, 139, 140, 141, 142, 143, 144, 145, 146, 147, 148, 149, 150, 151, 152, 153, 154, 155, 156, 157, 158, 159, 160, 161, 162, 163, 164, 165] (by decide +kernel) (by decide +kernel)
set_option maxRecDepth 20000 in
theorem gX3_breakRings_X3_drawWaits : GoodIn wsX3_breakRings (wsV RX3 271 RX3 yX3_drawWaits wsX3_drawWaits) := goodIn_app (goodIn_of _ (by decide +kernel)) ggX3_breakRings_X3_drawWaits
set_option maxRecDepth 20000 in
theorem ggX3_breakRings_X3_lastBegunInRing : GoodIn wsX3_breakRings wsX3_lastBegunInRing := goodIn_r _ [57, 3, 1, 2, 58, 59, 60, 18, 61, 25, 62, 24, 63, 64, 65, 66, 67, 68, 69, 70, 71, 72, 73, 7, 74, 9, 75, 125, 126, 127, 128, 129, 130, 131, 132, 133, 134, 135, 136, 137, 138, 139, 140, 141, 142, 163, 164, 165, 143, 144, 145, 146, 147, 148, 149, 150, 151, 152, 153, 154, 155, 156, 157, 158, 159, 160, 161, 162] (by decide +kernel) (by decide +kernel)
set_option maxRecDepth 20000 in
theorem gX3_breakRings_X3_lastBegunInRing : GoodIn wsX3_breakRings (wsV RX3 274 RX3 yX3_lastBegunInRing wsX3_lastBegunInRing) := goodIn_app (goodIn_of _ (by decide +kernel)) ggX3_breakRings_X3_lastBegunInRing
set_option maxRecDepth 20000 in
theorem ggX3_breakRings_X3_undoInRing : GoodIn wsX3_breakRings wsX3_undoInRing := goodIn_r _ [79, 9, 80, 12, 81, 82, 83, 84, 33, 85, 86, 87, 88, 89, 90, 91, 92, 93, 94, 95, 96, 97, 98, 99, 28, 100, 101, 102, 103, 104, 105, 106, 107, 108, 109, 110, 111, 112, 113, 114, 115, 116, 117, 118, 119, 21, 22, 23, 120, 64, 65, 66, 125, 126, 127, 128, 129, 130, 131, 132, 133, 134, 135, 136, 137, 138, 139, 140, 141, 142, 143, 144, 145, 146, 147, 148, 149, 150, 151, 152, 153, 154, 155, 156, 157, 158, 159, 160, 161, 162, 166, 167, 168] (by decide +kernel) (by decide +kernel)
set_option maxRecDepth 20000 in
theorem gX3_breakRings_X3_undoInRing : GoodIn wsX3_breakRings (wsV RX3 278 RX3 yX3_undoInRing wsX3_undoInRing) := goodIn_app (goodIn_of _ (by decide +kernel)) ggX3_breakRings_X3_undoInRing
set_option maxRecDepth 20000 in
theorem ggX3_breakRings_X2_remove : GoodIn wsX3_breakRings wsX2_remove := goodIn_r _ [124, 25, 163, 164, 165] (by decide +kernel) (by decide +kernel)
set_option maxRecDepth 20000 in
theorem gX3_breakRings_X2_remove : GoodIn wsX3_breakRings (wsV RX3 281 RX2 yX2_remove wsX2_remove) := goodIn_app (goodIn_of _ (by decide +kernel)) ggX3_breakRings_X2_remove
theorem dX3_breakRings_0 : decode cX3_breakRings 0 = .ok (.aload_n 0, 1) := by decide +kernel
theorem dX3_breakRings_1 : decode cX3_breakRings 1 = .ok (.invokevirtual 271, 3) := by decide +kernel
theorem dX3_breakRings_4 : decode cX3_breakRings 4 = .ok (.ifCond .ne 4, 3) := by decide +kernel
theorem dX3_breakRings_7 : decode cX3_breakRings 7 = .ok (.return_, 1) := by decide +kernel
theorem dX3_breakRings_8 : decode cX3_breakRings 8 = .ok (.iconst 0, 1) := by decide +kernel
theorem dX3_breakRings_9 : decode cX3_breakRings 9 = .ok (.istore_n 1, 1) := by decide +kernel
theorem dX3_breakRings_10 : decode cX3_breakRings 10 = .ok (.iload_n 1, 1) := by decide +kernel
theorem dX3_breakRings_11 : decode cX3_breakRings 11 = .ok (.aload_n 0, 1) := by decide +kernel
theorem dX3_breakRings_12 : decode cX3_breakRings 12 = .ok (.getfield 194, 3) := by decide +kernel
theorem dX3_breakRings_15 : decode cX3_breakRings 15 = .ok (.if_icmp .ge 38, 3) := by decide +kernel
theorem dX3_breakRings_18 : decode cX3_breakRings 18 = .ok (.aload_n 0, 1) := by decide +kernel
theorem dX3_breakRings_19 : decode cX3_breakRings 19 = .ok (.invokevirtual 274, 3) := by decide +kernel
theorem dX3_breakRings_22 : decode cX3_breakRings 22 = .ok (.istore_n 2, 1) := by decide +kernel
theorem dX3_breakRings_23 : decode cX3_breakRings 23 = .ok (.iload_n 2, 1) := by decide +kernel
theorem dX3_breakRings_24 : decode cX3_breakRings 24 = .ok (.iconst (-1), 1) := by decide +kernel
theorem dX3_breakRings_25 : decode cX3_breakRings 25 = .ok (.if_icmp .ne 4, 3) := by decide +kernel
theorem dX3_breakRings_28 : decode cX3_breakRings 28 = .ok (.return_, 1) := by decide +kernel
theorem dX3_breakRings_29 : decode cX3_breakRings 29 = .ok (.aload_n 0, 1) := by decide +kernel
theorem dX3_breakRings_30 : decode cX3_breakRings 30 = .ok (.aload_n 0, 1) := by decide +kernel
theorem dX3_breakRings_31 : decode cX3_breakRings 31 = .ok (.getfield 37, 3) := by decide +kernel
theorem dX3_breakRings_34 : decode cX3_breakRings 34 = .ok (.iload_n 2, 1) := by decide +kernel
theorem dX3_breakRings_35 : decode cX3_breakRings 35 = .ok (.iaload, 1) := by decide +kernel
theorem dX3_breakRings_36 : decode cX3_breakRings 36 = .ok (.invokevirtual 278, 3) := by decide +kernel
theorem dX3_breakRings_39 : decode cX3_breakRings 39 = .ok (.aload_n 0, 1) := by decide +kernel
theorem dX3_breakRings_40 : decode cX3_breakRings 40 = .ok (.getfield 53, 3) := by decide +kernel
theorem dX3_breakRings_43 : decode cX3_breakRings 43 = .ok (.iload_n 2, 1) := by decide +kernel
theorem dX3_breakRings_44 : decode cX3_breakRings 44 = .ok (.invokevirtual 281, 3) := by decide +kernel
theorem dX3_breakRings_47 : decode cX3_breakRings 47 = .ok (.iinc 1 1, 3) := by decide +kernel
theorem dX3_breakRings_50 : decode cX3_breakRings 50 = .ok (.goto (-40), 3) := by decide +kernel
theorem dX3_breakRings_53 : decode cX3_breakRings 53 = .ok (.return_, 1) := by decide +kernel
set_option maxRecDepth 20000 in
theorem ggX3_drawWaits_X2_clear : GoodIn wsX3_drawWaits wsX2_clear := goodIn_r _ [14, 15, 16, 17, 18, 19, 20, 21, 22, 23, 24, 88, 89, 90] (by decide +kernel) (by decide +kernel)
set_option maxRecDepth 20000 in
theorem gX3_drawWaits_X2_clear : GoodIn wsX3_drawWaits (wsV RX3 284 RX2 yX2_clear wsX2_clear) := goodIn_app (goodIn_of _ (by decide +kernel)) ggX3_drawWaits_X2_clear
set_option maxRecDepth 20000 in
theorem ggX3_drawWaits_X0_hasStep : GoodIn wsX3_drawWaits wsX0_hasStep := goodIn_r _ [29, 30, 31, 68, 69, 70, 71, 72, 73, 74, 75, 76, 77, 78, 79, 80, 81, 82, 83, 84, 85, 86, 87] (by decide +kernel) (by decide +kernel)
set_option maxRecDepth 20000 in
theorem gX3_drawWaits_X0_hasStep : GoodIn wsX3_drawWaits (wsV RX3 200 RX0 yX0_hasStep wsX0_hasStep) := goodIn_app (goodIn_of _ (by decide +kernel)) ggX3_drawWaits_X0_hasStep
set_option maxRecDepth 20000 in
theorem ggX3_drawWaits_X3_usesCell : GoodIn wsX3_drawWaits wsX3_usesCell := goodIn_r _ [35, 36, 37, 34, 38] (by decide +kernel) (by decide +kernel)
set_option maxRecDepth 20000 in
theorem gX3_drawWaits_X3_usesCell : GoodIn wsX3_drawWaits (va_wsS RX3 222 yX3_usesCell wsX3_usesCell) := goodIn_app (goodIn_of _ (by decide +kernel)) ggX3_drawWaits_X3_usesCell
set_option maxRecDepth 20000 in
theorem ggX3_drawWaits_X3_blocks : GoodIn wsX3_drawWaits wsX3_blocks := goodIn_r _ [41, 5, 42, 43, 44, 34, 45, 36, 37, 38, 68, 69, 70, 71, 72, 73, 74, 75, 76, 77, 78, 79, 80, 81, 82, 83, 84, 85, 86, 87] (by decide +kernel) (by decide +kernel)
set_option maxRecDepth 20000 in
theorem gX3_drawWaits_X3_blocks : GoodIn wsX3_drawWaits (va_wsS RX3 225 yX3_blocks wsX3_blocks) := goodIn_app (goodIn_of _ (by decide +kernel)) ggX3_drawWaits_X3_blocks
set_option maxRecDepth 20000 in
theorem ggX3_drawWaits_X2_add : GoodIn wsX3_drawWaits wsX2_add := goodIn_r _ [49, 20, 88, 89, 90] (by decide +kernel) (by decide +kernel)
set_option maxRecDepth 20000 in
theorem gX3_drawWaits_X2_add : GoodIn wsX3_drawWaits (wsV RX3 287 RX2 yX2_add wsX2_add) := goodIn_app (goodIn_of _ (by decide +kernel)) ggX3_drawWaits_X2_add
theorem dX3_drawWaits_0 : decode cX3_drawWaits 0 = .ok (.aload_n 0, 1) := by decide +kernel
theorem dX3_drawWaits_1 : decode cX3_drawWaits 1 = .ok (.getfield 53, 3) := by decide +kernel
theorem dX3_drawWaits_4 : decode cX3_drawWaits 4 = .ok (.aload_n 0, 1) := by decide +kernel
theorem dX3_drawWaits_5 : decode cX3_drawWaits 5 = .ok (.getfield 194, 3) := by decide +kernel
theorem dX3_drawWaits_8 : decode cX3_drawWaits 8 = .ok (.invokevirtual 284, 3) := by decide +kernel
theorem dX3_drawWaits_11 : decode cX3_drawWaits 11 = .ok (.iconst 0, 1) := by decide +kernel
theorem dX3_drawWaits_12 : decode cX3_drawWaits 12 = .ok (.istore_n 1, 1) := by decide +kernel
theorem dX3_drawWaits_13 : decode cX3_drawWaits 13 = .ok (.iconst 0, 1) := by decide +kernel
theorem dX3_drawWaits_14 : decode cX3_drawWaits 14 = .ok (.istore_n 2, 1) := by decide +kernel
theorem dX3_drawWaits_15 : decode cX3_drawWaits 15 = .ok (.iload_n 2, 1) := by decide +kernel
theorem dX3_drawWaits_16 : decode cX3_drawWaits 16 = .ok (.aload_n 0, 1) := by decide +kernel
theorem dX3_drawWaits_17 : decode cX3_drawWaits 17 = .ok (.getfield 194, 3) := by decide +kernel
theorem dX3_drawWaits_20 : decode cX3_drawWaits 20 = .ok (.if_icmp .ge 128, 3) := by decide +kernel
theorem dX3_drawWaits_23 : decode cX3_drawWaits 23 = .ok (.aload_n 0, 1) := by decide +kernel
theorem dX3_drawWaits_24 : decode cX3_drawWaits 24 = .ok (.getfield 27, 3) := by decide +kernel
theorem dX3_drawWaits_27 : decode cX3_drawWaits 27 = .ok (.aload_n 0, 1) := by decide +kernel
theorem dX3_drawWaits_28 : decode cX3_drawWaits 28 = .ok (.getfield 37, 3) := by decide +kernel
theorem dX3_drawWaits_31 : decode cX3_drawWaits 31 = .ok (.iload_n 2, 1) := by decide +kernel
theorem dX3_drawWaits_32 : decode cX3_drawWaits 32 = .ok (.iaload, 1) := by decide +kernel
theorem dX3_drawWaits_33 : decode cX3_drawWaits 33 = .ok (.aaload, 1) := by decide +kernel
theorem dX3_drawWaits_34 : decode cX3_drawWaits 34 = .ok (.astore_n 3, 1) := by decide +kernel
theorem dX3_drawWaits_35 : decode cX3_drawWaits 35 = .ok (.aload_n 3, 1) := by decide +kernel
theorem dX3_drawWaits_36 : decode cX3_drawWaits 36 = .ok (.getfield 117, 3) := by decide +kernel
theorem dX3_drawWaits_39 : decode cX3_drawWaits 39 = .ok (.iconst 1, 1) := by decide +kernel
theorem dX3_drawWaits_40 : decode cX3_drawWaits 40 = .ok (.if_icmp .ne 102, 3) := by decide +kernel
theorem dX3_drawWaits_43 : decode cX3_drawWaits 43 = .ok (.aload_n 3, 1) := by decide +kernel
theorem dX3_drawWaits_44 : decode cX3_drawWaits 44 = .ok (.getfield 132, 3) := by decide +kernel
theorem dX3_drawWaits_47 : decode cX3_drawWaits 47 = .ok (.aload_n 0, 1) := by decide +kernel
theorem dX3_drawWaits_48 : decode cX3_drawWaits 48 = .ok (.getfield 79, 3) := by decide +kernel
theorem dX3_drawWaits_51 : decode cX3_drawWaits 51 = .ok (.if_icmp .ne 91, 3) := by decide +kernel
theorem dX3_drawWaits_54 : decode cX3_drawWaits 54 = .ok (.aload_n 3, 1) := by decide +kernel
theorem dX3_drawWaits_55 : decode cX3_drawWaits 55 = .ok (.invokevirtual 200, 3) := by decide +kernel
theorem dX3_drawWaits_58 : decode cX3_drawWaits 58 = .ok (.ifCond .eq 84, 3) := by decide +kernel
theorem dX3_drawWaits_61 : decode cX3_drawWaits 61 = .ok (.aload_n 3, 1) := by decide +kernel
theorem dX3_drawWaits_62 : decode cX3_drawWaits 62 = .ok (.getfield 204, 3) := by decide +kernel
theorem dX3_drawWaits_65 : decode cX3_drawWaits 65 = .ok (.aload_n 3, 1) := by decide +kernel
theorem dX3_drawWaits_66 : decode cX3_drawWaits 66 = .ok (.getfield 129, 3) := by decide +kernel
theorem dX3_drawWaits_69 : decode cX3_drawWaits 69 = .ok (.iaload, 1) := by decide +kernel
theorem dX3_drawWaits_70 : decode cX3_drawWaits 70 = .ok (.invokestatic 222, 3) := by decide +kernel
theorem dX3_drawWaits_73 : decode cX3_drawWaits 73 = .ok (.ifCond .ne 6, 3) := by decide +kernel
theorem dX3_drawWaits_76 : decode cX3_drawWaits 76 = .ok (.goto 66, 3) := by decide +kernel
theorem dX3_drawWaits_79 : decode cX3_drawWaits 79 = .ok (.iconst 0, 1) := by decide +kernel
theorem dX3_drawWaits_80 : decode cX3_drawWaits 80 = .ok (.istore 4, 2) := by decide +kernel
theorem dX3_drawWaits_82 : decode cX3_drawWaits 82 = .ok (.iload 4, 2) := by decide +kernel
theorem dX3_drawWaits_84 : decode cX3_drawWaits 84 = .ok (.aload_n 0, 1) := by decide +kernel
theorem dX3_drawWaits_85 : decode cX3_drawWaits 85 = .ok (.getfield 194, 3) := by decide +kernel
theorem dX3_drawWaits_88 : decode cX3_drawWaits 88 = .ok (.if_icmp .ge 54, 3) := by decide +kernel
theorem dX3_drawWaits_91 : decode cX3_drawWaits 91 = .ok (.iload 4, 2) := by decide +kernel
theorem dX3_drawWaits_93 : decode cX3_drawWaits 93 = .ok (.iload_n 2, 1) := by decide +kernel
theorem dX3_drawWaits_94 : decode cX3_drawWaits 94 = .ok (.if_icmp .eq 42, 3) := by decide +kernel
theorem dX3_drawWaits_97 : decode cX3_drawWaits 97 = .ok (.aload_n 0, 1) := by decide +kernel
theorem dX3_drawWaits_98 : decode cX3_drawWaits 98 = .ok (.getfield 27, 3) := by decide +kernel
theorem dX3_drawWaits_101 : decode cX3_drawWaits 101 = .ok (.aload_n 0, 1) := by decide +kernel
theorem dX3_drawWaits_102 : decode cX3_drawWaits 102 = .ok (.getfield 37, 3) := by decide +kernel
theorem dX3_drawWaits_105 : decode cX3_drawWaits 105 = .ok (.iload 4, 2) := by decide +kernel
theorem dX3_drawWaits_107 : decode cX3_drawWaits 107 = .ok (.iaload, 1) := by decide +kernel
theorem dX3_drawWaits_108 : decode cX3_drawWaits 108 = .ok (.aaload, 1) := by decide +kernel
theorem dX3_drawWaits_109 : decode cX3_drawWaits 109 = .ok (.aload_n 3, 1) := by decide +kernel
theorem dX3_drawWaits_110 : decode cX3_drawWaits 110 = .ok (.getfield 204, 3) := by decide +kernel
theorem dX3_drawWaits_113 : decode cX3_drawWaits 113 = .ok (.aload_n 3, 1) := by decide +kernel
theorem dX3_drawWaits_114 : decode cX3_drawWaits 114 = .ok (.getfield 129, 3) := by decide +kernel
theorem dX3_drawWaits_117 : decode cX3_drawWaits 117 = .ok (.iaload, 1) := by decide +kernel
theorem dX3_drawWaits_118 : decode cX3_drawWaits 118 = .ok (.invokestatic 225, 3) := by decide +kernel
theorem dX3_drawWaits_121 : decode cX3_drawWaits 121 = .ok (.ifCond .eq 15, 3) := by decide +kernel
theorem dX3_drawWaits_124 : decode cX3_drawWaits 124 = .ok (.aload_n 0, 1) := by decide +kernel
theorem dX3_drawWaits_125 : decode cX3_drawWaits 125 = .ok (.getfield 53, 3) := by decide +kernel
theorem dX3_drawWaits_128 : decode cX3_drawWaits 128 = .ok (.iload_n 2, 1) := by decide +kernel
theorem dX3_drawWaits_129 : decode cX3_drawWaits 129 = .ok (.iload 4, 2) := by decide +kernel
theorem dX3_drawWaits_131 : decode cX3_drawWaits 131 = .ok (.invokevirtual 287, 3) := by decide +kernel
theorem dX3_drawWaits_134 : decode cX3_drawWaits 134 = .ok (.iconst 1, 1) := by decide +kernel
theorem dX3_drawWaits_135 : decode cX3_drawWaits 135 = .ok (.istore_n 1, 1) := by decide +kernel
theorem dX3_drawWaits_136 : decode cX3_drawWaits 136 = .ok (.iinc 4 1, 3) := by decide +kernel
theorem dX3_drawWaits_139 : decode cX3_drawWaits 139 = .ok (.goto (-57), 3) := by decide +kernel
theorem dX3_drawWaits_142 : decode cX3_drawWaits 142 = .ok (.iinc 2 1, 3) := by decide +kernel
theorem dX3_drawWaits_145 : decode cX3_drawWaits 145 = .ok (.goto (-130), 3) := by decide +kernel
end
section
theorem dX3_drawWaits_148 : decode cX3_drawWaits 148 = .ok (.iload_n 1, 1) := by decide +kernel
theorem dX3_drawWaits_149 : decode cX3_drawWaits 149 = .ok (.ireturn, 1) := by decide +kernel
set_option maxRecDepth 20000 in
theorem ggX3_lastBegunInRing_X2_close : GoodIn wsX3_lastBegunInRing wsX2_close := goodIn_r _ [8, 9, 10, 11, 12, 13, 14, 15, 45, 46, 47] (by decide +kernel) (by decide +kernel)
set_option maxRecDepth 20000 in
theorem gX3_lastBegunInRing_X2_close : GoodIn wsX3_lastBegunInRing (wsV RX3 290 RX2 yX2_close wsX2_close) := goodIn_app (goodIn_of _ (by decide +kernel)) ggX3_lastBegunInRing_X2_close
set_option maxRecDepth 20000 in
theorem ggX3_lastBegunInRing_X2_isInRing : GoodIn wsX3_lastBegunInRing wsX2_isInRing := goodIn_r _ [19, 10, 45, 46, 47] (by decide +kernel) (by decide +kernel)
set_option maxRecDepth 20000 in
theorem gX3_lastBegunInRing_X2_isInRing : GoodIn wsX3_lastBegunInRing (wsV RX3 293 RX2 yX2_isInRing wsX2_isInRing) := goodIn_app (goodIn_of _ (by decide +kernel)) ggX3_lastBegunInRing_X2_isInRing
set_option maxRecDepth 20000 in
theorem ggX3_lastBegunInRing_X3_isBegunLater : GoodIn wsX3_lastBegunInRing wsX3_isBegunLater := goodIn_r _ [24, 25, 26, 27, 28, 29, 30, 31, 32, 33, 34, 35, 36, 37, 38, 39, 40, 41, 42, 43, 44, 48, 49, 50, 51, 52, 53, 54, 55, 56, 57, 58, 59, 60, 61, 62, 63, 64, 65, 66, 67] (by decide +kernel) (by decide +kernel)
set_option maxRecDepth 20000 in
theorem gX3_lastBegunInRing_X3_isBegunLater : GoodIn wsX3_lastBegunInRing (wsV RX3 296 RX3 yX3_isBegunLater wsX3_isBegunLater) := goodIn_app (goodIn_of _ (by decide +kernel)) ggX3_lastBegunInRing_X3_isBegunLater
theorem dX3_lastBegunInRing_0 : decode cX3_lastBegunInRing 0 = .ok (.aload_n 0, 1) := by decide +kernel
theorem dX3_lastBegunInRing_1 : decode cX3_lastBegunInRing 1 = .ok (.getfield 53, 3) := by decide +kernel
theorem dX3_lastBegunInRing_4 : decode cX3_lastBegunInRing 4 = .ok (.invokevirtual 290, 3) := by decide +kernel
theorem dX3_lastBegunInRing_7 : decode cX3_lastBegunInRing 7 = .ok (.iconst (-1), 1) := by decide +kernel
theorem dX3_lastBegunInRing_8 : decode cX3_lastBegunInRing 8 = .ok (.istore_n 1, 1) := by decide +kernel
theorem dX3_lastBegunInRing_9 : decode cX3_lastBegunInRing 9 = .ok (.iconst 0, 1) := by decide +kernel
theorem dX3_lastBegunInRing_10 : decode cX3_lastBegunInRing 10 = .ok (.istore_n 2, 1) := by decide +kernel
theorem dX3_lastBegunInRing_11 : decode cX3_lastBegunInRing 11 = .ok (.iload_n 2, 1) := by decide +kernel
theorem dX3_lastBegunInRing_12 : decode cX3_lastBegunInRing 12 = .ok (.aload_n 0, 1) := by decide +kernel
theorem dX3_lastBegunInRing_13 : decode cX3_lastBegunInRing 13 = .ok (.getfield 194, 3) := by decide +kernel
theorem dX3_lastBegunInRing_16 : decode cX3_lastBegunInRing 16 = .ok (.if_icmp .ge 46, 3) := by decide +kernel
theorem dX3_lastBegunInRing_19 : decode cX3_lastBegunInRing 19 = .ok (.aload_n 0, 1) := by decide +kernel
theorem dX3_lastBegunInRing_20 : decode cX3_lastBegunInRing 20 = .ok (.getfield 53, 3) := by decide +kernel
theorem dX3_lastBegunInRing_23 : decode cX3_lastBegunInRing 23 = .ok (.iload_n 2, 1) := by decide +kernel
theorem dX3_lastBegunInRing_24 : decode cX3_lastBegunInRing 24 = .ok (.invokevirtual 293, 3) := by decide +kernel
theorem dX3_lastBegunInRing_27 : decode cX3_lastBegunInRing 27 = .ok (.ifCond .eq 29, 3) := by decide +kernel
theorem dX3_lastBegunInRing_30 : decode cX3_lastBegunInRing 30 = .ok (.iload_n 1, 1) := by decide +kernel
theorem dX3_lastBegunInRing_31 : decode cX3_lastBegunInRing 31 = .ok (.iconst (-1), 1) := by decide +kernel
theorem dX3_lastBegunInRing_32 : decode cX3_lastBegunInRing 32 = .ok (.if_icmp .eq 22, 3) := by decide +kernel
theorem dX3_lastBegunInRing_35 : decode cX3_lastBegunInRing 35 = .ok (.aload_n 0, 1) := by decide +kernel
theorem dX3_lastBegunInRing_36 : decode cX3_lastBegunInRing 36 = .ok (.aload_n 0, 1) := by decide +kernel
theorem dX3_lastBegunInRing_37 : decode cX3_lastBegunInRing 37 = .ok (.getfield 37, 3) := by decide +kernel
theorem dX3_lastBegunInRing_40 : decode cX3_lastBegunInRing 40 = .ok (.iload_n 2, 1) := by decide +kernel
theorem dX3_lastBegunInRing_41 : decode cX3_lastBegunInRing 41 = .ok (.iaload, 1) := by decide +kernel
theorem dX3_lastBegunInRing_42 : decode cX3_lastBegunInRing 42 = .ok (.aload_n 0, 1) := by decide +kernel
theorem dX3_lastBegunInRing_43 : decode cX3_lastBegunInRing 43 = .ok (.getfield 37, 3) := by decide +kernel
theorem dX3_lastBegunInRing_46 : decode cX3_lastBegunInRing 46 = .ok (.iload_n 1, 1) := by decide +kernel
theorem dX3_lastBegunInRing_47 : decode cX3_lastBegunInRing 47 = .ok (.iaload, 1) := by decide +kernel
theorem dX3_lastBegunInRing_48 : decode cX3_lastBegunInRing 48 = .ok (.invokevirtual 296, 3) := by decide +kernel
theorem dX3_lastBegunInRing_51 : decode cX3_lastBegunInRing 51 = .ok (.ifCond .eq 5, 3) := by decide +kernel
theorem dX3_lastBegunInRing_54 : decode cX3_lastBegunInRing 54 = .ok (.iload_n 2, 1) := by decide +kernel
theorem dX3_lastBegunInRing_55 : decode cX3_lastBegunInRing 55 = .ok (.istore_n 1, 1) := by decide +kernel
theorem dX3_lastBegunInRing_56 : decode cX3_lastBegunInRing 56 = .ok (.iinc 2 1, 3) := by decide +kernel
theorem dX3_lastBegunInRing_59 : decode cX3_lastBegunInRing 59 = .ok (.goto (-48), 3) := by decide +kernel
theorem dX3_lastBegunInRing_62 : decode cX3_lastBegunInRing 62 = .ok (.iload_n 1, 1) := by decide +kernel
theorem dX3_lastBegunInRing_63 : decode cX3_lastBegunInRing 63 = .ok (.ireturn, 1) := by decide +kernel
theorem dX3_isBegunLater_0 : decode cX3_isBegunLater 0 = .ok (.aload_n 0, 1) := by decide +kernel
theorem dX3_isBegunLater_1 : decode cX3_isBegunLater 1 = .ok (.getfield 27, 3) := by decide +kernel
theorem dX3_isBegunLater_4 : decode cX3_isBegunLater 4 = .ok (.iload_n 1, 1) := by decide +kernel
theorem dX3_isBegunLater_5 : decode cX3_isBegunLater 5 = .ok (.aaload, 1) := by decide +kernel
theorem dX3_isBegunLater_6 : decode cX3_isBegunLater 6 = .ok (.getfield 144, 3) := by decide +kernel
theorem dX3_isBegunLater_9 : decode cX3_isBegunLater 9 = .ok (.istore_n 3, 1) := by decide +kernel
theorem dX3_isBegunLater_10 : decode cX3_isBegunLater 10 = .ok (.aload_n 0, 1) := by decide +kernel
theorem dX3_isBegunLater_11 : decode cX3_isBegunLater 11 = .ok (.getfield 27, 3) := by decide +kernel
theorem dX3_isBegunLater_14 : decode cX3_isBegunLater 14 = .ok (.iload_n 2, 1) := by decide +kernel
theorem dX3_isBegunLater_15 : decode cX3_isBegunLater 15 = .ok (.aaload, 1) := by decide +kernel
theorem dX3_isBegunLater_16 : decode cX3_isBegunLater 16 = .ok (.getfield 144, 3) := by decide +kernel
theorem dX3_isBegunLater_19 : decode cX3_isBegunLater 19 = .ok (.istore 4, 2) := by decide +kernel
theorem dX3_isBegunLater_21 : decode cX3_isBegunLater 21 = .ok (.iload_n 3, 1) := by decide +kernel
theorem dX3_isBegunLater_22 : decode cX3_isBegunLater 22 = .ok (.iload 4, 2) := by decide +kernel
theorem dX3_isBegunLater_24 : decode cX3_isBegunLater 24 = .ok (.if_icmp .eq 17, 3) := by decide +kernel
theorem dX3_isBegunLater_27 : decode cX3_isBegunLater 27 = .ok (.iload_n 3, 1) := by decide +kernel
theorem dX3_isBegunLater_28 : decode cX3_isBegunLater 28 = .ok (.iload 4, 2) := by decide +kernel
theorem dX3_isBegunLater_30 : decode cX3_isBegunLater 30 = .ok (.if_icmp .le 7, 3) := by decide +kernel
theorem dX3_isBegunLater_33 : decode cX3_isBegunLater 33 = .ok (.iconst 1, 1) := by decide +kernel
theorem dX3_isBegunLater_34 : decode cX3_isBegunLater 34 = .ok (.goto 17, 3) := by decide +kernel
theorem dX3_isBegunLater_37 : decode cX3_isBegunLater 37 = .ok (.iconst 0, 1) := by decide +kernel
theorem dX3_isBegunLater_38 : decode cX3_isBegunLater 38 = .ok (.goto 13, 3) := by decide +kernel
theorem dX3_isBegunLater_41 : decode cX3_isBegunLater 41 = .ok (.iload_n 1, 1) := by decide +kernel
theorem dX3_isBegunLater_42 : decode cX3_isBegunLater 42 = .ok (.iload_n 2, 1) := by decide +kernel
theorem dX3_isBegunLater_43 : decode cX3_isBegunLater 43 = .ok (.if_icmp .le 7, 3) := by decide +kernel
theorem dX3_isBegunLater_46 : decode cX3_isBegunLater 46 = .ok (.iconst 1, 1) := by decide +kernel
theorem dX3_isBegunLater_47 : decode cX3_isBegunLater 47 = .ok (.goto 4, 3) := by decide +kernel
theorem dX3_isBegunLater_50 : decode cX3_isBegunLater 50 = .ok (.iconst 0, 1) := by decide +kernel
theorem dX3_isBegunLater_51 : decode cX3_isBegunLater 51 = .ok (.ireturn, 1) := by decide +kernel
set_option maxRecDepth 20000 in
theorem ggX3_undoInRing_X0_undo : GoodIn wsX3_undoInRing wsX0_undo := goodIn_r _ [9, 10, 11, 12, 13, 8, 14, 15, 16, 17, 18, 19, 20, 21, 22, 23, 24, 25, 70, 71, 72, 73, 74, 75, 76, 77, 78, 79, 80, 81, 82, 83, 84, 85, 86, 87, 88, 89] (by decide +kernel) (by decide +kernel)
set_option maxRecDepth 20000 in
theorem gX3_undoInRing_X0_undo : GoodIn wsX3_undoInRing (wsV RX3 299 RX0 yX0_undo wsX0_undo) := goodIn_app (goodIn_of _ (by decide +kernel)) ggX3_undoInRing_X0_undo
set_option maxRecDepth 20000 in
theorem ggX3_undoInRing_X1_write : GoodIn wsX3_undoInRing wsX1_write := goodIn_r _ [30, 31, 32, 33, 34, 35, 24, 36, 37, 38, 39, 40, 41, 42, 43, 44, 45, 46, 47, 48, 49, 50, 51, 90, 91, 92] (by decide +kernel) (by decide +kernel)
set_option maxRecDepth 20000 in
theorem gX3_undoInRing_X1_write : GoodIn wsX3_undoInRing (wsV RX3 245 RX1 yX1_write wsX1_write) := goodIn_app (goodIn_of _ (by decide +kernel)) ggX3_undoInRing_X1_write
theorem dX3_undoInRing_0 : decode cX3_undoInRing 0 = .ok (.aload_n 0, 1) := by decide +kernel
theorem dX3_undoInRing_1 : decode cX3_undoInRing 1 = .ok (.getfield 27, 3) := by decide +kernel
theorem dX3_undoInRing_4 : decode cX3_undoInRing 4 = .ok (.iload_n 1, 1) := by decide +kernel
theorem dX3_undoInRing_5 : decode cX3_undoInRing 5 = .ok (.aaload, 1) := by decide +kernel
theorem dX3_undoInRing_6 : decode cX3_undoInRing 6 = .ok (.invokevirtual 299, 3) := by decide +kernel
theorem dX3_undoInRing_9 : decode cX3_undoInRing 9 = .ok (.aload_n 0, 1) := by decide +kernel
theorem dX3_undoInRing_10 : decode cX3_undoInRing 10 = .ok (.getfield 46, 3) := by decide +kernel
theorem dX3_undoInRing_13 : decode cX3_undoInRing 13 = .ok (.iconst 4, 1) := by decide +kernel
theorem dX3_undoInRing_14 : decode cX3_undoInRing 14 = .ok (.iload_n 1, 1) := by decide +kernel
theorem dX3_undoInRing_15 : decode cX3_undoInRing 15 = .ok (.iconst (-1), 1) := by decide +kernel
theorem dX3_undoInRing_16 : decode cX3_undoInRing 16 = .ok (.aload_n 0, 1) := by decide +kernel
theorem dX3_undoInRing_17 : decode cX3_undoInRing 17 = .ok (.getfield 79, 3) := by decide +kernel
theorem dX3_undoInRing_20 : decode cX3_undoInRing 20 = .ok (.invokevirtual 245, 3) := by decide +kernel
theorem dX3_undoInRing_23 : decode cX3_undoInRing 23 = .ok (.pop, 1) := by decide +kernel
theorem dX3_undoInRing_24 : decode cX3_undoInRing 24 = .ok (.aload_n 0, 1) := by decide +kernel
theorem dX3_undoInRing_25 : decode cX3_undoInRing 25 = .ok (.dup, 1) := by decide +kernel
theorem dX3_undoInRing_26 : decode cX3_undoInRing 26 = .ok (.getfield 167, 3) := by decide +kernel
theorem dX3_undoInRing_29 : decode cX3_undoInRing 29 = .ok (.iconst 1, 1) := by decide +kernel
theorem dX3_undoInRing_30 : decode cX3_undoInRing 30 = .ok (.iadd, 1) := by decide +kernel
theorem dX3_undoInRing_31 : decode cX3_undoInRing 31 = .ok (.putfield 167, 3) := by decide +kernel
theorem dX3_undoInRing_34 : decode cX3_undoInRing 34 = .ok (.return_, 1) := by decide +kernel
set_option maxRecDepth 20000 in
theorem ggX3_beginWaiting_X3_countBegunOfClasses : GoodIn wsX3_beginWaiting wsX3_countBegunOfClasses := goodIn_r _ [17, 7, 1, 2, 6, 8, 18, 19, 20, 21, 61, 62, 63, 64, 65, 66, 67, 68, 69, 70, 71, 72, 73, 74, 75, 76, 77, 78, 79, 80, 81, 82, 83, 84, 85, 86, 87, 88, 89, 90, 91, 92, 93, 94, 95, 96, 97, 98] (by decide +kernel) (by decide +kernel)
set_option maxRecDepth 20000 in
theorem gX3_beginWaiting_X3_countBegunOfClasses : GoodIn wsX3_beginWaiting (wsV RX3 302 RX3 yX3_countBegunOfClasses wsX3_countBegunOfClasses) := goodIn_app (goodIn_of _ (by decide +kernel)) ggX3_beginWaiting_X3_countBegunOfClasses
set_option maxRecDepth 20000 in
theorem ggX3_beginWaiting_X0_begin : GoodIn wsX3_beginWaiting wsX0_begin := goodIn_r _ [26, 27, 28, 29, 30, 31, 32, 33, 34, 35, 36, 37, 79, 80, 81, 82, 83, 84, 85, 86, 87, 88, 89, 90, 91, 92, 93, 94, 95, 96, 97, 98] (by decide +kernel) (by decide +kernel)
set_option maxRecDepth 20000 in
theorem gX3_beginWaiting_X0_begin : GoodIn wsX3_beginWaiting (wsV RX3 305 RX0 yX0_begin wsX0_begin) := goodIn_app (goodIn_of _ (by decide +kernel)) ggX3_beginWaiting_X0_begin
set_option maxRecDepth 20000 in
theorem ggX3_beginWaiting_X1_write : GoodIn wsX3_beginWaiting wsX1_write := goodIn_r _ [42, 43, 44, 45, 46, 47, 20, 48, 49, 50, 51, 52, 53, 54, 55, 56, 57, 58, 59, 60, 30, 31, 32, 99, 100, 101] (by decide +kernel) (by decide +kernel)
set_option maxRecDepth 20000 in
theorem gX3_beginWaiting_X1_write : GoodIn wsX3_beginWaiting (wsV RX3 245 RX1 yX1_write wsX1_write) := goodIn_app (goodIn_of _ (by decide +kernel)) ggX3_beginWaiting_X1_write
theorem dX3_beginWaiting_0 : decode cX3_beginWaiting 0 = .ok (.aload_n 0, 1) := by decide +kernel
theorem dX3_beginWaiting_1 : decode cX3_beginWaiting 1 = .ok (.invokevirtual 302, 3) := by decide +kernel
theorem dX3_beginWaiting_4 : decode cX3_beginWaiting 4 = .ok (.iconst 0, 1) := by decide +kernel
theorem dX3_beginWaiting_5 : decode cX3_beginWaiting 5 = .ok (.istore_n 1, 1) := by decide +kernel
theorem dX3_beginWaiting_6 : decode cX3_beginWaiting 6 = .ok (.iload_n 1, 1) := by decide +kernel
theorem dX3_beginWaiting_7 : decode cX3_beginWaiting 7 = .ok (.aload_n 0, 1) := by decide +kernel
theorem dX3_beginWaiting_8 : decode cX3_beginWaiting 8 = .ok (.getfield 102, 3) := by decide +kernel
theorem dX3_beginWaiting_11 : decode cX3_beginWaiting 11 = .ok (.if_icmp .ge 109, 3) := by decide +kernel
theorem dX3_beginWaiting_14 : decode cX3_beginWaiting 14 = .ok (.aload_n 0, 1) := by decide +kernel
theorem dX3_beginWaiting_15 : decode cX3_beginWaiting 15 = .ok (.getfield 27, 3) := by decide +kernel
theorem dX3_beginWaiting_18 : decode cX3_beginWaiting 18 = .ok (.aload_n 0, 1) := by decide +kernel
theorem dX3_beginWaiting_19 : decode cX3_beginWaiting 19 = .ok (.getfield 31, 3) := by decide +kernel
theorem dX3_beginWaiting_22 : decode cX3_beginWaiting 22 = .ok (.iload_n 1, 1) := by decide +kernel
theorem dX3_beginWaiting_23 : decode cX3_beginWaiting 23 = .ok (.iaload, 1) := by decide +kernel
theorem dX3_beginWaiting_24 : decode cX3_beginWaiting 24 = .ok (.aaload, 1) := by decide +kernel
theorem dX3_beginWaiting_25 : decode cX3_beginWaiting 25 = .ok (.astore_n 2, 1) := by decide +kernel
theorem dX3_beginWaiting_26 : decode cX3_beginWaiting 26 = .ok (.aload_n 0, 1) := by decide +kernel
theorem dX3_beginWaiting_27 : decode cX3_beginWaiting 27 = .ok (.getfield 13, 3) := by decide +kernel
theorem dX3_beginWaiting_30 : decode cX3_beginWaiting 30 = .ok (.aload_n 2, 1) := by decide +kernel
theorem dX3_beginWaiting_31 : decode cX3_beginWaiting 31 = .ok (.getfield 120, 3) := by decide +kernel
theorem dX3_beginWaiting_34 : decode cX3_beginWaiting 34 = .ok (.iaload, 1) := by decide +kernel
theorem dX3_beginWaiting_35 : decode cX3_beginWaiting 35 = .ok (.istore_n 3, 1) := by decide +kernel
theorem dX3_beginWaiting_36 : decode cX3_beginWaiting 36 = .ok (.aload_n 2, 1) := by decide +kernel
theorem dX3_beginWaiting_37 : decode cX3_beginWaiting 37 = .ok (.getfield 117, 3) := by decide +kernel
theorem dX3_beginWaiting_40 : decode cX3_beginWaiting 40 = .ok (.ifCond .ne 74, 3) := by decide +kernel
theorem dX3_beginWaiting_43 : decode cX3_beginWaiting 43 = .ok (.iload_n 3, 1) := by decide +kernel
theorem dX3_beginWaiting_44 : decode cX3_beginWaiting 44 = .ok (.ifCond .le 70, 3) := by decide +kernel
theorem dX3_beginWaiting_47 : decode cX3_beginWaiting 47 = .ok (.aload_n 0, 1) := by decide +kernel
theorem dX3_beginWaiting_48 : decode cX3_beginWaiting 48 = .ok (.getfield 40, 3) := by decide +kernel
theorem dX3_beginWaiting_51 : decode cX3_beginWaiting 51 = .ok (.aload_n 2, 1) := by decide +kernel
theorem dX3_beginWaiting_52 : decode cX3_beginWaiting 52 = .ok (.getfield 123, 3) := by decide +kernel
theorem dX3_beginWaiting_55 : decode cX3_beginWaiting 55 = .ok (.iaload, 1) := by decide +kernel
theorem dX3_beginWaiting_56 : decode cX3_beginWaiting 56 = .ok (.aload_n 0, 1) := by decide +kernel
theorem dX3_beginWaiting_57 : decode cX3_beginWaiting 57 = .ok (.getfield 16, 3) := by decide +kernel
theorem dX3_beginWaiting_60 : decode cX3_beginWaiting 60 = .ok (.aload_n 2, 1) := by decide +kernel
theorem dX3_beginWaiting_61 : decode cX3_beginWaiting 61 = .ok (.getfield 123, 3) := by decide +kernel
theorem dX3_beginWaiting_64 : decode cX3_beginWaiting 64 = .ok (.iaload, 1) := by decide +kernel
theorem dX3_beginWaiting_65 : decode cX3_beginWaiting 65 = .ok (.if_icmp .ge 49, 3) := by decide +kernel
theorem dX3_beginWaiting_68 : decode cX3_beginWaiting 68 = .ok (.aload_n 2, 1) := by decide +kernel
theorem dX3_beginWaiting_69 : decode cX3_beginWaiting 69 = .ok (.aload_n 0, 1) := by decide +kernel
theorem dX3_beginWaiting_70 : decode cX3_beginWaiting 70 = .ok (.getfield 9, 3) := by decide +kernel
theorem dX3_beginWaiting_73 : decode cX3_beginWaiting 73 = .ok (.iload_n 3, 1) := by decide +kernel
theorem dX3_beginWaiting_74 : decode cX3_beginWaiting 74 = .ok (.aload_n 0, 1) := by decide +kernel
theorem dX3_beginWaiting_75 : decode cX3_beginWaiting 75 = .ok (.getfield 79, 3) := by decide +kernel
theorem dX3_beginWaiting_78 : decode cX3_beginWaiting 78 = .ok (.invokevirtual 305, 3) := by decide +kernel
theorem dX3_beginWaiting_81 : decode cX3_beginWaiting 81 = .ok (.aload_n 0, 1) := by decide +kernel
theorem dX3_beginWaiting_82 : decode cX3_beginWaiting 82 = .ok (.getfield 40, 3) := by decide +kernel
theorem dX3_beginWaiting_85 : decode cX3_beginWaiting 85 = .ok (.aload_n 2, 1) := by decide +kernel
theorem dX3_beginWaiting_86 : decode cX3_beginWaiting 86 = .ok (.getfield 123, 3) := by decide +kernel
theorem dX3_beginWaiting_89 : decode cX3_beginWaiting 89 = .ok (.dup2, 1) := by decide +kernel
theorem dX3_beginWaiting_90 : decode cX3_beginWaiting 90 = .ok (.iaload, 1) := by decide +kernel
theorem dX3_beginWaiting_91 : decode cX3_beginWaiting 91 = .ok (.iconst 1, 1) := by decide +kernel
theorem dX3_beginWaiting_92 : decode cX3_beginWaiting 92 = .ok (.iadd, 1) := by decide +kernel
theorem dX3_beginWaiting_93 : decode cX3_beginWaiting 93 = .ok (.iastore, 1) := by decide +kernel
theorem dX3_beginWaiting_94 : decode cX3_beginWaiting 94 = .ok (.aload_n 0, 1) := by decide +kernel
theorem dX3_beginWaiting_95 : decode cX3_beginWaiting 95 = .ok (.getfield 46, 3) := by decide +kernel
theorem dX3_beginWaiting_98 : decode cX3_beginWaiting 98 = .ok (.iconst 0, 1) := by decide +kernel
theorem dX3_beginWaiting_99 : decode cX3_beginWaiting 99 = .ok (.aload_n 0, 1) := by decide +kernel
theorem dX3_beginWaiting_100 : decode cX3_beginWaiting 100 = .ok (.getfield 31, 3) := by decide +kernel
theorem dX3_beginWaiting_103 : decode cX3_beginWaiting 103 = .ok (.iload_n 1, 1) := by decide +kernel
theorem dX3_beginWaiting_104 : decode cX3_beginWaiting 104 = .ok (.iaload, 1) := by decide +kernel
theorem dX3_beginWaiting_105 : decode cX3_beginWaiting 105 = .ok (.iconst (-1), 1) := by decide +kernel
theorem dX3_beginWaiting_106 : decode cX3_beginWaiting 106 = .ok (.aload_n 0, 1) := by decide +kernel
theorem dX3_beginWaiting_107 : decode cX3_beginWaiting 107 = .ok (.getfield 79, 3) := by decide +kernel
theorem dX3_beginWaiting_110 : decode cX3_beginWaiting 110 = .ok (.invokevirtual 245, 3) := by decide +kernel
theorem dX3_beginWaiting_113 : decode cX3_beginWaiting 113 = .ok (.pop, 1) := by decide +kernel
theorem dX3_beginWaiting_114 : decode cX3_beginWaiting 114 = .ok (.iinc 1 1, 3) := by decide +kernel
theorem dX3_beginWaiting_117 : decode cX3_beginWaiting 117 = .ok (.goto (-111), 3) := by decide +kernel
theorem dX3_beginWaiting_120 : decode cX3_beginWaiting 120 = .ok (.return_, 1) := by decide +kernel
set_option maxRecDepth 20000 in
theorem ggX3_countBegunOfClasses_J7_fill_53178 : GoodIn wsX3_countBegunOfClasses wsJ7_fill_53178 := goodIn_r _ [9] (by decide +kernel) (by decide +kernel)
set_option maxRecDepth 20000 in
theorem gX3_countBegunOfClasses_J7_fill_53178 : GoodIn wsX3_countBegunOfClasses (va_wsS RX3 57 yJ7_fill_53178 wsJ7_fill_53178) := goodIn_app (goodIn_of _ (by decide +kernel)) ggX3_countBegunOfClasses_J7_fill_53178
theorem dX3_countBegunOfClasses_0 : decode cX3_countBegunOfClasses 0 = .ok (.aload_n 0, 1) := by decide +kernel
theorem dX3_countBegunOfClasses_1 : decode cX3_countBegunOfClasses 1 = .ok (.getfield 40, 3) := by decide +kernel
theorem dX3_countBegunOfClasses_4 : decode cX3_countBegunOfClasses 4 = .ok (.iconst 0, 1) := by decide +kernel
theorem dX3_countBegunOfClasses_5 : decode cX3_countBegunOfClasses 5 = .ok (.invokestatic 57, 3) := by decide +kernel
theorem dX3_countBegunOfClasses_8 : decode cX3_countBegunOfClasses 8 = .ok (.iconst 0, 1) := by decide +kernel
theorem dX3_countBegunOfClasses_9 : decode cX3_countBegunOfClasses 9 = .ok (.istore_n 1, 1) := by decide +kernel
theorem dX3_countBegunOfClasses_10 : decode cX3_countBegunOfClasses 10 = .ok (.iload_n 1, 1) := by decide +kernel
theorem dX3_countBegunOfClasses_11 : decode cX3_countBegunOfClasses 11 = .ok (.aload_n 0, 1) := by decide +kernel
theorem dX3_countBegunOfClasses_12 : decode cX3_countBegunOfClasses 12 = .ok (.getfield 102, 3) := by decide +kernel
theorem dX3_countBegunOfClasses_15 : decode cX3_countBegunOfClasses 15 = .ok (.if_icmp .ge 40, 3) := by decide +kernel
theorem dX3_countBegunOfClasses_18 : decode cX3_countBegunOfClasses 18 = .ok (.aload_n 0, 1) := by decide +kernel
theorem dX3_countBegunOfClasses_19 : decode cX3_countBegunOfClasses 19 = .ok (.getfield 27, 3) := by decide +kernel
theorem dX3_countBegunOfClasses_22 : decode cX3_countBegunOfClasses 22 = .ok (.iload_n 1, 1) := by decide +kernel
theorem dX3_countBegunOfClasses_23 : decode cX3_countBegunOfClasses 23 = .ok (.aaload, 1) := by decide +kernel
theorem dX3_countBegunOfClasses_24 : decode cX3_countBegunOfClasses 24 = .ok (.getfield 117, 3) := by decide +kernel
theorem dX3_countBegunOfClasses_27 : decode cX3_countBegunOfClasses 27 = .ok (.iconst 1, 1) := by decide +kernel
theorem dX3_countBegunOfClasses_28 : decode cX3_countBegunOfClasses 28 = .ok (.if_icmp .ne 21, 3) := by decide +kernel
theorem dX3_countBegunOfClasses_31 : decode cX3_countBegunOfClasses 31 = .ok (.aload_n 0, 1) := by decide +kernel
theorem dX3_countBegunOfClasses_32 : decode cX3_countBegunOfClasses 32 = .ok (.getfield 40, 3) := by decide +kernel
theorem dX3_countBegunOfClasses_35 : decode cX3_countBegunOfClasses 35 = .ok (.aload_n 0, 1) := by decide +kernel
theorem dX3_countBegunOfClasses_36 : decode cX3_countBegunOfClasses 36 = .ok (.getfield 27, 3) := by decide +kernel
theorem dX3_countBegunOfClasses_39 : decode cX3_countBegunOfClasses 39 = .ok (.iload_n 1, 1) := by decide +kernel
theorem dX3_countBegunOfClasses_40 : decode cX3_countBegunOfClasses 40 = .ok (.aaload, 1) := by decide +kernel
theorem dX3_countBegunOfClasses_41 : decode cX3_countBegunOfClasses 41 = .ok (.getfield 123, 3) := by decide +kernel
theorem dX3_countBegunOfClasses_44 : decode cX3_countBegunOfClasses 44 = .ok (.dup2, 1) := by decide +kernel
theorem dX3_countBegunOfClasses_45 : decode cX3_countBegunOfClasses 45 = .ok (.iaload, 1) := by decide +kernel
theorem dX3_countBegunOfClasses_46 : decode cX3_countBegunOfClasses 46 = .ok (.iconst 1, 1) := by decide +kernel
theorem dX3_countBegunOfClasses_47 : decode cX3_countBegunOfClasses 47 = .ok (.iadd, 1) := by decide +kernel
theorem dX3_countBegunOfClasses_48 : decode cX3_countBegunOfClasses 48 = .ok (.iastore, 1) := by decide +kernel
theorem dX3_countBegunOfClasses_49 : decode cX3_countBegunOfClasses 49 = .ok (.iinc 1 1, 3) := by decide +kernel
theorem dX3_countBegunOfClasses_52 : decode cX3_countBegunOfClasses 52 = .ok (.goto (-42), 3) := by decide +kernel
theorem dX3_countBegunOfClasses_55 : decode cX3_countBegunOfClasses 55 = .ok (.return_, 1) := by decide +kernel
set_option maxRecDepth 20000 in
theorem ggX3_answerDone_X1_keepAll : GoodIn wsX3_answerDone wsX1_keepAll := goodIn_r _ [10, 11, 12, 51, 52, 53] (by decide +kernel) (by decide +kernel)
set_option maxRecDepth 20000 in
theorem gX3_answerDone_X1_keepAll : GoodIn wsX3_answerDone (wsV RX3 96 RX1 yX1_keepAll wsX1_keepAll) := goodIn_app (goodIn_of _ (by decide +kernel)) ggX3_answerDone_X1_keepAll
theorem dX3_answerDone_0 : decode cX3_answerDone 0 = .ok (.aload_n 0, 1) := by decide +kernel
theorem dX3_answerDone_1 : decode cX3_answerDone 1 = .ok (.getfield 46, 3) := by decide +kernel
theorem dX3_answerDone_4 : decode cX3_answerDone 4 = .ok (.invokevirtual 96, 3) := by decide +kernel
theorem dX3_answerDone_7 : decode cX3_answerDone 7 = .ok (.iconst 0, 1) := by decide +kernel
theorem dX3_answerDone_8 : decode cX3_answerDone 8 = .ok (.istore_n 1, 1) := by decide +kernel
theorem dX3_answerDone_9 : decode cX3_answerDone 9 = .ok (.iload_n 1, 1) := by decide +kernel
theorem dX3_answerDone_10 : decode cX3_answerDone 10 = .ok (.aload_n 0, 1) := by decide +kernel
theorem dX3_answerDone_11 : decode cX3_answerDone 11 = .ok (.getfield 154, 3) := by decide +kernel
theorem dX3_answerDone_14 : decode cX3_answerDone 14 = .ok (.if_icmp .ge 24, 3) := by decide +kernel
theorem dX3_answerDone_17 : decode cX3_answerDone 17 = .ok (.aload_n 0, 1) := by decide +kernel
theorem dX3_answerDone_18 : decode cX3_answerDone 18 = .ok (.getfield 27, 3) := by decide +kernel
theorem dX3_answerDone_21 : decode cX3_answerDone 21 = .ok (.aload_n 0, 1) := by decide +kernel
theorem dX3_answerDone_22 : decode cX3_answerDone 22 = .ok (.getfield 34, 3) := by decide +kernel
theorem dX3_answerDone_25 : decode cX3_answerDone 25 = .ok (.iload_n 1, 1) := by decide +kernel
theorem dX3_answerDone_26 : decode cX3_answerDone 26 = .ok (.iaload, 1) := by decide +kernel
theorem dX3_answerDone_27 : decode cX3_answerDone 27 = .ok (.aaload, 1) := by decide +kernel
theorem dX3_answerDone_28 : decode cX3_answerDone 28 = .ok (.iconst 3, 1) := by decide +kernel
theorem dX3_answerDone_29 : decode cX3_answerDone 29 = .ok (.putfield 117, 3) := by decide +kernel
theorem dX3_answerDone_32 : decode cX3_answerDone 32 = .ok (.iinc 1 1, 3) := by decide +kernel
theorem dX3_answerDone_35 : decode cX3_answerDone 35 = .ok (.goto (-26), 3) := by decide +kernel
theorem dX3_answerDone_38 : decode cX3_answerDone 38 = .ok (.return_, 1) := by decide +kernel
theorem dX3_isLost_0 : decode cX3_isLost 0 = .ok (.aload_n 0, 1) := by decide +kernel
theorem dX3_isLost_1 : decode cX3_isLost 1 = .ok (.getfield 27, 3) := by decide +kernel
theorem dX3_isLost_4 : decode cX3_isLost 4 = .ok (.iload_n 1, 1) := by decide +kernel
theorem dX3_isLost_5 : decode cX3_isLost 5 = .ok (.aaload, 1) := by decide +kernel
theorem dX3_isLost_6 : decode cX3_isLost 6 = .ok (.getfield 117, 3) := by decide +kernel
theorem dX3_isLost_9 : decode cX3_isLost 9 = .ok (.iconst 2, 1) := by decide +kernel
theorem dX3_isLost_10 : decode cX3_isLost 10 = .ok (.if_icmp .ne 26, 3) := by decide +kernel
theorem dX3_isLost_13 : decode cX3_isLost 13 = .ok (.aload_n 0, 1) := by decide +kernel
theorem dX3_isLost_14 : decode cX3_isLost 14 = .ok (.getfield 27, 3) := by decide +kernel
theorem dX3_isLost_17 : decode cX3_isLost 17 = .ok (.iload_n 1, 1) := by decide +kernel
theorem dX3_isLost_18 : decode cX3_isLost 18 = .ok (.aaload, 1) := by decide +kernel
theorem dX3_isLost_19 : decode cX3_isLost 19 = .ok (.getfield 258, 3) := by decide +kernel
theorem dX3_isLost_22 : decode cX3_isLost 22 = .ok (.aload_n 0, 1) := by decide +kernel
theorem dX3_isLost_23 : decode cX3_isLost 23 = .ok (.getfield 46, 3) := by decide +kernel
theorem dX3_isLost_26 : decode cX3_isLost 26 = .ok (.getfield 86, 3) := by decide +kernel
theorem dX3_isLost_29 : decode cX3_isLost 29 = .ok (.if_icmp .lt 7, 3) := by decide +kernel
theorem dX3_isLost_32 : decode cX3_isLost 32 = .ok (.iconst 1, 1) := by decide +kernel
theorem dX3_isLost_33 : decode cX3_isLost 33 = .ok (.goto 4, 3) := by decide +kernel
theorem dX3_isLost_36 : decode cX3_isLost 36 = .ok (.iconst 0, 1) := by decide +kernel
theorem dX3_isLost_37 : decode cX3_isLost 37 = .ok (.ireturn, 1) := by decide +kernel
set_option maxRecDepth 20000 in
theorem ggX3_fallAct_X3_isLost : GoodIn wsX3_fallAct wsX3_isLost := goodIn_r _ [11, 1, 3, 4, 5, 6, 34, 35, 36, 37, 38, 39, 40, 41, 42, 43, 44, 45, 46, 47, 48, 49, 50, 51, 52, 53, 54, 55, 56, 57, 58, 59, 60, 61, 62, 63, 64, 65, 66, 67, 68, 69, 70, 71, 72, 73, 74] (by decide +kernel) (by decide +kernel)
set_option maxRecDepth 20000 in
theorem gX3_fallAct_X3_isLost : GoodIn wsX3_fallAct (wsV RX3 105 RX3 yX3_isLost wsX3_isLost) := goodIn_app (goodIn_of _ (by decide +kernel)) ggX3_fallAct_X3_isLost
set_option maxRecDepth 20000 in
theorem ggX3_fallAct_X0_leave : GoodIn wsX3_fallAct wsX0_leave := goodIn_r _ [16, 17, 18, 19, 20, 21, 22, 23, 24, 25, 26, 27, 52, 53, 54, 55, 56, 57, 58, 59, 60, 61, 62, 63, 64, 65, 66, 67, 68, 69, 70, 71] (by decide +kernel) (by decide +kernel)
set_option maxRecDepth 20000 in
theorem gX3_fallAct_X0_leave : GoodIn wsX3_fallAct (wsV RX3 255 RX0 yX0_leave wsX0_leave) := goodIn_app (goodIn_of _ (by decide +kernel)) ggX3_fallAct_X0_leave
set_option maxRecDepth 20000 in
theorem ggX3_fallAct_X0_undo : GoodIn wsX3_fallAct wsX0_undo := goodIn_r _ [31, 32, 33, 13, 14, 15, 16, 17, 18, 19, 20, 21, 22, 23, 24, 25, 26, 27, 52, 53, 54, 55, 56, 57, 58, 59, 60, 61, 62, 63, 64, 65, 66, 67, 68, 69, 70, 71] (by decide +kernel) (by decide +kernel)
set_option maxRecDepth 20000 in
theorem gX3_fallAct_X0_undo : GoodIn wsX3_fallAct (wsV RX3 299 RX0 yX0_undo wsX0_undo) := goodIn_app (goodIn_of _ (by decide +kernel)) ggX3_fallAct_X0_undo
theorem dX3_fallAct_0 : decode cX3_fallAct 0 = .ok (.aload_n 0, 1) := by decide +kernel
theorem dX3_fallAct_1 : decode cX3_fallAct 1 = .ok (.getfield 27, 3) := by decide +kernel
theorem dX3_fallAct_4 : decode cX3_fallAct 4 = .ok (.iload_n 1, 1) := by decide +kernel
theorem dX3_fallAct_5 : decode cX3_fallAct 5 = .ok (.aaload, 1) := by decide +kernel
theorem dX3_fallAct_6 : decode cX3_fallAct 6 = .ok (.astore_n 2, 1) := by decide +kernel
theorem dX3_fallAct_7 : decode cX3_fallAct 7 = .ok (.aload_n 2, 1) := by decide +kernel
theorem dX3_fallAct_8 : decode cX3_fallAct 8 = .ok (.getfield 141, 3) := by decide +kernel
theorem dX3_fallAct_11 : decode cX3_fallAct 11 = .ok (.iconst (-1), 1) := by decide +kernel
theorem dX3_fallAct_12 : decode cX3_fallAct 12 = .ok (.if_icmp .eq 22, 3) := by decide +kernel
theorem dX3_fallAct_15 : decode cX3_fallAct 15 = .ok (.aload_n 0, 1) := by decide +kernel
theorem dX3_fallAct_16 : decode cX3_fallAct 16 = .ok (.aload_n 2, 1) := by decide +kernel
theorem dX3_fallAct_17 : decode cX3_fallAct 17 = .ok (.getfield 141, 3) := by decide +kernel
theorem dX3_fallAct_20 : decode cX3_fallAct 20 = .ok (.invokevirtual 105, 3) := by decide +kernel
theorem dX3_fallAct_23 : decode cX3_fallAct 23 = .ok (.ifCond .eq 11, 3) := by decide +kernel
theorem dX3_fallAct_26 : decode cX3_fallAct 26 = .ok (.aload_n 2, 1) := by decide +kernel
theorem dX3_fallAct_27 : decode cX3_fallAct 27 = .ok (.iconst 4, 1) := by decide +kernel
theorem dX3_fallAct_28 : decode cX3_fallAct 28 = .ok (.invokevirtual 255, 3) := by decide +kernel
theorem dX3_fallAct_31 : decode cX3_fallAct 31 = .ok (.goto 69, 3) := by decide +kernel
theorem dX3_fallAct_34 : decode cX3_fallAct 34 = .ok (.aload_n 2, 1) := by decide +kernel
theorem dX3_fallAct_35 : decode cX3_fallAct 35 = .ok (.getfield 117, 3) := by decide +kernel
theorem dX3_fallAct_38 : decode cX3_fallAct 38 = .ok (.iconst 1, 1) := by decide +kernel
theorem dX3_fallAct_39 : decode cX3_fallAct 39 = .ok (.if_icmp .eq 11, 3) := by decide +kernel
theorem dX3_fallAct_42 : decode cX3_fallAct 42 = .ok (.aload_n 0, 1) := by decide +kernel
theorem dX3_fallAct_43 : decode cX3_fallAct 43 = .ok (.iload_n 1, 1) := by decide +kernel
theorem dX3_fallAct_44 : decode cX3_fallAct 44 = .ok (.invokevirtual 105, 3) := by decide +kernel
theorem dX3_fallAct_47 : decode cX3_fallAct 47 = .ok (.ifCond .eq 10, 3) := by decide +kernel
theorem dX3_fallAct_50 : decode cX3_fallAct 50 = .ok (.aload_n 2, 1) := by decide +kernel
theorem dX3_fallAct_51 : decode cX3_fallAct 51 = .ok (.invokevirtual 299, 3) := by decide +kernel
theorem dX3_fallAct_54 : decode cX3_fallAct 54 = .ok (.goto 46, 3) := by decide +kernel
theorem dX3_fallAct_57 : decode cX3_fallAct 57 = .ok (.aload_n 2, 1) := by decide +kernel
theorem dX3_fallAct_58 : decode cX3_fallAct 58 = .ok (.getfield 117, 3) := by decide +kernel
theorem dX3_fallAct_61 : decode cX3_fallAct 61 = .ok (.iconst 4, 1) := by decide +kernel
theorem dX3_fallAct_62 : decode cX3_fallAct 62 = .ok (.if_icmp .ne 25, 3) := by decide +kernel
theorem dX3_fallAct_65 : decode cX3_fallAct 65 = .ok (.aload_n 2, 1) := by decide +kernel
theorem dX3_fallAct_66 : decode cX3_fallAct 66 = .ok (.getfield 258, 3) := by decide +kernel
theorem dX3_fallAct_69 : decode cX3_fallAct 69 = .ok (.aload_n 0, 1) := by decide +kernel
theorem dX3_fallAct_70 : decode cX3_fallAct 70 = .ok (.getfield 46, 3) := by decide +kernel
theorem dX3_fallAct_73 : decode cX3_fallAct 73 = .ok (.getfield 86, 3) := by decide +kernel
theorem dX3_fallAct_76 : decode cX3_fallAct 76 = .ok (.if_icmp .lt 11, 3) := by decide +kernel
theorem dX3_fallAct_79 : decode cX3_fallAct 79 = .ok (.aload_n 2, 1) := by decide +kernel
theorem dX3_fallAct_80 : decode cX3_fallAct 80 = .ok (.iconst 0, 1) := by decide +kernel
theorem dX3_fallAct_81 : decode cX3_fallAct 81 = .ok (.invokevirtual 255, 3) := by decide +kernel
theorem dX3_fallAct_84 : decode cX3_fallAct 84 = .ok (.goto 16, 3) := by decide +kernel
theorem dX3_fallAct_87 : decode cX3_fallAct 87 = .ok (.aload_n 2, 1) := by decide +kernel
theorem dX3_fallAct_88 : decode cX3_fallAct 88 = .ok (.getfield 117, 3) := by decide +kernel
theorem dX3_fallAct_91 : decode cX3_fallAct 91 = .ok (.iconst 2, 1) := by decide +kernel
theorem dX3_fallAct_92 : decode cX3_fallAct 92 = .ok (.if_icmp .ne 8, 3) := by decide +kernel
theorem dX3_fallAct_95 : decode cX3_fallAct 95 = .ok (.aload_n 2, 1) := by decide +kernel
theorem dX3_fallAct_96 : decode cX3_fallAct 96 = .ok (.iconst 3, 1) := by decide +kernel
theorem dX3_fallAct_97 : decode cX3_fallAct 97 = .ok (.putfield 117, 3) := by decide +kernel
theorem dX3_fallAct_100 : decode cX3_fallAct 100 = .ok (.return_, 1) := by decide +kernel
theorem dX3_dropUndoneFromRow_0 : decode cX3_dropUndoneFromRow 0 = .ok (.iconst 0, 1) := by decide +kernel
theorem dX3_dropUndoneFromRow_1 : decode cX3_dropUndoneFromRow 1 = .ok (.istore_n 1, 1) := by decide +kernel
theorem dX3_dropUndoneFromRow_2 : decode cX3_dropUndoneFromRow 2 = .ok (.iconst 0, 1) := by decide +kernel
theorem dX3_dropUndoneFromRow_3 : decode cX3_dropUndoneFromRow 3 = .ok (.istore_n 2, 1) := by decide +kernel
theorem dX3_dropUndoneFromRow_4 : decode cX3_dropUndoneFromRow 4 = .ok (.iload_n 2, 1) := by decide +kernel
theorem dX3_dropUndoneFromRow_5 : decode cX3_dropUndoneFromRow 5 = .ok (.aload_n 0, 1) := by decide +kernel
theorem dX3_dropUndoneFromRow_6 : decode cX3_dropUndoneFromRow 6 = .ok (.getfield 154, 3) := by decide +kernel
theorem dX3_dropUndoneFromRow_9 : decode cX3_dropUndoneFromRow 9 = .ok (.if_icmp .ge 42, 3) := by decide +kernel
theorem dX3_dropUndoneFromRow_12 : decode cX3_dropUndoneFromRow 12 = .ok (.aload_n 0, 1) := by decide +kernel
theorem dX3_dropUndoneFromRow_13 : decode cX3_dropUndoneFromRow 13 = .ok (.getfield 27, 3) := by decide +kernel
theorem dX3_dropUndoneFromRow_16 : decode cX3_dropUndoneFromRow 16 = .ok (.aload_n 0, 1) := by decide +kernel
theorem dX3_dropUndoneFromRow_17 : decode cX3_dropUndoneFromRow 17 = .ok (.getfield 34, 3) := by decide +kernel
theorem dX3_dropUndoneFromRow_20 : decode cX3_dropUndoneFromRow 20 = .ok (.iload_n 2, 1) := by decide +kernel
theorem dX3_dropUndoneFromRow_21 : decode cX3_dropUndoneFromRow 21 = .ok (.iaload, 1) := by decide +kernel
theorem dX3_dropUndoneFromRow_22 : decode cX3_dropUndoneFromRow 22 = .ok (.aaload, 1) := by decide +kernel
theorem dX3_dropUndoneFromRow_23 : decode cX3_dropUndoneFromRow 23 = .ok (.getfield 117, 3) := by decide +kernel
theorem dX3_dropUndoneFromRow_26 : decode cX3_dropUndoneFromRow 26 = .ok (.iconst 3, 1) := by decide +kernel
theorem dX3_dropUndoneFromRow_27 : decode cX3_dropUndoneFromRow 27 = .ok (.if_icmp .ne 18, 3) := by decide +kernel
theorem dX3_dropUndoneFromRow_30 : decode cX3_dropUndoneFromRow 30 = .ok (.aload_n 0, 1) := by decide +kernel
theorem dX3_dropUndoneFromRow_31 : decode cX3_dropUndoneFromRow 31 = .ok (.getfield 34, 3) := by decide +kernel
theorem dX3_dropUndoneFromRow_34 : decode cX3_dropUndoneFromRow 34 = .ok (.iload_n 1, 1) := by decide +kernel
theorem dX3_dropUndoneFromRow_35 : decode cX3_dropUndoneFromRow 35 = .ok (.aload_n 0, 1) := by decide +kernel
theorem dX3_dropUndoneFromRow_36 : decode cX3_dropUndoneFromRow 36 = .ok (.getfield 34, 3) := by decide +kernel
theorem dX3_dropUndoneFromRow_39 : decode cX3_dropUndoneFromRow 39 = .ok (.iload_n 2, 1) := by decide +kernel
theorem dX3_dropUndoneFromRow_40 : decode cX3_dropUndoneFromRow 40 = .ok (.iaload, 1) := by decide +kernel
theorem dX3_dropUndoneFromRow_41 : decode cX3_dropUndoneFromRow 41 = .ok (.iastore, 1) := by decide +kernel
theorem dX3_dropUndoneFromRow_42 : decode cX3_dropUndoneFromRow 42 = .ok (.iinc 1 1, 3) := by decide +kernel
theorem dX3_dropUndoneFromRow_45 : decode cX3_dropUndoneFromRow 45 = .ok (.iinc 2 1, 3) := by decide +kernel
theorem dX3_dropUndoneFromRow_48 : decode cX3_dropUndoneFromRow 48 = .ok (.goto (-44), 3) := by decide +kernel
theorem dX3_dropUndoneFromRow_51 : decode cX3_dropUndoneFromRow 51 = .ok (.aload_n 0, 1) := by decide +kernel
theorem dX3_dropUndoneFromRow_52 : decode cX3_dropUndoneFromRow 52 = .ok (.iload_n 1, 1) := by decide +kernel
theorem dX3_dropUndoneFromRow_53 : decode cX3_dropUndoneFromRow 53 = .ok (.putfield 154, 3) := by decide +kernel
theorem dX3_dropUndoneFromRow_56 : decode cX3_dropUndoneFromRow 56 = .ok (.return_, 1) := by decide +kernel
set_option maxRecDepth 20000 in
theorem ggX3_retellValues_J7_fill_53178 : GoodIn wsX3_retellValues wsJ7_fill_53178 := goodIn_r _ [8] (by decide +kernel) (by decide +kernel)
set_option maxRecDepth 20000 in
theorem gX3_retellValues_J7_fill_53178 : GoodIn wsX3_retellValues (va_wsS RX3 57 yJ7_fill_53178 wsJ7_fill_53178) := goodIn_app (goodIn_of _ (by decide +kernel)) ggX3_retellValues_J7_fill_53178
set_option maxRecDepth 20000 in
theorem ggX3_retellValues_X3_tellValues : GoodIn wsX3_retellValues wsX3_tellValues := goodIn_r _ [13, 1, 14, 15, 16, 17, 18, 19, 20, 21, 22, 23, 24, 25, 26, 27, 28, 29, 30, 31, 32, 33, 34, 35, 36, 37, 38, 39, 40, 41, 42, 43, 44, 45, 46, 47, 48, 49, 50, 51, 52, 53, 54, 55, 56, 57, 58, 59] (by decide +kernel) (by decide +kernel)
set_option maxRecDepth 20000 in
theorem gX3_retellValues_X3_tellValues : GoodIn wsX3_retellValues (wsV RX3 261 RX3 yX3_tellValues wsX3_tellValues) := goodIn_app (goodIn_of _ (by decide +kernel)) ggX3_retellValues_X3_tellValues
theorem dX3_retellValues_0 : decode cX3_retellValues 0 = .ok (.aload_n 0, 1) := by decide +kernel
theorem dX3_retellValues_1 : decode cX3_retellValues 1 = .ok (.getfield 22, 3) := by decide +kernel
theorem dX3_retellValues_4 : decode cX3_retellValues 4 = .ok (.iconst 0, 1) := by decide +kernel
theorem dX3_retellValues_5 : decode cX3_retellValues 5 = .ok (.invokestatic 57, 3) := by decide +kernel
theorem dX3_retellValues_8 : decode cX3_retellValues 8 = .ok (.iconst 0, 1) := by decide +kernel
theorem dX3_retellValues_9 : decode cX3_retellValues 9 = .ok (.istore_n 1, 1) := by decide +kernel
theorem dX3_retellValues_10 : decode cX3_retellValues 10 = .ok (.iload_n 1, 1) := by decide +kernel
theorem dX3_retellValues_11 : decode cX3_retellValues 11 = .ok (.aload_n 0, 1) := by decide +kernel
theorem dX3_retellValues_12 : decode cX3_retellValues 12 = .ok (.getfield 154, 3) := by decide +kernel
theorem dX3_retellValues_15 : decode cX3_retellValues 15 = .ok (.if_icmp .ge 24, 3) := by decide +kernel
theorem dX3_retellValues_18 : decode cX3_retellValues 18 = .ok (.aload_n 0, 1) := by decide +kernel
theorem dX3_retellValues_19 : decode cX3_retellValues 19 = .ok (.aload_n 0, 1) := by decide +kernel
theorem dX3_retellValues_20 : decode cX3_retellValues 20 = .ok (.getfield 27, 3) := by decide +kernel
theorem dX3_retellValues_23 : decode cX3_retellValues 23 = .ok (.aload_n 0, 1) := by decide +kernel
theorem dX3_retellValues_24 : decode cX3_retellValues 24 = .ok (.getfield 34, 3) := by decide +kernel
theorem dX3_retellValues_27 : decode cX3_retellValues 27 = .ok (.iload_n 1, 1) := by decide +kernel
theorem dX3_retellValues_28 : decode cX3_retellValues 28 = .ok (.iaload, 1) := by decide +kernel
theorem dX3_retellValues_29 : decode cX3_retellValues 29 = .ok (.aaload, 1) := by decide +kernel
theorem dX3_retellValues_30 : decode cX3_retellValues 30 = .ok (.invokevirtual 261, 3) := by decide +kernel
theorem dX3_retellValues_33 : decode cX3_retellValues 33 = .ok (.iinc 1 1, 3) := by decide +kernel
theorem dX3_retellValues_36 : decode cX3_retellValues 36 = .ok (.goto (-26), 3) := by decide +kernel
theorem dX3_retellValues_39 : decode cX3_retellValues 39 = .ok (.return_, 1) := by decide +kernel
theorem dX4_init_0 : decode cX4_init 0 = .ok (.aload_n 0, 1) := by decide +kernel
theorem dX4_init_1 : decode cX4_init 1 = .ok (.invokespecial 1, 3) := by decide +kernel
theorem dX4_init_4 : decode cX4_init 4 = .ok (.aload_n 0, 1) := by decide +kernel
theorem dX4_init_5 : decode cX4_init 5 = .ok (.bipush 24, 2) := by decide +kernel
theorem dX4_init_7 : decode cX4_init 7 = .ok (.newarray .int, 2) := by decide +kernel
theorem dX4_init_9 : decode cX4_init 9 = .ok (.putfield 9, 3) := by decide +kernel
theorem dX4_init_12 : decode cX4_init 12 = .ok (.aload_n 0, 1) := by decide +kernel
theorem dX4_init_13 : decode cX4_init 13 = .ok (.bipush 8, 2) := by decide +kernel
theorem dX4_init_15 : decode cX4_init 15 = .ok (.newarray .int, 2) := by decide +kernel
theorem dX4_init_17 : decode cX4_init 17 = .ok (.putfield 13, 3) := by decide +kernel
theorem dX4_init_20 : decode cX4_init 20 = .ok (.aload_n 0, 1) := by decide +kernel
theorem dX4_init_21 : decode cX4_init 21 = .ok (.bipush 8, 2) := by decide +kernel
theorem dX4_init_23 : decode cX4_init 23 = .ok (.newarray .int, 2) := by decide +kernel
theorem dX4_init_25 : decode cX4_init 25 = .ok (.putfield 16, 3) := by decide +kernel
theorem dX4_init_28 : decode cX4_init 28 = .ok (.aload_n 0, 1) := by decide +kernel
theorem dX4_init_29 : decode cX4_init 29 = .ok (.iconst 4, 1) := by decide +kernel
theorem dX4_init_30 : decode cX4_init 30 = .ok (.newarray .int, 2) := by decide +kernel
theorem dX4_init_32 : decode cX4_init 32 = .ok (.dup, 1) := by decide +kernel
theorem dX4_init_33 : decode cX4_init 33 = .ok (.iconst 0, 1) := by decide +kernel
theorem dX4_init_34 : decode cX4_init 34 = .ok (.iconst 3, 1) := by decide +kernel
theorem dX4_init_35 : decode cX4_init 35 = .ok (.iastore, 1) := by decide +kernel
theorem dX4_init_36 : decode cX4_init 36 = .ok (.dup, 1) := by decide +kernel
theorem dX4_init_37 : decode cX4_init 37 = .ok (.iconst 1, 1) := by decide +kernel
theorem dX4_init_38 : decode cX4_init 38 = .ok (.iconst 3, 1) := by decide +kernel
theorem dX4_init_39 : decode cX4_init 39 = .ok (.iastore, 1) := by decide +kernel
theorem dX4_init_40 : decode cX4_init 40 = .ok (.dup, 1) := by decide +kernel
theorem dX4_init_41 : decode cX4_init 41 = .ok (.iconst 2, 1) := by decide +kernel
theorem dX4_init_42 : decode cX4_init 42 = .ok (.iconst 3, 1) := by decide +kernel
theorem dX4_init_43 : decode cX4_init 43 = .ok (.iastore, 1) := by decide +kernel
theorem dX4_init_44 : decode cX4_init 44 = .ok (.dup, 1) := by decide +kernel
theorem dX4_init_45 : decode cX4_init 45 = .ok (.iconst 3, 1) := by decide +kernel
theorem dX4_init_46 : decode cX4_init 46 = .ok (.iconst 3, 1) := by decide +kernel
theorem dX4_init_47 : decode cX4_init 47 = .ok (.iastore, 1) := by decide +kernel
theorem dX4_init_48 : decode cX4_init 48 = .ok (.putfield 19, 3) := by decide +kernel
theorem dX4_init_51 : decode cX4_init 51 = .ok (.aload_n 0, 1) := by decide +kernel
theorem dX4_init_52 : decode cX4_init 52 = .ok (.bipush 8, 2) := by decide +kernel
theorem dX4_init_54 : decode cX4_init 54 = .ok (.newarray .int, 2) := by decide +kernel
theorem dX4_init_56 : decode cX4_init 56 = .ok (.putfield 22, 3) := by decide +kernel
theorem dX4_init_59 : decode cX4_init 59 = .ok (.aload_n 0, 1) := by decide +kernel
theorem dX4_init_60 : decode cX4_init 60 = .ok (.bipush 96, 2) := by decide +kernel
theorem dX4_init_62 : decode cX4_init 62 = .ok (.newarray .int, 2) := by decide +kernel
theorem dX4_init_64 : decode cX4_init 64 = .ok (.putfield 25, 3) := by decide +kernel
theorem dX4_init_67 : decode cX4_init 67 = .ok (.aload_n 0, 1) := by decide +kernel
theorem dX4_init_68 : decode cX4_init 68 = .ok (.bipush 80, 2) := by decide +kernel
theorem dX4_init_70 : decode cX4_init 70 = .ok (.newarray .int, 2) := by decide +kernel
theorem dX4_init_72 : decode cX4_init 72 = .ok (.putfield 28, 3) := by decide +kernel
theorem dX4_init_75 : decode cX4_init 75 = .ok (.aload_n 0, 1) := by decide +kernel
theorem dX4_init_76 : decode cX4_init 76 = .ok (.bipush 80, 2) := by decide +kernel
theorem dX4_init_78 : decode cX4_init 78 = .ok (.newarray .int, 2) := by decide +kernel
theorem dX4_init_80 : decode cX4_init 80 = .ok (.putfield 31, 3) := by decide +kernel
theorem dX4_init_83 : decode cX4_init 83 = .ok (.aload_n 0, 1) := by decide +kernel
theorem dX4_init_84 : decode cX4_init 84 = .ok (.bipush 80, 2) := by decide +kernel
theorem dX4_init_86 : decode cX4_init 86 = .ok (.newarray .int, 2) := by decide +kernel
theorem dX4_init_88 : decode cX4_init 88 = .ok (.putfield 34, 3) := by decide +kernel
theorem dX4_init_91 : decode cX4_init 91 = .ok (.aload_n 0, 1) := by decide +kernel
theorem dX4_init_92 : decode cX4_init 92 = .ok (.bipush 80, 2) := by decide +kernel
theorem dX4_init_94 : decode cX4_init 94 = .ok (.newarray .int, 2) := by decide +kernel
theorem dX4_init_96 : decode cX4_init 96 = .ok (.putfield 37, 3) := by decide +kernel
theorem dX4_init_99 : decode cX4_init 99 = .ok (.aload_n 0, 1) := by decide +kernel
theorem dX4_init_100 : decode cX4_init 100 = .ok (.bipush 80, 2) := by decide +kernel
theorem dX4_init_102 : decode cX4_init 102 = .ok (.newarray .int, 2) := by decide +kernel
theorem dX4_init_104 : decode cX4_init 104 = .ok (.putfield 40, 3) := by decide +kernel
theorem dX4_init_107 : decode cX4_init 107 = .ok (.aload_n 0, 1) := by decide +kernel
theorem dX4_init_108 : decode cX4_init 108 = .ok (.sipush 960, 3) := by decide +kernel
theorem dX4_init_111 : decode cX4_init 111 = .ok (.newarray .int, 2) := by decide +kernel
theorem dX4_init_113 : decode cX4_init 113 = .ok (.putfield 43, 3) := by decide +kernel
theorem dX4_init_116 : decode cX4_init 116 = .ok (.aload_n 0, 1) := by decide +kernel
theorem dX4_init_117 : decode cX4_init 117 = .ok (.bipush 80, 2) := by decide +kernel
theorem dX4_init_119 : decode cX4_init 119 = .ok (.newarray .int, 2) := by decide +kernel
theorem dX4_init_121 : decode cX4_init 121 = .ok (.putfield 46, 3) := by decide +kernel
theorem dX4_init_124 : decode cX4_init 124 = .ok (.aload_n 0, 1) := by decide +kernel
theorem dX4_init_125 : decode cX4_init 125 = .ok (.bipush 80, 2) := by decide +kernel
theorem dX4_init_127 : decode cX4_init 127 = .ok (.newarray .int, 2) := by decide +kernel
theorem dX4_init_129 : decode cX4_init 129 = .ok (.putfield 49, 3) := by decide +kernel
theorem dX4_init_132 : decode cX4_init 132 = .ok (.aload_n 0, 1) := by decide +kernel
theorem dX4_init_133 : decode cX4_init 133 = .ok (.bipush 80, 2) := by decide +kernel
theorem dX4_init_135 : decode cX4_init 135 = .ok (.newarray .boolean, 2) := by decide +kernel
theorem dX4_init_137 : decode cX4_init 137 = .ok (.putfield 52, 3) := by decide +kernel
theorem dX4_init_140 : decode cX4_init 140 = .ok (.aload_n 0, 1) := by decide +kernel
theorem dX4_init_141 : decode cX4_init 141 = .ok (.bipush 80, 2) := by decide +kernel
theorem dX4_init_143 : decode cX4_init 143 = .ok (.newarray .int, 2) := by decide +kernel
theorem dX4_init_145 : decode cX4_init 145 = .ok (.putfield 56, 3) := by decide +kernel
theorem dX4_init_148 : decode cX4_init 148 = .ok (.aload_n 0, 1) := by decide +kernel
theorem dX4_init_149 : decode cX4_init 149 = .ok (.bipush 80, 2) := by decide +kernel
theorem dX4_init_151 : decode cX4_init 151 = .ok (.newarray .int, 2) := by decide +kernel
theorem dX4_init_153 : decode cX4_init 153 = .ok (.putfield 59, 3) := by decide +kernel
theorem dX4_init_156 : decode cX4_init 156 = .ok (.aload_n 0, 1) := by decide +kernel
theorem dX4_init_157 : decode cX4_init 157 = .ok (.bipush 80, 2) := by decide +kernel
theorem dX4_init_159 : decode cX4_init 159 = .ok (.newarray .int, 2) := by decide +kernel
theorem dX4_init_161 : decode cX4_init 161 = .ok (.putfield 62, 3) := by decide +kernel
theorem dX4_init_164 : decode cX4_init 164 = .ok (.aload_n 0, 1) := by decide +kernel
theorem dX4_init_165 : decode cX4_init 165 = .ok (.bipush 80, 2) := by decide +kernel
theorem dX4_init_167 : decode cX4_init 167 = .ok (.newarray .int, 2) := by decide +kernel
theorem dX4_init_169 : decode cX4_init 169 = .ok (.putfield 65, 3) := by decide +kernel
theorem dX4_init_172 : decode cX4_init 172 = .ok (.aload_n 0, 1) := by decide +kernel
theorem dX4_init_173 : decode cX4_init 173 = .ok (.bipush 80, 2) := by decide +kernel
theorem dX4_init_175 : decode cX4_init 175 = .ok (.newarray .boolean, 2) := by decide +kernel
theorem dX4_init_177 : decode cX4_init 177 = .ok (.putfield 68, 3) := by decide +kernel
theorem dX4_init_180 : decode cX4_init 180 = .ok (.aload_n 0, 1) := by decide +kernel
theorem dX4_init_181 : decode cX4_init 181 = .ok (.bipush 80, 2) := by decide +kernel
theorem dX4_init_183 : decode cX4_init 183 = .ok (.newarray .boolean, 2) := by decide +kernel
theorem dX4_init_185 : decode cX4_init 185 = .ok (.putfield 71, 3) := by decide +kernel
theorem dX4_init_188 : decode cX4_init 188 = .ok (.aload_n 0, 1) := by decide +kernel
theorem dX4_init_189 : decode cX4_init 189 = .ok (.sipush 1920, 3) := by decide +kernel
theorem dX4_init_192 : decode cX4_init 192 = .ok (.newarray .int, 2) := by decide +kernel
theorem dX4_init_194 : decode cX4_init 194 = .ok (.putfield 74, 3) := by decide +kernel
theorem dX4_init_197 : decode cX4_init 197 = .ok (.aload_n 0, 1) := by decide +kernel
theorem dX4_init_198 : decode cX4_init 198 = .ok (.sipush 1920, 3) := by decide +kernel
theorem dX4_init_201 : decode cX4_init 201 = .ok (.newarray .int, 2) := by decide +kernel
theorem dX4_init_203 : decode cX4_init 203 = .ok (.putfield 77, 3) := by decide +kernel
theorem dX4_init_206 : decode cX4_init 206 = .ok (.aload_n 0, 1) := by decide +kernel
theorem dX4_init_207 : decode cX4_init 207 = .ok (.sipush 640, 3) := by decide +kernel
theorem dX4_init_210 : decode cX4_init 210 = .ok (.newarray .int, 2) := by decide +kernel
theorem dX4_init_212 : decode cX4_init 212 = .ok (.putfield 80, 3) := by decide +kernel
theorem dX4_init_215 : decode cX4_init 215 = .ok (.aload_n 0, 1) := by decide +kernel
theorem dX4_init_216 : decode cX4_init 216 = .ok (.sipush 640, 3) := by decide +kernel
theorem dX4_init_219 : decode cX4_init 219 = .ok (.newarray .int, 2) := by decide +kernel
theorem dX4_init_221 : decode cX4_init 221 = .ok (.putfield 83, 3) := by decide +kernel
theorem dX4_init_224 : decode cX4_init 224 = .ok (.aload_n 0, 1) := by decide +kernel
theorem dX4_init_225 : decode cX4_init 225 = .ok (.sipush 960, 3) := by decide +kernel
theorem dX4_init_228 : decode cX4_init 228 = .ok (.newarray .int, 2) := by decide +kernel
theorem dX4_init_230 : decode cX4_init 230 = .ok (.putfield 86, 3) := by decide +kernel
theorem dX4_init_233 : decode cX4_init 233 = .ok (.aload_n 0, 1) := by decide +kernel
theorem dX4_init_234 : decode cX4_init 234 = .ok (.bipush 80, 2) := by decide +kernel
theorem dX4_init_236 : decode cX4_init 236 = .ok (.newarray .int, 2) := by decide +kernel
theorem dX4_init_238 : decode cX4_init 238 = .ok (.putfield 89, 3) := by decide +kernel
theorem dX4_init_241 : decode cX4_init 241 = .ok (.aload_n 0, 1) := by decide +kernel
theorem dX4_init_242 : decode cX4_init 242 = .ok (.bipush 80, 2) := by decide +kernel
theorem dX4_init_244 : decode cX4_init 244 = .ok (.newarray .int, 2) := by decide +kernel
theorem dX4_init_246 : decode cX4_init 246 = .ok (.putfield 92, 3) := by decide +kernel
theorem dX4_init_249 : decode cX4_init 249 = .ok (.aload_n 0, 1) := by decide +kernel
theorem dX4_init_250 : decode cX4_init 250 = .ok (.sipush 4000, 3) := by decide +kernel
theorem dX4_init_253 : decode cX4_init 253 = .ok (.newarray .int, 2) := by decide +kernel
theorem dX4_init_255 : decode cX4_init 255 = .ok (.putfield 95, 3) := by decide +kernel
theorem dX4_init_258 : decode cX4_init 258 = .ok (.aload_n 0, 1) := by decide +kernel
theorem dX4_init_259 : decode cX4_init 259 = .ok (.bipush 80, 2) := by decide +kernel
theorem dX4_init_261 : decode cX4_init 261 = .ok (.newarray .int, 2) := by decide +kernel
theorem dX4_init_263 : decode cX4_init 263 = .ok (.putfield 98, 3) := by decide +kernel
theorem dX4_init_266 : decode cX4_init 266 = .ok (.aload_n 0, 1) := by decide +kernel
theorem dX4_init_267 : decode cX4_init 267 = .ok (.bipush 80, 2) := by decide +kernel
theorem dX4_init_269 : decode cX4_init 269 = .ok (.newarray .boolean, 2) := by decide +kernel
theorem dX4_init_271 : decode cX4_init 271 = .ok (.putfield 101, 3) := by decide +kernel
theorem dX4_init_274 : decode cX4_init 274 = .ok (.aload_n 0, 1) := by decide +kernel
theorem dX4_init_275 : decode cX4_init 275 = .ok (.bipush 81, 2) := by decide +kernel
theorem dX4_init_277 : decode cX4_init 277 = .ok (.newarray .int, 2) := by decide +kernel
theorem dX4_init_279 : decode cX4_init 279 = .ok (.putfield 104, 3) := by decide +kernel
theorem dX4_init_282 : decode cX4_init 282 = .ok (.return_, 1) := by decide +kernel
theorem dX4_in_0 : decode cX4_in 0 = .ok (.iload_n 0, 1) := by decide +kernel
theorem dX4_in_1 : decode cX4_in 1 = .ok (.iload_n 1, 1) := by decide +kernel
theorem dX4_in_2 : decode cX4_in 2 = .ok (.if_icmp .lt 12, 3) := by decide +kernel
theorem dX4_in_5 : decode cX4_in 5 = .ok (.iload_n 0, 1) := by decide +kernel
theorem dX4_in_6 : decode cX4_in 6 = .ok (.iload_n 2, 1) := by decide +kernel
theorem dX4_in_7 : decode cX4_in 7 = .ok (.if_icmp .gt 7, 3) := by decide +kernel
theorem dX4_in_10 : decode cX4_in 10 = .ok (.iconst 1, 1) := by decide +kernel
theorem dX4_in_11 : decode cX4_in 11 = .ok (.goto 4, 3) := by decide +kernel
theorem dX4_in_14 : decode cX4_in 14 = .ok (.iconst 0, 1) := by decide +kernel
theorem dX4_in_15 : decode cX4_in 15 = .ok (.ireturn, 1) := by decide +kernel
set_option maxRecDepth 20000 in
theorem ggX4_isProgram_X4_in : GoodIn wsX4_isProgram wsX4_in := goodIn_r _ [4] (by decide +kernel) (by decide +kernel)
set_option maxRecDepth 20000 in
theorem gX4_isProgram_X4_in : GoodIn wsX4_isProgram (va_wsS RX4 107 yX4_in wsX4_in) := goodIn_app (goodIn_of _ (by decide +kernel)) ggX4_isProgram_X4_in
theorem dX4_isProgram_0 : decode cX4_isProgram 0 = .ok (.iload_n 0, 1) := by decide +kernel
theorem dX4_isProgram_1 : decode cX4_isProgram 1 = .ok (.iconst 0, 1) := by decide +kernel
theorem dX4_isProgram_2 : decode cX4_isProgram 2 = .ok (.bipush 7, 2) := by decide +kernel
theorem dX4_isProgram_4 : decode cX4_isProgram 4 = .ok (.invokestatic 107, 3) := by decide +kernel
theorem dX4_isProgram_7 : decode cX4_isProgram 7 = .ok (.ireturn, 1) := by decide +kernel
set_option maxRecDepth 20000 in
theorem ggX4_isAct_X4_in : GoodIn wsX4_isAct wsX4_in := goodIn_r _ [5] (by decide +kernel) (by decide +kernel)
set_option maxRecDepth 20000 in
theorem gX4_isAct_X4_in : GoodIn wsX4_isAct (va_wsS RX4 107 yX4_in wsX4_in) := goodIn_app (goodIn_of _ (by decide +kernel)) ggX4_isAct_X4_in
theorem dX4_isAct_0 : decode cX4_isAct 0 = .ok (.iload_n 1, 1) := by decide +kernel
theorem dX4_isAct_1 : decode cX4_isAct 1 = .ok (.iconst 0, 1) := by decide +kernel
theorem dX4_isAct_2 : decode cX4_isAct 2 = .ok (.aload_n 0, 1) := by decide +kernel
theorem dX4_isAct_3 : decode cX4_isAct 3 = .ok (.getfield 111, 3) := by decide +kernel
theorem dX4_isAct_6 : decode cX4_isAct 6 = .ok (.iconst 1, 1) := by decide +kernel
theorem dX4_isAct_7 : decode cX4_isAct 7 = .ok (.isub, 1) := by decide +kernel
theorem dX4_isAct_8 : decode cX4_isAct 8 = .ok (.invokestatic 107, 3) := by decide +kernel
theorem dX4_isAct_11 : decode cX4_isAct 11 = .ok (.ireturn, 1) := by decide +kernel
set_option maxRecDepth 20000 in
theorem ggX4_program_X4_isProgram : GoodIn wsX4_program wsX4_isProgram := goodIn_r _ [5, 6, 7, 4, 8] (by decide +kernel) (by decide +kernel)
set_option maxRecDepth 20000 in
theorem gX4_program_X4_isProgram : GoodIn wsX4_program (va_wsS RX4 115 yX4_isProgram wsX4_isProgram) := goodIn_app (goodIn_of _ (by decide +kernel)) ggX4_program_X4_isProgram
theorem dX4_program_0 : decode cX4_program 0 = .ok (.iload_n 1, 1) := by decide +kernel
theorem dX4_program_1 : decode cX4_program 1 = .ok (.invokestatic 115, 3) := by decide +kernel
theorem dX4_program_4 : decode cX4_program 4 = .ok (.ifCond .ne 5, 3) := by decide +kernel
theorem dX4_program_7 : decode cX4_program 7 = .ok (.iconst 0, 1) := by decide +kernel
theorem dX4_program_8 : decode cX4_program 8 = .ok (.ireturn, 1) := by decide +kernel
theorem dX4_program_9 : decode cX4_program 9 = .ok (.aload_n 0, 1) := by decide +kernel
theorem dX4_program_10 : decode cX4_program 10 = .ok (.getfield 22, 3) := by decide +kernel
theorem dX4_program_13 : decode cX4_program 13 = .ok (.iload_n 1, 1) := by decide +kernel
theorem dX4_program_14 : decode cX4_program 14 = .ok (.iconst 0, 1) := by decide +kernel
theorem dX4_program_15 : decode cX4_program 15 = .ok (.iastore, 1) := by decide +kernel
theorem dX4_program_16 : decode cX4_program 16 = .ok (.iconst 1, 1) := by decide +kernel
theorem dX4_program_17 : decode cX4_program 17 = .ok (.ireturn, 1) := by decide +kernel
set_option maxRecDepth 20000 in
theorem ggX4_step_X4_isProgram : GoodIn wsX4_step wsX4_isProgram := goodIn_r _ [6, 7, 8, 5, 9] (by decide +kernel) (by decide +kernel)
set_option maxRecDepth 20000 in
theorem gX4_step_X4_isProgram : GoodIn wsX4_step (va_wsS RX4 115 yX4_isProgram wsX4_isProgram) := goodIn_app (goodIn_of _ (by decide +kernel)) ggX4_step_X4_isProgram
theorem dX4_step_0 : decode cX4_step 0 = .ok (.iload_n 1, 1) := by decide +kernel
theorem dX4_step_1 : decode cX4_step 1 = .ok (.invokestatic 115, 3) := by decide +kernel
theorem dX4_step_4 : decode cX4_step 4 = .ok (.ifCond .eq 28, 3) := by decide +kernel
theorem dX4_step_7 : decode cX4_step 7 = .ok (.aload_n 0, 1) := by decide +kernel
theorem dX4_step_8 : decode cX4_step 8 = .ok (.getfield 22, 3) := by decide +kernel
theorem dX4_step_11 : decode cX4_step 11 = .ok (.iload_n 1, 1) := by decide +kernel
theorem dX4_step_12 : decode cX4_step 12 = .ok (.iaload, 1) := by decide +kernel
theorem dX4_step_13 : decode cX4_step 13 = .ok (.bipush 12, 2) := by decide +kernel
theorem dX4_step_15 : decode cX4_step 15 = .ok (.if_icmp .eq 17, 3) := by decide +kernel
theorem dX4_step_18 : decode cX4_step 18 = .ok (.iload_n 2, 1) := by decide +kernel
theorem dX4_step_19 : decode cX4_step 19 = .ok (.ifCond .lt 13, 3) := by decide +kernel
theorem dX4_step_22 : decode cX4_step 22 = .ok (.iload_n 2, 1) := by decide +kernel
theorem dX4_step_23 : decode cX4_step 23 = .ok (.sipush 10000, 3) := by decide +kernel
theorem dX4_step_26 : decode cX4_step 26 = .ok (.idiv, 1) := by decide +kernel
theorem dX4_step_27 : decode cX4_step 27 = .ok (.bipush 8, 2) := by decide +kernel
theorem dX4_step_29 : decode cX4_step 29 = .ok (.if_icmp .le 5, 3) := by decide +kernel
theorem dX4_step_32 : decode cX4_step 32 = .ok (.iconst (-1), 1) := by decide +kernel
theorem dX4_step_33 : decode cX4_step 33 = .ok (.ireturn, 1) := by decide +kernel
theorem dX4_step_34 : decode cX4_step 34 = .ok (.iload_n 2, 1) := by decide +kernel
theorem dX4_step_35 : decode cX4_step 35 = .ok (.sipush 10000, 3) := by decide +kernel
theorem dX4_step_38 : decode cX4_step 38 = .ok (.idiv, 1) := by decide +kernel
theorem dX4_step_39 : decode cX4_step 39 = .ok (.istore_n 3, 1) := by decide +kernel
theorem dX4_step_40 : decode cX4_step 40 = .ok (.iload_n 2, 1) := by decide +kernel
theorem dX4_step_41 : decode cX4_step 41 = .ok (.bipush 100, 2) := by decide +kernel
theorem dX4_step_43 : decode cX4_step 43 = .ok (.idiv, 1) := by decide +kernel
theorem dX4_step_44 : decode cX4_step 44 = .ok (.bipush 100, 2) := by decide +kernel
theorem dX4_step_46 : decode cX4_step 46 = .ok (.irem, 1) := by decide +kernel
theorem dX4_step_47 : decode cX4_step 47 = .ok (.istore 4, 2) := by decide +kernel
theorem dX4_step_49 : decode cX4_step 49 = .ok (.iload_n 3, 1) := by decide +kernel
theorem dX4_step_50 : decode cX4_step 50 = .ok (.ifCond .eq 13, 3) := by decide +kernel
theorem dX4_step_53 : decode cX4_step 53 = .ok (.iload_n 3, 1) := by decide +kernel
theorem dX4_step_54 : decode cX4_step 54 = .ok (.iconst 3, 1) := by decide +kernel
theorem dX4_step_55 : decode cX4_step 55 = .ok (.if_icmp .eq 8, 3) := by decide +kernel
theorem dX4_step_58 : decode cX4_step 58 = .ok (.iload_n 3, 1) := by decide +kernel
theorem dX4_step_59 : decode cX4_step 59 = .ok (.iconst 4, 1) := by decide +kernel
theorem dX4_step_60 : decode cX4_step 60 = .ok (.if_icmp .ne 10, 3) := by decide +kernel
theorem dX4_step_63 : decode cX4_step 63 = .ok (.iload 4, 2) := by decide +kernel
theorem dX4_step_65 : decode cX4_step 65 = .ok (.bipush 24, 2) := by decide +kernel
theorem dX4_step_67 : decode cX4_step 67 = .ok (.if_icmp .ge 29, 3) := by decide +kernel
theorem dX4_step_70 : decode cX4_step 70 = .ok (.iload_n 3, 1) := by decide +kernel
theorem dX4_step_71 : decode cX4_step 71 = .ok (.bipush 6, 2) := by decide +kernel
theorem dX4_step_73 : decode cX4_step 73 = .ok (.if_icmp .ne 10, 3) := by decide +kernel
theorem dX4_step_76 : decode cX4_step 76 = .ok (.iload 4, 2) := by decide +kernel
theorem dX4_step_78 : decode cX4_step 78 = .ok (.bipush 8, 2) := by decide +kernel
theorem dX4_step_80 : decode cX4_step 80 = .ok (.if_icmp .ge 16, 3) := by decide +kernel
theorem dX4_step_83 : decode cX4_step 83 = .ok (.iload_n 3, 1) := by decide +kernel
theorem dX4_step_84 : decode cX4_step 84 = .ok (.bipush 7, 2) := by decide +kernel
theorem dX4_step_86 : decode cX4_step 86 = .ok (.if_icmp .ne 12, 3) := by decide +kernel
theorem dX4_step_89 : decode cX4_step 89 = .ok (.iload 4, 2) := by decide +kernel
theorem dX4_step_91 : decode cX4_step 91 = .ok (.bipush 8, 2) := by decide +kernel
theorem dX4_step_93 : decode cX4_step 93 = .ok (.if_icmp .lt 5, 3) := by decide +kernel
theorem dX4_step_96 : decode cX4_step 96 = .ok (.iconst (-1), 1) := by decide +kernel
theorem dX4_step_97 : decode cX4_step 97 = .ok (.ireturn, 1) := by decide +kernel
theorem dX4_step_98 : decode cX4_step 98 = .ok (.aload_n 0, 1) := by decide +kernel
theorem dX4_step_99 : decode cX4_step 99 = .ok (.getfield 25, 3) := by decide +kernel
theorem dX4_step_102 : decode cX4_step 102 = .ok (.bipush 12, 2) := by decide +kernel
theorem dX4_step_104 : decode cX4_step 104 = .ok (.iload_n 1, 1) := by decide +kernel
theorem dX4_step_105 : decode cX4_step 105 = .ok (.imul, 1) := by decide +kernel
theorem dX4_step_106 : decode cX4_step 106 = .ok (.aload_n 0, 1) := by decide +kernel
theorem dX4_step_107 : decode cX4_step 107 = .ok (.getfield 22, 3) := by decide +kernel
theorem dX4_step_110 : decode cX4_step 110 = .ok (.iload_n 1, 1) := by decide +kernel
theorem dX4_step_111 : decode cX4_step 111 = .ok (.iaload, 1) := by decide +kernel
theorem dX4_step_112 : decode cX4_step 112 = .ok (.iadd, 1) := by decide +kernel
theorem dX4_step_113 : decode cX4_step 113 = .ok (.iload_n 2, 1) := by decide +kernel
theorem dX4_step_114 : decode cX4_step 114 = .ok (.iastore, 1) := by decide +kernel
theorem dX4_step_115 : decode cX4_step 115 = .ok (.aload_n 0, 1) := by decide +kernel
theorem dX4_step_116 : decode cX4_step 116 = .ok (.getfield 22, 3) := by decide +kernel
theorem dX4_step_119 : decode cX4_step 119 = .ok (.iload_n 1, 1) := by decide +kernel
theorem dX4_step_120 : decode cX4_step 120 = .ok (.dup2, 1) := by decide +kernel
theorem dX4_step_121 : decode cX4_step 121 = .ok (.iaload, 1) := by decide +kernel
theorem dX4_step_122 : decode cX4_step 122 = .ok (.iconst 1, 1) := by decide +kernel
theorem dX4_step_123 : decode cX4_step 123 = .ok (.iadd, 1) := by decide +kernel
theorem dX4_step_124 : decode cX4_step 124 = .ok (.iastore, 1) := by decide +kernel
theorem dX4_step_125 : decode cX4_step 125 = .ok (.aload_n 0, 1) := by decide +kernel
theorem dX4_step_126 : decode cX4_step 126 = .ok (.getfield 22, 3) := by decide +kernel
theorem dX4_step_129 : decode cX4_step 129 = .ok (.iload_n 1, 1) := by decide +kernel
theorem dX4_step_130 : decode cX4_step 130 = .ok (.iaload, 1) := by decide +kernel
theorem dX4_step_131 : decode cX4_step 131 = .ok (.ireturn, 1) := by decide +kernel
theorem dX4_newAct_0 : decode cX4_newAct 0 = .ok (.aload_n 0, 1) := by decide +kernel
theorem dX4_newAct_1 : decode cX4_newAct 1 = .ok (.getfield 111, 3) := by decide +kernel
theorem dX4_newAct_4 : decode cX4_newAct 4 = .ok (.bipush 80, 2) := by decide +kernel
theorem dX4_newAct_6 : decode cX4_newAct 6 = .ok (.if_icmp .ne 5, 3) := by decide +kernel
theorem dX4_newAct_9 : decode cX4_newAct 9 = .ok (.iconst (-1), 1) := by decide +kernel
theorem dX4_newAct_10 : decode cX4_newAct 10 = .ok (.ireturn, 1) := by decide +kernel
theorem dX4_newAct_11 : decode cX4_newAct 11 = .ok (.aload_n 0, 1) := by decide +kernel
theorem dX4_newAct_12 : decode cX4_newAct 12 = .ok (.getfield 28, 3) := by decide +kernel
theorem dX4_newAct_15 : decode cX4_newAct 15 = .ok (.aload_n 0, 1) := by decide +kernel
theorem dX4_newAct_16 : decode cX4_newAct 16 = .ok (.getfield 111, 3) := by decide +kernel
theorem dX4_newAct_19 : decode cX4_newAct 19 = .ok (.iload_n 1, 1) := by decide +kernel
theorem dX4_newAct_20 : decode cX4_newAct 20 = .ok (.iastore, 1) := by decide +kernel
theorem dX4_newAct_21 : decode cX4_newAct 21 = .ok (.aload_n 0, 1) := by decide +kernel
theorem dX4_newAct_22 : decode cX4_newAct 22 = .ok (.getfield 31, 3) := by decide +kernel
theorem dX4_newAct_25 : decode cX4_newAct 25 = .ok (.aload_n 0, 1) := by decide +kernel
theorem dX4_newAct_26 : decode cX4_newAct 26 = .ok (.getfield 111, 3) := by decide +kernel
theorem dX4_newAct_29 : decode cX4_newAct 29 = .ok (.iload_n 2, 1) := by decide +kernel
theorem dX4_newAct_30 : decode cX4_newAct 30 = .ok (.iastore, 1) := by decide +kernel
theorem dX4_newAct_31 : decode cX4_newAct 31 = .ok (.aload_n 0, 1) := by decide +kernel
theorem dX4_newAct_32 : decode cX4_newAct 32 = .ok (.getfield 34, 3) := by decide +kernel
theorem dX4_newAct_35 : decode cX4_newAct 35 = .ok (.aload_n 0, 1) := by decide +kernel
theorem dX4_newAct_36 : decode cX4_newAct 36 = .ok (.getfield 111, 3) := by decide +kernel
theorem dX4_newAct_39 : decode cX4_newAct 39 = .ok (.iload_n 3, 1) := by decide +kernel
theorem dX4_newAct_40 : decode cX4_newAct 40 = .ok (.iastore, 1) := by decide +kernel
theorem dX4_newAct_41 : decode cX4_newAct 41 = .ok (.aload_n 0, 1) := by decide +kernel
theorem dX4_newAct_42 : decode cX4_newAct 42 = .ok (.getfield 62, 3) := by decide +kernel
theorem dX4_newAct_45 : decode cX4_newAct 45 = .ok (.aload_n 0, 1) := by decide +kernel
theorem dX4_newAct_46 : decode cX4_newAct 46 = .ok (.getfield 111, 3) := by decide +kernel
theorem dX4_newAct_49 : decode cX4_newAct 49 = .ok (.iload 4, 2) := by decide +kernel
theorem dX4_newAct_51 : decode cX4_newAct 51 = .ok (.iastore, 1) := by decide +kernel
theorem dX4_newAct_52 : decode cX4_newAct 52 = .ok (.aload_n 0, 1) := by decide +kernel
theorem dX4_newAct_53 : decode cX4_newAct 53 = .ok (.getfield 56, 3) := by decide +kernel
theorem dX4_newAct_56 : decode cX4_newAct 56 = .ok (.aload_n 0, 1) := by decide +kernel
theorem dX4_newAct_57 : decode cX4_newAct 57 = .ok (.getfield 111, 3) := by decide +kernel
theorem dX4_newAct_60 : decode cX4_newAct 60 = .ok (.iconst (-1), 1) := by decide +kernel
theorem dX4_newAct_61 : decode cX4_newAct 61 = .ok (.iastore, 1) := by decide +kernel
theorem dX4_newAct_62 : decode cX4_newAct 62 = .ok (.aload_n 0, 1) := by decide +kernel
theorem dX4_newAct_63 : decode cX4_newAct 63 = .ok (.getfield 65, 3) := by decide +kernel
theorem dX4_newAct_66 : decode cX4_newAct 66 = .ok (.aload_n 0, 1) := by decide +kernel
theorem dX4_newAct_67 : decode cX4_newAct 67 = .ok (.getfield 111, 3) := by decide +kernel
theorem dX4_newAct_70 : decode cX4_newAct 70 = .ok (.iconst (-1), 1) := by decide +kernel
theorem dX4_newAct_71 : decode cX4_newAct 71 = .ok (.iastore, 1) := by decide +kernel
theorem dX4_newAct_72 : decode cX4_newAct 72 = .ok (.aload_n 0, 1) := by decide +kernel
theorem dX4_newAct_73 : decode cX4_newAct 73 = .ok (.dup, 1) := by decide +kernel
theorem dX4_newAct_74 : decode cX4_newAct 74 = .ok (.getfield 111, 3) := by decide +kernel
theorem dX4_newAct_77 : decode cX4_newAct 77 = .ok (.iconst 1, 1) := by decide +kernel
theorem dX4_newAct_78 : decode cX4_newAct 78 = .ok (.iadd, 1) := by decide +kernel
theorem dX4_newAct_79 : decode cX4_newAct 79 = .ok (.putfield 111, 3) := by decide +kernel
theorem dX4_newAct_82 : decode cX4_newAct 82 = .ok (.aload_n 0, 1) := by decide +kernel
theorem dX4_newAct_83 : decode cX4_newAct 83 = .ok (.getfield 111, 3) := by decide +kernel
theorem dX4_newAct_86 : decode cX4_newAct 86 = .ok (.iconst 1, 1) := by decide +kernel
theorem dX4_newAct_87 : decode cX4_newAct 87 = .ok (.isub, 1) := by decide +kernel
theorem dX4_newAct_88 : decode cX4_newAct 88 = .ok (.ireturn, 1) := by decide +kernel
set_option maxRecDepth 20000 in
theorem ggX4_act_X4_isProgram : GoodIn wsX4_act wsX4_isProgram := goodIn_r _ [4, 5, 6, 3, 7] (by decide +kernel) (by decide +kernel)
set_option maxRecDepth 20000 in
theorem gX4_act_X4_isProgram : GoodIn wsX4_act (va_wsS RX4 115 yX4_isProgram wsX4_isProgram) := goodIn_app (goodIn_of _ (by decide +kernel)) ggX4_act_X4_isProgram
set_option maxRecDepth 20000 in
theorem ggX4_act_X4_in : GoodIn wsX4_act wsX4_in := goodIn_r _ [7] (by decide +kernel) (by decide +kernel)
set_option maxRecDepth 20000 in
theorem gX4_act_X4_in : GoodIn wsX4_act (va_wsS RX4 107 yX4_in wsX4_in) := goodIn_app (goodIn_of _ (by decide +kernel)) ggX4_act_X4_in
set_option maxRecDepth 20000 in
theorem ggX4_act_X4_newAct : GoodIn wsX4_act wsX4_newAct := goodIn_r _ [11, 12, 13, 14, 15, 16, 17, 18, 19, 20, 21, 22, 23, 24, 25, 26, 27, 28, 29, 30, 31, 32, 33, 34, 35, 36, 37, 38, 39, 40, 41, 42, 43, 44, 45, 46, 47, 48, 49, 50, 51, 52, 53, 54, 55, 56, 57] (by decide +kernel) (by decide +kernel)
set_option maxRecDepth 20000 in
theorem gX4_act_X4_newAct : GoodIn wsX4_act (wsV RX4 119 RX4 yX4_newAct wsX4_newAct) := goodIn_app (goodIn_of _ (by decide +kernel)) ggX4_act_X4_newAct
theorem dX4_act_0 : decode cX4_act 0 = .ok (.iload_n 1, 1) := by decide +kernel
theorem dX4_act_1 : decode cX4_act 1 = .ok (.invokestatic 115, 3) := by decide +kernel
theorem dX4_act_4 : decode cX4_act 4 = .ok (.ifCond .eq 33, 3) := by decide +kernel
theorem dX4_act_7 : decode cX4_act 7 = .ok (.iload_n 2, 1) := by decide +kernel
theorem dX4_act_8 : decode cX4_act 8 = .ok (.iconst 0, 1) := by decide +kernel
theorem dX4_act_9 : decode cX4_act 9 = .ok (.iconst 3, 1) := by decide +kernel
theorem dX4_act_10 : decode cX4_act 10 = .ok (.invokestatic 107, 3) := by decide +kernel
theorem dX4_act_13 : decode cX4_act 13 = .ok (.ifCond .eq 24, 3) := by decide +kernel
theorem dX4_act_16 : decode cX4_act 16 = .ok (.iload_n 3, 1) := by decide +kernel
theorem dX4_act_17 : decode cX4_act 17 = .ok (.iconst 0, 1) := by decide +kernel
theorem dX4_act_18 : decode cX4_act 18 = .ok (.bipush 9, 2) := by decide +kernel
theorem dX4_act_20 : decode cX4_act 20 = .ok (.invokestatic 107, 3) := by decide +kernel
theorem dX4_act_23 : decode cX4_act 23 = .ok (.ifCond .eq 14, 3) := by decide +kernel
theorem dX4_act_26 : decode cX4_act 26 = .ok (.aload_n 0, 1) := by decide +kernel
theorem dX4_act_27 : decode cX4_act 27 = .ok (.iload_n 1, 1) := by decide +kernel
theorem dX4_act_28 : decode cX4_act 28 = .ok (.iload_n 2, 1) := by decide +kernel
theorem dX4_act_29 : decode cX4_act 29 = .ok (.iload_n 3, 1) := by decide +kernel
theorem dX4_act_30 : decode cX4_act 30 = .ok (.iconst (-1), 1) := by decide +kernel
theorem dX4_act_31 : decode cX4_act 31 = .ok (.invokevirtual 119, 3) := by decide +kernel
theorem dX4_act_34 : decode cX4_act 34 = .ok (.goto 4, 3) := by decide +kernel
theorem dX4_act_37 : decode cX4_act 37 = .ok (.iconst (-1), 1) := by decide +kernel
theorem dX4_act_38 : decode cX4_act 38 = .ok (.ireturn, 1) := by decide +kernel
set_option maxRecDepth 20000 in
theorem ggX4_limit_X4_in : GoodIn wsX4_limit wsX4_in := goodIn_r _ [5] (by decide +kernel) (by decide +kernel)
set_option maxRecDepth 20000 in
theorem gX4_limit_X4_in : GoodIn wsX4_limit (va_wsS RX4 107 yX4_in wsX4_in) := goodIn_app (goodIn_of _ (by decide +kernel)) ggX4_limit_X4_in
theorem dX4_limit_0 : decode cX4_limit 0 = .ok (.iload_n 1, 1) := by decide +kernel
theorem dX4_limit_1 : decode cX4_limit 1 = .ok (.iconst 0, 1) := by decide +kernel
theorem dX4_limit_2 : decode cX4_limit 2 = .ok (.iconst 3, 1) := by decide +kernel
theorem dX4_limit_3 : decode cX4_limit 3 = .ok (.invokestatic 107, 3) := by decide +kernel
theorem dX4_limit_6 : decode cX4_limit 6 = .ok (.ifCond .eq 13, 3) := by decide +kernel
theorem dX4_limit_9 : decode cX4_limit 9 = .ok (.iload_n 2, 1) := by decide +kernel
theorem dX4_limit_10 : decode cX4_limit 10 = .ok (.iconst 0, 1) := by decide +kernel
theorem dX4_limit_11 : decode cX4_limit 11 = .ok (.bipush 9, 2) := by decide +kernel
theorem dX4_limit_13 : decode cX4_limit 13 = .ok (.invokestatic 107, 3) := by decide +kernel
theorem dX4_limit_16 : decode cX4_limit 16 = .ok (.ifCond .ne 5, 3) := by decide +kernel
theorem dX4_limit_19 : decode cX4_limit 19 = .ok (.iconst 0, 1) := by decide +kernel
theorem dX4_limit_20 : decode cX4_limit 20 = .ok (.ireturn, 1) := by decide +kernel
theorem dX4_limit_21 : decode cX4_limit 21 = .ok (.aload_n 0, 1) := by decide +kernel
theorem dX4_limit_22 : decode cX4_limit 22 = .ok (.getfield 19, 3) := by decide +kernel
theorem dX4_limit_25 : decode cX4_limit 25 = .ok (.iload_n 1, 1) := by decide +kernel
theorem dX4_limit_26 : decode cX4_limit 26 = .ok (.iload_n 2, 1) := by decide +kernel
theorem dX4_limit_27 : decode cX4_limit 27 = .ok (.iastore, 1) := by decide +kernel
theorem dX4_limit_28 : decode cX4_limit 28 = .ok (.iconst 1, 1) := by decide +kernel
theorem dX4_limit_29 : decode cX4_limit 29 = .ok (.ireturn, 1) := by decide +kernel
theorem dX4_least_0 : decode cX4_least 0 = .ok (.aload_n 0, 1) := by decide +kernel
theorem dX4_least_1 : decode cX4_least 1 = .ok (.getfield 13, 3) := by decide +kernel
theorem dX4_least_4 : decode cX4_least 4 = .ok (.iload_n 1, 1) := by decide +kernel
theorem dX4_least_5 : decode cX4_least 5 = .ok (.iaload, 1) := by decide +kernel
theorem dX4_least_6 : decode cX4_least 6 = .ok (.istore_n 2, 1) := by decide +kernel
theorem dX4_least_7 : decode cX4_least 7 = .ok (.iconst 0, 1) := by decide +kernel
theorem dX4_least_8 : decode cX4_least 8 = .ok (.istore_n 3, 1) := by decide +kernel
theorem dX4_least_9 : decode cX4_least 9 = .ok (.iload_n 3, 1) := by decide +kernel
theorem dX4_least_10 : decode cX4_least 10 = .ok (.aload_n 0, 1) := by decide +kernel
theorem dX4_least_11 : decode cX4_least 11 = .ok (.getfield 111, 3) := by decide +kernel
theorem dX4_least_14 : decode cX4_least 14 = .ok (.if_icmp .ge 37, 3) := by decide +kernel
theorem dX4_least_17 : decode cX4_least 17 = .ok (.iload_n 2, 1) := by decide +kernel
theorem dX4_least_18 : decode cX4_least 18 = .ok (.aload_n 0, 1) := by decide +kernel
theorem dX4_least_19 : decode cX4_least 19 = .ok (.getfield 37, 3) := by decide +kernel
theorem dX4_least_22 : decode cX4_least 22 = .ok (.iload_n 3, 1) := by decide +kernel
theorem dX4_least_23 : decode cX4_least 23 = .ok (.iaload, 1) := by decide +kernel
theorem dX4_least_24 : decode cX4_least 24 = .ok (.iconst 1, 1) := by decide +kernel
theorem dX4_least_25 : decode cX4_least 25 = .ok (.if_icmp .ne 17, 3) := by decide +kernel
theorem dX4_least_28 : decode cX4_least 28 = .ok (.aload_n 0, 1) := by decide +kernel
theorem dX4_least_29 : decode cX4_least 29 = .ok (.getfield 83, 3) := by decide +kernel
theorem dX4_least_32 : decode cX4_least 32 = .ok (.bipush 8, 2) := by decide +kernel
theorem dX4_least_34 : decode cX4_least 34 = .ok (.iload_n 3, 1) := by decide +kernel
theorem dX4_least_35 : decode cX4_least 35 = .ok (.imul, 1) := by decide +kernel
theorem dX4_least_36 : decode cX4_least 36 = .ok (.iload_n 1, 1) := by decide +kernel
theorem dX4_least_37 : decode cX4_least 37 = .ok (.iadd, 1) := by decide +kernel
theorem dX4_least_38 : decode cX4_least 38 = .ok (.iaload, 1) := by decide +kernel
theorem dX4_least_39 : decode cX4_least 39 = .ok (.goto 4, 3) := by decide +kernel
theorem dX4_least_42 : decode cX4_least 42 = .ok (.iconst 0, 1) := by decide +kernel
theorem dX4_least_43 : decode cX4_least 43 = .ok (.iadd, 1) := by decide +kernel
theorem dX4_least_44 : decode cX4_least 44 = .ok (.istore_n 2, 1) := by decide +kernel
theorem dX4_least_45 : decode cX4_least 45 = .ok (.iinc 3 1, 3) := by decide +kernel
theorem dX4_least_48 : decode cX4_least 48 = .ok (.goto (-39), 3) := by decide +kernel
theorem dX4_least_51 : decode cX4_least 51 = .ok (.iload_n 2, 1) := by decide +kernel
theorem dX4_least_52 : decode cX4_least 52 = .ok (.ireturn, 1) := by decide +kernel
set_option maxRecDepth 20000 in
theorem ggX4_floor_X4_in : GoodIn wsX4_floor wsX4_in := goodIn_r _ [5] (by decide +kernel) (by decide +kernel)
set_option maxRecDepth 20000 in
theorem gX4_floor_X4_in : GoodIn wsX4_floor (va_wsS RX4 107 yX4_in wsX4_in) := goodIn_app (goodIn_of _ (by decide +kernel)) ggX4_floor_X4_in
set_option maxRecDepth 20000 in
theorem ggX4_floor_X4_least : GoodIn wsX4_floor wsX4_least := goodIn_r _ [9, 10, 11, 12, 13, 14, 15, 16, 17, 18, 19, 20, 21, 22, 23, 24, 25, 26, 27, 28, 29, 30, 31, 32, 33, 34, 35, 36, 37, 38, 39, 40, 41, 42, 43, 44, 45, 46, 47, 48, 49, 50, 51, 52] (by decide +kernel) (by decide +kernel)
set_option maxRecDepth 20000 in
theorem gX4_floor_X4_least : GoodIn wsX4_floor (wsV RX4 123 RX4 yX4_least wsX4_least) := goodIn_app (goodIn_of _ (by decide +kernel)) ggX4_floor_X4_least
theorem dX4_floor_0 : decode cX4_floor 0 = .ok (.iload_n 1, 1) := by decide +kernel
theorem dX4_floor_1 : decode cX4_floor 1 = .ok (.iconst 0, 1) := by decide +kernel
theorem dX4_floor_2 : decode cX4_floor 2 = .ok (.bipush 7, 2) := by decide +kernel
theorem dX4_floor_4 : decode cX4_floor 4 = .ok (.invokestatic 107, 3) := by decide +kernel
theorem dX4_floor_7 : decode cX4_floor 7 = .ok (.ifCond .eq 23, 3) := by decide +kernel
theorem dX4_floor_10 : decode cX4_floor 10 = .ok (.iload_n 2, 1) := by decide +kernel
theorem dX4_floor_11 : decode cX4_floor 11 = .ok (.sipush (-1000), 3) := by decide +kernel
theorem dX4_floor_14 : decode cX4_floor 14 = .ok (.iconst 0, 1) := by decide +kernel
theorem dX4_floor_15 : decode cX4_floor 15 = .ok (.invokestatic 107, 3) := by decide +kernel
theorem dX4_floor_18 : decode cX4_floor 18 = .ok (.ifCond .eq 12, 3) := by decide +kernel
theorem dX4_floor_21 : decode cX4_floor 21 = .ok (.aload_n 0, 1) := by decide +kernel
theorem dX4_floor_22 : decode cX4_floor 22 = .ok (.iload_n 1, 1) := by decide +kernel
theorem dX4_floor_23 : decode cX4_floor 23 = .ok (.invokevirtual 123, 3) := by decide +kernel
theorem dX4_floor_26 : decode cX4_floor 26 = .ok (.iload_n 2, 1) := by decide +kernel
theorem dX4_floor_27 : decode cX4_floor 27 = .ok (.if_icmp .ge 5, 3) := by decide +kernel
theorem dX4_floor_30 : decode cX4_floor 30 = .ok (.iconst 0, 1) := by decide +kernel
theorem dX4_floor_31 : decode cX4_floor 31 = .ok (.ireturn, 1) := by decide +kernel
theorem dX4_floor_32 : decode cX4_floor 32 = .ok (.aload_n 0, 1) := by decide +kernel
theorem dX4_floor_33 : decode cX4_floor 33 = .ok (.getfield 16, 3) := by decide +kernel
theorem dX4_floor_36 : decode cX4_floor 36 = .ok (.iload_n 1, 1) := by decide +kernel
theorem dX4_floor_37 : decode cX4_floor 37 = .ok (.iload_n 2, 1) := by decide +kernel
theorem dX4_floor_38 : decode cX4_floor 38 = .ok (.iastore, 1) := by decide +kernel
theorem dX4_floor_39 : decode cX4_floor 39 = .ok (.iconst 1, 1) := by decide +kernel
theorem dX4_floor_40 : decode cX4_floor 40 = .ok (.ireturn, 1) := by decide +kernel
theorem dX4_logs_0 : decode cX4_logs 0 = .ok (.iconst 4, 1) := by decide +kernel
theorem dX4_logs_1 : decode cX4_logs 1 = .ok (.aload_n 0, 1) := by decide +kernel
theorem dX4_logs_2 : decode cX4_logs 2 = .ok (.getfield 127, 3) := by decide +kernel
theorem dX4_logs_5 : decode cX4_logs 5 = .ok (.iconst 1, 1) := by decide +kernel
theorem dX4_logs_6 : decode cX4_logs 6 = .ok (.iadd, 1) := by decide +kernel
theorem dX4_logs_7 : decode cX4_logs 7 = .ok (.imul, 1) := by decide +kernel
theorem dX4_logs_8 : decode cX4_logs 8 = .ok (.aload_n 0, 1) := by decide +kernel
theorem dX4_logs_9 : decode cX4_logs 9 = .ok (.getfield 95, 3) := by decide +kernel
theorem dX4_logs_12 : decode cX4_logs 12 = .ok (.arraylength, 1) := by decide +kernel
theorem dX4_logs_13 : decode cX4_logs 13 = .ok (.if_icmp .le 51, 3) := by decide +kernel
theorem dX4_logs_16 : decode cX4_logs 16 = .ok (.iconst 2, 1) := by decide +kernel
theorem dX4_logs_17 : decode cX4_logs 17 = .ok (.aload_n 0, 1) := by decide +kernel
theorem dX4_logs_18 : decode cX4_logs 18 = .ok (.getfield 95, 3) := by decide +kernel
theorem dX4_logs_21 : decode cX4_logs 21 = .ok (.arraylength, 1) := by decide +kernel
theorem dX4_logs_22 : decode cX4_logs 22 = .ok (.imul, 1) := by decide +kernel
theorem dX4_logs_23 : decode cX4_logs 23 = .ok (.newarray .int, 2) := by decide +kernel
theorem dX4_logs_25 : decode cX4_logs 25 = .ok (.astore 4, 2) := by decide +kernel
theorem dX4_logs_27 : decode cX4_logs 27 = .ok (.iconst 0, 1) := by decide +kernel
theorem dX4_logs_28 : decode cX4_logs 28 = .ok (.istore 5, 2) := by decide +kernel
theorem dX4_logs_30 : decode cX4_logs 30 = .ok (.iload 5, 2) := by decide +kernel
theorem dX4_logs_32 : decode cX4_logs 32 = .ok (.aload_n 0, 1) := by decide +kernel
theorem dX4_logs_33 : decode cX4_logs 33 = .ok (.getfield 95, 3) := by decide +kernel
theorem dX4_logs_36 : decode cX4_logs 36 = .ok (.arraylength, 1) := by decide +kernel
theorem dX4_logs_37 : decode cX4_logs 37 = .ok (.if_icmp .ge 21, 3) := by decide +kernel
theorem dX4_logs_40 : decode cX4_logs 40 = .ok (.aload 4, 2) := by decide +kernel
theorem dX4_logs_42 : decode cX4_logs 42 = .ok (.iload 5, 2) := by decide +kernel
theorem dX4_logs_44 : decode cX4_logs 44 = .ok (.aload_n 0, 1) := by decide +kernel
theorem dX4_logs_45 : decode cX4_logs 45 = .ok (.getfield 95, 3) := by decide +kernel
theorem dX4_logs_48 : decode cX4_logs 48 = .ok (.iload 5, 2) := by decide +kernel
theorem dX4_logs_50 : decode cX4_logs 50 = .ok (.iaload, 1) := by decide +kernel
theorem dX4_logs_51 : decode cX4_logs 51 = .ok (.iastore, 1) := by decide +kernel
theorem dX4_logs_52 : decode cX4_logs 52 = .ok (.iinc 5 1, 3) := by decide +kernel
theorem dX4_logs_55 : decode cX4_logs 55 = .ok (.goto (-25), 3) := by decide +kernel
theorem dX4_logs_58 : decode cX4_logs 58 = .ok (.aload_n 0, 1) := by decide +kernel
theorem dX4_logs_59 : decode cX4_logs 59 = .ok (.aload 4, 2) := by decide +kernel
theorem dX4_logs_61 : decode cX4_logs 61 = .ok (.putfield 95, 3) := by decide +kernel
theorem dX4_logs_64 : decode cX4_logs 64 = .ok (.aload_n 0, 1) := by decide +kernel
theorem dX4_logs_65 : decode cX4_logs 65 = .ok (.getfield 95, 3) := by decide +kernel
theorem dX4_logs_68 : decode cX4_logs 68 = .ok (.iconst 4, 1) := by decide +kernel
theorem dX4_logs_69 : decode cX4_logs 69 = .ok (.aload_n 0, 1) := by decide +kernel
theorem dX4_logs_70 : decode cX4_logs 70 = .ok (.getfield 127, 3) := by decide +kernel
theorem dX4_logs_73 : decode cX4_logs 73 = .ok (.imul, 1) := by decide +kernel
theorem dX4_logs_74 : decode cX4_logs 74 = .ok (.iload_n 1, 1) := by decide +kernel
theorem dX4_logs_75 : decode cX4_logs 75 = .ok (.iastore, 1) := by decide +kernel
theorem dX4_logs_76 : decode cX4_logs 76 = .ok (.aload_n 0, 1) := by decide +kernel
theorem dX4_logs_77 : decode cX4_logs 77 = .ok (.getfield 95, 3) := by decide +kernel
theorem dX4_logs_80 : decode cX4_logs 80 = .ok (.iconst 4, 1) := by decide +kernel
theorem dX4_logs_81 : decode cX4_logs 81 = .ok (.aload_n 0, 1) := by decide +kernel
theorem dX4_logs_82 : decode cX4_logs 82 = .ok (.getfield 127, 3) := by decide +kernel
theorem dX4_logs_85 : decode cX4_logs 85 = .ok (.imul, 1) := by decide +kernel
theorem dX4_logs_86 : decode cX4_logs 86 = .ok (.iconst 1, 1) := by decide +kernel
theorem dX4_logs_87 : decode cX4_logs 87 = .ok (.iadd, 1) := by decide +kernel
theorem dX4_logs_88 : decode cX4_logs 88 = .ok (.iload_n 2, 1) := by decide +kernel
theorem dX4_logs_89 : decode cX4_logs 89 = .ok (.iastore, 1) := by decide +kernel
theorem dX4_logs_90 : decode cX4_logs 90 = .ok (.aload_n 0, 1) := by decide +kernel
theorem dX4_logs_91 : decode cX4_logs 91 = .ok (.getfield 95, 3) := by decide +kernel
theorem dX4_logs_94 : decode cX4_logs 94 = .ok (.iconst 4, 1) := by decide +kernel
theorem dX4_logs_95 : decode cX4_logs 95 = .ok (.aload_n 0, 1) := by decide +kernel
theorem dX4_logs_96 : decode cX4_logs 96 = .ok (.getfield 127, 3) := by decide +kernel
theorem dX4_logs_99 : decode cX4_logs 99 = .ok (.imul, 1) := by decide +kernel
theorem dX4_logs_100 : decode cX4_logs 100 = .ok (.iconst 2, 1) := by decide +kernel
theorem dX4_logs_101 : decode cX4_logs 101 = .ok (.iadd, 1) := by decide +kernel
theorem dX4_logs_102 : decode cX4_logs 102 = .ok (.iload_n 3, 1) := by decide +kernel
theorem dX4_logs_103 : decode cX4_logs 103 = .ok (.iastore, 1) := by decide +kernel
theorem dX4_logs_104 : decode cX4_logs 104 = .ok (.aload_n 0, 1) := by decide +kernel
theorem dX4_logs_105 : decode cX4_logs 105 = .ok (.getfield 95, 3) := by decide +kernel
theorem dX4_logs_108 : decode cX4_logs 108 = .ok (.iconst 4, 1) := by decide +kernel
theorem dX4_logs_109 : decode cX4_logs 109 = .ok (.aload_n 0, 1) := by decide +kernel
theorem dX4_logs_110 : decode cX4_logs 110 = .ok (.getfield 127, 3) := by decide +kernel
theorem dX4_logs_113 : decode cX4_logs 113 = .ok (.imul, 1) := by decide +kernel
theorem dX4_logs_114 : decode cX4_logs 114 = .ok (.iconst 3, 1) := by decide +kernel
theorem dX4_logs_115 : decode cX4_logs 115 = .ok (.iadd, 1) := by decide +kernel
theorem dX4_logs_116 : decode cX4_logs 116 = .ok (.aload_n 0, 1) := by decide +kernel
theorem dX4_logs_117 : decode cX4_logs 117 = .ok (.getfield 130, 3) := by decide +kernel
theorem dX4_logs_120 : decode cX4_logs 120 = .ok (.iastore, 1) := by decide +kernel
theorem dX4_logs_121 : decode cX4_logs 121 = .ok (.aload_n 0, 1) := by decide +kernel
theorem dX4_logs_122 : decode cX4_logs 122 = .ok (.dup, 1) := by decide +kernel
theorem dX4_logs_123 : decode cX4_logs 123 = .ok (.getfield 127, 3) := by decide +kernel
theorem dX4_logs_126 : decode cX4_logs 126 = .ok (.iconst 1, 1) := by decide +kernel
theorem dX4_logs_127 : decode cX4_logs 127 = .ok (.iadd, 1) := by decide +kernel
theorem dX4_logs_128 : decode cX4_logs 128 = .ok (.putfield 127, 3) := by decide +kernel
theorem dX4_logs_131 : decode cX4_logs 131 = .ok (.return_, 1) := by decide +kernel
theorem dX4_clears_0 : decode cX4_clears 0 = .ok (.iconst 0, 1) := by decide +kernel
theorem dX4_clears_1 : decode cX4_clears 1 = .ok (.istore_n 2, 1) := by decide +kernel
theorem dX4_clears_2 : decode cX4_clears 2 = .ok (.iload_n 2, 1) := by decide +kernel
theorem dX4_clears_3 : decode cX4_clears 3 = .ok (.bipush 24, 2) := by decide +kernel
theorem dX4_clears_5 : decode cX4_clears 5 = .ok (.if_icmp .ge 21, 3) := by decide +kernel
theorem dX4_clears_8 : decode cX4_clears 8 = .ok (.aload_n 0, 1) := by decide +kernel
theorem dX4_clears_9 : decode cX4_clears 9 = .ok (.getfield 74, 3) := by decide +kernel
theorem dX4_clears_12 : decode cX4_clears 12 = .ok (.bipush 24, 2) := by decide +kernel
theorem dX4_clears_14 : decode cX4_clears 14 = .ok (.iload_n 1, 1) := by decide +kernel
theorem dX4_clears_15 : decode cX4_clears 15 = .ok (.imul, 1) := by decide +kernel
theorem dX4_clears_16 : decode cX4_clears 16 = .ok (.iload_n 2, 1) := by decide +kernel
theorem dX4_clears_17 : decode cX4_clears 17 = .ok (.iadd, 1) := by decide +kernel
theorem dX4_clears_18 : decode cX4_clears 18 = .ok (.iconst 0, 1) := by decide +kernel
theorem dX4_clears_19 : decode cX4_clears 19 = .ok (.iastore, 1) := by decide +kernel
theorem dX4_clears_20 : decode cX4_clears 20 = .ok (.iinc 2 1, 3) := by decide +kernel
theorem dX4_clears_23 : decode cX4_clears 23 = .ok (.goto (-21), 3) := by decide +kernel
theorem dX4_clears_26 : decode cX4_clears 26 = .ok (.iconst 0, 1) := by decide +kernel
theorem dX4_clears_27 : decode cX4_clears 27 = .ok (.istore_n 2, 1) := by decide +kernel
theorem dX4_clears_28 : decode cX4_clears 28 = .ok (.iload_n 2, 1) := by decide +kernel
theorem dX4_clears_29 : decode cX4_clears 29 = .ok (.bipush 8, 2) := by decide +kernel
end
section
theorem dX4_clears_31 : decode cX4_clears 31 = .ok (.if_icmp .ge 33, 3) := by decide +kernel
theorem dX4_clears_34 : decode cX4_clears 34 = .ok (.aload_n 0, 1) := by decide +kernel
theorem dX4_clears_35 : decode cX4_clears 35 = .ok (.getfield 80, 3) := by decide +kernel
theorem dX4_clears_38 : decode cX4_clears 38 = .ok (.bipush 8, 2) := by decide +kernel
theorem dX4_clears_40 : decode cX4_clears 40 = .ok (.iload_n 1, 1) := by decide +kernel
theorem dX4_clears_41 : decode cX4_clears 41 = .ok (.imul, 1) := by decide +kernel
theorem dX4_clears_42 : decode cX4_clears 42 = .ok (.iload_n 2, 1) := by decide +kernel
theorem dX4_clears_43 : decode cX4_clears 43 = .ok (.iadd, 1) := by decide +kernel
theorem dX4_clears_44 : decode cX4_clears 44 = .ok (.iconst 0, 1) := by decide +kernel
theorem dX4_clears_45 : decode cX4_clears 45 = .ok (.iastore, 1) := by decide +kernel
theorem dX4_clears_46 : decode cX4_clears 46 = .ok (.aload_n 0, 1) := by decide +kernel
theorem dX4_clears_47 : decode cX4_clears 47 = .ok (.getfield 83, 3) := by decide +kernel
theorem dX4_clears_50 : decode cX4_clears 50 = .ok (.bipush 8, 2) := by decide +kernel
theorem dX4_clears_52 : decode cX4_clears 52 = .ok (.iload_n 1, 1) := by decide +kernel
theorem dX4_clears_53 : decode cX4_clears 53 = .ok (.imul, 1) := by decide +kernel
theorem dX4_clears_54 : decode cX4_clears 54 = .ok (.iload_n 2, 1) := by decide +kernel
theorem dX4_clears_55 : decode cX4_clears 55 = .ok (.iadd, 1) := by decide +kernel
theorem dX4_clears_56 : decode cX4_clears 56 = .ok (.iconst 0, 1) := by decide +kernel
theorem dX4_clears_57 : decode cX4_clears 57 = .ok (.iastore, 1) := by decide +kernel
theorem dX4_clears_58 : decode cX4_clears 58 = .ok (.iinc 2 1, 3) := by decide +kernel
theorem dX4_clears_61 : decode cX4_clears 61 = .ok (.goto (-33), 3) := by decide +kernel
theorem dX4_clears_64 : decode cX4_clears 64 = .ok (.aload_n 0, 1) := by decide +kernel
theorem dX4_clears_65 : decode cX4_clears 65 = .ok (.getfield 89, 3) := by decide +kernel
theorem dX4_clears_68 : decode cX4_clears 68 = .ok (.iload_n 1, 1) := by decide +kernel
theorem dX4_clears_69 : decode cX4_clears 69 = .ok (.iconst 0, 1) := by decide +kernel
theorem dX4_clears_70 : decode cX4_clears 70 = .ok (.iastore, 1) := by decide +kernel
theorem dX4_clears_71 : decode cX4_clears 71 = .ok (.aload_n 0, 1) := by decide +kernel
theorem dX4_clears_72 : decode cX4_clears 72 = .ok (.getfield 49, 3) := by decide +kernel
theorem dX4_clears_75 : decode cX4_clears 75 = .ok (.iload_n 1, 1) := by decide +kernel
theorem dX4_clears_76 : decode cX4_clears 76 = .ok (.iconst 0, 1) := by decide +kernel
theorem dX4_clears_77 : decode cX4_clears 77 = .ok (.iastore, 1) := by decide +kernel
theorem dX4_clears_78 : decode cX4_clears 78 = .ok (.aload_n 0, 1) := by decide +kernel
theorem dX4_clears_79 : decode cX4_clears 79 = .ok (.getfield 46, 3) := by decide +kernel
theorem dX4_clears_82 : decode cX4_clears 82 = .ok (.iload_n 1, 1) := by decide +kernel
theorem dX4_clears_83 : decode cX4_clears 83 = .ok (.iconst 0, 1) := by decide +kernel
theorem dX4_clears_84 : decode cX4_clears 84 = .ok (.iastore, 1) := by decide +kernel
theorem dX4_clears_85 : decode cX4_clears 85 = .ok (.aload_n 0, 1) := by decide +kernel
theorem dX4_clears_86 : decode cX4_clears 86 = .ok (.getfield 52, 3) := by decide +kernel
theorem dX4_clears_89 : decode cX4_clears 89 = .ok (.iload_n 1, 1) := by decide +kernel
theorem dX4_clears_90 : decode cX4_clears 90 = .ok (.iconst 0, 1) := by decide +kernel
theorem dX4_clears_91 : decode cX4_clears 91 = .ok (.bastore, 1) := by decide +kernel
theorem dX4_clears_92 : decode cX4_clears 92 = .ok (.return_, 1) := by decide +kernel
theorem dX4_lets_0 : decode cX4_lets 0 = .ok (.iconst 0, 1) := by decide +kernel
theorem dX4_lets_1 : decode cX4_lets 1 = .ok (.istore_n 2, 1) := by decide +kernel
theorem dX4_lets_2 : decode cX4_lets 2 = .ok (.iload_n 2, 1) := by decide +kernel
theorem dX4_lets_3 : decode cX4_lets 3 = .ok (.bipush 24, 2) := by decide +kernel
theorem dX4_lets_5 : decode cX4_lets 5 = .ok (.if_icmp .ge 40, 3) := by decide +kernel
theorem dX4_lets_8 : decode cX4_lets 8 = .ok (.aload_n 0, 1) := by decide +kernel
theorem dX4_lets_9 : decode cX4_lets 9 = .ok (.getfield 74, 3) := by decide +kernel
theorem dX4_lets_12 : decode cX4_lets 12 = .ok (.bipush 24, 2) := by decide +kernel
theorem dX4_lets_14 : decode cX4_lets 14 = .ok (.iload_n 1, 1) := by decide +kernel
theorem dX4_lets_15 : decode cX4_lets 15 = .ok (.imul, 1) := by decide +kernel
theorem dX4_lets_16 : decode cX4_lets 16 = .ok (.iload_n 2, 1) := by decide +kernel
theorem dX4_lets_17 : decode cX4_lets 17 = .ok (.iadd, 1) := by decide +kernel
theorem dX4_lets_18 : decode cX4_lets 18 = .ok (.aload_n 0, 1) := by decide +kernel
theorem dX4_lets_19 : decode cX4_lets 19 = .ok (.getfield 74, 3) := by decide +kernel
theorem dX4_lets_22 : decode cX4_lets 22 = .ok (.bipush 24, 2) := by decide +kernel
theorem dX4_lets_24 : decode cX4_lets 24 = .ok (.iload_n 1, 1) := by decide +kernel
theorem dX4_lets_25 : decode cX4_lets 25 = .ok (.imul, 1) := by decide +kernel
theorem dX4_lets_26 : decode cX4_lets 26 = .ok (.iload_n 2, 1) := by decide +kernel
theorem dX4_lets_27 : decode cX4_lets 27 = .ok (.iadd, 1) := by decide +kernel
theorem dX4_lets_28 : decode cX4_lets 28 = .ok (.iaload, 1) := by decide +kernel
theorem dX4_lets_29 : decode cX4_lets 29 = .ok (.iconst 2, 1) := by decide +kernel
theorem dX4_lets_30 : decode cX4_lets 30 = .ok (.if_icmp .ne 7, 3) := by decide +kernel
theorem dX4_lets_33 : decode cX4_lets 33 = .ok (.iconst 3, 1) := by decide +kernel
theorem dX4_lets_34 : decode cX4_lets 34 = .ok (.goto 4, 3) := by decide +kernel
theorem dX4_lets_37 : decode cX4_lets 37 = .ok (.iconst 0, 1) := by decide +kernel
theorem dX4_lets_38 : decode cX4_lets 38 = .ok (.iastore, 1) := by decide +kernel
theorem dX4_lets_39 : decode cX4_lets 39 = .ok (.iinc 2 1, 3) := by decide +kernel
theorem dX4_lets_42 : decode cX4_lets 42 = .ok (.goto (-40), 3) := by decide +kernel
theorem dX4_lets_45 : decode cX4_lets 45 = .ok (.aload_n 0, 1) := by decide +kernel
theorem dX4_lets_46 : decode cX4_lets 46 = .ok (.getfield 52, 3) := by decide +kernel
theorem dX4_lets_49 : decode cX4_lets 49 = .ok (.iload_n 1, 1) := by decide +kernel
theorem dX4_lets_50 : decode cX4_lets 50 = .ok (.iconst 0, 1) := by decide +kernel
theorem dX4_lets_51 : decode cX4_lets 51 = .ok (.bastore, 1) := by decide +kernel
theorem dX4_lets_52 : decode cX4_lets 52 = .ok (.return_, 1) := by decide +kernel
theorem dX4_bars_0 : decode cX4_bars 0 = .ok (.iload_n 1, 1) := by decide +kernel
theorem dX4_bars_1 : decode cX4_bars 1 = .ok (.iload_n 2, 1) := by decide +kernel
theorem dX4_bars_2 : decode cX4_bars 2 = .ok (.if_icmp .eq 13, 3) := by decide +kernel
theorem dX4_bars_5 : decode cX4_bars 5 = .ok (.aload_n 0, 1) := by decide +kernel
theorem dX4_bars_6 : decode cX4_bars 6 = .ok (.getfield 37, 3) := by decide +kernel
theorem dX4_bars_9 : decode cX4_bars 9 = .ok (.iload_n 1, 1) := by decide +kernel
theorem dX4_bars_10 : decode cX4_bars 10 = .ok (.iaload, 1) := by decide +kernel
theorem dX4_bars_11 : decode cX4_bars 11 = .ok (.iconst 1, 1) := by decide +kernel
theorem dX4_bars_12 : decode cX4_bars 12 = .ok (.if_icmp .eq 5, 3) := by decide +kernel
theorem dX4_bars_15 : decode cX4_bars 15 = .ok (.iconst 0, 1) := by decide +kernel
theorem dX4_bars_16 : decode cX4_bars 16 = .ok (.ireturn, 1) := by decide +kernel
theorem dX4_bars_17 : decode cX4_bars 17 = .ok (.aload_n 0, 1) := by decide +kernel
theorem dX4_bars_18 : decode cX4_bars 18 = .ok (.getfield 74, 3) := by decide +kernel
theorem dX4_bars_21 : decode cX4_bars 21 = .ok (.bipush 24, 2) := by decide +kernel
theorem dX4_bars_23 : decode cX4_bars 23 = .ok (.iload_n 1, 1) := by decide +kernel
theorem dX4_bars_24 : decode cX4_bars 24 = .ok (.imul, 1) := by decide +kernel
theorem dX4_bars_25 : decode cX4_bars 25 = .ok (.iload_n 3, 1) := by decide +kernel
theorem dX4_bars_26 : decode cX4_bars 26 = .ok (.iadd, 1) := by decide +kernel
theorem dX4_bars_27 : decode cX4_bars 27 = .ok (.iaload, 1) := by decide +kernel
theorem dX4_bars_28 : decode cX4_bars 28 = .ok (.istore 5, 2) := by decide +kernel
theorem dX4_bars_30 : decode cX4_bars 30 = .ok (.iload 4, 2) := by decide +kernel
theorem dX4_bars_32 : decode cX4_bars 32 = .ok (.ifCond .eq 16, 3) := by decide +kernel
theorem dX4_bars_35 : decode cX4_bars 35 = .ok (.iload 5, 2) := by decide +kernel
theorem dX4_bars_37 : decode cX4_bars 37 = .ok (.ifCond .le 7, 3) := by decide +kernel
theorem dX4_bars_40 : decode cX4_bars 40 = .ok (.iconst 1, 1) := by decide +kernel
theorem dX4_bars_41 : decode cX4_bars 41 = .ok (.goto 18, 3) := by decide +kernel
theorem dX4_bars_44 : decode cX4_bars 44 = .ok (.iconst 0, 1) := by decide +kernel
theorem dX4_bars_45 : decode cX4_bars 45 = .ok (.goto 14, 3) := by decide +kernel
theorem dX4_bars_48 : decode cX4_bars 48 = .ok (.iload 5, 2) := by decide +kernel
theorem dX4_bars_50 : decode cX4_bars 50 = .ok (.iconst 2, 1) := by decide +kernel
theorem dX4_bars_51 : decode cX4_bars 51 = .ok (.if_icmp .ne 7, 3) := by decide +kernel
theorem dX4_bars_54 : decode cX4_bars 54 = .ok (.iconst 1, 1) := by decide +kernel
theorem dX4_bars_55 : decode cX4_bars 55 = .ok (.goto 4, 3) := by decide +kernel
theorem dX4_bars_58 : decode cX4_bars 58 = .ok (.iconst 0, 1) := by decide +kernel
theorem dX4_bars_59 : decode cX4_bars 59 = .ok (.ireturn, 1) := by decide +kernel
set_option maxRecDepth 20000 in
theorem ggX4_isFree_X4_bars : GoodIn wsX4_isFree wsX4_bars := goodIn_r _ [6, 7, 8, 9, 10, 11, 12, 13, 14, 15, 16, 17, 18, 19, 20, 21, 22, 23, 24, 25, 26, 27, 28, 29, 30, 31, 32, 33, 34, 35, 36, 37, 38, 39, 40, 41, 42, 43, 44, 45, 46, 47] (by decide +kernel) (by decide +kernel)
set_option maxRecDepth 20000 in
theorem gX4_isFree_X4_bars : GoodIn wsX4_isFree (wsV RX4 133 RX4 yX4_bars wsX4_bars) := goodIn_app (goodIn_of _ (by decide +kernel)) ggX4_isFree_X4_bars
theorem dX4_isFree_0 : decode cX4_isFree 0 = .ok (.iconst 0, 1) := by decide +kernel
theorem dX4_isFree_1 : decode cX4_isFree 1 = .ok (.istore 4, 2) := by decide +kernel
theorem dX4_isFree_3 : decode cX4_isFree 3 = .ok (.iload 4, 2) := by decide +kernel
theorem dX4_isFree_5 : decode cX4_isFree 5 = .ok (.aload_n 0, 1) := by decide +kernel
theorem dX4_isFree_6 : decode cX4_isFree 6 = .ok (.getfield 111, 3) := by decide +kernel
theorem dX4_isFree_9 : decode cX4_isFree 9 = .ok (.if_icmp .ge 23, 3) := by decide +kernel
theorem dX4_isFree_12 : decode cX4_isFree 12 = .ok (.aload_n 0, 1) := by decide +kernel
theorem dX4_isFree_13 : decode cX4_isFree 13 = .ok (.iload 4, 2) := by decide +kernel
theorem dX4_isFree_15 : decode cX4_isFree 15 = .ok (.iload_n 1, 1) := by decide +kernel
theorem dX4_isFree_16 : decode cX4_isFree 16 = .ok (.iload_n 2, 1) := by decide +kernel
theorem dX4_isFree_17 : decode cX4_isFree 17 = .ok (.iload_n 3, 1) := by decide +kernel
theorem dX4_isFree_18 : decode cX4_isFree 18 = .ok (.invokevirtual 133, 3) := by decide +kernel
theorem dX4_isFree_21 : decode cX4_isFree 21 = .ok (.ifCond .eq 5, 3) := by decide +kernel
theorem dX4_isFree_24 : decode cX4_isFree 24 = .ok (.iconst 0, 1) := by decide +kernel
theorem dX4_isFree_25 : decode cX4_isFree 25 = .ok (.ireturn, 1) := by decide +kernel
theorem dX4_isFree_26 : decode cX4_isFree 26 = .ok (.iinc 4 1, 3) := by decide +kernel
theorem dX4_isFree_29 : decode cX4_isFree 29 = .ok (.goto (-26), 3) := by decide +kernel
theorem dX4_isFree_32 : decode cX4_isFree 32 = .ok (.iconst 1, 1) := by decide +kernel
theorem dX4_isFree_33 : decode cX4_isFree 33 = .ok (.ireturn, 1) := by decide +kernel
theorem dX4_seen_0 : decode cX4_seen 0 = .ok (.aload_n 0, 1) := by decide +kernel
theorem dX4_seen_1 : decode cX4_seen 1 = .ok (.getfield 74, 3) := by decide +kernel
theorem dX4_seen_4 : decode cX4_seen 4 = .ok (.bipush 24, 2) := by decide +kernel
theorem dX4_seen_6 : decode cX4_seen 6 = .ok (.iload_n 1, 1) := by decide +kernel
theorem dX4_seen_7 : decode cX4_seen 7 = .ok (.imul, 1) := by decide +kernel
theorem dX4_seen_8 : decode cX4_seen 8 = .ok (.iload_n 2, 1) := by decide +kernel
theorem dX4_seen_9 : decode cX4_seen 9 = .ok (.iadd, 1) := by decide +kernel
theorem dX4_seen_10 : decode cX4_seen 10 = .ok (.iaload, 1) := by decide +kernel
theorem dX4_seen_11 : decode cX4_seen 11 = .ok (.iconst 2, 1) := by decide +kernel
theorem dX4_seen_12 : decode cX4_seen 12 = .ok (.if_icmp .ne 17, 3) := by decide +kernel
theorem dX4_seen_15 : decode cX4_seen 15 = .ok (.aload_n 0, 1) := by decide +kernel
theorem dX4_seen_16 : decode cX4_seen 16 = .ok (.getfield 77, 3) := by decide +kernel
theorem dX4_seen_19 : decode cX4_seen 19 = .ok (.bipush 24, 2) := by decide +kernel
theorem dX4_seen_21 : decode cX4_seen 21 = .ok (.iload_n 1, 1) := by decide +kernel
theorem dX4_seen_22 : decode cX4_seen 22 = .ok (.imul, 1) := by decide +kernel
theorem dX4_seen_23 : decode cX4_seen 23 = .ok (.iload_n 2, 1) := by decide +kernel
theorem dX4_seen_24 : decode cX4_seen 24 = .ok (.iadd, 1) := by decide +kernel
theorem dX4_seen_25 : decode cX4_seen 25 = .ok (.iaload, 1) := by decide +kernel
theorem dX4_seen_26 : decode cX4_seen 26 = .ok (.goto 9, 3) := by decide +kernel
theorem dX4_seen_29 : decode cX4_seen 29 = .ok (.aload_n 0, 1) := by decide +kernel
theorem dX4_seen_30 : decode cX4_seen 30 = .ok (.getfield 9, 3) := by decide +kernel
theorem dX4_seen_33 : decode cX4_seen 33 = .ok (.iload_n 2, 1) := by decide +kernel
theorem dX4_seen_34 : decode cX4_seen 34 = .ok (.iaload, 1) := by decide +kernel
theorem dX4_seen_35 : decode cX4_seen 35 = .ok (.ireturn, 1) := by decide +kernel
theorem dX4_stepOf_0 : decode cX4_stepOf 0 = .ok (.aload_n 0, 1) := by decide +kernel
theorem dX4_stepOf_1 : decode cX4_stepOf 1 = .ok (.getfield 43, 3) := by decide +kernel
theorem dX4_stepOf_4 : decode cX4_stepOf 4 = .ok (.bipush 12, 2) := by decide +kernel
theorem dX4_stepOf_6 : decode cX4_stepOf 6 = .ok (.iload_n 1, 1) := by decide +kernel
theorem dX4_stepOf_7 : decode cX4_stepOf 7 = .ok (.imul, 1) := by decide +kernel
theorem dX4_stepOf_8 : decode cX4_stepOf 8 = .ok (.aload_n 0, 1) := by decide +kernel
theorem dX4_stepOf_9 : decode cX4_stepOf 9 = .ok (.getfield 46, 3) := by decide +kernel
theorem dX4_stepOf_12 : decode cX4_stepOf 12 = .ok (.iload_n 1, 1) := by decide +kernel
theorem dX4_stepOf_13 : decode cX4_stepOf 13 = .ok (.iaload, 1) := by decide +kernel
theorem dX4_stepOf_14 : decode cX4_stepOf 14 = .ok (.iadd, 1) := by decide +kernel
theorem dX4_stepOf_15 : decode cX4_stepOf 15 = .ok (.iaload, 1) := by decide +kernel
theorem dX4_stepOf_16 : decode cX4_stepOf 16 = .ok (.ireturn, 1) := by decide +kernel
set_option maxRecDepth 20000 in
theorem ggX4_does_X4_stepOf : GoodIn wsX4_does wsX4_stepOf := goodIn_r _ [18, 19, 12, 83, 84, 85, 86, 87, 88, 89, 90, 91, 92, 93, 94, 95, 96, 97, 98, 99, 100, 101, 102, 103, 104, 105, 106, 107, 108, 109, 110, 111, 112, 113, 114, 115, 116, 117, 118, 119, 120, 121] (by decide +kernel) (by decide +kernel)
set_option maxRecDepth 20000 in
theorem gX4_does_X4_stepOf : GoodIn wsX4_does (wsV RX4 137 RX4 yX4_stepOf wsX4_stepOf) := goodIn_app (goodIn_of _ (by decide +kernel)) ggX4_does_X4_stepOf
set_option maxRecDepth 20000 in
theorem ggX4_does_X4_canDo : GoodIn wsX4_does wsX4_canDo := goodIn_r _ [23, 24, 25, 26, 27, 17, 28, 29, 30, 31, 32, 33, 11, 3, 34, 35, 36, 37, 38, 6, 83, 84, 85, 86, 87, 88, 89, 90, 91, 92, 93, 94, 95, 96, 97, 98, 99, 100, 101, 102, 103, 104, 105, 106, 107, 108, 109, 110, 111, 112, 113, 114, 115, 116, 117, 118, 119, 120, 121] (by decide +kernel) (by decide +kernel)
set_option maxRecDepth 20000 in
theorem gX4_does_X4_canDo : GoodIn wsX4_does (wsV RX4 140 RX4 yX4_canDo wsX4_canDo) := goodIn_app (goodIn_of _ (by decide +kernel)) ggX4_does_X4_canDo
set_option maxRecDepth 20000 in
theorem ggX4_does_X4_seen : GoodIn wsX4_does wsX4_seen := goodIn_r _ [42, 3, 4, 43, 83, 84, 85, 86, 87, 88, 89, 90, 91, 92, 93, 94, 95, 96, 97, 98, 99, 100, 101, 102, 103, 104, 105, 106, 107, 108, 109, 110, 111, 112, 113, 114, 115, 116, 117, 118, 119, 120, 121] (by decide +kernel) (by decide +kernel)
set_option maxRecDepth 20000 in
theorem gX4_does_X4_seen : GoodIn wsX4_does (wsV RX4 144 RX4 yX4_seen wsX4_seen) := goodIn_app (goodIn_of _ (by decide +kernel)) ggX4_does_X4_seen
set_option maxRecDepth 20000 in
theorem ggX4_does_X4_logs : GoodIn wsX4_does wsX4_logs := goodIn_r _ [47, 48, 49, 50, 51, 83, 84, 85, 86, 87, 88, 89, 90, 91, 92, 93, 94, 95, 96, 97, 98, 99, 100, 101, 102, 103, 104, 105, 106, 107, 108, 109, 110, 111, 112, 113, 114, 115, 116, 117, 118, 119, 120, 121] (by decide +kernel) (by decide +kernel)
set_option maxRecDepth 20000 in
theorem gX4_does_X4_logs : GoodIn wsX4_does (wsV RX4 148 RX4 yX4_logs wsX4_logs) := goodIn_app (goodIn_of _ (by decide +kernel)) ggX4_does_X4_logs
set_option maxRecDepth 20000 in
theorem ggX4_does_X4_in : GoodIn wsX4_does wsX4_in := goodIn_r _ [54] (by decide +kernel) (by decide +kernel)
set_option maxRecDepth 20000 in
theorem gX4_does_X4_in : GoodIn wsX4_does (va_wsS RX4 107 yX4_in wsX4_in) := goodIn_app (goodIn_of _ (by decide +kernel)) ggX4_does_X4_in
set_option maxRecDepth 20000 in
theorem ggX4_does_X4_clears : GoodIn wsX4_does wsX4_clears := goodIn_r _ [58, 3, 5, 6, 8, 2, 12, 1, 83, 84, 85, 86, 87, 88, 89, 90, 91, 92, 93, 94, 95, 96, 97, 98, 99, 100, 101, 102, 103, 104, 105, 106, 107, 108, 109, 110, 111, 112, 113, 114, 115, 116, 117, 118, 119, 120, 121] (by decide +kernel) (by decide +kernel)
set_option maxRecDepth 20000 in
theorem gX4_does_X4_clears : GoodIn wsX4_does (wsV RX4 154 RX4 yX4_clears wsX4_clears) := goodIn_app (goodIn_of _ (by decide +kernel)) ggX4_does_X4_clears
set_option maxRecDepth 20000 in
theorem ggX4_does_X4_isDone : GoodIn wsX4_does wsX4_isDone := goodIn_r _ [62, 11, 63, 51, 64, 65, 8, 7, 66, 67, 68, 69, 70, 17, 71, 3, 1, 44, 45, 46, 47, 48, 49, 50, 72, 73, 74, 75, 43, 4, 38, 5, 76, 77, 78, 79, 29, 80, 81, 82, 83, 84, 85, 86, 87, 88, 89, 90, 91, 92, 93, 94, 95, 96, 97, 98, 99, 100, 101, 102, 103, 104, 105, 106, 107, 108, 109, 110, 111, 112, 113, 114, 115, 116, 117, 118, 119, 120, 121] (by decide +kernel) (by decide +kernel)
set_option maxRecDepth 20000 in
theorem gX4_does_X4_isDone : GoodIn wsX4_does (wsV RX4 158 RX4 yX4_isDone wsX4_isDone) := goodIn_app (goodIn_of _ (by decide +kernel)) ggX4_does_X4_isDone
theorem dX4_does_0 : decode cX4_does 0 = .ok (.aload_n 0, 1) := by decide +kernel
theorem dX4_does_1 : decode cX4_does 1 = .ok (.iload_n 1, 1) := by decide +kernel
theorem dX4_does_2 : decode cX4_does 2 = .ok (.invokevirtual 137, 3) := by decide +kernel
theorem dX4_does_5 : decode cX4_does 5 = .ok (.istore_n 2, 1) := by decide +kernel
theorem dX4_does_6 : decode cX4_does 6 = .ok (.iload_n 2, 1) := by decide +kernel
theorem dX4_does_7 : decode cX4_does 7 = .ok (.sipush 10000, 3) := by decide +kernel
theorem dX4_does_10 : decode cX4_does 10 = .ok (.idiv, 1) := by decide +kernel
theorem dX4_does_11 : decode cX4_does 11 = .ok (.istore_n 3, 1) := by decide +kernel
theorem dX4_does_12 : decode cX4_does 12 = .ok (.iload_n 2, 1) := by decide +kernel
theorem dX4_does_13 : decode cX4_does 13 = .ok (.bipush 100, 2) := by decide +kernel
theorem dX4_does_15 : decode cX4_does 15 = .ok (.idiv, 1) := by decide +kernel
theorem dX4_does_16 : decode cX4_does 16 = .ok (.bipush 100, 2) := by decide +kernel
theorem dX4_does_18 : decode cX4_does 18 = .ok (.irem, 1) := by decide +kernel
theorem dX4_does_19 : decode cX4_does 19 = .ok (.istore 4, 2) := by decide +kernel
theorem dX4_does_21 : decode cX4_does 21 = .ok (.iload_n 2, 1) := by decide +kernel
theorem dX4_does_22 : decode cX4_does 22 = .ok (.bipush 100, 2) := by decide +kernel
theorem dX4_does_24 : decode cX4_does 24 = .ok (.irem, 1) := by decide +kernel
theorem dX4_does_25 : decode cX4_does 25 = .ok (.istore 5, 2) := by decide +kernel
theorem dX4_does_27 : decode cX4_does 27 = .ok (.aload_n 0, 1) := by decide +kernel
theorem dX4_does_28 : decode cX4_does 28 = .ok (.getfield 52, 3) := by decide +kernel
theorem dX4_does_31 : decode cX4_does 31 = .ok (.iload_n 1, 1) := by decide +kernel
theorem dX4_does_32 : decode cX4_does 32 = .ok (.aload_n 0, 1) := by decide +kernel
theorem dX4_does_33 : decode cX4_does 33 = .ok (.iload_n 1, 1) := by decide +kernel
theorem dX4_does_34 : decode cX4_does 34 = .ok (.iload_n 3, 1) := by decide +kernel
theorem dX4_does_35 : decode cX4_does 35 = .ok (.iload 4, 2) := by decide +kernel
theorem dX4_does_37 : decode cX4_does 37 = .ok (.iload 5, 2) := by decide +kernel
theorem dX4_does_39 : decode cX4_does 39 = .ok (.invokevirtual 140, 3) := by decide +kernel
theorem dX4_does_42 : decode cX4_does 42 = .ok (.ifCond .ne 7, 3) := by decide +kernel
theorem dX4_does_45 : decode cX4_does 45 = .ok (.iconst 1, 1) := by decide +kernel
theorem dX4_does_46 : decode cX4_does 46 = .ok (.goto 4, 3) := by decide +kernel
theorem dX4_does_49 : decode cX4_does 49 = .ok (.iconst 0, 1) := by decide +kernel
theorem dX4_does_50 : decode cX4_does 50 = .ok (.bastore, 1) := by decide +kernel
theorem dX4_does_51 : decode cX4_does 51 = .ok (.aload_n 0, 1) := by decide +kernel
theorem dX4_does_52 : decode cX4_does 52 = .ok (.getfield 52, 3) := by decide +kernel
theorem dX4_does_55 : decode cX4_does 55 = .ok (.iload_n 1, 1) := by decide +kernel
theorem dX4_does_56 : decode cX4_does 56 = .ok (.baload, 1) := by decide +kernel
theorem dX4_does_57 : decode cX4_does 57 = .ok (.ifCond .eq 4, 3) := by decide +kernel
theorem dX4_does_60 : decode cX4_does 60 = .ok (.return_, 1) := by decide +kernel
theorem dX4_does_61 : decode cX4_does 61 = .ok (.iconst 0, 1) := by decide +kernel
theorem dX4_does_62 : decode cX4_does 62 = .ok (.istore 6, 2) := by decide +kernel
theorem dX4_does_64 : decode cX4_does 64 = .ok (.iload_n 3, 1) := by decide +kernel
theorem dX4_does_65 : decode cX4_does 65 = .ok (.ifCond .eq 8, 3) := by decide +kernel
theorem dX4_does_68 : decode cX4_does 68 = .ok (.iload_n 3, 1) := by decide +kernel
theorem dX4_does_69 : decode cX4_does 69 = .ok (.iconst 4, 1) := by decide +kernel
theorem dX4_does_70 : decode cX4_does 70 = .ok (.if_icmp .ne 63, 3) := by decide +kernel
theorem dX4_does_73 : decode cX4_does 73 = .ok (.aload_n 0, 1) := by decide +kernel
theorem dX4_does_74 : decode cX4_does 74 = .ok (.getfield 49, 3) := by decide +kernel
theorem dX4_does_77 : decode cX4_does 77 = .ok (.iload_n 1, 1) := by decide +kernel
theorem dX4_does_78 : decode cX4_does 78 = .ok (.aload_n 0, 1) := by decide +kernel
theorem dX4_does_79 : decode cX4_does 79 = .ok (.iload_n 1, 1) := by decide +kernel
theorem dX4_does_80 : decode cX4_does 80 = .ok (.iload 4, 2) := by decide +kernel
theorem dX4_does_82 : decode cX4_does 82 = .ok (.invokevirtual 144, 3) := by decide +kernel
theorem dX4_does_85 : decode cX4_does 85 = .ok (.iload_n 3, 1) := by decide +kernel
theorem dX4_does_86 : decode cX4_does 86 = .ok (.iconst 4, 1) := by decide +kernel
theorem dX4_does_87 : decode cX4_does 87 = .ok (.if_icmp .ne 12, 3) := by decide +kernel
theorem dX4_does_90 : decode cX4_does 90 = .ok (.aload_n 0, 1) := by decide +kernel
theorem dX4_does_91 : decode cX4_does 91 = .ok (.getfield 49, 3) := by decide +kernel
theorem dX4_does_94 : decode cX4_does 94 = .ok (.iload_n 1, 1) := by decide +kernel
theorem dX4_does_95 : decode cX4_does 95 = .ok (.iaload, 1) := by decide +kernel
theorem dX4_does_96 : decode cX4_does 96 = .ok (.goto 4, 3) := by decide +kernel
theorem dX4_does_99 : decode cX4_does 99 = .ok (.iconst 0, 1) := by decide +kernel
theorem dX4_does_100 : decode cX4_does 100 = .ok (.iadd, 1) := by decide +kernel
theorem dX4_does_101 : decode cX4_does 101 = .ok (.iastore, 1) := by decide +kernel
theorem dX4_does_102 : decode cX4_does 102 = .ok (.aload_n 0, 1) := by decide +kernel
theorem dX4_does_103 : decode cX4_does 103 = .ok (.getfield 74, 3) := by decide +kernel
theorem dX4_does_106 : decode cX4_does 106 = .ok (.bipush 24, 2) := by decide +kernel
theorem dX4_does_108 : decode cX4_does 108 = .ok (.iload_n 1, 1) := by decide +kernel
theorem dX4_does_109 : decode cX4_does 109 = .ok (.imul, 1) := by decide +kernel
theorem dX4_does_110 : decode cX4_does 110 = .ok (.iload 4, 2) := by decide +kernel
theorem dX4_does_112 : decode cX4_does 112 = .ok (.iadd, 1) := by decide +kernel
theorem dX4_does_113 : decode cX4_does 113 = .ok (.iaload, 1) := by decide +kernel
theorem dX4_does_114 : decode cX4_does 114 = .ok (.ifCond .ne 227, 3) := by decide +kernel
theorem dX4_does_117 : decode cX4_does 117 = .ok (.aload_n 0, 1) := by decide +kernel
theorem dX4_does_118 : decode cX4_does 118 = .ok (.getfield 74, 3) := by decide +kernel
theorem dX4_does_121 : decode cX4_does 121 = .ok (.bipush 24, 2) := by decide +kernel
theorem dX4_does_123 : decode cX4_does 123 = .ok (.iload_n 1, 1) := by decide +kernel
theorem dX4_does_124 : decode cX4_does 124 = .ok (.imul, 1) := by decide +kernel
theorem dX4_does_125 : decode cX4_does 125 = .ok (.iload 4, 2) := by decide +kernel
theorem dX4_does_127 : decode cX4_does 127 = .ok (.iadd, 1) := by decide +kernel
theorem dX4_does_128 : decode cX4_does 128 = .ok (.iconst 1, 1) := by decide +kernel
theorem dX4_does_129 : decode cX4_does 129 = .ok (.iastore, 1) := by decide +kernel
theorem dX4_does_130 : decode cX4_does 130 = .ok (.goto 211, 3) := by decide +kernel
theorem dX4_does_133 : decode cX4_does 133 = .ok (.iload_n 3, 1) := by decide +kernel
theorem dX4_does_134 : decode cX4_does 134 = .ok (.iconst 1, 1) := by decide +kernel
theorem dX4_does_135 : decode cX4_does 135 = .ok (.if_icmp .ne 17, 3) := by decide +kernel
theorem dX4_does_138 : decode cX4_does 138 = .ok (.aload_n 0, 1) := by decide +kernel
theorem dX4_does_139 : decode cX4_does 139 = .ok (.getfield 49, 3) := by decide +kernel
theorem dX4_does_142 : decode cX4_does 142 = .ok (.iload_n 1, 1) := by decide +kernel
theorem dX4_does_143 : decode cX4_does 143 = .ok (.iload 5, 2) := by decide +kernel
theorem dX4_does_145 : decode cX4_does 145 = .ok (.bipush 50, 2) := by decide +kernel
theorem dX4_does_147 : decode cX4_does 147 = .ok (.isub, 1) := by decide +kernel
theorem dX4_does_148 : decode cX4_does 148 = .ok (.iastore, 1) := by decide +kernel
theorem dX4_does_149 : decode cX4_does 149 = .ok (.goto 192, 3) := by decide +kernel
theorem dX4_does_152 : decode cX4_does 152 = .ok (.iload_n 3, 1) := by decide +kernel
theorem dX4_does_153 : decode cX4_does 153 = .ok (.iconst 2, 1) := by decide +kernel
theorem dX4_does_154 : decode cX4_does 154 = .ok (.if_icmp .ne 20, 3) := by decide +kernel
theorem dX4_does_157 : decode cX4_does 157 = .ok (.aload_n 0, 1) := by decide +kernel
theorem dX4_does_158 : decode cX4_does 158 = .ok (.getfield 49, 3) := by decide +kernel
theorem dX4_does_161 : decode cX4_does 161 = .ok (.iload_n 1, 1) := by decide +kernel
theorem dX4_does_162 : decode cX4_does 162 = .ok (.dup2, 1) := by decide +kernel
theorem dX4_does_163 : decode cX4_does 163 = .ok (.iaload, 1) := by decide +kernel
theorem dX4_does_164 : decode cX4_does 164 = .ok (.iload 5, 2) := by decide +kernel
theorem dX4_does_166 : decode cX4_does 166 = .ok (.bipush 50, 2) := by decide +kernel
theorem dX4_does_168 : decode cX4_does 168 = .ok (.isub, 1) := by decide +kernel
theorem dX4_does_169 : decode cX4_does 169 = .ok (.iadd, 1) := by decide +kernel
theorem dX4_does_170 : decode cX4_does 170 = .ok (.iastore, 1) := by decide +kernel
theorem dX4_does_171 : decode cX4_does 171 = .ok (.goto 170, 3) := by decide +kernel
theorem dX4_does_174 : decode cX4_does 174 = .ok (.iload_n 3, 1) := by decide +kernel
theorem dX4_does_175 : decode cX4_does 175 = .ok (.iconst 3, 1) := by decide +kernel
theorem dX4_does_176 : decode cX4_does 176 = .ok (.if_icmp .ne 45, 3) := by decide +kernel
theorem dX4_does_179 : decode cX4_does 179 = .ok (.aload_n 0, 1) := by decide +kernel
theorem dX4_does_180 : decode cX4_does 180 = .ok (.getfield 74, 3) := by decide +kernel
theorem dX4_does_183 : decode cX4_does 183 = .ok (.bipush 24, 2) := by decide +kernel
theorem dX4_does_185 : decode cX4_does 185 = .ok (.iload_n 1, 1) := by decide +kernel
theorem dX4_does_186 : decode cX4_does 186 = .ok (.imul, 1) := by decide +kernel
theorem dX4_does_187 : decode cX4_does 187 = .ok (.iload 4, 2) := by decide +kernel
theorem dX4_does_189 : decode cX4_does 189 = .ok (.iadd, 1) := by decide +kernel
theorem dX4_does_190 : decode cX4_does 190 = .ok (.iconst 2, 1) := by decide +kernel
theorem dX4_does_191 : decode cX4_does 191 = .ok (.iastore, 1) := by decide +kernel
theorem dX4_does_192 : decode cX4_does 192 = .ok (.aload_n 0, 1) := by decide +kernel
theorem dX4_does_193 : decode cX4_does 193 = .ok (.getfield 77, 3) := by decide +kernel
theorem dX4_does_196 : decode cX4_does 196 = .ok (.bipush 24, 2) := by decide +kernel
theorem dX4_does_198 : decode cX4_does 198 = .ok (.iload_n 1, 1) := by decide +kernel
theorem dX4_does_199 : decode cX4_does 199 = .ok (.imul, 1) := by decide +kernel
theorem dX4_does_200 : decode cX4_does 200 = .ok (.iload 4, 2) := by decide +kernel
theorem dX4_does_202 : decode cX4_does 202 = .ok (.iadd, 1) := by decide +kernel
theorem dX4_does_203 : decode cX4_does 203 = .ok (.aload_n 0, 1) := by decide +kernel
theorem dX4_does_204 : decode cX4_does 204 = .ok (.getfield 49, 3) := by decide +kernel
theorem dX4_does_207 : decode cX4_does 207 = .ok (.iload_n 1, 1) := by decide +kernel
theorem dX4_does_208 : decode cX4_does 208 = .ok (.iaload, 1) := by decide +kernel
theorem dX4_does_209 : decode cX4_does 209 = .ok (.iastore, 1) := by decide +kernel
theorem dX4_does_210 : decode cX4_does 210 = .ok (.aload_n 0, 1) := by decide +kernel
theorem dX4_does_211 : decode cX4_does 211 = .ok (.iconst 1, 1) := by decide +kernel
theorem dX4_does_212 : decode cX4_does 212 = .ok (.iload_n 1, 1) := by decide +kernel
theorem dX4_does_213 : decode cX4_does 213 = .ok (.iload 4, 2) := by decide +kernel
theorem dX4_does_215 : decode cX4_does 215 = .ok (.invokevirtual 148, 3) := by decide +kernel
theorem dX4_does_218 : decode cX4_does 218 = .ok (.goto 123, 3) := by decide +kernel
theorem dX4_does_221 : decode cX4_does 221 = .ok (.iload_n 3, 1) := by decide +kernel
theorem dX4_does_222 : decode cX4_does 222 = .ok (.bipush 6, 2) := by decide +kernel
theorem dX4_does_224 : decode cX4_does 224 = .ok (.if_icmp .ne 57, 3) := by decide +kernel
theorem dX4_does_227 : decode cX4_does 227 = .ok (.aload_n 0, 1) := by decide +kernel
theorem dX4_does_228 : decode cX4_does 228 = .ok (.getfield 80, 3) := by decide +kernel
theorem dX4_does_231 : decode cX4_does 231 = .ok (.bipush 8, 2) := by decide +kernel
theorem dX4_does_233 : decode cX4_does 233 = .ok (.iload_n 1, 1) := by decide +kernel
theorem dX4_does_234 : decode cX4_does 234 = .ok (.imul, 1) := by decide +kernel
theorem dX4_does_235 : decode cX4_does 235 = .ok (.iload 4, 2) := by decide +kernel
theorem dX4_does_237 : decode cX4_does 237 = .ok (.iadd, 1) := by decide +kernel
theorem dX4_does_238 : decode cX4_does 238 = .ok (.dup2, 1) := by decide +kernel
theorem dX4_does_239 : decode cX4_does 239 = .ok (.iaload, 1) := by decide +kernel
theorem dX4_does_240 : decode cX4_does 240 = .ok (.iload 5, 2) := by decide +kernel
theorem dX4_does_242 : decode cX4_does 242 = .ok (.bipush 50, 2) := by decide +kernel
theorem dX4_does_244 : decode cX4_does 244 = .ok (.isub, 1) := by decide +kernel
theorem dX4_does_245 : decode cX4_does 245 = .ok (.iadd, 1) := by decide +kernel
theorem dX4_does_246 : decode cX4_does 246 = .ok (.iastore, 1) := by decide +kernel
theorem dX4_does_247 : decode cX4_does 247 = .ok (.aload_n 0, 1) := by decide +kernel
theorem dX4_does_248 : decode cX4_does 248 = .ok (.getfield 83, 3) := by decide +kernel
theorem dX4_does_251 : decode cX4_does 251 = .ok (.bipush 8, 2) := by decide +kernel
theorem dX4_does_253 : decode cX4_does 253 = .ok (.iload_n 1, 1) := by decide +kernel
theorem dX4_does_254 : decode cX4_does 254 = .ok (.imul, 1) := by decide +kernel
theorem dX4_does_255 : decode cX4_does 255 = .ok (.iload 4, 2) := by decide +kernel
theorem dX4_does_257 : decode cX4_does 257 = .ok (.iadd, 1) := by decide +kernel
theorem dX4_does_258 : decode cX4_does 258 = .ok (.dup2, 1) := by decide +kernel
theorem dX4_does_259 : decode cX4_does 259 = .ok (.iaload, 1) := by decide +kernel
theorem dX4_does_260 : decode cX4_does 260 = .ok (.iload 5, 2) := by decide +kernel
theorem dX4_does_262 : decode cX4_does 262 = .ok (.bipush 50, 2) := by decide +kernel
theorem dX4_does_264 : decode cX4_does 264 = .ok (.if_icmp .ge 11, 3) := by decide +kernel
theorem dX4_does_267 : decode cX4_does 267 = .ok (.iload 5, 2) := by decide +kernel
theorem dX4_does_269 : decode cX4_does 269 = .ok (.bipush 50, 2) := by decide +kernel
theorem dX4_does_271 : decode cX4_does 271 = .ok (.isub, 1) := by decide +kernel
theorem dX4_does_272 : decode cX4_does 272 = .ok (.goto 4, 3) := by decide +kernel
theorem dX4_does_275 : decode cX4_does 275 = .ok (.iconst 0, 1) := by decide +kernel
theorem dX4_does_276 : decode cX4_does 276 = .ok (.iadd, 1) := by decide +kernel
theorem dX4_does_277 : decode cX4_does 277 = .ok (.iastore, 1) := by decide +kernel
theorem dX4_does_278 : decode cX4_does 278 = .ok (.goto 63, 3) := by decide +kernel
theorem dX4_does_281 : decode cX4_does 281 = .ok (.iload_n 3, 1) := by decide +kernel
theorem dX4_does_282 : decode cX4_does 282 = .ok (.bipush 7, 2) := by decide +kernel
theorem dX4_does_284 : decode cX4_does 284 = .ok (.if_icmp .ne 34, 3) := by decide +kernel
theorem dX4_does_287 : decode cX4_does 287 = .ok (.aload_n 0, 1) := by decide +kernel
theorem dX4_does_288 : decode cX4_does 288 = .ok (.getfield 86, 3) := by decide +kernel
theorem dX4_does_291 : decode cX4_does 291 = .ok (.bipush 12, 2) := by decide +kernel
theorem dX4_does_293 : decode cX4_does 293 = .ok (.iload_n 1, 1) := by decide +kernel
theorem dX4_does_294 : decode cX4_does 294 = .ok (.imul, 1) := by decide +kernel
theorem dX4_does_295 : decode cX4_does 295 = .ok (.aload_n 0, 1) := by decide +kernel
theorem dX4_does_296 : decode cX4_does 296 = .ok (.getfield 89, 3) := by decide +kernel
theorem dX4_does_299 : decode cX4_does 299 = .ok (.iload_n 1, 1) := by decide +kernel
theorem dX4_does_300 : decode cX4_does 300 = .ok (.iaload, 1) := by decide +kernel
theorem dX4_does_301 : decode cX4_does 301 = .ok (.iadd, 1) := by decide +kernel
theorem dX4_does_302 : decode cX4_does 302 = .ok (.iload 4, 2) := by decide +kernel
theorem dX4_does_304 : decode cX4_does 304 = .ok (.iastore, 1) := by decide +kernel
theorem dX4_does_305 : decode cX4_does 305 = .ok (.aload_n 0, 1) := by decide +kernel
theorem dX4_does_306 : decode cX4_does 306 = .ok (.getfield 89, 3) := by decide +kernel
theorem dX4_does_309 : decode cX4_does 309 = .ok (.iload_n 1, 1) := by decide +kernel
theorem dX4_does_310 : decode cX4_does 310 = .ok (.dup2, 1) := by decide +kernel
theorem dX4_does_311 : decode cX4_does 311 = .ok (.iaload, 1) := by decide +kernel
theorem dX4_does_312 : decode cX4_does 312 = .ok (.iconst 1, 1) := by decide +kernel
theorem dX4_does_313 : decode cX4_does 313 = .ok (.iadd, 1) := by decide +kernel
theorem dX4_does_314 : decode cX4_does 314 = .ok (.iastore, 1) := by decide +kernel
theorem dX4_does_315 : decode cX4_does 315 = .ok (.goto 26, 3) := by decide +kernel
theorem dX4_does_318 : decode cX4_does 318 = .ok (.iload_n 3, 1) := by decide +kernel
theorem dX4_does_319 : decode cX4_does 319 = .ok (.bipush 7, 2) := by decide +kernel
theorem dX4_does_321 : decode cX4_does 321 = .ok (.if_icmp .le 20, 3) := by decide +kernel
theorem dX4_does_324 : decode cX4_does 324 = .ok (.aload_n 0, 1) := by decide +kernel
theorem dX4_does_325 : decode cX4_does 325 = .ok (.getfield 49, 3) := by decide +kernel
theorem dX4_does_328 : decode cX4_does 328 = .ok (.iload_n 1, 1) := by decide +kernel
theorem dX4_does_329 : decode cX4_does 329 = .ok (.iaload, 1) := by decide +kernel
theorem dX4_does_330 : decode cX4_does 330 = .ok (.ifCond .ge 8, 3) := by decide +kernel
theorem dX4_does_333 : decode cX4_does 333 = .ok (.iload 5, 2) := by decide +kernel
theorem dX4_does_335 : decode cX4_does 335 = .ok (.goto 4, 3) := by decide +kernel
theorem dX4_does_338 : decode cX4_does 338 = .ok (.iconst 0, 1) := by decide +kernel
theorem dX4_does_339 : decode cX4_does 339 = .ok (.istore 6, 2) := by decide +kernel
theorem dX4_does_341 : decode cX4_does 341 = .ok (.iload_n 3, 1) := by decide +kernel
theorem dX4_does_342 : decode cX4_does 342 = .ok (.iconst 5, 1) := by decide +kernel
theorem dX4_does_343 : decode cX4_does 343 = .ok (.if_icmp .ne 12, 3) := by decide +kernel
theorem dX4_does_346 : decode cX4_does 346 = .ok (.aload_n 0, 1) := by decide +kernel
theorem dX4_does_347 : decode cX4_does 347 = .ok (.getfield 49, 3) := by decide +kernel
theorem dX4_does_350 : decode cX4_does 350 = .ok (.iload_n 1, 1) := by decide +kernel
theorem dX4_does_351 : decode cX4_does 351 = .ok (.iaload, 1) := by decide +kernel
theorem dX4_does_352 : decode cX4_does 352 = .ok (.ifCond .lt 19, 3) := by decide +kernel
theorem dX4_does_355 : decode cX4_does 355 = .ok (.aload_n 0, 1) := by decide +kernel
theorem dX4_does_356 : decode cX4_does 356 = .ok (.getfield 49, 3) := by decide +kernel
theorem dX4_does_359 : decode cX4_does 359 = .ok (.iload_n 1, 1) := by decide +kernel
theorem dX4_does_360 : decode cX4_does 360 = .ok (.iaload, 1) := by decide +kernel
theorem dX4_does_361 : decode cX4_does 361 = .ok (.ldc 152, 2) := by decide +kernel
theorem dX4_does_363 : decode cX4_does 363 = .ok (.ldc 153, 2) := by decide +kernel
theorem dX4_does_365 : decode cX4_does 365 = .ok (.invokestatic 107, 3) := by decide +kernel
theorem dX4_does_368 : decode cX4_does 368 = .ok (.ifCond .ne 23, 3) := by decide +kernel
theorem dX4_does_371 : decode cX4_does 371 = .ok (.aload_n 0, 1) := by decide +kernel
theorem dX4_does_372 : decode cX4_does 372 = .ok (.iconst 3, 1) := by decide +kernel
theorem dX4_does_373 : decode cX4_does 373 = .ok (.iload_n 1, 1) := by decide +kernel
theorem dX4_does_374 : decode cX4_does 374 = .ok (.iconst (-1), 1) := by decide +kernel
theorem dX4_does_375 : decode cX4_does 375 = .ok (.invokevirtual 148, 3) := by decide +kernel
theorem dX4_does_378 : decode cX4_does 378 = .ok (.aload_n 0, 1) := by decide +kernel
theorem dX4_does_379 : decode cX4_does 379 = .ok (.iload_n 1, 1) := by decide +kernel
theorem dX4_does_380 : decode cX4_does 380 = .ok (.invokevirtual 154, 3) := by decide +kernel
theorem dX4_does_383 : decode cX4_does 383 = .ok (.aload_n 0, 1) := by decide +kernel
theorem dX4_does_384 : decode cX4_does 384 = .ok (.getfield 37, 3) := by decide +kernel
theorem dX4_does_387 : decode cX4_does 387 = .ok (.iload_n 1, 1) := by decide +kernel
theorem dX4_does_388 : decode cX4_does 388 = .ok (.iconst 4, 1) := by decide +kernel
theorem dX4_does_389 : decode cX4_does 389 = .ok (.iastore, 1) := by decide +kernel
theorem dX4_does_390 : decode cX4_does 390 = .ok (.return_, 1) := by decide +kernel
theorem dX4_does_391 : decode cX4_does 391 = .ok (.aload_n 0, 1) := by decide +kernel
theorem dX4_does_392 : decode cX4_does 392 = .ok (.getfield 46, 3) := by decide +kernel
theorem dX4_does_395 : decode cX4_does 395 = .ok (.iload_n 1, 1) := by decide +kernel
theorem dX4_does_396 : decode cX4_does 396 = .ok (.dup2, 1) := by decide +kernel
theorem dX4_does_397 : decode cX4_does 397 = .ok (.iaload, 1) := by decide +kernel
theorem dX4_does_398 : decode cX4_does 398 = .ok (.iconst 1, 1) := by decide +kernel
theorem dX4_does_399 : decode cX4_does 399 = .ok (.iload 6, 2) := by decide +kernel
theorem dX4_does_401 : decode cX4_does 401 = .ok (.iadd, 1) := by decide +kernel
theorem dX4_does_402 : decode cX4_does 402 = .ok (.iadd, 1) := by decide +kernel
theorem dX4_does_403 : decode cX4_does 403 = .ok (.iastore, 1) := by decide +kernel
theorem dX4_does_404 : decode cX4_does 404 = .ok (.aload_n 0, 1) := by decide +kernel
theorem dX4_does_405 : decode cX4_does 405 = .ok (.getfield 46, 3) := by decide +kernel
theorem dX4_does_408 : decode cX4_does 408 = .ok (.iload_n 1, 1) := by decide +kernel
theorem dX4_does_409 : decode cX4_does 409 = .ok (.iaload, 1) := by decide +kernel
theorem dX4_does_410 : decode cX4_does 410 = .ok (.aload_n 0, 1) := by decide +kernel
theorem dX4_does_411 : decode cX4_does 411 = .ok (.getfield 40, 3) := by decide +kernel
theorem dX4_does_414 : decode cX4_does 414 = .ok (.iload_n 1, 1) := by decide +kernel
theorem dX4_does_415 : decode cX4_does 415 = .ok (.iaload, 1) := by decide +kernel
theorem dX4_does_416 : decode cX4_does 416 = .ok (.if_icmp .lt 8, 3) := by decide +kernel
theorem dX4_does_419 : decode cX4_does 419 = .ok (.aload_n 0, 1) := by decide +kernel
theorem dX4_does_420 : decode cX4_does 420 = .ok (.iload_n 1, 1) := by decide +kernel
theorem dX4_does_421 : decode cX4_does 421 = .ok (.invokevirtual 158, 3) := by decide +kernel
theorem dX4_does_424 : decode cX4_does 424 = .ok (.return_, 1) := by decide +kernel
set_option maxRecDepth 20000 in
theorem ggX4_canDo_X4_isFree : GoodIn wsX4_canDo wsX4_isFree := goodIn_r _ [6, 7, 8, 9, 10, 5, 11, 12, 13, 20, 21, 22, 23, 24, 25, 26, 27, 28, 29, 30, 31, 32, 33, 34, 35, 36, 37, 38, 39, 40, 41, 42, 43, 44, 45, 46, 47, 48, 49, 50, 51, 52, 53, 54, 55, 56, 57, 58] (by decide +kernel) (by decide +kernel)
set_option maxRecDepth 20000 in
theorem gX4_canDo_X4_isFree : GoodIn wsX4_canDo (wsV RX4 161 RX4 yX4_isFree wsX4_isFree) := goodIn_app (goodIn_of _ (by decide +kernel)) ggX4_canDo_X4_isFree
set_option maxRecDepth 20000 in
theorem ggX4_canDo_X4_least : GoodIn wsX4_canDo wsX4_least := goodIn_r _ [17, 18, 7, 12, 19, 20, 21, 22, 23, 24, 25, 26, 27, 28, 29, 30, 31, 32, 33, 34, 35, 36, 37, 38, 39, 40, 41, 42, 43, 44, 45, 46, 47, 48, 49, 50, 51, 52, 53, 54, 55, 56, 57, 58] (by decide +kernel) (by decide +kernel)
set_option maxRecDepth 20000 in
theorem gX4_canDo_X4_least : GoodIn wsX4_canDo (wsV RX4 123 RX4 yX4_least wsX4_least) := goodIn_app (goodIn_of _ (by decide +kernel)) ggX4_canDo_X4_least
theorem dX4_canDo_0 : decode cX4_canDo 0 = .ok (.iload_n 2, 1) := by decide +kernel
theorem dX4_canDo_1 : decode cX4_canDo 1 = .ok (.ifCond .eq 8, 3) := by decide +kernel
theorem dX4_canDo_4 : decode cX4_canDo 4 = .ok (.iload_n 2, 1) := by decide +kernel
theorem dX4_canDo_5 : decode cX4_canDo 5 = .ok (.iconst 4, 1) := by decide +kernel
theorem dX4_canDo_6 : decode cX4_canDo 6 = .ok (.if_icmp .ne 11, 3) := by decide +kernel
theorem dX4_canDo_9 : decode cX4_canDo 9 = .ok (.aload_n 0, 1) := by decide +kernel
theorem dX4_canDo_10 : decode cX4_canDo 10 = .ok (.iload_n 1, 1) := by decide +kernel
theorem dX4_canDo_11 : decode cX4_canDo 11 = .ok (.iload_n 3, 1) := by decide +kernel
theorem dX4_canDo_12 : decode cX4_canDo 12 = .ok (.iconst 0, 1) := by decide +kernel
theorem dX4_canDo_13 : decode cX4_canDo 13 = .ok (.invokevirtual 161, 3) := by decide +kernel
theorem dX4_canDo_16 : decode cX4_canDo 16 = .ok (.ireturn, 1) := by decide +kernel
theorem dX4_canDo_17 : decode cX4_canDo 17 = .ok (.iload_n 2, 1) := by decide +kernel
theorem dX4_canDo_18 : decode cX4_canDo 18 = .ok (.iconst 3, 1) := by decide +kernel
theorem dX4_canDo_19 : decode cX4_canDo 19 = .ok (.if_icmp .ne 11, 3) := by decide +kernel
theorem dX4_canDo_22 : decode cX4_canDo 22 = .ok (.aload_n 0, 1) := by decide +kernel
theorem dX4_canDo_23 : decode cX4_canDo 23 = .ok (.iload_n 1, 1) := by decide +kernel
theorem dX4_canDo_24 : decode cX4_canDo 24 = .ok (.iload_n 3, 1) := by decide +kernel
theorem dX4_canDo_25 : decode cX4_canDo 25 = .ok (.iconst 1, 1) := by decide +kernel
theorem dX4_canDo_26 : decode cX4_canDo 26 = .ok (.invokevirtual 161, 3) := by decide +kernel
theorem dX4_canDo_29 : decode cX4_canDo 29 = .ok (.ireturn, 1) := by decide +kernel
theorem dX4_canDo_30 : decode cX4_canDo 30 = .ok (.iload_n 2, 1) := by decide +kernel
theorem dX4_canDo_31 : decode cX4_canDo 31 = .ok (.bipush 6, 2) := by decide +kernel
theorem dX4_canDo_33 : decode cX4_canDo 33 = .ok (.if_icmp .ne 30, 3) := by decide +kernel
theorem dX4_canDo_36 : decode cX4_canDo 36 = .ok (.iload 4, 2) := by decide +kernel
theorem dX4_canDo_38 : decode cX4_canDo 38 = .ok (.bipush 50, 2) := by decide +kernel
theorem dX4_canDo_40 : decode cX4_canDo 40 = .ok (.if_icmp .ge 23, 3) := by decide +kernel
theorem dX4_canDo_43 : decode cX4_canDo 43 = .ok (.aload_n 0, 1) := by decide +kernel
theorem dX4_canDo_44 : decode cX4_canDo 44 = .ok (.iload_n 3, 1) := by decide +kernel
theorem dX4_canDo_45 : decode cX4_canDo 45 = .ok (.invokevirtual 123, 3) := by decide +kernel
theorem dX4_canDo_48 : decode cX4_canDo 48 = .ok (.iload 4, 2) := by decide +kernel
theorem dX4_canDo_50 : decode cX4_canDo 50 = .ok (.iadd, 1) := by decide +kernel
theorem dX4_canDo_51 : decode cX4_canDo 51 = .ok (.bipush 50, 2) := by decide +kernel
theorem dX4_canDo_53 : decode cX4_canDo 53 = .ok (.isub, 1) := by decide +kernel
theorem dX4_canDo_54 : decode cX4_canDo 54 = .ok (.aload_n 0, 1) := by decide +kernel
theorem dX4_canDo_55 : decode cX4_canDo 55 = .ok (.getfield 16, 3) := by decide +kernel
theorem dX4_canDo_58 : decode cX4_canDo 58 = .ok (.iload_n 3, 1) := by decide +kernel
theorem dX4_canDo_59 : decode cX4_canDo 59 = .ok (.iaload, 1) := by decide +kernel
theorem dX4_canDo_60 : decode cX4_canDo 60 = .ok (.if_icmp .lt 7, 3) := by decide +kernel
theorem dX4_canDo_63 : decode cX4_canDo 63 = .ok (.iconst 1, 1) := by decide +kernel
theorem dX4_canDo_64 : decode cX4_canDo 64 = .ok (.goto 4, 3) := by decide +kernel
theorem dX4_canDo_67 : decode cX4_canDo 67 = .ok (.iconst 0, 1) := by decide +kernel
theorem dX4_canDo_68 : decode cX4_canDo 68 = .ok (.ireturn, 1) := by decide +kernel
set_option maxRecDepth 20000 in
theorem ggX4_isDone_X4_lets : GoodIn wsX4_isDone wsX4_lets := goodIn_r _ [14, 15, 16, 40, 41, 42, 43, 44, 45, 46, 47, 48, 49, 50, 51, 52, 53, 54, 55, 56, 57, 58, 59, 60, 61, 62, 63, 64, 65, 66, 67, 68, 69, 70, 71, 72, 73, 74, 75, 76, 77, 78] (by decide +kernel) (by decide +kernel)
set_option maxRecDepth 20000 in
theorem gX4_isDone_X4_lets : GoodIn wsX4_isDone (wsV RX4 165 RX4 yX4_lets wsX4_lets) := goodIn_app (goodIn_of _ (by decide +kernel)) ggX4_isDone_X4_lets
set_option maxRecDepth 20000 in
theorem ggX4_isDone_X4_logs : GoodIn wsX4_isDone wsX4_logs := goodIn_r _ [20, 21, 22, 23, 3, 40, 41, 42, 43, 44, 45, 46, 47, 48, 49, 50, 51, 52, 53, 54, 55, 56, 57, 58, 59, 60, 61, 62, 63, 64, 65, 66, 67, 68, 69, 70, 71, 72, 73, 74, 75, 76, 77, 78] (by decide +kernel) (by decide +kernel)
set_option maxRecDepth 20000 in
theorem gX4_isDone_X4_logs : GoodIn wsX4_isDone (wsV RX4 148 RX4 yX4_logs wsX4_logs) := goodIn_app (goodIn_of _ (by decide +kernel)) ggX4_isDone_X4_logs
set_option maxRecDepth 20000 in
theorem ggX4_isDone_X4_gets : GoodIn wsX4_isDone wsX4_gets := goodIn_r _ [27, 15, 28, 29, 30, 31, 40, 41, 42, 43, 44, 45, 46, 47, 48, 49, 50, 51, 52, 53, 54, 55, 56, 57, 58, 59, 60, 61, 62, 63, 64, 65, 66, 67, 68, 69, 70, 71, 72, 73, 74, 75, 76, 77, 78] (by decide +kernel) (by decide +kernel)
set_option maxRecDepth 20000 in
theorem gX4_isDone_X4_gets : GoodIn wsX4_isDone (wsV RX4 171 RX4 yX4_gets wsX4_gets) := goodIn_app (goodIn_of _ (by decide +kernel)) ggX4_isDone_X4_gets
set_option maxRecDepth 20000 in
theorem ggX4_isDone_X4_newAct : GoodIn wsX4_isDone wsX4_newAct := goodIn_r _ [35, 36, 37, 8, 9, 38, 2, 39, 40, 41, 42, 43, 44, 45, 46, 47, 48, 49, 50, 51, 52, 53, 54, 55, 56, 57, 58, 59, 60, 61, 62, 63, 64, 65, 66, 67, 68, 69, 70, 71, 72, 73, 74, 75, 76, 77, 78] (by decide +kernel) (by decide +kernel)
set_option maxRecDepth 20000 in
theorem gX4_isDone_X4_newAct : GoodIn wsX4_isDone (wsV RX4 119 RX4 yX4_newAct wsX4_newAct) := goodIn_app (goodIn_of _ (by decide +kernel)) ggX4_isDone_X4_newAct
theorem dX4_isDone_0 : decode cX4_isDone 0 = .ok (.aload_n 0, 1) := by decide +kernel
theorem dX4_isDone_1 : decode cX4_isDone 1 = .ok (.iload_n 1, 1) := by decide +kernel
theorem dX4_isDone_2 : decode cX4_isDone 2 = .ok (.invokevirtual 165, 3) := by decide +kernel
theorem dX4_isDone_5 : decode cX4_isDone 5 = .ok (.aload_n 0, 1) := by decide +kernel
theorem dX4_isDone_6 : decode cX4_isDone 6 = .ok (.getfield 37, 3) := by decide +kernel
theorem dX4_isDone_9 : decode cX4_isDone 9 = .ok (.iload_n 1, 1) := by decide +kernel
theorem dX4_isDone_10 : decode cX4_isDone 10 = .ok (.iconst 2, 1) := by decide +kernel
theorem dX4_isDone_11 : decode cX4_isDone 11 = .ok (.iastore, 1) := by decide +kernel
theorem dX4_isDone_12 : decode cX4_isDone 12 = .ok (.aload_n 0, 1) := by decide +kernel
theorem dX4_isDone_13 : decode cX4_isDone 13 = .ok (.getfield 56, 3) := by decide +kernel
theorem dX4_isDone_16 : decode cX4_isDone 16 = .ok (.iload_n 1, 1) := by decide +kernel
theorem dX4_isDone_17 : decode cX4_isDone 17 = .ok (.aload_n 0, 1) := by decide +kernel
theorem dX4_isDone_18 : decode cX4_isDone 18 = .ok (.getfield 130, 3) := by decide +kernel
theorem dX4_isDone_21 : decode cX4_isDone 21 = .ok (.iastore, 1) := by decide +kernel
theorem dX4_isDone_22 : decode cX4_isDone 22 = .ok (.aload_n 0, 1) := by decide +kernel
theorem dX4_isDone_23 : decode cX4_isDone 23 = .ok (.iconst 2, 1) := by decide +kernel
theorem dX4_isDone_24 : decode cX4_isDone 24 = .ok (.iload_n 1, 1) := by decide +kernel
theorem dX4_isDone_25 : decode cX4_isDone 25 = .ok (.iconst (-1), 1) := by decide +kernel
theorem dX4_isDone_26 : decode cX4_isDone 26 = .ok (.invokevirtual 148, 3) := by decide +kernel
theorem dX4_isDone_29 : decode cX4_isDone 29 = .ok (.aload_n 0, 1) := by decide +kernel
theorem dX4_isDone_30 : decode cX4_isDone 30 = .ok (.getfield 92, 3) := by decide +kernel
theorem dX4_isDone_33 : decode cX4_isDone 33 = .ok (.aload_n 0, 1) := by decide +kernel
theorem dX4_isDone_34 : decode cX4_isDone 34 = .ok (.getfield 168, 3) := by decide +kernel
theorem dX4_isDone_37 : decode cX4_isDone 37 = .ok (.iload_n 1, 1) := by decide +kernel
theorem dX4_isDone_38 : decode cX4_isDone 38 = .ok (.iastore, 1) := by decide +kernel
theorem dX4_isDone_39 : decode cX4_isDone 39 = .ok (.aload_n 0, 1) := by decide +kernel
theorem dX4_isDone_40 : decode cX4_isDone 40 = .ok (.dup, 1) := by decide +kernel
theorem dX4_isDone_41 : decode cX4_isDone 41 = .ok (.getfield 168, 3) := by decide +kernel
theorem dX4_isDone_44 : decode cX4_isDone 44 = .ok (.iconst 1, 1) := by decide +kernel
theorem dX4_isDone_45 : decode cX4_isDone 45 = .ok (.iadd, 1) := by decide +kernel
theorem dX4_isDone_46 : decode cX4_isDone 46 = .ok (.putfield 168, 3) := by decide +kernel
theorem dX4_isDone_49 : decode cX4_isDone 49 = .ok (.aload_n 0, 1) := by decide +kernel
theorem dX4_isDone_50 : decode cX4_isDone 50 = .ok (.iload_n 1, 1) := by decide +kernel
theorem dX4_isDone_51 : decode cX4_isDone 51 = .ok (.invokevirtual 171, 3) := by decide +kernel
theorem dX4_isDone_54 : decode cX4_isDone 54 = .ok (.iconst 0, 1) := by decide +kernel
theorem dX4_isDone_55 : decode cX4_isDone 55 = .ok (.istore_n 2, 1) := by decide +kernel
theorem dX4_isDone_56 : decode cX4_isDone 56 = .ok (.iload_n 2, 1) := by decide +kernel
theorem dX4_isDone_57 : decode cX4_isDone 57 = .ok (.aload_n 0, 1) := by decide +kernel
theorem dX4_isDone_58 : decode cX4_isDone 58 = .ok (.getfield 89, 3) := by decide +kernel
theorem dX4_isDone_61 : decode cX4_isDone 61 = .ok (.iload_n 1, 1) := by decide +kernel
theorem dX4_isDone_62 : decode cX4_isDone 62 = .ok (.iaload, 1) := by decide +kernel
theorem dX4_isDone_63 : decode cX4_isDone 63 = .ok (.if_icmp .ge 38, 3) := by decide +kernel
theorem dX4_isDone_66 : decode cX4_isDone 66 = .ok (.aload_n 0, 1) := by decide +kernel
theorem dX4_isDone_67 : decode cX4_isDone 67 = .ok (.aload_n 0, 1) := by decide +kernel
theorem dX4_isDone_68 : decode cX4_isDone 68 = .ok (.getfield 86, 3) := by decide +kernel
theorem dX4_isDone_71 : decode cX4_isDone 71 = .ok (.bipush 12, 2) := by decide +kernel
theorem dX4_isDone_73 : decode cX4_isDone 73 = .ok (.iload_n 1, 1) := by decide +kernel
theorem dX4_isDone_74 : decode cX4_isDone 74 = .ok (.imul, 1) := by decide +kernel
theorem dX4_isDone_75 : decode cX4_isDone 75 = .ok (.iload_n 2, 1) := by decide +kernel
theorem dX4_isDone_76 : decode cX4_isDone 76 = .ok (.iadd, 1) := by decide +kernel
theorem dX4_isDone_77 : decode cX4_isDone 77 = .ok (.iaload, 1) := by decide +kernel
theorem dX4_isDone_78 : decode cX4_isDone 78 = .ok (.aload_n 0, 1) := by decide +kernel
theorem dX4_isDone_79 : decode cX4_isDone 79 = .ok (.getfield 31, 3) := by decide +kernel
theorem dX4_isDone_82 : decode cX4_isDone 82 = .ok (.iload_n 1, 1) := by decide +kernel
theorem dX4_isDone_83 : decode cX4_isDone 83 = .ok (.iaload, 1) := by decide +kernel
theorem dX4_isDone_84 : decode cX4_isDone 84 = .ok (.aload_n 0, 1) := by decide +kernel
theorem dX4_isDone_85 : decode cX4_isDone 85 = .ok (.getfield 34, 3) := by decide +kernel
theorem dX4_isDone_88 : decode cX4_isDone 88 = .ok (.iload_n 1, 1) := by decide +kernel
theorem dX4_isDone_89 : decode cX4_isDone 89 = .ok (.iaload, 1) := by decide +kernel
theorem dX4_isDone_90 : decode cX4_isDone 90 = .ok (.iload_n 1, 1) := by decide +kernel
theorem dX4_isDone_91 : decode cX4_isDone 91 = .ok (.invokevirtual 119, 3) := by decide +kernel
theorem dX4_isDone_94 : decode cX4_isDone 94 = .ok (.pop, 1) := by decide +kernel
theorem dX4_isDone_95 : decode cX4_isDone 95 = .ok (.iinc 2 1, 3) := by decide +kernel
theorem dX4_isDone_98 : decode cX4_isDone 98 = .ok (.goto (-42), 3) := by decide +kernel
theorem dX4_isDone_101 : decode cX4_isDone 101 = .ok (.return_, 1) := by decide +kernel
theorem dX4_gets_0 : decode cX4_gets 0 = .ok (.iconst 0, 1) := by decide +kernel
theorem dX4_gets_1 : decode cX4_gets 1 = .ok (.istore_n 2, 1) := by decide +kernel
theorem dX4_gets_2 : decode cX4_gets 2 = .ok (.iload_n 2, 1) := by decide +kernel
theorem dX4_gets_3 : decode cX4_gets 3 = .ok (.bipush 24, 2) := by decide +kernel
theorem dX4_gets_5 : decode cX4_gets 5 = .ok (.if_icmp .ge 41, 3) := by decide +kernel
theorem dX4_gets_8 : decode cX4_gets 8 = .ok (.aload_n 0, 1) := by decide +kernel
theorem dX4_gets_9 : decode cX4_gets 9 = .ok (.getfield 74, 3) := by decide +kernel
theorem dX4_gets_12 : decode cX4_gets 12 = .ok (.bipush 24, 2) := by decide +kernel
theorem dX4_gets_14 : decode cX4_gets 14 = .ok (.iload_n 1, 1) := by decide +kernel
theorem dX4_gets_15 : decode cX4_gets 15 = .ok (.imul, 1) := by decide +kernel
theorem dX4_gets_16 : decode cX4_gets 16 = .ok (.iload_n 2, 1) := by decide +kernel
theorem dX4_gets_17 : decode cX4_gets 17 = .ok (.iadd, 1) := by decide +kernel
theorem dX4_gets_18 : decode cX4_gets 18 = .ok (.iaload, 1) := by decide +kernel
theorem dX4_gets_19 : decode cX4_gets 19 = .ok (.iconst 3, 1) := by decide +kernel
theorem dX4_gets_20 : decode cX4_gets 20 = .ok (.if_icmp .ne 20, 3) := by decide +kernel
theorem dX4_gets_23 : decode cX4_gets 23 = .ok (.aload_n 0, 1) := by decide +kernel
theorem dX4_gets_24 : decode cX4_gets 24 = .ok (.getfield 9, 3) := by decide +kernel
theorem dX4_gets_27 : decode cX4_gets 27 = .ok (.iload_n 2, 1) := by decide +kernel
theorem dX4_gets_28 : decode cX4_gets 28 = .ok (.aload_n 0, 1) := by decide +kernel
theorem dX4_gets_29 : decode cX4_gets 29 = .ok (.getfield 77, 3) := by decide +kernel
theorem dX4_gets_32 : decode cX4_gets 32 = .ok (.bipush 24, 2) := by decide +kernel
theorem dX4_gets_34 : decode cX4_gets 34 = .ok (.iload_n 1, 1) := by decide +kernel
theorem dX4_gets_35 : decode cX4_gets 35 = .ok (.imul, 1) := by decide +kernel
theorem dX4_gets_36 : decode cX4_gets 36 = .ok (.iload_n 2, 1) := by decide +kernel
theorem dX4_gets_37 : decode cX4_gets 37 = .ok (.iadd, 1) := by decide +kernel
theorem dX4_gets_38 : decode cX4_gets 38 = .ok (.iaload, 1) := by decide +kernel
theorem dX4_gets_39 : decode cX4_gets 39 = .ok (.iastore, 1) := by decide +kernel
theorem dX4_gets_40 : decode cX4_gets 40 = .ok (.iinc 2 1, 3) := by decide +kernel
theorem dX4_gets_43 : decode cX4_gets 43 = .ok (.goto (-41), 3) := by decide +kernel
theorem dX4_gets_46 : decode cX4_gets 46 = .ok (.iconst 0, 1) := by decide +kernel
theorem dX4_gets_47 : decode cX4_gets 47 = .ok (.istore_n 2, 1) := by decide +kernel
theorem dX4_gets_48 : decode cX4_gets 48 = .ok (.iload_n 2, 1) := by decide +kernel
theorem dX4_gets_49 : decode cX4_gets 49 = .ok (.bipush 8, 2) := by decide +kernel
theorem dX4_gets_51 : decode cX4_gets 51 = .ok (.if_icmp .ge 29, 3) := by decide +kernel
theorem dX4_gets_54 : decode cX4_gets 54 = .ok (.aload_n 0, 1) := by decide +kernel
theorem dX4_gets_55 : decode cX4_gets 55 = .ok (.getfield 13, 3) := by decide +kernel
theorem dX4_gets_58 : decode cX4_gets 58 = .ok (.iload_n 2, 1) := by decide +kernel
theorem dX4_gets_59 : decode cX4_gets 59 = .ok (.dup2, 1) := by decide +kernel
theorem dX4_gets_60 : decode cX4_gets 60 = .ok (.iaload, 1) := by decide +kernel
theorem dX4_gets_61 : decode cX4_gets 61 = .ok (.aload_n 0, 1) := by decide +kernel
theorem dX4_gets_62 : decode cX4_gets 62 = .ok (.getfield 80, 3) := by decide +kernel
theorem dX4_gets_65 : decode cX4_gets 65 = .ok (.bipush 8, 2) := by decide +kernel
theorem dX4_gets_67 : decode cX4_gets 67 = .ok (.iload_n 1, 1) := by decide +kernel
theorem dX4_gets_68 : decode cX4_gets 68 = .ok (.imul, 1) := by decide +kernel
theorem dX4_gets_69 : decode cX4_gets 69 = .ok (.iload_n 2, 1) := by decide +kernel
theorem dX4_gets_70 : decode cX4_gets 70 = .ok (.iadd, 1) := by decide +kernel
theorem dX4_gets_71 : decode cX4_gets 71 = .ok (.iaload, 1) := by decide +kernel
theorem dX4_gets_72 : decode cX4_gets 72 = .ok (.iadd, 1) := by decide +kernel
theorem dX4_gets_73 : decode cX4_gets 73 = .ok (.iastore, 1) := by decide +kernel
theorem dX4_gets_74 : decode cX4_gets 74 = .ok (.iinc 2 1, 3) := by decide +kernel
theorem dX4_gets_77 : decode cX4_gets 77 = .ok (.goto (-29), 3) := by decide +kernel
theorem dX4_gets_80 : decode cX4_gets 80 = .ok (.return_, 1) := by decide +kernel
theorem dX4_isAhead_0 : decode cX4_isAhead 0 = .ok (.aload_n 0, 1) := by decide +kernel
theorem dX4_isAhead_1 : decode cX4_isAhead 1 = .ok (.getfield 34, 3) := by decide +kernel
theorem dX4_isAhead_4 : decode cX4_isAhead 4 = .ok (.iload_n 1, 1) := by decide +kernel
theorem dX4_isAhead_5 : decode cX4_isAhead 5 = .ok (.iaload, 1) := by decide +kernel
theorem dX4_isAhead_6 : decode cX4_isAhead 6 = .ok (.aload_n 0, 1) := by decide +kernel
theorem dX4_isAhead_7 : decode cX4_isAhead 7 = .ok (.getfield 34, 3) := by decide +kernel
theorem dX4_isAhead_10 : decode cX4_isAhead 10 = .ok (.iload_n 2, 1) := by decide +kernel
theorem dX4_isAhead_11 : decode cX4_isAhead 11 = .ok (.iaload, 1) := by decide +kernel
theorem dX4_isAhead_12 : decode cX4_isAhead 12 = .ok (.if_icmp .lt 23, 3) := by decide +kernel
theorem dX4_isAhead_15 : decode cX4_isAhead 15 = .ok (.aload_n 0, 1) := by decide +kernel
theorem dX4_isAhead_16 : decode cX4_isAhead 16 = .ok (.getfield 34, 3) := by decide +kernel
theorem dX4_isAhead_19 : decode cX4_isAhead 19 = .ok (.iload_n 1, 1) := by decide +kernel
theorem dX4_isAhead_20 : decode cX4_isAhead 20 = .ok (.iaload, 1) := by decide +kernel
theorem dX4_isAhead_21 : decode cX4_isAhead 21 = .ok (.aload_n 0, 1) := by decide +kernel
theorem dX4_isAhead_22 : decode cX4_isAhead 22 = .ok (.getfield 34, 3) := by decide +kernel
theorem dX4_isAhead_25 : decode cX4_isAhead 25 = .ok (.iload_n 2, 1) := by decide +kernel
theorem dX4_isAhead_26 : decode cX4_isAhead 26 = .ok (.iaload, 1) := by decide +kernel
theorem dX4_isAhead_27 : decode cX4_isAhead 27 = .ok (.if_icmp .ne 12, 3) := by decide +kernel
theorem dX4_isAhead_30 : decode cX4_isAhead 30 = .ok (.iload_n 1, 1) := by decide +kernel
theorem dX4_isAhead_31 : decode cX4_isAhead 31 = .ok (.iload_n 2, 1) := by decide +kernel
theorem dX4_isAhead_32 : decode cX4_isAhead 32 = .ok (.if_icmp .ge 7, 3) := by decide +kernel
theorem dX4_isAhead_35 : decode cX4_isAhead 35 = .ok (.iconst 1, 1) := by decide +kernel
theorem dX4_isAhead_36 : decode cX4_isAhead 36 = .ok (.goto 4, 3) := by decide +kernel
theorem dX4_isAhead_39 : decode cX4_isAhead 39 = .ok (.iconst 0, 1) := by decide +kernel
theorem dX4_isAhead_40 : decode cX4_isAhead 40 = .ok (.ireturn, 1) := by decide +kernel
set_option maxRecDepth 20000 in
theorem ggX4_sorts_X4_isAhead : GoodIn wsX4_sorts wsX4_isAhead := goodIn_r _ [8, 9, 10, 11, 12, 13, 14, 15, 16, 17, 18, 19, 20, 21, 22, 23, 24, 25, 26, 27, 28, 29, 30, 31, 32, 33, 34, 35, 36, 37, 38, 39, 40, 41, 42, 43, 44, 45, 46, 47, 48] (by decide +kernel) (by decide +kernel)
set_option maxRecDepth 20000 in
theorem gX4_sorts_X4_isAhead : GoodIn wsX4_sorts (wsV RX4 174 RX4 yX4_isAhead wsX4_isAhead) := goodIn_app (goodIn_of _ (by decide +kernel)) ggX4_sorts_X4_isAhead
theorem dX4_sorts_0 : decode cX4_sorts 0 = .ok (.iconst 0, 1) := by decide +kernel
theorem dX4_sorts_1 : decode cX4_sorts 1 = .ok (.istore_n 2, 1) := by decide +kernel
theorem dX4_sorts_2 : decode cX4_sorts 2 = .ok (.iconst 0, 1) := by decide +kernel
theorem dX4_sorts_3 : decode cX4_sorts 3 = .ok (.istore_n 3, 1) := by decide +kernel
theorem dX4_sorts_4 : decode cX4_sorts 4 = .ok (.iload_n 3, 1) := by decide +kernel
theorem dX4_sorts_5 : decode cX4_sorts 5 = .ok (.aload_n 0, 1) := by decide +kernel
theorem dX4_sorts_6 : decode cX4_sorts 6 = .ok (.getfield 111, 3) := by decide +kernel
theorem dX4_sorts_9 : decode cX4_sorts 9 = .ok (.if_icmp .ge 80, 3) := by decide +kernel
theorem dX4_sorts_12 : decode cX4_sorts 12 = .ok (.aload_n 0, 1) := by decide +kernel
theorem dX4_sorts_13 : decode cX4_sorts 13 = .ok (.getfield 37, 3) := by decide +kernel
theorem dX4_sorts_16 : decode cX4_sorts 16 = .ok (.iload_n 3, 1) := by decide +kernel
theorem dX4_sorts_17 : decode cX4_sorts 17 = .ok (.iaload, 1) := by decide +kernel
theorem dX4_sorts_18 : decode cX4_sorts 18 = .ok (.iload_n 1, 1) := by decide +kernel
theorem dX4_sorts_19 : decode cX4_sorts 19 = .ok (.if_icmp .eq 6, 3) := by decide +kernel
theorem dX4_sorts_22 : decode cX4_sorts 22 = .ok (.goto 61, 3) := by decide +kernel
theorem dX4_sorts_25 : decode cX4_sorts 25 = .ok (.iload_n 2, 1) := by decide +kernel
theorem dX4_sorts_26 : decode cX4_sorts 26 = .ok (.istore 4, 2) := by decide +kernel
theorem dX4_sorts_28 : decode cX4_sorts 28 = .ok (.iload 4, 2) := by decide +kernel
theorem dX4_sorts_30 : decode cX4_sorts 30 = .ok (.ifCond .le 42, 3) := by decide +kernel
theorem dX4_sorts_33 : decode cX4_sorts 33 = .ok (.aload_n 0, 1) := by decide +kernel
theorem dX4_sorts_34 : decode cX4_sorts 34 = .ok (.iload_n 3, 1) := by decide +kernel
theorem dX4_sorts_35 : decode cX4_sorts 35 = .ok (.aload_n 0, 1) := by decide +kernel
theorem dX4_sorts_36 : decode cX4_sorts 36 = .ok (.getfield 98, 3) := by decide +kernel
theorem dX4_sorts_39 : decode cX4_sorts 39 = .ok (.iload 4, 2) := by decide +kernel
theorem dX4_sorts_41 : decode cX4_sorts 41 = .ok (.iconst 1, 1) := by decide +kernel
theorem dX4_sorts_42 : decode cX4_sorts 42 = .ok (.isub, 1) := by decide +kernel
theorem dX4_sorts_43 : decode cX4_sorts 43 = .ok (.iaload, 1) := by decide +kernel
theorem dX4_sorts_44 : decode cX4_sorts 44 = .ok (.invokevirtual 174, 3) := by decide +kernel
theorem dX4_sorts_47 : decode cX4_sorts 47 = .ok (.ifCond .eq 25, 3) := by decide +kernel
theorem dX4_sorts_50 : decode cX4_sorts 50 = .ok (.aload_n 0, 1) := by decide +kernel
theorem dX4_sorts_51 : decode cX4_sorts 51 = .ok (.getfield 98, 3) := by decide +kernel
theorem dX4_sorts_54 : decode cX4_sorts 54 = .ok (.iload 4, 2) := by decide +kernel
theorem dX4_sorts_56 : decode cX4_sorts 56 = .ok (.aload_n 0, 1) := by decide +kernel
theorem dX4_sorts_57 : decode cX4_sorts 57 = .ok (.getfield 98, 3) := by decide +kernel
theorem dX4_sorts_60 : decode cX4_sorts 60 = .ok (.iload 4, 2) := by decide +kernel
theorem dX4_sorts_62 : decode cX4_sorts 62 = .ok (.iconst 1, 1) := by decide +kernel
theorem dX4_sorts_63 : decode cX4_sorts 63 = .ok (.isub, 1) := by decide +kernel
theorem dX4_sorts_64 : decode cX4_sorts 64 = .ok (.iaload, 1) := by decide +kernel
theorem dX4_sorts_65 : decode cX4_sorts 65 = .ok (.iastore, 1) := by decide +kernel
theorem dX4_sorts_66 : decode cX4_sorts 66 = .ok (.iinc 4 (-1), 3) := by decide +kernel
theorem dX4_sorts_69 : decode cX4_sorts 69 = .ok (.goto (-41), 3) := by decide +kernel
theorem dX4_sorts_72 : decode cX4_sorts 72 = .ok (.aload_n 0, 1) := by decide +kernel
theorem dX4_sorts_73 : decode cX4_sorts 73 = .ok (.getfield 98, 3) := by decide +kernel
theorem dX4_sorts_76 : decode cX4_sorts 76 = .ok (.iload 4, 2) := by decide +kernel
theorem dX4_sorts_78 : decode cX4_sorts 78 = .ok (.iload_n 3, 1) := by decide +kernel
theorem dX4_sorts_79 : decode cX4_sorts 79 = .ok (.iastore, 1) := by decide +kernel
theorem dX4_sorts_80 : decode cX4_sorts 80 = .ok (.iinc 2 1, 3) := by decide +kernel
theorem dX4_sorts_83 : decode cX4_sorts 83 = .ok (.iinc 3 1, 3) := by decide +kernel
theorem dX4_sorts_86 : decode cX4_sorts 86 = .ok (.goto (-82), 3) := by decide +kernel
theorem dX4_sorts_89 : decode cX4_sorts 89 = .ok (.iload_n 2, 1) := by decide +kernel
theorem dX4_sorts_90 : decode cX4_sorts 90 = .ok (.ireturn, 1) := by decide +kernel
set_option maxRecDepth 20000 in
theorem ggX4_waitsFor_X4_stepOf : GoodIn wsX4_waitsFor wsX4_stepOf := goodIn_r _ [7, 8, 9, 15, 16, 17, 18, 19, 20, 21, 22, 23, 24, 25, 26, 27, 28, 29, 30, 31, 32, 33, 34, 35, 36, 37, 38, 39, 40, 41, 42, 43, 44, 45, 46, 47, 48, 49, 50, 51, 52, 53] (by decide +kernel) (by decide +kernel)
set_option maxRecDepth 20000 in
theorem gX4_waitsFor_X4_stepOf : GoodIn wsX4_waitsFor (wsV RX4 137 RX4 yX4_stepOf wsX4_stepOf) := goodIn_app (goodIn_of _ (by decide +kernel)) ggX4_waitsFor_X4_stepOf
set_option maxRecDepth 20000 in
theorem ggX4_waitsFor_X4_bars : GoodIn wsX4_waitsFor wsX4_bars := goodIn_r _ [13, 1, 14, 15, 16, 17, 18, 19, 20, 21, 22, 23, 24, 25, 26, 27, 28, 29, 30, 31, 32, 33, 34, 35, 36, 37, 38, 39, 40, 41, 42, 43, 44, 45, 46, 47, 48, 49, 50, 51, 52, 53] (by decide +kernel) (by decide +kernel)
set_option maxRecDepth 20000 in
theorem gX4_waitsFor_X4_bars : GoodIn wsX4_waitsFor (wsV RX4 133 RX4 yX4_bars wsX4_bars) := goodIn_app (goodIn_of _ (by decide +kernel)) ggX4_waitsFor_X4_bars
theorem dX4_waitsFor_0 : decode cX4_waitsFor 0 = .ok (.aload_n 0, 1) := by decide +kernel
theorem dX4_waitsFor_1 : decode cX4_waitsFor 1 = .ok (.getfield 37, 3) := by decide +kernel
theorem dX4_waitsFor_4 : decode cX4_waitsFor 4 = .ok (.iload_n 1, 1) := by decide +kernel
theorem dX4_waitsFor_5 : decode cX4_waitsFor 5 = .ok (.iaload, 1) := by decide +kernel
theorem dX4_waitsFor_6 : decode cX4_waitsFor 6 = .ok (.iconst 1, 1) := by decide +kernel
theorem dX4_waitsFor_7 : decode cX4_waitsFor 7 = .ok (.if_icmp .ne 12, 3) := by decide +kernel
theorem dX4_waitsFor_10 : decode cX4_waitsFor 10 = .ok (.aload_n 0, 1) := by decide +kernel
theorem dX4_waitsFor_11 : decode cX4_waitsFor 11 = .ok (.getfield 52, 3) := by decide +kernel
theorem dX4_waitsFor_14 : decode cX4_waitsFor 14 = .ok (.iload_n 1, 1) := by decide +kernel
theorem dX4_waitsFor_15 : decode cX4_waitsFor 15 = .ok (.baload, 1) := by decide +kernel
theorem dX4_waitsFor_16 : decode cX4_waitsFor 16 = .ok (.ifCond .ne 5, 3) := by decide +kernel
theorem dX4_waitsFor_19 : decode cX4_waitsFor 19 = .ok (.iconst 0, 1) := by decide +kernel
theorem dX4_waitsFor_20 : decode cX4_waitsFor 20 = .ok (.ireturn, 1) := by decide +kernel
theorem dX4_waitsFor_21 : decode cX4_waitsFor 21 = .ok (.aload_n 0, 1) := by decide +kernel
theorem dX4_waitsFor_22 : decode cX4_waitsFor 22 = .ok (.iload_n 1, 1) := by decide +kernel
theorem dX4_waitsFor_23 : decode cX4_waitsFor 23 = .ok (.invokevirtual 137, 3) := by decide +kernel
theorem dX4_waitsFor_26 : decode cX4_waitsFor 26 = .ok (.sipush 10000, 3) := by decide +kernel
theorem dX4_waitsFor_29 : decode cX4_waitsFor 29 = .ok (.idiv, 1) := by decide +kernel
theorem dX4_waitsFor_30 : decode cX4_waitsFor 30 = .ok (.istore_n 3, 1) := by decide +kernel
theorem dX4_waitsFor_31 : decode cX4_waitsFor 31 = .ok (.aload_n 0, 1) := by decide +kernel
theorem dX4_waitsFor_32 : decode cX4_waitsFor 32 = .ok (.iload_n 1, 1) := by decide +kernel
theorem dX4_waitsFor_33 : decode cX4_waitsFor 33 = .ok (.invokevirtual 137, 3) := by decide +kernel
theorem dX4_waitsFor_36 : decode cX4_waitsFor 36 = .ok (.bipush 100, 2) := by decide +kernel
theorem dX4_waitsFor_38 : decode cX4_waitsFor 38 = .ok (.idiv, 1) := by decide +kernel
theorem dX4_waitsFor_39 : decode cX4_waitsFor 39 = .ok (.bipush 100, 2) := by decide +kernel
theorem dX4_waitsFor_41 : decode cX4_waitsFor 41 = .ok (.irem, 1) := by decide +kernel
theorem dX4_waitsFor_42 : decode cX4_waitsFor 42 = .ok (.istore 4, 2) := by decide +kernel
theorem dX4_waitsFor_44 : decode cX4_waitsFor 44 = .ok (.iload_n 3, 1) := by decide +kernel
theorem dX4_waitsFor_45 : decode cX4_waitsFor 45 = .ok (.bipush 6, 2) := by decide +kernel
theorem dX4_waitsFor_47 : decode cX4_waitsFor 47 = .ok (.if_icmp .eq 28, 3) := by decide +kernel
theorem dX4_waitsFor_50 : decode cX4_waitsFor 50 = .ok (.aload_n 0, 1) := by decide +kernel
theorem dX4_waitsFor_51 : decode cX4_waitsFor 51 = .ok (.iload_n 2, 1) := by decide +kernel
theorem dX4_waitsFor_52 : decode cX4_waitsFor 52 = .ok (.iload_n 1, 1) := by decide +kernel
theorem dX4_waitsFor_53 : decode cX4_waitsFor 53 = .ok (.iload 4, 2) := by decide +kernel
theorem dX4_waitsFor_55 : decode cX4_waitsFor 55 = .ok (.iload_n 3, 1) := by decide +kernel
theorem dX4_waitsFor_56 : decode cX4_waitsFor 56 = .ok (.iconst 3, 1) := by decide +kernel
theorem dX4_waitsFor_57 : decode cX4_waitsFor 57 = .ok (.if_icmp .ne 7, 3) := by decide +kernel
theorem dX4_waitsFor_60 : decode cX4_waitsFor 60 = .ok (.iconst 1, 1) := by decide +kernel
theorem dX4_waitsFor_61 : decode cX4_waitsFor 61 = .ok (.goto 4, 3) := by decide +kernel
theorem dX4_waitsFor_64 : decode cX4_waitsFor 64 = .ok (.iconst 0, 1) := by decide +kernel
theorem dX4_waitsFor_65 : decode cX4_waitsFor 65 = .ok (.invokevirtual 133, 3) := by decide +kernel
theorem dX4_waitsFor_68 : decode cX4_waitsFor 68 = .ok (.ifCond .eq 7, 3) := by decide +kernel
theorem dX4_waitsFor_71 : decode cX4_waitsFor 71 = .ok (.iconst 1, 1) := by decide +kernel
theorem dX4_waitsFor_72 : decode cX4_waitsFor 72 = .ok (.goto 4, 3) := by decide +kernel
theorem dX4_waitsFor_75 : decode cX4_waitsFor 75 = .ok (.iconst 0, 1) := by decide +kernel
theorem dX4_waitsFor_76 : decode cX4_waitsFor 76 = .ok (.ireturn, 1) := by decide +kernel
set_option maxRecDepth 20000 in
theorem ggX4_isInRing_X4_waitsFor : GoodIn wsX4_isInRing wsX4_waitsFor := goodIn_r _ [9, 10, 4, 11, 12, 13, 8, 14, 15, 16, 17, 18, 19, 20, 21, 22, 23, 24, 25, 26, 27, 28, 29, 30, 31, 32, 33, 34, 35, 36, 37, 38, 39, 40, 41, 42, 43, 44, 45, 46, 47, 48, 49, 50, 51, 52, 53, 54, 55, 56, 57, 58, 59, 60] (by decide +kernel) (by decide +kernel)
set_option maxRecDepth 20000 in
theorem gX4_isInRing_X4_waitsFor : GoodIn wsX4_isInRing (wsV RX4 178 RX4 yX4_waitsFor wsX4_waitsFor) := goodIn_app (goodIn_of _ (by decide +kernel)) ggX4_isInRing_X4_waitsFor
theorem dX4_isInRing_0 : decode cX4_isInRing 0 = .ok (.iconst 0, 1) := by decide +kernel
theorem dX4_isInRing_1 : decode cX4_isInRing 1 = .ok (.istore_n 2, 1) := by decide +kernel
theorem dX4_isInRing_2 : decode cX4_isInRing 2 = .ok (.iload_n 2, 1) := by decide +kernel
theorem dX4_isInRing_3 : decode cX4_isInRing 3 = .ok (.aload_n 0, 1) := by decide +kernel
theorem dX4_isInRing_4 : decode cX4_isInRing 4 = .ok (.getfield 111, 3) := by decide +kernel
theorem dX4_isInRing_7 : decode cX4_isInRing 7 = .ok (.if_icmp .ge 16, 3) := by decide +kernel
theorem dX4_isInRing_10 : decode cX4_isInRing 10 = .ok (.aload_n 0, 1) := by decide +kernel
theorem dX4_isInRing_11 : decode cX4_isInRing 11 = .ok (.getfield 101, 3) := by decide +kernel
theorem dX4_isInRing_14 : decode cX4_isInRing 14 = .ok (.iload_n 2, 1) := by decide +kernel
theorem dX4_isInRing_15 : decode cX4_isInRing 15 = .ok (.iconst 0, 1) := by decide +kernel
theorem dX4_isInRing_16 : decode cX4_isInRing 16 = .ok (.bastore, 1) := by decide +kernel
theorem dX4_isInRing_17 : decode cX4_isInRing 17 = .ok (.iinc 2 1, 3) := by decide +kernel
theorem dX4_isInRing_20 : decode cX4_isInRing 20 = .ok (.goto (-18), 3) := by decide +kernel
theorem dX4_isInRing_23 : decode cX4_isInRing 23 = .ok (.aload_n 0, 1) := by decide +kernel
theorem dX4_isInRing_24 : decode cX4_isInRing 24 = .ok (.getfield 104, 3) := by decide +kernel
theorem dX4_isInRing_27 : decode cX4_isInRing 27 = .ok (.iconst 0, 1) := by decide +kernel
theorem dX4_isInRing_28 : decode cX4_isInRing 28 = .ok (.iload_n 1, 1) := by decide +kernel
theorem dX4_isInRing_29 : decode cX4_isInRing 29 = .ok (.iastore, 1) := by decide +kernel
theorem dX4_isInRing_30 : decode cX4_isInRing 30 = .ok (.iconst 1, 1) := by decide +kernel
theorem dX4_isInRing_31 : decode cX4_isInRing 31 = .ok (.istore_n 2, 1) := by decide +kernel
theorem dX4_isInRing_32 : decode cX4_isInRing 32 = .ok (.iconst 0, 1) := by decide +kernel
theorem dX4_isInRing_33 : decode cX4_isInRing 33 = .ok (.istore_n 3, 1) := by decide +kernel
theorem dX4_isInRing_34 : decode cX4_isInRing 34 = .ok (.iload_n 3, 1) := by decide +kernel
theorem dX4_isInRing_35 : decode cX4_isInRing 35 = .ok (.iload_n 2, 1) := by decide +kernel
theorem dX4_isInRing_36 : decode cX4_isInRing 36 = .ok (.if_icmp .ge 88, 3) := by decide +kernel
theorem dX4_isInRing_39 : decode cX4_isInRing 39 = .ok (.iconst 0, 1) := by decide +kernel
theorem dX4_isInRing_40 : decode cX4_isInRing 40 = .ok (.istore 4, 2) := by decide +kernel
theorem dX4_isInRing_42 : decode cX4_isInRing 42 = .ok (.iload 4, 2) := by decide +kernel
theorem dX4_isInRing_44 : decode cX4_isInRing 44 = .ok (.aload_n 0, 1) := by decide +kernel
theorem dX4_isInRing_45 : decode cX4_isInRing 45 = .ok (.getfield 111, 3) := by decide +kernel
theorem dX4_isInRing_48 : decode cX4_isInRing 48 = .ok (.if_icmp .ge 70, 3) := by decide +kernel
theorem dX4_isInRing_51 : decode cX4_isInRing 51 = .ok (.aload_n 0, 1) := by decide +kernel
theorem dX4_isInRing_52 : decode cX4_isInRing 52 = .ok (.getfield 52, 3) := by decide +kernel
theorem dX4_isInRing_55 : decode cX4_isInRing 55 = .ok (.aload_n 0, 1) := by decide +kernel
theorem dX4_isInRing_56 : decode cX4_isInRing 56 = .ok (.getfield 104, 3) := by decide +kernel
theorem dX4_isInRing_59 : decode cX4_isInRing 59 = .ok (.iload_n 3, 1) := by decide +kernel
theorem dX4_isInRing_60 : decode cX4_isInRing 60 = .ok (.iaload, 1) := by decide +kernel
theorem dX4_isInRing_61 : decode cX4_isInRing 61 = .ok (.baload, 1) := by decide +kernel
theorem dX4_isInRing_62 : decode cX4_isInRing 62 = .ok (.ifCond .eq 56, 3) := by decide +kernel
theorem dX4_isInRing_65 : decode cX4_isInRing 65 = .ok (.aload_n 0, 1) := by decide +kernel
theorem dX4_isInRing_66 : decode cX4_isInRing 66 = .ok (.getfield 101, 3) := by decide +kernel
theorem dX4_isInRing_69 : decode cX4_isInRing 69 = .ok (.iload 4, 2) := by decide +kernel
theorem dX4_isInRing_71 : decode cX4_isInRing 71 = .ok (.baload, 1) := by decide +kernel
theorem dX4_isInRing_72 : decode cX4_isInRing 72 = .ok (.ifCond .ne 40, 3) := by decide +kernel
theorem dX4_isInRing_75 : decode cX4_isInRing 75 = .ok (.aload_n 0, 1) := by decide +kernel
theorem dX4_isInRing_76 : decode cX4_isInRing 76 = .ok (.aload_n 0, 1) := by decide +kernel
theorem dX4_isInRing_77 : decode cX4_isInRing 77 = .ok (.getfield 104, 3) := by decide +kernel
theorem dX4_isInRing_80 : decode cX4_isInRing 80 = .ok (.iload_n 3, 1) := by decide +kernel
theorem dX4_isInRing_81 : decode cX4_isInRing 81 = .ok (.iaload, 1) := by decide +kernel
theorem dX4_isInRing_82 : decode cX4_isInRing 82 = .ok (.iload 4, 2) := by decide +kernel
theorem dX4_isInRing_84 : decode cX4_isInRing 84 = .ok (.invokevirtual 178, 3) := by decide +kernel
theorem dX4_isInRing_87 : decode cX4_isInRing 87 = .ok (.ifCond .ne 6, 3) := by decide +kernel
theorem dX4_isInRing_90 : decode cX4_isInRing 90 = .ok (.goto 22, 3) := by decide +kernel
theorem dX4_isInRing_93 : decode cX4_isInRing 93 = .ok (.aload_n 0, 1) := by decide +kernel
theorem dX4_isInRing_94 : decode cX4_isInRing 94 = .ok (.getfield 101, 3) := by decide +kernel
theorem dX4_isInRing_97 : decode cX4_isInRing 97 = .ok (.iload 4, 2) := by decide +kernel
theorem dX4_isInRing_99 : decode cX4_isInRing 99 = .ok (.iconst 1, 1) := by decide +kernel
theorem dX4_isInRing_100 : decode cX4_isInRing 100 = .ok (.bastore, 1) := by decide +kernel
theorem dX4_isInRing_101 : decode cX4_isInRing 101 = .ok (.aload_n 0, 1) := by decide +kernel
theorem dX4_isInRing_102 : decode cX4_isInRing 102 = .ok (.getfield 104, 3) := by decide +kernel
theorem dX4_isInRing_105 : decode cX4_isInRing 105 = .ok (.iload_n 2, 1) := by decide +kernel
theorem dX4_isInRing_106 : decode cX4_isInRing 106 = .ok (.iload 4, 2) := by decide +kernel
theorem dX4_isInRing_108 : decode cX4_isInRing 108 = .ok (.iastore, 1) := by decide +kernel
theorem dX4_isInRing_109 : decode cX4_isInRing 109 = .ok (.iinc 2 1, 3) := by decide +kernel
theorem dX4_isInRing_112 : decode cX4_isInRing 112 = .ok (.iinc 4 1, 3) := by decide +kernel
theorem dX4_isInRing_115 : decode cX4_isInRing 115 = .ok (.goto (-73), 3) := by decide +kernel
theorem dX4_isInRing_118 : decode cX4_isInRing 118 = .ok (.iinc 3 1, 3) := by decide +kernel
theorem dX4_isInRing_121 : decode cX4_isInRing 121 = .ok (.goto (-87), 3) := by decide +kernel
theorem dX4_isInRing_124 : decode cX4_isInRing 124 = .ok (.aload_n 0, 1) := by decide +kernel
theorem dX4_isInRing_125 : decode cX4_isInRing 125 = .ok (.getfield 101, 3) := by decide +kernel
theorem dX4_isInRing_128 : decode cX4_isInRing 128 = .ok (.iload_n 1, 1) := by decide +kernel
theorem dX4_isInRing_129 : decode cX4_isInRing 129 = .ok (.baload, 1) := by decide +kernel
theorem dX4_isInRing_130 : decode cX4_isInRing 130 = .ok (.ireturn, 1) := by decide +kernel
set_option maxRecDepth 20000 in
theorem ggX4_breaks_X4_isInRing : GoodIn wsX4_breaks wsX4_isInRing := goodIn_r _ [11, 1, 12, 13, 3, 14, 15, 16, 10, 17, 2, 18, 19, 20, 21, 22, 23, 24, 25, 26, 27, 28, 45, 46, 47, 48, 49, 50, 51, 52, 53, 54, 55, 56, 57, 58, 59, 60, 61, 62, 63, 64, 65, 66, 67, 68, 69, 70, 71, 72, 73, 74, 75, 76, 77, 78, 79, 80, 81, 82, 83] (by decide +kernel) (by decide +kernel)
set_option maxRecDepth 20000 in
theorem gX4_breaks_X4_isInRing : GoodIn wsX4_breaks (wsV RX4 181 RX4 yX4_isInRing wsX4_isInRing) := goodIn_app (goodIn_of _ (by decide +kernel)) ggX4_breaks_X4_isInRing
set_option maxRecDepth 20000 in
theorem ggX4_breaks_X4_logs : GoodIn wsX4_breaks wsX4_logs := goodIn_r _ [32, 33, 34, 35, 36, 45, 46, 47, 48, 49, 50, 51, 52, 53, 54, 55, 56, 57, 58, 59, 60, 61, 62, 63, 64, 65, 66, 67, 68, 69, 70, 71, 72, 73, 74, 75, 76, 77, 78, 79, 80, 81, 82, 83] (by decide +kernel) (by decide +kernel)
set_option maxRecDepth 20000 in
theorem gX4_breaks_X4_logs : GoodIn wsX4_breaks (wsV RX4 148 RX4 yX4_logs wsX4_logs) := goodIn_app (goodIn_of _ (by decide +kernel)) ggX4_breaks_X4_logs
set_option maxRecDepth 20000 in
theorem ggX4_breaks_X4_clears : GoodIn wsX4_breaks wsX4_clears := goodIn_r _ [40, 28, 41, 42, 43, 44, 23, 3, 45, 46, 47, 48, 49, 50, 51, 52, 53, 54, 55, 56, 57, 58, 59, 60, 61, 62, 63, 64, 65, 66, 67, 68, 69, 70, 71, 72, 73, 74, 75, 76, 77, 78, 79, 80, 81, 82, 83] (by decide +kernel) (by decide +kernel)
set_option maxRecDepth 20000 in
theorem gX4_breaks_X4_clears : GoodIn wsX4_breaks (wsV RX4 154 RX4 yX4_clears wsX4_clears) := goodIn_app (goodIn_of _ (by decide +kernel)) ggX4_breaks_X4_clears
theorem dX4_breaks_0 : decode cX4_breaks 0 = .ok (.iconst 0, 1) := by decide +kernel
theorem dX4_breaks_1 : decode cX4_breaks 1 = .ok (.istore_n 1, 1) := by decide +kernel
theorem dX4_breaks_2 : decode cX4_breaks 2 = .ok (.iload_n 1, 1) := by decide +kernel
theorem dX4_breaks_3 : decode cX4_breaks 3 = .ok (.iconst (-1), 1) := by decide +kernel
theorem dX4_breaks_4 : decode cX4_breaks 4 = .ok (.if_icmp .eq 120, 3) := by decide +kernel
theorem dX4_breaks_7 : decode cX4_breaks 7 = .ok (.iconst (-1), 1) := by decide +kernel
theorem dX4_breaks_8 : decode cX4_breaks 8 = .ok (.istore_n 1, 1) := by decide +kernel
theorem dX4_breaks_9 : decode cX4_breaks 9 = .ok (.iconst 0, 1) := by decide +kernel
theorem dX4_breaks_10 : decode cX4_breaks 10 = .ok (.istore_n 2, 1) := by decide +kernel
theorem dX4_breaks_11 : decode cX4_breaks 11 = .ok (.iload_n 2, 1) := by decide +kernel
theorem dX4_breaks_12 : decode cX4_breaks 12 = .ok (.aload_n 0, 1) := by decide +kernel
theorem dX4_breaks_13 : decode cX4_breaks 13 = .ok (.getfield 111, 3) := by decide +kernel
theorem dX4_breaks_16 : decode cX4_breaks 16 = .ok (.if_icmp .ge 58, 3) := by decide +kernel
theorem dX4_breaks_19 : decode cX4_breaks 19 = .ok (.aload_n 0, 1) := by decide +kernel
theorem dX4_breaks_20 : decode cX4_breaks 20 = .ok (.getfield 37, 3) := by decide +kernel
theorem dX4_breaks_23 : decode cX4_breaks 23 = .ok (.iload_n 2, 1) := by decide +kernel
theorem dX4_breaks_24 : decode cX4_breaks 24 = .ok (.iaload, 1) := by decide +kernel
theorem dX4_breaks_25 : decode cX4_breaks 25 = .ok (.iconst 1, 1) := by decide +kernel
theorem dX4_breaks_26 : decode cX4_breaks 26 = .ok (.if_icmp .ne 42, 3) := by decide +kernel
theorem dX4_breaks_29 : decode cX4_breaks 29 = .ok (.aload_n 0, 1) := by decide +kernel
theorem dX4_breaks_30 : decode cX4_breaks 30 = .ok (.getfield 52, 3) := by decide +kernel
theorem dX4_breaks_33 : decode cX4_breaks 33 = .ok (.iload_n 2, 1) := by decide +kernel
theorem dX4_breaks_34 : decode cX4_breaks 34 = .ok (.baload, 1) := by decide +kernel
theorem dX4_breaks_35 : decode cX4_breaks 35 = .ok (.ifCond .eq 33, 3) := by decide +kernel
theorem dX4_breaks_38 : decode cX4_breaks 38 = .ok (.aload_n 0, 1) := by decide +kernel
theorem dX4_breaks_39 : decode cX4_breaks 39 = .ok (.iload_n 2, 1) := by decide +kernel
theorem dX4_breaks_40 : decode cX4_breaks 40 = .ok (.invokevirtual 181, 3) := by decide +kernel
theorem dX4_breaks_43 : decode cX4_breaks 43 = .ok (.ifCond .eq 25, 3) := by decide +kernel
theorem dX4_breaks_46 : decode cX4_breaks 46 = .ok (.iload_n 1, 1) := by decide +kernel
theorem dX4_breaks_47 : decode cX4_breaks 47 = .ok (.iconst (-1), 1) := by decide +kernel
theorem dX4_breaks_48 : decode cX4_breaks 48 = .ok (.if_icmp .eq 18, 3) := by decide +kernel
theorem dX4_breaks_51 : decode cX4_breaks 51 = .ok (.aload_n 0, 1) := by decide +kernel
theorem dX4_breaks_52 : decode cX4_breaks 52 = .ok (.getfield 65, 3) := by decide +kernel
theorem dX4_breaks_55 : decode cX4_breaks 55 = .ok (.iload_n 2, 1) := by decide +kernel
theorem dX4_breaks_56 : decode cX4_breaks 56 = .ok (.iaload, 1) := by decide +kernel
theorem dX4_breaks_57 : decode cX4_breaks 57 = .ok (.aload_n 0, 1) := by decide +kernel
theorem dX4_breaks_58 : decode cX4_breaks 58 = .ok (.getfield 65, 3) := by decide +kernel
theorem dX4_breaks_61 : decode cX4_breaks 61 = .ok (.iload_n 1, 1) := by decide +kernel
theorem dX4_breaks_62 : decode cX4_breaks 62 = .ok (.iaload, 1) := by decide +kernel
theorem dX4_breaks_63 : decode cX4_breaks 63 = .ok (.if_icmp .lt 5, 3) := by decide +kernel
theorem dX4_breaks_66 : decode cX4_breaks 66 = .ok (.iload_n 2, 1) := by decide +kernel
theorem dX4_breaks_67 : decode cX4_breaks 67 = .ok (.istore_n 1, 1) := by decide +kernel
theorem dX4_breaks_68 : decode cX4_breaks 68 = .ok (.iinc 2 1, 3) := by decide +kernel
theorem dX4_breaks_71 : decode cX4_breaks 71 = .ok (.goto (-60), 3) := by decide +kernel
theorem dX4_breaks_74 : decode cX4_breaks 74 = .ok (.iload_n 1, 1) := by decide +kernel
theorem dX4_breaks_75 : decode cX4_breaks 75 = .ok (.iconst (-1), 1) := by decide +kernel
theorem dX4_breaks_76 : decode cX4_breaks 76 = .ok (.if_icmp .ne 6, 3) := by decide +kernel
theorem dX4_breaks_79 : decode cX4_breaks 79 = .ok (.goto (-77), 3) := by decide +kernel
theorem dX4_breaks_82 : decode cX4_breaks 82 = .ok (.aload_n 0, 1) := by decide +kernel
theorem dX4_breaks_83 : decode cX4_breaks 83 = .ok (.iconst 4, 1) := by decide +kernel
theorem dX4_breaks_84 : decode cX4_breaks 84 = .ok (.iload_n 1, 1) := by decide +kernel
theorem dX4_breaks_85 : decode cX4_breaks 85 = .ok (.iconst (-1), 1) := by decide +kernel
theorem dX4_breaks_86 : decode cX4_breaks 86 = .ok (.invokevirtual 148, 3) := by decide +kernel
theorem dX4_breaks_89 : decode cX4_breaks 89 = .ok (.aload_n 0, 1) := by decide +kernel
theorem dX4_breaks_90 : decode cX4_breaks 90 = .ok (.iload_n 1, 1) := by decide +kernel
theorem dX4_breaks_91 : decode cX4_breaks 91 = .ok (.invokevirtual 154, 3) := by decide +kernel
theorem dX4_breaks_94 : decode cX4_breaks 94 = .ok (.aload_n 0, 1) := by decide +kernel
theorem dX4_breaks_95 : decode cX4_breaks 95 = .ok (.getfield 37, 3) := by decide +kernel
theorem dX4_breaks_98 : decode cX4_breaks 98 = .ok (.iload_n 1, 1) := by decide +kernel
theorem dX4_breaks_99 : decode cX4_breaks 99 = .ok (.iconst 0, 1) := by decide +kernel
theorem dX4_breaks_100 : decode cX4_breaks 100 = .ok (.iastore, 1) := by decide +kernel
theorem dX4_breaks_101 : decode cX4_breaks 101 = .ok (.aload_n 0, 1) := by decide +kernel
theorem dX4_breaks_102 : decode cX4_breaks 102 = .ok (.getfield 59, 3) := by decide +kernel
theorem dX4_breaks_105 : decode cX4_breaks 105 = .ok (.iload_n 1, 1) := by decide +kernel
theorem dX4_breaks_106 : decode cX4_breaks 106 = .ok (.dup2, 1) := by decide +kernel
theorem dX4_breaks_107 : decode cX4_breaks 107 = .ok (.iaload, 1) := by decide +kernel
theorem dX4_breaks_108 : decode cX4_breaks 108 = .ok (.iconst 1, 1) := by decide +kernel
theorem dX4_breaks_109 : decode cX4_breaks 109 = .ok (.iadd, 1) := by decide +kernel
theorem dX4_breaks_110 : decode cX4_breaks 110 = .ok (.iastore, 1) := by decide +kernel
theorem dX4_breaks_111 : decode cX4_breaks 111 = .ok (.aload_n 0, 1) := by decide +kernel
theorem dX4_breaks_112 : decode cX4_breaks 112 = .ok (.dup, 1) := by decide +kernel
theorem dX4_breaks_113 : decode cX4_breaks 113 = .ok (.getfield 184, 3) := by decide +kernel
theorem dX4_breaks_116 : decode cX4_breaks 116 = .ok (.iconst 1, 1) := by decide +kernel
theorem dX4_breaks_117 : decode cX4_breaks 117 = .ok (.iadd, 1) := by decide +kernel
theorem dX4_breaks_118 : decode cX4_breaks 118 = .ok (.putfield 184, 3) := by decide +kernel
end
section
theorem dX4_breaks_121 : decode cX4_breaks 121 = .ok (.goto (-119), 3) := by decide +kernel
theorem dX4_breaks_124 : decode cX4_breaks 124 = .ok (.return_, 1) := by decide +kernel
set_option maxRecDepth 20000 in
theorem ggX4_begins_X4_sorts : GoodIn wsX4_begins wsX4_sorts := goodIn_r _ [17, 2, 3, 1, 18, 19, 20, 16, 21, 22, 41, 42, 43, 44, 45, 46, 47, 48, 49, 50, 51, 52, 53, 54, 55, 56, 57, 58, 59, 60, 61, 62, 63, 64, 65, 66, 67, 68, 69, 70, 71, 72, 73, 74, 75, 76, 77, 78, 79] (by decide +kernel) (by decide +kernel)
set_option maxRecDepth 20000 in
theorem gX4_begins_X4_sorts : GoodIn wsX4_begins (wsV RX4 187 RX4 yX4_sorts wsX4_sorts) := goodIn_app (goodIn_of _ (by decide +kernel)) ggX4_begins_X4_sorts
set_option maxRecDepth 20000 in
theorem ggX4_begins_X4_clears : GoodIn wsX4_begins wsX4_clears := goodIn_r _ [26, 27, 28, 29, 30, 31, 32, 33, 41, 42, 43, 44, 45, 46, 47, 48, 49, 50, 51, 52, 53, 54, 55, 56, 57, 58, 59, 60, 61, 62, 63, 64, 65, 66, 67, 68, 69, 70, 71, 72, 73, 74, 75, 76, 77, 78, 79] (by decide +kernel) (by decide +kernel)
set_option maxRecDepth 20000 in
theorem gX4_begins_X4_clears : GoodIn wsX4_begins (wsV RX4 154 RX4 yX4_clears wsX4_clears) := goodIn_app (goodIn_of _ (by decide +kernel)) ggX4_begins_X4_clears
set_option maxRecDepth 20000 in
theorem ggX4_begins_X4_logs : GoodIn wsX4_begins wsX4_logs := goodIn_r _ [37, 38, 39, 40, 9, 41, 42, 43, 44, 45, 46, 47, 48, 49, 50, 51, 52, 53, 54, 55, 56, 57, 58, 59, 60, 61, 62, 63, 64, 65, 66, 67, 68, 69, 70, 71, 72, 73, 74, 75, 76, 77, 78, 79] (by decide +kernel) (by decide +kernel)
set_option maxRecDepth 20000 in
theorem gX4_begins_X4_logs : GoodIn wsX4_begins (wsV RX4 148 RX4 yX4_logs wsX4_logs) := goodIn_app (goodIn_of _ (by decide +kernel)) ggX4_begins_X4_logs
theorem dX4_begins_0 : decode cX4_begins 0 = .ok (.aload_n 0, 1) := by decide +kernel
theorem dX4_begins_1 : decode cX4_begins 1 = .ok (.iconst 0, 1) := by decide +kernel
theorem dX4_begins_2 : decode cX4_begins 2 = .ok (.invokevirtual 187, 3) := by decide +kernel
theorem dX4_begins_5 : decode cX4_begins 5 = .ok (.istore_n 1, 1) := by decide +kernel
theorem dX4_begins_6 : decode cX4_begins 6 = .ok (.iconst 0, 1) := by decide +kernel
theorem dX4_begins_7 : decode cX4_begins 7 = .ok (.istore_n 2, 1) := by decide +kernel
theorem dX4_begins_8 : decode cX4_begins 8 = .ok (.iload_n 2, 1) := by decide +kernel
theorem dX4_begins_9 : decode cX4_begins 9 = .ok (.iload_n 1, 1) := by decide +kernel
theorem dX4_begins_10 : decode cX4_begins 10 = .ok (.if_icmp .ge 198, 3) := by decide +kernel
theorem dX4_begins_13 : decode cX4_begins 13 = .ok (.aload_n 0, 1) := by decide +kernel
theorem dX4_begins_14 : decode cX4_begins 14 = .ok (.getfield 98, 3) := by decide +kernel
theorem dX4_begins_17 : decode cX4_begins 17 = .ok (.iload_n 2, 1) := by decide +kernel
theorem dX4_begins_18 : decode cX4_begins 18 = .ok (.iaload, 1) := by decide +kernel
theorem dX4_begins_19 : decode cX4_begins 19 = .ok (.istore_n 3, 1) := by decide +kernel
theorem dX4_begins_20 : decode cX4_begins 20 = .ok (.iconst 0, 1) := by decide +kernel
theorem dX4_begins_21 : decode cX4_begins 21 = .ok (.istore 4, 2) := by decide +kernel
theorem dX4_begins_23 : decode cX4_begins 23 = .ok (.iconst 0, 1) := by decide +kernel
theorem dX4_begins_24 : decode cX4_begins 24 = .ok (.istore 5, 2) := by decide +kernel
theorem dX4_begins_26 : decode cX4_begins 26 = .ok (.iload 5, 2) := by decide +kernel
theorem dX4_begins_28 : decode cX4_begins 28 = .ok (.aload_n 0, 1) := by decide +kernel
theorem dX4_begins_29 : decode cX4_begins 29 = .ok (.getfield 111, 3) := by decide +kernel
theorem dX4_begins_32 : decode cX4_begins 32 = .ok (.if_icmp .ge 46, 3) := by decide +kernel
theorem dX4_begins_35 : decode cX4_begins 35 = .ok (.iload 4, 2) := by decide +kernel
theorem dX4_begins_37 : decode cX4_begins 37 = .ok (.aload_n 0, 1) := by decide +kernel
theorem dX4_begins_38 : decode cX4_begins 38 = .ok (.getfield 37, 3) := by decide +kernel
theorem dX4_begins_41 : decode cX4_begins 41 = .ok (.iload 5, 2) := by decide +kernel
theorem dX4_begins_43 : decode cX4_begins 43 = .ok (.iaload, 1) := by decide +kernel
theorem dX4_begins_44 : decode cX4_begins 44 = .ok (.iconst 1, 1) := by decide +kernel
theorem dX4_begins_45 : decode cX4_begins 45 = .ok (.if_icmp .ne 23, 3) := by decide +kernel
theorem dX4_begins_48 : decode cX4_begins 48 = .ok (.aload_n 0, 1) := by decide +kernel
theorem dX4_begins_49 : decode cX4_begins 49 = .ok (.getfield 31, 3) := by decide +kernel
theorem dX4_begins_52 : decode cX4_begins 52 = .ok (.iload 5, 2) := by decide +kernel
theorem dX4_begins_54 : decode cX4_begins 54 = .ok (.iaload, 1) := by decide +kernel
theorem dX4_begins_55 : decode cX4_begins 55 = .ok (.aload_n 0, 1) := by decide +kernel
theorem dX4_begins_56 : decode cX4_begins 56 = .ok (.getfield 31, 3) := by decide +kernel
theorem dX4_begins_59 : decode cX4_begins 59 = .ok (.iload_n 3, 1) := by decide +kernel
theorem dX4_begins_60 : decode cX4_begins 60 = .ok (.iaload, 1) := by decide +kernel
theorem dX4_begins_61 : decode cX4_begins 61 = .ok (.if_icmp .ne 7, 3) := by decide +kernel
theorem dX4_begins_64 : decode cX4_begins 64 = .ok (.iconst 1, 1) := by decide +kernel
theorem dX4_begins_65 : decode cX4_begins 65 = .ok (.goto 4, 3) := by decide +kernel
theorem dX4_begins_68 : decode cX4_begins 68 = .ok (.iconst 0, 1) := by decide +kernel
theorem dX4_begins_69 : decode cX4_begins 69 = .ok (.iadd, 1) := by decide +kernel
theorem dX4_begins_70 : decode cX4_begins 70 = .ok (.istore 4, 2) := by decide +kernel
theorem dX4_begins_72 : decode cX4_begins 72 = .ok (.iinc 5 1, 3) := by decide +kernel
theorem dX4_begins_75 : decode cX4_begins 75 = .ok (.goto (-49), 3) := by decide +kernel
theorem dX4_begins_78 : decode cX4_begins 78 = .ok (.iload 4, 2) := by decide +kernel
theorem dX4_begins_80 : decode cX4_begins 80 = .ok (.aload_n 0, 1) := by decide +kernel
theorem dX4_begins_81 : decode cX4_begins 81 = .ok (.getfield 19, 3) := by decide +kernel
theorem dX4_begins_84 : decode cX4_begins 84 = .ok (.aload_n 0, 1) := by decide +kernel
theorem dX4_begins_85 : decode cX4_begins 85 = .ok (.getfield 31, 3) := by decide +kernel
theorem dX4_begins_88 : decode cX4_begins 88 = .ok (.iload_n 3, 1) := by decide +kernel
theorem dX4_begins_89 : decode cX4_begins 89 = .ok (.iaload, 1) := by decide +kernel
theorem dX4_begins_90 : decode cX4_begins 90 = .ok (.iaload, 1) := by decide +kernel
theorem dX4_begins_91 : decode cX4_begins 91 = .ok (.if_icmp .ge 111, 3) := by decide +kernel
theorem dX4_begins_94 : decode cX4_begins 94 = .ok (.aload_n 0, 1) := by decide +kernel
theorem dX4_begins_95 : decode cX4_begins 95 = .ok (.getfield 22, 3) := by decide +kernel
theorem dX4_begins_98 : decode cX4_begins 98 = .ok (.aload_n 0, 1) := by decide +kernel
theorem dX4_begins_99 : decode cX4_begins 99 = .ok (.getfield 28, 3) := by decide +kernel
theorem dX4_begins_102 : decode cX4_begins 102 = .ok (.iload_n 3, 1) := by decide +kernel
theorem dX4_begins_103 : decode cX4_begins 103 = .ok (.iaload, 1) := by decide +kernel
theorem dX4_begins_104 : decode cX4_begins 104 = .ok (.iaload, 1) := by decide +kernel
theorem dX4_begins_105 : decode cX4_begins 105 = .ok (.ifCond .ne 6, 3) := by decide +kernel
theorem dX4_begins_108 : decode cX4_begins 108 = .ok (.goto 94, 3) := by decide +kernel
theorem dX4_begins_111 : decode cX4_begins 111 = .ok (.aload_n 0, 1) := by decide +kernel
theorem dX4_begins_112 : decode cX4_begins 112 = .ok (.iload_n 3, 1) := by decide +kernel
theorem dX4_begins_113 : decode cX4_begins 113 = .ok (.invokevirtual 154, 3) := by decide +kernel
theorem dX4_begins_116 : decode cX4_begins 116 = .ok (.aload_n 0, 1) := by decide +kernel
theorem dX4_begins_117 : decode cX4_begins 117 = .ok (.getfield 37, 3) := by decide +kernel
theorem dX4_begins_120 : decode cX4_begins 120 = .ok (.iload_n 3, 1) := by decide +kernel
theorem dX4_begins_121 : decode cX4_begins 121 = .ok (.iconst 1, 1) := by decide +kernel
theorem dX4_begins_122 : decode cX4_begins 122 = .ok (.iastore, 1) := by decide +kernel
theorem dX4_begins_123 : decode cX4_begins 123 = .ok (.aload_n 0, 1) := by decide +kernel
theorem dX4_begins_124 : decode cX4_begins 124 = .ok (.getfield 65, 3) := by decide +kernel
theorem dX4_begins_127 : decode cX4_begins 127 = .ok (.iload_n 3, 1) := by decide +kernel
theorem dX4_begins_128 : decode cX4_begins 128 = .ok (.aload_n 0, 1) := by decide +kernel
theorem dX4_begins_129 : decode cX4_begins 129 = .ok (.getfield 130, 3) := by decide +kernel
theorem dX4_begins_132 : decode cX4_begins 132 = .ok (.iastore, 1) := by decide +kernel
theorem dX4_begins_133 : decode cX4_begins 133 = .ok (.aload_n 0, 1) := by decide +kernel
theorem dX4_begins_134 : decode cX4_begins 134 = .ok (.getfield 40, 3) := by decide +kernel
theorem dX4_begins_137 : decode cX4_begins 137 = .ok (.iload_n 3, 1) := by decide +kernel
theorem dX4_begins_138 : decode cX4_begins 138 = .ok (.aload_n 0, 1) := by decide +kernel
theorem dX4_begins_139 : decode cX4_begins 139 = .ok (.getfield 22, 3) := by decide +kernel
theorem dX4_begins_142 : decode cX4_begins 142 = .ok (.aload_n 0, 1) := by decide +kernel
theorem dX4_begins_143 : decode cX4_begins 143 = .ok (.getfield 28, 3) := by decide +kernel
theorem dX4_begins_146 : decode cX4_begins 146 = .ok (.iload_n 3, 1) := by decide +kernel
theorem dX4_begins_147 : decode cX4_begins 147 = .ok (.iaload, 1) := by decide +kernel
theorem dX4_begins_148 : decode cX4_begins 148 = .ok (.iaload, 1) := by decide +kernel
theorem dX4_begins_149 : decode cX4_begins 149 = .ok (.iastore, 1) := by decide +kernel
theorem dX4_begins_150 : decode cX4_begins 150 = .ok (.iconst 0, 1) := by decide +kernel
theorem dX4_begins_151 : decode cX4_begins 151 = .ok (.istore 5, 2) := by decide +kernel
theorem dX4_begins_153 : decode cX4_begins 153 = .ok (.iload 5, 2) := by decide +kernel
theorem dX4_begins_155 : decode cX4_begins 155 = .ok (.bipush 12, 2) := by decide +kernel
theorem dX4_begins_157 : decode cX4_begins 157 = .ok (.if_icmp .ge 38, 3) := by decide +kernel
theorem dX4_begins_160 : decode cX4_begins 160 = .ok (.aload_n 0, 1) := by decide +kernel
theorem dX4_begins_161 : decode cX4_begins 161 = .ok (.getfield 43, 3) := by decide +kernel
theorem dX4_begins_164 : decode cX4_begins 164 = .ok (.bipush 12, 2) := by decide +kernel
theorem dX4_begins_166 : decode cX4_begins 166 = .ok (.iload_n 3, 1) := by decide +kernel
theorem dX4_begins_167 : decode cX4_begins 167 = .ok (.imul, 1) := by decide +kernel
theorem dX4_begins_168 : decode cX4_begins 168 = .ok (.iload 5, 2) := by decide +kernel
theorem dX4_begins_170 : decode cX4_begins 170 = .ok (.iadd, 1) := by decide +kernel
theorem dX4_begins_171 : decode cX4_begins 171 = .ok (.aload_n 0, 1) := by decide +kernel
theorem dX4_begins_172 : decode cX4_begins 172 = .ok (.getfield 25, 3) := by decide +kernel
theorem dX4_begins_175 : decode cX4_begins 175 = .ok (.bipush 12, 2) := by decide +kernel
theorem dX4_begins_177 : decode cX4_begins 177 = .ok (.aload_n 0, 1) := by decide +kernel
theorem dX4_begins_178 : decode cX4_begins 178 = .ok (.getfield 28, 3) := by decide +kernel
theorem dX4_begins_181 : decode cX4_begins 181 = .ok (.iload_n 3, 1) := by decide +kernel
theorem dX4_begins_182 : decode cX4_begins 182 = .ok (.iaload, 1) := by decide +kernel
theorem dX4_begins_183 : decode cX4_begins 183 = .ok (.imul, 1) := by decide +kernel
theorem dX4_begins_184 : decode cX4_begins 184 = .ok (.iload 5, 2) := by decide +kernel
theorem dX4_begins_186 : decode cX4_begins 186 = .ok (.iadd, 1) := by decide +kernel
theorem dX4_begins_187 : decode cX4_begins 187 = .ok (.iaload, 1) := by decide +kernel
theorem dX4_begins_188 : decode cX4_begins 188 = .ok (.iastore, 1) := by decide +kernel
theorem dX4_begins_189 : decode cX4_begins 189 = .ok (.iinc 5 1, 3) := by decide +kernel
theorem dX4_begins_192 : decode cX4_begins 192 = .ok (.goto (-39), 3) := by decide +kernel
theorem dX4_begins_195 : decode cX4_begins 195 = .ok (.aload_n 0, 1) := by decide +kernel
theorem dX4_begins_196 : decode cX4_begins 196 = .ok (.iconst 0, 1) := by decide +kernel
theorem dX4_begins_197 : decode cX4_begins 197 = .ok (.iload_n 3, 1) := by decide +kernel
theorem dX4_begins_198 : decode cX4_begins 198 = .ok (.iconst (-1), 1) := by decide +kernel
theorem dX4_begins_199 : decode cX4_begins 199 = .ok (.invokevirtual 148, 3) := by decide +kernel
theorem dX4_begins_202 : decode cX4_begins 202 = .ok (.iinc 2 1, 3) := by decide +kernel
theorem dX4_begins_205 : decode cX4_begins 205 = .ok (.goto (-197), 3) := by decide +kernel
theorem dX4_begins_208 : decode cX4_begins 208 = .ok (.return_, 1) := by decide +kernel
theorem dX4_keeps_0 : decode cX4_keeps 0 = .ok (.aload_n 0, 1) := by decide +kernel
theorem dX4_keeps_1 : decode cX4_keeps 1 = .ok (.aload_n 0, 1) := by decide +kernel
theorem dX4_keeps_2 : decode cX4_keeps 2 = .ok (.getfield 127, 3) := by decide +kernel
theorem dX4_keeps_5 : decode cX4_keeps 5 = .ok (.putfield 190, 3) := by decide +kernel
theorem dX4_keeps_8 : decode cX4_keeps 8 = .ok (.iconst 0, 1) := by decide +kernel
theorem dX4_keeps_9 : decode cX4_keeps 9 = .ok (.istore_n 1, 1) := by decide +kernel
theorem dX4_keeps_10 : decode cX4_keeps 10 = .ok (.iload_n 1, 1) := by decide +kernel
theorem dX4_keeps_11 : decode cX4_keeps 11 = .ok (.aload_n 0, 1) := by decide +kernel
theorem dX4_keeps_12 : decode cX4_keeps 12 = .ok (.getfield 111, 3) := by decide +kernel
theorem dX4_keeps_15 : decode cX4_keeps 15 = .ok (.if_icmp .ge 26, 3) := by decide +kernel
theorem dX4_keeps_18 : decode cX4_keeps 18 = .ok (.aload_n 0, 1) := by decide +kernel
theorem dX4_keeps_19 : decode cX4_keeps 19 = .ok (.getfield 37, 3) := by decide +kernel
theorem dX4_keeps_22 : decode cX4_keeps 22 = .ok (.iload_n 1, 1) := by decide +kernel
theorem dX4_keeps_23 : decode cX4_keeps 23 = .ok (.iaload, 1) := by decide +kernel
theorem dX4_keeps_24 : decode cX4_keeps 24 = .ok (.iconst 2, 1) := by decide +kernel
theorem dX4_keeps_25 : decode cX4_keeps 25 = .ok (.if_icmp .ne 10, 3) := by decide +kernel
theorem dX4_keeps_28 : decode cX4_keeps 28 = .ok (.aload_n 0, 1) := by decide +kernel
theorem dX4_keeps_29 : decode cX4_keeps 29 = .ok (.getfield 37, 3) := by decide +kernel
theorem dX4_keeps_32 : decode cX4_keeps 32 = .ok (.iload_n 1, 1) := by decide +kernel
theorem dX4_keeps_33 : decode cX4_keeps 33 = .ok (.iconst 3, 1) := by decide +kernel
theorem dX4_keeps_34 : decode cX4_keeps 34 = .ok (.iastore, 1) := by decide +kernel
theorem dX4_keeps_35 : decode cX4_keeps 35 = .ok (.iinc 1 1, 3) := by decide +kernel
theorem dX4_keeps_38 : decode cX4_keeps 38 = .ok (.goto (-28), 3) := by decide +kernel
theorem dX4_keeps_41 : decode cX4_keeps 41 = .ok (.return_, 1) := by decide +kernel
set_option maxRecDepth 20000 in
theorem ggX4_go_X4_in : GoodIn wsX4_go wsX4_in := goodIn_r _ [6] (by decide +kernel) (by decide +kernel)
set_option maxRecDepth 20000 in
theorem gX4_go_X4_in : GoodIn wsX4_go (va_wsS RX4 107 yX4_in wsX4_in) := goodIn_app (goodIn_of _ (by decide +kernel)) ggX4_go_X4_in
set_option maxRecDepth 20000 in
theorem ggX4_go_X4_sorts : GoodIn wsX4_go wsX4_sorts := goodIn_r _ [10, 11, 12, 2, 13, 14, 15, 5, 16, 17, 124, 125, 126, 127, 128, 129, 130, 131, 132, 133, 134, 135, 136, 137, 138, 139, 140, 141, 142, 143, 144, 145, 146, 147, 148, 149, 150, 151, 152, 153, 154, 155, 156, 157, 158, 159, 160, 161, 162] (by decide +kernel) (by decide +kernel)
set_option maxRecDepth 20000 in
theorem gX4_go_X4_sorts : GoodIn wsX4_go (wsV RX4 187 RX4 yX4_sorts wsX4_sorts) := goodIn_app (goodIn_of _ (by decide +kernel)) ggX4_go_X4_sorts
set_option maxRecDepth 20000 in
theorem ggX4_go_X4_does : GoodIn wsX4_go wsX4_does := goodIn_r _ [21, 22, 23, 24, 25, 26, 27, 28, 29, 30, 31, 12, 32, 33, 34, 35, 36, 5, 37, 38, 39, 40, 41, 42, 43, 44, 45, 46, 47, 11, 48, 49, 50, 51, 52, 53, 54, 55, 56, 57, 58, 59, 60, 61, 62, 63, 64, 65, 66, 67, 68, 1, 3, 4, 6, 69, 70, 71, 72, 73, 74, 75, 76, 77, 78, 79, 80, 17, 81, 82, 83, 84, 85, 86, 87, 88, 89, 90, 91, 92, 93, 94, 95, 124, 125, 126, 127, 128, 129, 130, 131, 132, 133, 134, 135, 136, 137, 138, 139, 140, 141, 142, 143, 144, 145, 146, 147, 148, 149, 150, 151, 152, 153, 154, 155, 156, 157, 158, 159, 160, 161, 162] (by decide +kernel) (by decide +kernel)
set_option maxRecDepth 20000 in
theorem gX4_go_X4_does : GoodIn wsX4_go (wsV RX4 193 RX4 yX4_does wsX4_does) := goodIn_app (goodIn_of _ (by decide +kernel)) ggX4_go_X4_does
set_option maxRecDepth 20000 in
theorem ggX4_go_X4_breaks : GoodIn wsX4_go wsX4_breaks := goodIn_r _ [99, 11, 12, 22, 95, 100, 101, 102, 103, 104, 5, 105, 106, 107, 108, 109, 110, 111, 34, 35, 36, 37, 38, 32, 48, 49, 50, 51, 24, 62, 63, 64, 65, 66, 67, 68, 1, 69, 70, 71, 72, 26, 27, 29, 23, 124, 125, 126, 127, 128, 129, 130, 131, 132, 133, 134, 135, 136, 137, 138, 139, 140, 141, 142, 143, 144, 145, 146, 147, 148, 149, 150, 151, 152, 153, 154, 155, 156, 157, 158, 159, 160, 161, 162] (by decide +kernel) (by decide +kernel)
set_option maxRecDepth 20000 in
theorem gX4_go_X4_breaks : GoodIn wsX4_go (wsV RX4 196 RX4 yX4_breaks wsX4_breaks) := goodIn_app (goodIn_of _ (by decide +kernel)) ggX4_go_X4_breaks
set_option maxRecDepth 20000 in
theorem ggX4_go_X4_begins : GoodIn wsX4_go wsX4_begins := goodIn_r _ [115, 2, 11, 12, 80, 116, 117, 93, 95, 1, 33, 38, 118, 7, 8, 9, 5, 10, 13, 14, 15, 16, 17, 69, 70, 71, 72, 24, 26, 27, 29, 23, 32, 22, 62, 63, 64, 65, 66, 67, 68, 124, 125, 126, 127, 128, 129, 130, 131, 132, 133, 134, 135, 136, 137, 138, 139, 140, 141, 142, 143, 144, 145, 146, 147, 148, 149, 150, 151, 152, 153, 154, 155, 156, 157, 158, 159, 160, 161, 162] (by decide +kernel) (by decide +kernel)
set_option maxRecDepth 20000 in
theorem gX4_go_X4_begins : GoodIn wsX4_go (wsV RX4 199 RX4 yX4_begins wsX4_begins) := goodIn_app (goodIn_of _ (by decide +kernel)) ggX4_go_X4_begins
set_option maxRecDepth 20000 in
theorem ggX4_go_X4_keeps : GoodIn wsX4_go wsX4_keeps := goodIn_r _ [122, 66, 123, 11, 12, 124, 125, 126, 127, 128, 129, 130, 131, 132, 133, 134, 135, 136, 137, 138, 139, 140, 141, 142, 143, 144, 145, 146, 147, 148, 149, 150, 151, 152, 153, 154, 155, 156, 157, 158, 159, 160, 161, 162] (by decide +kernel) (by decide +kernel)
set_option maxRecDepth 20000 in
theorem gX4_go_X4_keeps : GoodIn wsX4_go (wsV RX4 202 RX4 yX4_keeps wsX4_keeps) := goodIn_app (goodIn_of _ (by decide +kernel)) ggX4_go_X4_keeps
theorem dX4_go_0 : decode cX4_go 0 = .ok (.iload_n 1, 1) := by decide +kernel
theorem dX4_go_1 : decode cX4_go 1 = .ok (.iconst 0, 1) := by decide +kernel
theorem dX4_go_2 : decode cX4_go 2 = .ok (.sipush 200, 3) := by decide +kernel
theorem dX4_go_5 : decode cX4_go 5 = .ok (.invokestatic 107, 3) := by decide +kernel
theorem dX4_go_8 : decode cX4_go 8 = .ok (.ifCond .ne 5, 3) := by decide +kernel
theorem dX4_go_11 : decode cX4_go 11 = .ok (.iconst (-1), 1) := by decide +kernel
theorem dX4_go_12 : decode cX4_go 12 = .ok (.ireturn, 1) := by decide +kernel
theorem dX4_go_13 : decode cX4_go 13 = .ok (.iconst 0, 1) := by decide +kernel
theorem dX4_go_14 : decode cX4_go 14 = .ok (.istore_n 2, 1) := by decide +kernel
theorem dX4_go_15 : decode cX4_go 15 = .ok (.iload_n 2, 1) := by decide +kernel
theorem dX4_go_16 : decode cX4_go 16 = .ok (.iload_n 1, 1) := by decide +kernel
theorem dX4_go_17 : decode cX4_go 17 = .ok (.if_icmp .ge 83, 3) := by decide +kernel
theorem dX4_go_20 : decode cX4_go 20 = .ok (.aload_n 0, 1) := by decide +kernel
theorem dX4_go_21 : decode cX4_go 21 = .ok (.getfield 130, 3) := by decide +kernel
theorem dX4_go_24 : decode cX4_go 24 = .ok (.sipush 5000, 3) := by decide +kernel
theorem dX4_go_27 : decode cX4_go 27 = .ok (.if_icmp .ge 73, 3) := by decide +kernel
theorem dX4_go_30 : decode cX4_go 30 = .ok (.aload_n 0, 1) := by decide +kernel
theorem dX4_go_31 : decode cX4_go 31 = .ok (.iconst 1, 1) := by decide +kernel
theorem dX4_go_32 : decode cX4_go 32 = .ok (.invokevirtual 187, 3) := by decide +kernel
theorem dX4_go_35 : decode cX4_go 35 = .ok (.istore_n 3, 1) := by decide +kernel
theorem dX4_go_36 : decode cX4_go 36 = .ok (.iconst 0, 1) := by decide +kernel
theorem dX4_go_37 : decode cX4_go 37 = .ok (.istore 4, 2) := by decide +kernel
theorem dX4_go_39 : decode cX4_go 39 = .ok (.iload 4, 2) := by decide +kernel
theorem dX4_go_41 : decode cX4_go 41 = .ok (.iload_n 3, 1) := by decide +kernel
theorem dX4_go_42 : decode cX4_go 42 = .ok (.if_icmp .ge 20, 3) := by decide +kernel
theorem dX4_go_45 : decode cX4_go 45 = .ok (.aload_n 0, 1) := by decide +kernel
theorem dX4_go_46 : decode cX4_go 46 = .ok (.aload_n 0, 1) := by decide +kernel
theorem dX4_go_47 : decode cX4_go 47 = .ok (.getfield 98, 3) := by decide +kernel
theorem dX4_go_50 : decode cX4_go 50 = .ok (.iload 4, 2) := by decide +kernel
theorem dX4_go_52 : decode cX4_go 52 = .ok (.iaload, 1) := by decide +kernel
theorem dX4_go_53 : decode cX4_go 53 = .ok (.invokevirtual 193, 3) := by decide +kernel
theorem dX4_go_56 : decode cX4_go 56 = .ok (.iinc 4 1, 3) := by decide +kernel
theorem dX4_go_59 : decode cX4_go 59 = .ok (.goto (-20), 3) := by decide +kernel
theorem dX4_go_62 : decode cX4_go 62 = .ok (.aload_n 0, 1) := by decide +kernel
theorem dX4_go_63 : decode cX4_go 63 = .ok (.invokevirtual 196, 3) := by decide +kernel
theorem dX4_go_66 : decode cX4_go 66 = .ok (.aload_n 0, 1) := by decide +kernel
theorem dX4_go_67 : decode cX4_go 67 = .ok (.invokevirtual 199, 3) := by decide +kernel
theorem dX4_go_70 : decode cX4_go 70 = .ok (.aload_n 0, 1) := by decide +kernel
theorem dX4_go_71 : decode cX4_go 71 = .ok (.getfield 130, 3) := by decide +kernel
theorem dX4_go_74 : decode cX4_go 74 = .ok (.iconst 4, 1) := by decide +kernel
theorem dX4_go_75 : decode cX4_go 75 = .ok (.irem, 1) := by decide +kernel
theorem dX4_go_76 : decode cX4_go 76 = .ok (.iconst 3, 1) := by decide +kernel
theorem dX4_go_77 : decode cX4_go 77 = .ok (.if_icmp .ne 7, 3) := by decide +kernel
theorem dX4_go_80 : decode cX4_go 80 = .ok (.aload_n 0, 1) := by decide +kernel
theorem dX4_go_81 : decode cX4_go 81 = .ok (.invokevirtual 202, 3) := by decide +kernel
theorem dX4_go_84 : decode cX4_go 84 = .ok (.aload_n 0, 1) := by decide +kernel
theorem dX4_go_85 : decode cX4_go 85 = .ok (.dup, 1) := by decide +kernel
theorem dX4_go_86 : decode cX4_go 86 = .ok (.getfield 130, 3) := by decide +kernel
theorem dX4_go_89 : decode cX4_go 89 = .ok (.iconst 1, 1) := by decide +kernel
theorem dX4_go_90 : decode cX4_go 90 = .ok (.iadd, 1) := by decide +kernel
theorem dX4_go_91 : decode cX4_go 91 = .ok (.putfield 130, 3) := by decide +kernel
theorem dX4_go_94 : decode cX4_go 94 = .ok (.iinc 2 1, 3) := by decide +kernel
theorem dX4_go_97 : decode cX4_go 97 = .ok (.goto (-82), 3) := by decide +kernel
theorem dX4_go_100 : decode cX4_go 100 = .ok (.aload_n 0, 1) := by decide +kernel
theorem dX4_go_101 : decode cX4_go 101 = .ok (.getfield 130, 3) := by decide +kernel
theorem dX4_go_104 : decode cX4_go 104 = .ok (.ireturn, 1) := by decide +kernel
set_option maxRecDepth 20000 in
theorem ggX4_fall_X4_clears : GoodIn wsX4_fall wsX4_clears := goodIn_r _ [20, 21, 22, 23, 24, 25, 26, 27, 37, 38, 39, 40, 41, 42, 43, 44, 45, 46, 47, 48, 49, 50, 51, 52, 53, 54, 55, 56, 57, 58, 59, 60, 61, 62, 63, 64, 65, 66, 67, 68, 69, 70, 71, 72, 73, 74, 75] (by decide +kernel) (by decide +kernel)
set_option maxRecDepth 20000 in
theorem gX4_fall_X4_clears : GoodIn wsX4_fall (wsV RX4 154 RX4 yX4_clears wsX4_clears) := goodIn_app (goodIn_of _ (by decide +kernel)) ggX4_fall_X4_clears
set_option maxRecDepth 20000 in
theorem ggX4_fall_X4_gets : GoodIn wsX4_fall wsX4_gets := goodIn_r _ [31, 21, 12, 32, 13, 22, 37, 38, 39, 40, 41, 42, 43, 44, 45, 46, 47, 48, 49, 50, 51, 52, 53, 54, 55, 56, 57, 58, 59, 60, 61, 62, 63, 64, 65, 66, 67, 68, 69, 70, 71, 72, 73, 74, 75] (by decide +kernel) (by decide +kernel)
set_option maxRecDepth 20000 in
theorem gX4_fall_X4_gets : GoodIn wsX4_fall (wsV RX4 171 RX4 yX4_gets wsX4_gets) := goodIn_app (goodIn_of _ (by decide +kernel)) ggX4_fall_X4_gets
set_option maxRecDepth 20000 in
theorem ggX4_fall_X4_keeps : GoodIn wsX4_fall wsX4_keeps := goodIn_r _ [36, 1, 2, 3, 5, 37, 38, 39, 40, 41, 42, 43, 44, 45, 46, 47, 48, 49, 50, 51, 52, 53, 54, 55, 56, 57, 58, 59, 60, 61, 62, 63, 64, 65, 66, 67, 68, 69, 70, 71, 72, 73, 74, 75] (by decide +kernel) (by decide +kernel)
set_option maxRecDepth 20000 in
theorem gX4_fall_X4_keeps : GoodIn wsX4_fall (wsV RX4 202 RX4 yX4_keeps wsX4_keeps) := goodIn_app (goodIn_of _ (by decide +kernel)) ggX4_fall_X4_keeps
theorem dX4_fall_0 : decode cX4_fall 0 = .ok (.iload_n 1, 1) := by decide +kernel
theorem dX4_fall_1 : decode cX4_fall 1 = .ok (.ifCond .lt 16, 3) := by decide +kernel
theorem dX4_fall_4 : decode cX4_fall 4 = .ok (.iload_n 1, 1) := by decide +kernel
theorem dX4_fall_5 : decode cX4_fall 5 = .ok (.aload_n 0, 1) := by decide +kernel
theorem dX4_fall_6 : decode cX4_fall 6 = .ok (.getfield 127, 3) := by decide +kernel
theorem dX4_fall_9 : decode cX4_fall 9 = .ok (.aload_n 0, 1) := by decide +kernel
theorem dX4_fall_10 : decode cX4_fall 10 = .ok (.getfield 190, 3) := by decide +kernel
theorem dX4_fall_13 : decode cX4_fall 13 = .ok (.isub, 1) := by decide +kernel
theorem dX4_fall_14 : decode cX4_fall 14 = .ok (.if_icmp .le 5, 3) := by decide +kernel
theorem dX4_fall_17 : decode cX4_fall 17 = .ok (.iconst (-1), 1) := by decide +kernel
theorem dX4_fall_18 : decode cX4_fall 18 = .ok (.ireturn, 1) := by decide +kernel
theorem dX4_fall_19 : decode cX4_fall 19 = .ok (.aload_n 0, 1) := by decide +kernel
theorem dX4_fall_20 : decode cX4_fall 20 = .ok (.getfield 190, 3) := by decide +kernel
theorem dX4_fall_23 : decode cX4_fall 23 = .ok (.iload_n 1, 1) := by decide +kernel
theorem dX4_fall_24 : decode cX4_fall 24 = .ok (.iadd, 1) := by decide +kernel
theorem dX4_fall_25 : decode cX4_fall 25 = .ok (.istore_n 2, 1) := by decide +kernel
theorem dX4_fall_26 : decode cX4_fall 26 = .ok (.iconst 0, 1) := by decide +kernel
theorem dX4_fall_27 : decode cX4_fall 27 = .ok (.istore_n 3, 1) := by decide +kernel
theorem dX4_fall_28 : decode cX4_fall 28 = .ok (.iconst 0, 1) := by decide +kernel
theorem dX4_fall_29 : decode cX4_fall 29 = .ok (.istore 4, 2) := by decide +kernel
theorem dX4_fall_31 : decode cX4_fall 31 = .ok (.iload 4, 2) := by decide +kernel
theorem dX4_fall_33 : decode cX4_fall 33 = .ok (.aload_n 0, 1) := by decide +kernel
theorem dX4_fall_34 : decode cX4_fall 34 = .ok (.getfield 111, 3) := by decide +kernel
theorem dX4_fall_37 : decode cX4_fall 37 = .ok (.if_icmp .ge 53, 3) := by decide +kernel
theorem dX4_fall_40 : decode cX4_fall 40 = .ok (.aload_n 0, 1) := by decide +kernel
theorem dX4_fall_41 : decode cX4_fall 41 = .ok (.getfield 71, 3) := by decide +kernel
theorem dX4_fall_44 : decode cX4_fall 44 = .ok (.iload 4, 2) := by decide +kernel
theorem dX4_fall_46 : decode cX4_fall 46 = .ok (.iconst 0, 1) := by decide +kernel
theorem dX4_fall_47 : decode cX4_fall 47 = .ok (.bastore, 1) := by decide +kernel
theorem dX4_fall_48 : decode cX4_fall 48 = .ok (.aload_n 0, 1) := by decide +kernel
theorem dX4_fall_49 : decode cX4_fall 49 = .ok (.getfield 37, 3) := by decide +kernel
theorem dX4_fall_52 : decode cX4_fall 52 = .ok (.iload 4, 2) := by decide +kernel
theorem dX4_fall_54 : decode cX4_fall 54 = .ok (.iaload, 1) := by decide +kernel
theorem dX4_fall_55 : decode cX4_fall 55 = .ok (.iconst 1, 1) := by decide +kernel
theorem dX4_fall_56 : decode cX4_fall 56 = .ok (.if_icmp .eq 6, 3) := by decide +kernel
theorem dX4_fall_59 : decode cX4_fall 59 = .ok (.goto 25, 3) := by decide +kernel
theorem dX4_fall_62 : decode cX4_fall 62 = .ok (.aload_n 0, 1) := by decide +kernel
theorem dX4_fall_63 : decode cX4_fall 63 = .ok (.iload 4, 2) := by decide +kernel
theorem dX4_fall_65 : decode cX4_fall 65 = .ok (.invokevirtual 154, 3) := by decide +kernel
theorem dX4_fall_68 : decode cX4_fall 68 = .ok (.aload_n 0, 1) := by decide +kernel
theorem dX4_fall_69 : decode cX4_fall 69 = .ok (.getfield 37, 3) := by decide +kernel
theorem dX4_fall_72 : decode cX4_fall 72 = .ok (.iload 4, 2) := by decide +kernel
theorem dX4_fall_74 : decode cX4_fall 74 = .ok (.iconst 0, 1) := by decide +kernel
theorem dX4_fall_75 : decode cX4_fall 75 = .ok (.iastore, 1) := by decide +kernel
theorem dX4_fall_76 : decode cX4_fall 76 = .ok (.aload_n 0, 1) := by decide +kernel
theorem dX4_fall_77 : decode cX4_fall 77 = .ok (.getfield 71, 3) := by decide +kernel
theorem dX4_fall_80 : decode cX4_fall 80 = .ok (.iload 4, 2) := by decide +kernel
theorem dX4_fall_82 : decode cX4_fall 82 = .ok (.iconst 1, 1) := by decide +kernel
theorem dX4_fall_83 : decode cX4_fall 83 = .ok (.bastore, 1) := by decide +kernel
theorem dX4_fall_84 : decode cX4_fall 84 = .ok (.iinc 4 1, 3) := by decide +kernel
theorem dX4_fall_87 : decode cX4_fall 87 = .ok (.goto (-56), 3) := by decide +kernel
theorem dX4_fall_90 : decode cX4_fall 90 = .ok (.iload_n 2, 1) := by decide +kernel
theorem dX4_fall_91 : decode cX4_fall 91 = .ok (.istore 4, 2) := by decide +kernel
theorem dX4_fall_93 : decode cX4_fall 93 = .ok (.iload 4, 2) := by decide +kernel
theorem dX4_fall_95 : decode cX4_fall 95 = .ok (.aload_n 0, 1) := by decide +kernel
theorem dX4_fall_96 : decode cX4_fall 96 = .ok (.getfield 127, 3) := by decide +kernel
theorem dX4_fall_99 : decode cX4_fall 99 = .ok (.if_icmp .ge 184, 3) := by decide +kernel
theorem dX4_fall_102 : decode cX4_fall 102 = .ok (.aload_n 0, 1) := by decide +kernel
theorem dX4_fall_103 : decode cX4_fall 103 = .ok (.getfield 95, 3) := by decide +kernel
theorem dX4_fall_106 : decode cX4_fall 106 = .ok (.iconst 4, 1) := by decide +kernel
theorem dX4_fall_107 : decode cX4_fall 107 = .ok (.iload 4, 2) := by decide +kernel
theorem dX4_fall_109 : decode cX4_fall 109 = .ok (.imul, 1) := by decide +kernel
theorem dX4_fall_110 : decode cX4_fall 110 = .ok (.iconst 1, 1) := by decide +kernel
theorem dX4_fall_111 : decode cX4_fall 111 = .ok (.iadd, 1) := by decide +kernel
theorem dX4_fall_112 : decode cX4_fall 112 = .ok (.iaload, 1) := by decide +kernel
theorem dX4_fall_113 : decode cX4_fall 113 = .ok (.istore 5, 2) := by decide +kernel
theorem dX4_fall_115 : decode cX4_fall 115 = .ok (.aload_n 0, 1) := by decide +kernel
theorem dX4_fall_116 : decode cX4_fall 116 = .ok (.getfield 95, 3) := by decide +kernel
theorem dX4_fall_119 : decode cX4_fall 119 = .ok (.iconst 4, 1) := by decide +kernel
theorem dX4_fall_120 : decode cX4_fall 120 = .ok (.iload 4, 2) := by decide +kernel
theorem dX4_fall_122 : decode cX4_fall 122 = .ok (.imul, 1) := by decide +kernel
theorem dX4_fall_123 : decode cX4_fall 123 = .ok (.iaload, 1) := by decide +kernel
theorem dX4_fall_124 : decode cX4_fall 124 = .ok (.iconst 2, 1) := by decide +kernel
theorem dX4_fall_125 : decode cX4_fall 125 = .ok (.if_icmp .ne 24, 3) := by decide +kernel
theorem dX4_fall_128 : decode cX4_fall 128 = .ok (.iinc 3 1, 3) := by decide +kernel
theorem dX4_fall_131 : decode cX4_fall 131 = .ok (.aload_n 0, 1) := by decide +kernel
theorem dX4_fall_132 : decode cX4_fall 132 = .ok (.dup, 1) := by decide +kernel
theorem dX4_fall_133 : decode cX4_fall 133 = .ok (.getfield 168, 3) := by decide +kernel
theorem dX4_fall_136 : decode cX4_fall 136 = .ok (.iconst 1, 1) := by decide +kernel
theorem dX4_fall_137 : decode cX4_fall 137 = .ok (.isub, 1) := by decide +kernel
theorem dX4_fall_138 : decode cX4_fall 138 = .ok (.putfield 168, 3) := by decide +kernel
theorem dX4_fall_141 : decode cX4_fall 141 = .ok (.aload_n 0, 1) := by decide +kernel
theorem dX4_fall_142 : decode cX4_fall 142 = .ok (.getfield 71, 3) := by decide +kernel
theorem dX4_fall_145 : decode cX4_fall 145 = .ok (.iload 5, 2) := by decide +kernel
theorem dX4_fall_147 : decode cX4_fall 147 = .ok (.iconst 1, 1) := by decide +kernel
theorem dX4_fall_148 : decode cX4_fall 148 = .ok (.bastore, 1) := by decide +kernel
theorem dX4_fall_149 : decode cX4_fall 149 = .ok (.aload_n 0, 1) := by decide +kernel
theorem dX4_fall_150 : decode cX4_fall 150 = .ok (.getfield 95, 3) := by decide +kernel
theorem dX4_fall_153 : decode cX4_fall 153 = .ok (.iconst 4, 1) := by decide +kernel
theorem dX4_fall_154 : decode cX4_fall 154 = .ok (.iload 4, 2) := by decide +kernel
theorem dX4_fall_156 : decode cX4_fall 156 = .ok (.imul, 1) := by decide +kernel
theorem dX4_fall_157 : decode cX4_fall 157 = .ok (.iaload, 1) := by decide +kernel
theorem dX4_fall_158 : decode cX4_fall 158 = .ok (.iconst 2, 1) := by decide +kernel
theorem dX4_fall_159 : decode cX4_fall 159 = .ok (.if_icmp .eq 19, 3) := by decide +kernel
theorem dX4_fall_162 : decode cX4_fall 162 = .ok (.aload_n 0, 1) := by decide +kernel
theorem dX4_fall_163 : decode cX4_fall 163 = .ok (.getfield 95, 3) := by decide +kernel
theorem dX4_fall_166 : decode cX4_fall 166 = .ok (.iconst 4, 1) := by decide +kernel
theorem dX4_fall_167 : decode cX4_fall 167 = .ok (.iload 4, 2) := by decide +kernel
theorem dX4_fall_169 : decode cX4_fall 169 = .ok (.imul, 1) := by decide +kernel
theorem dX4_fall_170 : decode cX4_fall 170 = .ok (.iaload, 1) := by decide +kernel
theorem dX4_fall_171 : decode cX4_fall 171 = .ok (.iconst 3, 1) := by decide +kernel
theorem dX4_fall_172 : decode cX4_fall 172 = .ok (.if_icmp .eq 6, 3) := by decide +kernel
theorem dX4_fall_175 : decode cX4_fall 175 = .ok (.goto 102, 3) := by decide +kernel
theorem dX4_fall_178 : decode cX4_fall 178 = .ok (.aload_n 0, 1) := by decide +kernel
theorem dX4_fall_179 : decode cX4_fall 179 = .ok (.getfield 95, 3) := by decide +kernel
theorem dX4_fall_182 : decode cX4_fall 182 = .ok (.iconst 4, 1) := by decide +kernel
theorem dX4_fall_183 : decode cX4_fall 183 = .ok (.iload 4, 2) := by decide +kernel
theorem dX4_fall_185 : decode cX4_fall 185 = .ok (.imul, 1) := by decide +kernel
theorem dX4_fall_186 : decode cX4_fall 186 = .ok (.iaload, 1) := by decide +kernel
theorem dX4_fall_187 : decode cX4_fall 187 = .ok (.iconst 2, 1) := by decide +kernel
theorem dX4_fall_188 : decode cX4_fall 188 = .ok (.if_icmp .ne 7, 3) := by decide +kernel
theorem dX4_fall_191 : decode cX4_fall 191 = .ok (.iconst 1, 1) := by decide +kernel
theorem dX4_fall_192 : decode cX4_fall 192 = .ok (.goto 4, 3) := by decide +kernel
theorem dX4_fall_195 : decode cX4_fall 195 = .ok (.iconst 0, 1) := by decide +kernel
theorem dX4_fall_196 : decode cX4_fall 196 = .ok (.istore 6, 2) := by decide +kernel
theorem dX4_fall_198 : decode cX4_fall 198 = .ok (.aload_n 0, 1) := by decide +kernel
theorem dX4_fall_199 : decode cX4_fall 199 = .ok (.iload 5, 2) := by decide +kernel
theorem dX4_fall_201 : decode cX4_fall 201 = .ok (.invokevirtual 154, 3) := by decide +kernel
theorem dX4_fall_204 : decode cX4_fall 204 = .ok (.aload_n 0, 1) := by decide +kernel
theorem dX4_fall_205 : decode cX4_fall 205 = .ok (.getfield 37, 3) := by decide +kernel
theorem dX4_fall_208 : decode cX4_fall 208 = .ok (.iload 5, 2) := by decide +kernel
theorem dX4_fall_210 : decode cX4_fall 210 = .ok (.iconst 0, 1) := by decide +kernel
theorem dX4_fall_211 : decode cX4_fall 211 = .ok (.iastore, 1) := by decide +kernel
theorem dX4_fall_212 : decode cX4_fall 212 = .ok (.aload_n 0, 1) := by decide +kernel
theorem dX4_fall_213 : decode cX4_fall 213 = .ok (.getfield 56, 3) := by decide +kernel
theorem dX4_fall_216 : decode cX4_fall 216 = .ok (.iload 5, 2) := by decide +kernel
theorem dX4_fall_218 : decode cX4_fall 218 = .ok (.iconst (-1), 1) := by decide +kernel
theorem dX4_fall_219 : decode cX4_fall 219 = .ok (.iastore, 1) := by decide +kernel
theorem dX4_fall_220 : decode cX4_fall 220 = .ok (.iconst 0, 1) := by decide +kernel
theorem dX4_fall_221 : decode cX4_fall 221 = .ok (.istore 7, 2) := by decide +kernel
theorem dX4_fall_223 : decode cX4_fall 223 = .ok (.iload 7, 2) := by decide +kernel
theorem dX4_fall_225 : decode cX4_fall 225 = .ok (.aload_n 0, 1) := by decide +kernel
theorem dX4_fall_226 : decode cX4_fall 226 = .ok (.getfield 111, 3) := by decide +kernel
theorem dX4_fall_229 : decode cX4_fall 229 = .ok (.if_icmp .ge 48, 3) := by decide +kernel
theorem dX4_fall_232 : decode cX4_fall 232 = .ok (.iload 6, 2) := by decide +kernel
theorem dX4_fall_234 : decode cX4_fall 234 = .ok (.ifCond .eq 43, 3) := by decide +kernel
theorem dX4_fall_237 : decode cX4_fall 237 = .ok (.aload_n 0, 1) := by decide +kernel
theorem dX4_fall_238 : decode cX4_fall 238 = .ok (.getfield 68, 3) := by decide +kernel
theorem dX4_fall_241 : decode cX4_fall 241 = .ok (.iload 7, 2) := by decide +kernel
theorem dX4_fall_243 : decode cX4_fall 243 = .ok (.aload_n 0, 1) := by decide +kernel
theorem dX4_fall_244 : decode cX4_fall 244 = .ok (.getfield 68, 3) := by decide +kernel
theorem dX4_fall_247 : decode cX4_fall 247 = .ok (.iload 7, 2) := by decide +kernel
theorem dX4_fall_249 : decode cX4_fall 249 = .ok (.baload, 1) := by decide +kernel
theorem dX4_fall_250 : decode cX4_fall 250 = .ok (.ifCond .ne 15, 3) := by decide +kernel
theorem dX4_fall_253 : decode cX4_fall 253 = .ok (.aload_n 0, 1) := by decide +kernel
theorem dX4_fall_254 : decode cX4_fall 254 = .ok (.getfield 62, 3) := by decide +kernel
theorem dX4_fall_257 : decode cX4_fall 257 = .ok (.iload 7, 2) := by decide +kernel
theorem dX4_fall_259 : decode cX4_fall 259 = .ok (.iaload, 1) := by decide +kernel
theorem dX4_fall_260 : decode cX4_fall 260 = .ok (.iload 5, 2) := by decide +kernel
theorem dX4_fall_262 : decode cX4_fall 262 = .ok (.if_icmp .ne 7, 3) := by decide +kernel
theorem dX4_fall_265 : decode cX4_fall 265 = .ok (.iconst 1, 1) := by decide +kernel
theorem dX4_fall_266 : decode cX4_fall 266 = .ok (.goto 4, 3) := by decide +kernel
theorem dX4_fall_269 : decode cX4_fall 269 = .ok (.iconst 0, 1) := by decide +kernel
theorem dX4_fall_270 : decode cX4_fall 270 = .ok (.bastore, 1) := by decide +kernel
theorem dX4_fall_271 : decode cX4_fall 271 = .ok (.iinc 7 1, 3) := by decide +kernel
theorem dX4_fall_274 : decode cX4_fall 274 = .ok (.goto (-51), 3) := by decide +kernel
theorem dX4_fall_277 : decode cX4_fall 277 = .ok (.iinc 4 1, 3) := by decide +kernel
theorem dX4_fall_280 : decode cX4_fall 280 = .ok (.goto (-187), 3) := by decide +kernel
theorem dX4_fall_283 : decode cX4_fall 283 = .ok (.aload_n 0, 1) := by decide +kernel
theorem dX4_fall_284 : decode cX4_fall 284 = .ok (.iload_n 2, 1) := by decide +kernel
theorem dX4_fall_285 : decode cX4_fall 285 = .ok (.putfield 127, 3) := by decide +kernel
theorem dX4_fall_288 : decode cX4_fall 288 = .ok (.iconst 0, 1) := by decide +kernel
theorem dX4_fall_289 : decode cX4_fall 289 = .ok (.istore 4, 2) := by decide +kernel
theorem dX4_fall_291 : decode cX4_fall 291 = .ok (.iload 4, 2) := by decide +kernel
theorem dX4_fall_293 : decode cX4_fall 293 = .ok (.aload_n 0, 1) := by decide +kernel
theorem dX4_fall_294 : decode cX4_fall 294 = .ok (.getfield 111, 3) := by decide +kernel
theorem dX4_fall_297 : decode cX4_fall 297 = .ok (.if_icmp .ge 79, 3) := by decide +kernel
theorem dX4_fall_300 : decode cX4_fall 300 = .ok (.aload_n 0, 1) := by decide +kernel
theorem dX4_fall_301 : decode cX4_fall 301 = .ok (.getfield 59, 3) := by decide +kernel
theorem dX4_fall_304 : decode cX4_fall 304 = .ok (.iload 4, 2) := by decide +kernel
theorem dX4_fall_306 : decode cX4_fall 306 = .ok (.dup2, 1) := by decide +kernel
theorem dX4_fall_307 : decode cX4_fall 307 = .ok (.iaload, 1) := by decide +kernel
theorem dX4_fall_308 : decode cX4_fall 308 = .ok (.aload_n 0, 1) := by decide +kernel
theorem dX4_fall_309 : decode cX4_fall 309 = .ok (.getfield 71, 3) := by decide +kernel
theorem dX4_fall_312 : decode cX4_fall 312 = .ok (.iload 4, 2) := by decide +kernel
theorem dX4_fall_314 : decode cX4_fall 314 = .ok (.baload, 1) := by decide +kernel
theorem dX4_fall_315 : decode cX4_fall 315 = .ok (.ifCond .eq 17, 3) := by decide +kernel
theorem dX4_fall_318 : decode cX4_fall 318 = .ok (.aload_n 0, 1) := by decide +kernel
theorem dX4_fall_319 : decode cX4_fall 319 = .ok (.getfield 68, 3) := by decide +kernel
theorem dX4_fall_322 : decode cX4_fall 322 = .ok (.iload 4, 2) := by decide +kernel
theorem dX4_fall_324 : decode cX4_fall 324 = .ok (.baload, 1) := by decide +kernel
theorem dX4_fall_325 : decode cX4_fall 325 = .ok (.ifCond .ne 7, 3) := by decide +kernel
theorem dX4_fall_328 : decode cX4_fall 328 = .ok (.iconst 1, 1) := by decide +kernel
theorem dX4_fall_329 : decode cX4_fall 329 = .ok (.goto 4, 3) := by decide +kernel
theorem dX4_fall_332 : decode cX4_fall 332 = .ok (.iconst 0, 1) := by decide +kernel
theorem dX4_fall_333 : decode cX4_fall 333 = .ok (.iadd, 1) := by decide +kernel
theorem dX4_fall_334 : decode cX4_fall 334 = .ok (.iastore, 1) := by decide +kernel
theorem dX4_fall_335 : decode cX4_fall 335 = .ok (.aload_n 0, 1) := by decide +kernel
theorem dX4_fall_336 : decode cX4_fall 336 = .ok (.getfield 68, 3) := by decide +kernel
theorem dX4_fall_339 : decode cX4_fall 339 = .ok (.iload 4, 2) := by decide +kernel
theorem dX4_fall_341 : decode cX4_fall 341 = .ok (.baload, 1) := by decide +kernel
theorem dX4_fall_342 : decode cX4_fall 342 = .ok (.ifCond .ne 6, 3) := by decide +kernel
theorem dX4_fall_345 : decode cX4_fall 345 = .ok (.goto 25, 3) := by decide +kernel
theorem dX4_fall_348 : decode cX4_fall 348 = .ok (.aload_n 0, 1) := by decide +kernel
theorem dX4_fall_349 : decode cX4_fall 349 = .ok (.iload 4, 2) := by decide +kernel
theorem dX4_fall_351 : decode cX4_fall 351 = .ok (.invokevirtual 154, 3) := by decide +kernel
theorem dX4_fall_354 : decode cX4_fall 354 = .ok (.aload_n 0, 1) := by decide +kernel
theorem dX4_fall_355 : decode cX4_fall 355 = .ok (.getfield 37, 3) := by decide +kernel
theorem dX4_fall_358 : decode cX4_fall 358 = .ok (.iload 4, 2) := by decide +kernel
theorem dX4_fall_360 : decode cX4_fall 360 = .ok (.iconst 4, 1) := by decide +kernel
theorem dX4_fall_361 : decode cX4_fall 361 = .ok (.iastore, 1) := by decide +kernel
theorem dX4_fall_362 : decode cX4_fall 362 = .ok (.aload_n 0, 1) := by decide +kernel
theorem dX4_fall_363 : decode cX4_fall 363 = .ok (.getfield 56, 3) := by decide +kernel
theorem dX4_fall_366 : decode cX4_fall 366 = .ok (.iload 4, 2) := by decide +kernel
theorem dX4_fall_368 : decode cX4_fall 368 = .ok (.iconst (-1), 1) := by decide +kernel
theorem dX4_fall_369 : decode cX4_fall 369 = .ok (.iastore, 1) := by decide +kernel
theorem dX4_fall_370 : decode cX4_fall 370 = .ok (.iinc 4 1, 3) := by decide +kernel
theorem dX4_fall_373 : decode cX4_fall 373 = .ok (.goto (-82), 3) := by decide +kernel
theorem dX4_fall_376 : decode cX4_fall 376 = .ok (.iconst 0, 1) := by decide +kernel
theorem dX4_fall_377 : decode cX4_fall 377 = .ok (.istore 4, 2) := by decide +kernel
theorem dX4_fall_379 : decode cX4_fall 379 = .ok (.iload 4, 2) := by decide +kernel
theorem dX4_fall_381 : decode cX4_fall 381 = .ok (.bipush 24, 2) := by decide +kernel
theorem dX4_fall_383 : decode cX4_fall 383 = .ok (.if_icmp .ge 17, 3) := by decide +kernel
theorem dX4_fall_386 : decode cX4_fall 386 = .ok (.aload_n 0, 1) := by decide +kernel
theorem dX4_fall_387 : decode cX4_fall 387 = .ok (.getfield 9, 3) := by decide +kernel
theorem dX4_fall_390 : decode cX4_fall 390 = .ok (.iload 4, 2) := by decide +kernel
theorem dX4_fall_392 : decode cX4_fall 392 = .ok (.iconst 0, 1) := by decide +kernel
theorem dX4_fall_393 : decode cX4_fall 393 = .ok (.iastore, 1) := by decide +kernel
theorem dX4_fall_394 : decode cX4_fall 394 = .ok (.iinc 4 1, 3) := by decide +kernel
theorem dX4_fall_397 : decode cX4_fall 397 = .ok (.goto (-18), 3) := by decide +kernel
theorem dX4_fall_400 : decode cX4_fall 400 = .ok (.iconst 0, 1) := by decide +kernel
theorem dX4_fall_401 : decode cX4_fall 401 = .ok (.istore 4, 2) := by decide +kernel
theorem dX4_fall_403 : decode cX4_fall 403 = .ok (.iload 4, 2) := by decide +kernel
theorem dX4_fall_405 : decode cX4_fall 405 = .ok (.bipush 8, 2) := by decide +kernel
theorem dX4_fall_407 : decode cX4_fall 407 = .ok (.if_icmp .ge 17, 3) := by decide +kernel
theorem dX4_fall_410 : decode cX4_fall 410 = .ok (.aload_n 0, 1) := by decide +kernel
theorem dX4_fall_411 : decode cX4_fall 411 = .ok (.getfield 13, 3) := by decide +kernel
theorem dX4_fall_414 : decode cX4_fall 414 = .ok (.iload 4, 2) := by decide +kernel
theorem dX4_fall_416 : decode cX4_fall 416 = .ok (.iconst 0, 1) := by decide +kernel
theorem dX4_fall_417 : decode cX4_fall 417 = .ok (.iastore, 1) := by decide +kernel
theorem dX4_fall_418 : decode cX4_fall 418 = .ok (.iinc 4 1, 3) := by decide +kernel
theorem dX4_fall_421 : decode cX4_fall 421 = .ok (.goto (-18), 3) := by decide +kernel
theorem dX4_fall_424 : decode cX4_fall 424 = .ok (.iconst 0, 1) := by decide +kernel
theorem dX4_fall_425 : decode cX4_fall 425 = .ok (.istore 4, 2) := by decide +kernel
theorem dX4_fall_427 : decode cX4_fall 427 = .ok (.iload 4, 2) := by decide +kernel
theorem dX4_fall_429 : decode cX4_fall 429 = .ok (.aload_n 0, 1) := by decide +kernel
theorem dX4_fall_430 : decode cX4_fall 430 = .ok (.getfield 168, 3) := by decide +kernel
theorem dX4_fall_433 : decode cX4_fall 433 = .ok (.if_icmp .ge 20, 3) := by decide +kernel
theorem dX4_fall_436 : decode cX4_fall 436 = .ok (.aload_n 0, 1) := by decide +kernel
theorem dX4_fall_437 : decode cX4_fall 437 = .ok (.aload_n 0, 1) := by decide +kernel
theorem dX4_fall_438 : decode cX4_fall 438 = .ok (.getfield 92, 3) := by decide +kernel
theorem dX4_fall_441 : decode cX4_fall 441 = .ok (.iload 4, 2) := by decide +kernel
theorem dX4_fall_443 : decode cX4_fall 443 = .ok (.iaload, 1) := by decide +kernel
theorem dX4_fall_444 : decode cX4_fall 444 = .ok (.invokevirtual 171, 3) := by decide +kernel
theorem dX4_fall_447 : decode cX4_fall 447 = .ok (.iinc 4 1, 3) := by decide +kernel
theorem dX4_fall_450 : decode cX4_fall 450 = .ok (.goto (-23), 3) := by decide +kernel
theorem dX4_fall_453 : decode cX4_fall 453 = .ok (.aload_n 0, 1) := by decide +kernel
theorem dX4_fall_454 : decode cX4_fall 454 = .ok (.invokevirtual 202, 3) := by decide +kernel
theorem dX4_fall_457 : decode cX4_fall 457 = .ok (.aload_n 0, 1) := by decide +kernel
theorem dX4_fall_458 : decode cX4_fall 458 = .ok (.dup, 1) := by decide +kernel
theorem dX4_fall_459 : decode cX4_fall 459 = .ok (.getfield 205, 3) := by decide +kernel
theorem dX4_fall_462 : decode cX4_fall 462 = .ok (.iconst 1, 1) := by decide +kernel
theorem dX4_fall_463 : decode cX4_fall 463 = .ok (.iadd, 1) := by decide +kernel
theorem dX4_fall_464 : decode cX4_fall 464 = .ok (.putfield 205, 3) := by decide +kernel
theorem dX4_fall_467 : decode cX4_fall 467 = .ok (.iload_n 3, 1) := by decide +kernel
theorem dX4_fall_468 : decode cX4_fall 468 = .ok (.ireturn, 1) := by decide +kernel
set_option maxRecDepth 20000 in
theorem ggX4_told_X4_isAct : GoodIn wsX4_told wsX4_isAct := goodIn_r _ [15, 16, 17, 18, 14, 19, 20, 21, 22, 23, 24, 25, 26, 27, 28, 29, 30, 31, 32, 33, 34, 35, 36, 37, 38, 39, 40, 41, 42, 43, 44, 45, 46, 47, 48, 49, 50, 51, 52, 53, 54, 55, 56, 57, 58] (by decide +kernel) (by decide +kernel)
set_option maxRecDepth 20000 in
theorem gX4_told_X4_isAct : GoodIn wsX4_told (wsV RX4 208 RX4 yX4_isAct wsX4_isAct) := goodIn_app (goodIn_of _ (by decide +kernel)) ggX4_told_X4_isAct
theorem dX4_told_0 : decode cX4_told 0 = .ok (.aload_n 0, 1) := by decide +kernel
theorem dX4_told_1 : decode cX4_told 1 = .ok (.iload_n 1, 1) := by decide +kernel
theorem dX4_told_2 : decode cX4_told 2 = .ok (.invokevirtual 208, 3) := by decide +kernel
theorem dX4_told_5 : decode cX4_told 5 = .ok (.ifCond .ne 5, 3) := by decide +kernel
theorem dX4_told_8 : decode cX4_told 8 = .ok (.iconst (-1), 1) := by decide +kernel
theorem dX4_told_9 : decode cX4_told 9 = .ok (.ireturn, 1) := by decide +kernel
theorem dX4_told_10 : decode cX4_told 10 = .ok (.aload_n 0, 1) := by decide +kernel
theorem dX4_told_11 : decode cX4_told 11 = .ok (.getfield 37, 3) := by decide +kernel
theorem dX4_told_14 : decode cX4_told 14 = .ok (.iload_n 1, 1) := by decide +kernel
theorem dX4_told_15 : decode cX4_told 15 = .ok (.iaload, 1) := by decide +kernel
theorem dX4_told_16 : decode cX4_told 16 = .ok (.iconst 1, 1) := by decide +kernel
theorem dX4_told_17 : decode cX4_told 17 = .ok (.if_icmp .ne 7, 3) := by decide +kernel
theorem dX4_told_20 : decode cX4_told 20 = .ok (.iconst 1, 1) := by decide +kernel
theorem dX4_told_21 : decode cX4_told 21 = .ok (.goto 4, 3) := by decide +kernel
theorem dX4_told_24 : decode cX4_told 24 = .ok (.iconst 0, 1) := by decide +kernel
theorem dX4_told_25 : decode cX4_told 25 = .ok (.istore_n 3, 1) := by decide +kernel
theorem dX4_told_26 : decode cX4_told 26 = .ok (.iload_n 2, 1) := by decide +kernel
theorem dX4_told_27 : decode cX4_told 27 = .ok (.tableswitch 143 0 9 #[53, 60, 67, 74, 81, 96, 115, 122, 129, 136], 53) := by decide +kernel
theorem dX4_told_80 : decode cX4_told 80 = .ok (.aload_n 0, 1) := by decide +kernel
theorem dX4_told_81 : decode cX4_told 81 = .ok (.getfield 37, 3) := by decide +kernel
theorem dX4_told_84 : decode cX4_told 84 = .ok (.iload_n 1, 1) := by decide +kernel
theorem dX4_told_85 : decode cX4_told 85 = .ok (.iaload, 1) := by decide +kernel
theorem dX4_told_86 : decode cX4_told 86 = .ok (.ireturn, 1) := by decide +kernel
theorem dX4_told_87 : decode cX4_told 87 = .ok (.aload_n 0, 1) := by decide +kernel
theorem dX4_told_88 : decode cX4_told 88 = .ok (.getfield 28, 3) := by decide +kernel
theorem dX4_told_91 : decode cX4_told 91 = .ok (.iload_n 1, 1) := by decide +kernel
theorem dX4_told_92 : decode cX4_told 92 = .ok (.iaload, 1) := by decide +kernel
theorem dX4_told_93 : decode cX4_told 93 = .ok (.ireturn, 1) := by decide +kernel
theorem dX4_told_94 : decode cX4_told 94 = .ok (.aload_n 0, 1) := by decide +kernel
theorem dX4_told_95 : decode cX4_told 95 = .ok (.getfield 31, 3) := by decide +kernel
theorem dX4_told_98 : decode cX4_told 98 = .ok (.iload_n 1, 1) := by decide +kernel
theorem dX4_told_99 : decode cX4_told 99 = .ok (.iaload, 1) := by decide +kernel
theorem dX4_told_100 : decode cX4_told 100 = .ok (.ireturn, 1) := by decide +kernel
theorem dX4_told_101 : decode cX4_told 101 = .ok (.aload_n 0, 1) := by decide +kernel
theorem dX4_told_102 : decode cX4_told 102 = .ok (.getfield 34, 3) := by decide +kernel
theorem dX4_told_105 : decode cX4_told 105 = .ok (.iload_n 1, 1) := by decide +kernel
theorem dX4_told_106 : decode cX4_told 106 = .ok (.iaload, 1) := by decide +kernel
theorem dX4_told_107 : decode cX4_told 107 = .ok (.ireturn, 1) := by decide +kernel
theorem dX4_told_108 : decode cX4_told 108 = .ok (.iload_n 3, 1) := by decide +kernel
theorem dX4_told_109 : decode cX4_told 109 = .ok (.ifCond .eq 12, 3) := by decide +kernel
theorem dX4_told_112 : decode cX4_told 112 = .ok (.aload_n 0, 1) := by decide +kernel
theorem dX4_told_113 : decode cX4_told 113 = .ok (.getfield 46, 3) := by decide +kernel
theorem dX4_told_116 : decode cX4_told 116 = .ok (.iload_n 1, 1) := by decide +kernel
theorem dX4_told_117 : decode cX4_told 117 = .ok (.iaload, 1) := by decide +kernel
theorem dX4_told_118 : decode cX4_told 118 = .ok (.goto 4, 3) := by decide +kernel
theorem dX4_told_121 : decode cX4_told 121 = .ok (.iconst (-1), 1) := by decide +kernel
theorem dX4_told_122 : decode cX4_told 122 = .ok (.ireturn, 1) := by decide +kernel
theorem dX4_told_123 : decode cX4_told 123 = .ok (.iload_n 3, 1) := by decide +kernel
theorem dX4_told_124 : decode cX4_told 124 = .ok (.ifCond .eq 16, 3) := by decide +kernel
theorem dX4_told_127 : decode cX4_told 127 = .ok (.aload_n 0, 1) := by decide +kernel
theorem dX4_told_128 : decode cX4_told 128 = .ok (.getfield 52, 3) := by decide +kernel
theorem dX4_told_131 : decode cX4_told 131 = .ok (.iload_n 1, 1) := by decide +kernel
theorem dX4_told_132 : decode cX4_told 132 = .ok (.baload, 1) := by decide +kernel
theorem dX4_told_133 : decode cX4_told 133 = .ok (.ifCond .eq 7, 3) := by decide +kernel
theorem dX4_told_136 : decode cX4_told 136 = .ok (.iconst 1, 1) := by decide +kernel
theorem dX4_told_137 : decode cX4_told 137 = .ok (.goto 4, 3) := by decide +kernel
theorem dX4_told_140 : decode cX4_told 140 = .ok (.iconst 0, 1) := by decide +kernel
theorem dX4_told_141 : decode cX4_told 141 = .ok (.ireturn, 1) := by decide +kernel
theorem dX4_told_142 : decode cX4_told 142 = .ok (.aload_n 0, 1) := by decide +kernel
theorem dX4_told_143 : decode cX4_told 143 = .ok (.getfield 56, 3) := by decide +kernel
theorem dX4_told_146 : decode cX4_told 146 = .ok (.iload_n 1, 1) := by decide +kernel
theorem dX4_told_147 : decode cX4_told 147 = .ok (.iaload, 1) := by decide +kernel
theorem dX4_told_148 : decode cX4_told 148 = .ok (.ireturn, 1) := by decide +kernel
theorem dX4_told_149 : decode cX4_told 149 = .ok (.aload_n 0, 1) := by decide +kernel
theorem dX4_told_150 : decode cX4_told 150 = .ok (.getfield 59, 3) := by decide +kernel
theorem dX4_told_153 : decode cX4_told 153 = .ok (.iload_n 1, 1) := by decide +kernel
theorem dX4_told_154 : decode cX4_told 154 = .ok (.iaload, 1) := by decide +kernel
theorem dX4_told_155 : decode cX4_told 155 = .ok (.ireturn, 1) := by decide +kernel
theorem dX4_told_156 : decode cX4_told 156 = .ok (.aload_n 0, 1) := by decide +kernel
theorem dX4_told_157 : decode cX4_told 157 = .ok (.getfield 62, 3) := by decide +kernel
theorem dX4_told_160 : decode cX4_told 160 = .ok (.iload_n 1, 1) := by decide +kernel
theorem dX4_told_161 : decode cX4_told 161 = .ok (.iaload, 1) := by decide +kernel
theorem dX4_told_162 : decode cX4_told 162 = .ok (.ireturn, 1) := by decide +kernel
theorem dX4_told_163 : decode cX4_told 163 = .ok (.aload_n 0, 1) := by decide +kernel
theorem dX4_told_164 : decode cX4_told 164 = .ok (.getfield 65, 3) := by decide +kernel
theorem dX4_told_167 : decode cX4_told 167 = .ok (.iload_n 1, 1) := by decide +kernel
theorem dX4_told_168 : decode cX4_told 168 = .ok (.iaload, 1) := by decide +kernel
theorem dX4_told_169 : decode cX4_told 169 = .ok (.ireturn, 1) := by decide +kernel
theorem dX4_told_170 : decode cX4_told 170 = .ok (.iconst (-1), 1) := by decide +kernel
theorem dX4_told_171 : decode cX4_told 171 = .ok (.ireturn, 1) := by decide +kernel
set_option maxRecDepth 20000 in
theorem ggX4_register_X4_isAct : GoodIn wsX4_register wsX4_isAct := goodIn_r _ [8, 9, 10, 11, 7, 12, 13, 14, 15, 16, 17, 18, 19, 20, 21, 22, 23, 24, 25, 26, 27, 28, 29, 30, 31, 32, 33, 34, 35, 36, 37, 38, 39, 40, 41, 42, 43, 44, 45, 46, 47, 48, 49, 50, 51] (by decide +kernel) (by decide +kernel)
set_option maxRecDepth 20000 in
theorem gX4_register_X4_isAct : GoodIn wsX4_register (wsV RX4 208 RX4 yX4_isAct wsX4_isAct) := goodIn_app (goodIn_of _ (by decide +kernel)) ggX4_register_X4_isAct
theorem dX4_register_0 : decode cX4_register 0 = .ok (.aload_n 0, 1) := by decide +kernel
theorem dX4_register_1 : decode cX4_register 1 = .ok (.iload_n 1, 1) := by decide +kernel
theorem dX4_register_2 : decode cX4_register 2 = .ok (.invokevirtual 208, 3) := by decide +kernel
theorem dX4_register_5 : decode cX4_register 5 = .ok (.ifCond .eq 22, 3) := by decide +kernel
theorem dX4_register_8 : decode cX4_register 8 = .ok (.aload_n 0, 1) := by decide +kernel
theorem dX4_register_9 : decode cX4_register 9 = .ok (.getfield 37, 3) := by decide +kernel
theorem dX4_register_12 : decode cX4_register 12 = .ok (.iload_n 1, 1) := by decide +kernel
theorem dX4_register_13 : decode cX4_register 13 = .ok (.iaload, 1) := by decide +kernel
theorem dX4_register_14 : decode cX4_register 14 = .ok (.iconst 1, 1) := by decide +kernel
theorem dX4_register_15 : decode cX4_register 15 = .ok (.if_icmp .ne 12, 3) := by decide +kernel
theorem dX4_register_18 : decode cX4_register 18 = .ok (.aload_n 0, 1) := by decide +kernel
theorem dX4_register_19 : decode cX4_register 19 = .ok (.getfield 49, 3) := by decide +kernel
theorem dX4_register_22 : decode cX4_register 22 = .ok (.iload_n 1, 1) := by decide +kernel
theorem dX4_register_23 : decode cX4_register 23 = .ok (.iaload, 1) := by decide +kernel
theorem dX4_register_24 : decode cX4_register 24 = .ok (.goto 5, 3) := by decide +kernel
theorem dX4_register_27 : decode cX4_register 27 = .ok (.ldc 211, 2) := by decide +kernel
theorem dX4_register_29 : decode cX4_register 29 = .ok (.ireturn, 1) := by decide +kernel
set_option maxRecDepth 20000 in
theorem ggX4_holds_X4_isAct : GoodIn wsX4_holds wsX4_isAct := goodIn_r _ [7, 8, 9, 10, 6, 11, 12, 13, 14, 15, 16, 17, 18, 19, 20, 21, 22, 23, 24, 25, 26, 27, 28, 29, 30, 31, 32, 33, 34, 35, 36, 37, 38, 39, 40, 41, 42, 43, 44, 45, 46, 47, 48, 49, 50] (by decide +kernel) (by decide +kernel)
set_option maxRecDepth 20000 in
theorem gX4_holds_X4_isAct : GoodIn wsX4_holds (wsV RX4 208 RX4 yX4_isAct wsX4_isAct) := goodIn_app (goodIn_of _ (by decide +kernel)) ggX4_holds_X4_isAct
set_option maxRecDepth 20000 in
theorem ggX4_holds_X4_in : GoodIn wsX4_holds wsX4_in := goodIn_r _ [11] (by decide +kernel) (by decide +kernel)
set_option maxRecDepth 20000 in
theorem gX4_holds_X4_in : GoodIn wsX4_holds (va_wsS RX4 107 yX4_in wsX4_in) := goodIn_app (goodIn_of _ (by decide +kernel)) ggX4_holds_X4_in
theorem dX4_holds_0 : decode cX4_holds 0 = .ok (.aload_n 0, 1) := by decide +kernel
theorem dX4_holds_1 : decode cX4_holds 1 = .ok (.iload_n 1, 1) := by decide +kernel
theorem dX4_holds_2 : decode cX4_holds 2 = .ok (.invokevirtual 208, 3) := by decide +kernel
theorem dX4_holds_5 : decode cX4_holds 5 = .ok (.ifCond .eq 13, 3) := by decide +kernel
theorem dX4_holds_8 : decode cX4_holds 8 = .ok (.iload_n 2, 1) := by decide +kernel
theorem dX4_holds_9 : decode cX4_holds 9 = .ok (.iconst 0, 1) := by decide +kernel
theorem dX4_holds_10 : decode cX4_holds 10 = .ok (.bipush 23, 2) := by decide +kernel
theorem dX4_holds_12 : decode cX4_holds 12 = .ok (.invokestatic 107, 3) := by decide +kernel
theorem dX4_holds_15 : decode cX4_holds 15 = .ok (.ifCond .ne 5, 3) := by decide +kernel
theorem dX4_holds_18 : decode cX4_holds 18 = .ok (.iconst (-1), 1) := by decide +kernel
theorem dX4_holds_19 : decode cX4_holds 19 = .ok (.ireturn, 1) := by decide +kernel
theorem dX4_holds_20 : decode cX4_holds 20 = .ok (.aload_n 0, 1) := by decide +kernel
theorem dX4_holds_21 : decode cX4_holds 21 = .ok (.getfield 37, 3) := by decide +kernel
theorem dX4_holds_24 : decode cX4_holds 24 = .ok (.iload_n 1, 1) := by decide +kernel
theorem dX4_holds_25 : decode cX4_holds 25 = .ok (.iaload, 1) := by decide +kernel
theorem dX4_holds_26 : decode cX4_holds 26 = .ok (.iconst 1, 1) := by decide +kernel
theorem dX4_holds_27 : decode cX4_holds 27 = .ok (.if_icmp .ne 17, 3) := by decide +kernel
theorem dX4_holds_30 : decode cX4_holds 30 = .ok (.aload_n 0, 1) := by decide +kernel
theorem dX4_holds_31 : decode cX4_holds 31 = .ok (.getfield 74, 3) := by decide +kernel
theorem dX4_holds_34 : decode cX4_holds 34 = .ok (.bipush 24, 2) := by decide +kernel
theorem dX4_holds_36 : decode cX4_holds 36 = .ok (.iload_n 1, 1) := by decide +kernel
theorem dX4_holds_37 : decode cX4_holds 37 = .ok (.imul, 1) := by decide +kernel
theorem dX4_holds_38 : decode cX4_holds 38 = .ok (.iload_n 2, 1) := by decide +kernel
theorem dX4_holds_39 : decode cX4_holds 39 = .ok (.iadd, 1) := by decide +kernel
theorem dX4_holds_40 : decode cX4_holds 40 = .ok (.iaload, 1) := by decide +kernel
theorem dX4_holds_41 : decode cX4_holds 41 = .ok (.goto 4, 3) := by decide +kernel
theorem dX4_holds_44 : decode cX4_holds 44 = .ok (.iconst 0, 1) := by decide +kernel
theorem dX4_holds_45 : decode cX4_holds 45 = .ok (.ireturn, 1) := by decide +kernel
set_option maxRecDepth 20000 in
theorem ggX4_value_X4_in : GoodIn wsX4_value wsX4_in := goodIn_r _ [12] (by decide +kernel) (by decide +kernel)
set_option maxRecDepth 20000 in
theorem gX4_value_X4_in : GoodIn wsX4_value (va_wsS RX4 107 yX4_in wsX4_in) := goodIn_app (goodIn_of _ (by decide +kernel)) ggX4_value_X4_in
theorem dX4_value_0 : decode cX4_value 0 = .ok (.iload_n 1, 1) := by decide +kernel
theorem dX4_value_1 : decode cX4_value 1 = .ok (.iconst 0, 1) := by decide +kernel
theorem dX4_value_2 : decode cX4_value 2 = .ok (.bipush 31, 2) := by decide +kernel
theorem dX4_value_4 : decode cX4_value 4 = .ok (.invokestatic 107, 3) := by decide +kernel
theorem dX4_value_7 : decode cX4_value 7 = .ok (.ifCond .eq 15, 3) := by decide +kernel
theorem dX4_value_10 : decode cX4_value 10 = .ok (.iload_n 2, 1) := by decide +kernel
theorem dX4_value_11 : decode cX4_value 11 = .ok (.iconst 0, 1) := by decide +kernel
theorem dX4_value_12 : decode cX4_value 12 = .ok (.aload_n 0, 1) := by decide +kernel
theorem dX4_value_13 : decode cX4_value 13 = .ok (.getfield 130, 3) := by decide +kernel
theorem dX4_value_16 : decode cX4_value 16 = .ok (.invokestatic 107, 3) := by decide +kernel
theorem dX4_value_19 : decode cX4_value 19 = .ok (.ifCond .ne 6, 3) := by decide +kernel
theorem dX4_value_22 : decode cX4_value 22 = .ok (.ldc 211, 2) := by decide +kernel
theorem dX4_value_24 : decode cX4_value 24 = .ok (.ireturn, 1) := by decide +kernel
theorem dX4_value_25 : decode cX4_value 25 = .ok (.iconst 0, 1) := by decide +kernel
theorem dX4_value_26 : decode cX4_value 26 = .ok (.istore_n 3, 1) := by decide +kernel
theorem dX4_value_27 : decode cX4_value 27 = .ok (.iconst 0, 1) := by decide +kernel
theorem dX4_value_28 : decode cX4_value 28 = .ok (.istore 4, 2) := by decide +kernel
theorem dX4_value_30 : decode cX4_value 30 = .ok (.iload 4, 2) := by decide +kernel
theorem dX4_value_32 : decode cX4_value 32 = .ok (.aload_n 0, 1) := by decide +kernel
theorem dX4_value_33 : decode cX4_value 33 = .ok (.getfield 168, 3) := by decide +kernel
theorem dX4_value_36 : decode cX4_value 36 = .ok (.if_icmp .ge 88, 3) := by decide +kernel
theorem dX4_value_39 : decode cX4_value 39 = .ok (.aload_n 0, 1) := by decide +kernel
theorem dX4_value_40 : decode cX4_value 40 = .ok (.getfield 92, 3) := by decide +kernel
theorem dX4_value_43 : decode cX4_value 43 = .ok (.iload 4, 2) := by decide +kernel
theorem dX4_value_45 : decode cX4_value 45 = .ok (.iaload, 1) := by decide +kernel
theorem dX4_value_46 : decode cX4_value 46 = .ok (.istore 5, 2) := by decide +kernel
theorem dX4_value_48 : decode cX4_value 48 = .ok (.aload_n 0, 1) := by decide +kernel
theorem dX4_value_49 : decode cX4_value 49 = .ok (.getfield 56, 3) := by decide +kernel
theorem dX4_value_52 : decode cX4_value 52 = .ok (.iload 5, 2) := by decide +kernel
theorem dX4_value_54 : decode cX4_value 54 = .ok (.iaload, 1) := by decide +kernel
theorem dX4_value_55 : decode cX4_value 55 = .ok (.iload_n 2, 1) := by decide +kernel
theorem dX4_value_56 : decode cX4_value 56 = .ok (.if_icmp .le 6, 3) := by decide +kernel
theorem dX4_value_59 : decode cX4_value 59 = .ok (.goto 59, 3) := by decide +kernel
theorem dX4_value_62 : decode cX4_value 62 = .ok (.iload_n 1, 1) := by decide +kernel
theorem dX4_value_63 : decode cX4_value 63 = .ok (.bipush 24, 2) := by decide +kernel
theorem dX4_value_65 : decode cX4_value 65 = .ok (.if_icmp .lt 24, 3) := by decide +kernel
theorem dX4_value_68 : decode cX4_value 68 = .ok (.iload_n 3, 1) := by decide +kernel
theorem dX4_value_69 : decode cX4_value 69 = .ok (.aload_n 0, 1) := by decide +kernel
theorem dX4_value_70 : decode cX4_value 70 = .ok (.getfield 80, 3) := by decide +kernel
theorem dX4_value_73 : decode cX4_value 73 = .ok (.bipush 8, 2) := by decide +kernel
theorem dX4_value_75 : decode cX4_value 75 = .ok (.iload 5, 2) := by decide +kernel
theorem dX4_value_77 : decode cX4_value 77 = .ok (.imul, 1) := by decide +kernel
theorem dX4_value_78 : decode cX4_value 78 = .ok (.iload_n 1, 1) := by decide +kernel
theorem dX4_value_79 : decode cX4_value 79 = .ok (.iadd, 1) := by decide +kernel
theorem dX4_value_80 : decode cX4_value 80 = .ok (.bipush 24, 2) := by decide +kernel
theorem dX4_value_82 : decode cX4_value 82 = .ok (.isub, 1) := by decide +kernel
theorem dX4_value_83 : decode cX4_value 83 = .ok (.iaload, 1) := by decide +kernel
theorem dX4_value_84 : decode cX4_value 84 = .ok (.iadd, 1) := by decide +kernel
theorem dX4_value_85 : decode cX4_value 85 = .ok (.istore_n 3, 1) := by decide +kernel
theorem dX4_value_86 : decode cX4_value 86 = .ok (.goto 32, 3) := by decide +kernel
theorem dX4_value_89 : decode cX4_value 89 = .ok (.aload_n 0, 1) := by decide +kernel
theorem dX4_value_90 : decode cX4_value 90 = .ok (.getfield 74, 3) := by decide +kernel
theorem dX4_value_93 : decode cX4_value 93 = .ok (.bipush 24, 2) := by decide +kernel
theorem dX4_value_95 : decode cX4_value 95 = .ok (.iload 5, 2) := by decide +kernel
theorem dX4_value_97 : decode cX4_value 97 = .ok (.imul, 1) := by decide +kernel
theorem dX4_value_98 : decode cX4_value 98 = .ok (.iload_n 1, 1) := by decide +kernel
theorem dX4_value_99 : decode cX4_value 99 = .ok (.iadd, 1) := by decide +kernel
theorem dX4_value_100 : decode cX4_value 100 = .ok (.iaload, 1) := by decide +kernel
theorem dX4_value_101 : decode cX4_value 101 = .ok (.iconst 3, 1) := by decide +kernel
theorem dX4_value_102 : decode cX4_value 102 = .ok (.if_icmp .ne 16, 3) := by decide +kernel
theorem dX4_value_105 : decode cX4_value 105 = .ok (.aload_n 0, 1) := by decide +kernel
theorem dX4_value_106 : decode cX4_value 106 = .ok (.getfield 77, 3) := by decide +kernel
theorem dX4_value_109 : decode cX4_value 109 = .ok (.bipush 24, 2) := by decide +kernel
theorem dX4_value_111 : decode cX4_value 111 = .ok (.iload 5, 2) := by decide +kernel
theorem dX4_value_113 : decode cX4_value 113 = .ok (.imul, 1) := by decide +kernel
theorem dX4_value_114 : decode cX4_value 114 = .ok (.iload_n 1, 1) := by decide +kernel
theorem dX4_value_115 : decode cX4_value 115 = .ok (.iadd, 1) := by decide +kernel
theorem dX4_value_116 : decode cX4_value 116 = .ok (.iaload, 1) := by decide +kernel
theorem dX4_value_117 : decode cX4_value 117 = .ok (.istore_n 3, 1) := by decide +kernel
theorem dX4_value_118 : decode cX4_value 118 = .ok (.iinc 4 1, 3) := by decide +kernel
theorem dX4_value_121 : decode cX4_value 121 = .ok (.goto (-91), 3) := by decide +kernel
theorem dX4_value_124 : decode cX4_value 124 = .ok (.iload_n 3, 1) := by decide +kernel
theorem dX4_value_125 : decode cX4_value 125 = .ok (.ireturn, 1) := by decide +kernel
set_option maxRecDepth 20000 in
theorem ggX4_done_X4_in : GoodIn wsX4_done wsX4_in := goodIn_r _ [6] (by decide +kernel) (by decide +kernel)
set_option maxRecDepth 20000 in
theorem gX4_done_X4_in : GoodIn wsX4_done (va_wsS RX4 107 yX4_in wsX4_in) := goodIn_app (goodIn_of _ (by decide +kernel)) ggX4_done_X4_in
theorem dX4_done_0 : decode cX4_done 0 = .ok (.iload_n 1, 1) := by decide +kernel
theorem dX4_done_1 : decode cX4_done 1 = .ok (.iconst 0, 1) := by decide +kernel
theorem dX4_done_2 : decode cX4_done 2 = .ok (.aload_n 0, 1) := by decide +kernel
theorem dX4_done_3 : decode cX4_done 3 = .ok (.getfield 168, 3) := by decide +kernel
theorem dX4_done_6 : decode cX4_done 6 = .ok (.iconst 1, 1) := by decide +kernel
theorem dX4_done_7 : decode cX4_done 7 = .ok (.isub, 1) := by decide +kernel
theorem dX4_done_8 : decode cX4_done 8 = .ok (.invokestatic 107, 3) := by decide +kernel
theorem dX4_done_11 : decode cX4_done 11 = .ok (.ifCond .eq 12, 3) := by decide +kernel
theorem dX4_done_14 : decode cX4_done 14 = .ok (.aload_n 0, 1) := by decide +kernel
theorem dX4_done_15 : decode cX4_done 15 = .ok (.getfield 92, 3) := by decide +kernel
theorem dX4_done_18 : decode cX4_done 18 = .ok (.iload_n 1, 1) := by decide +kernel
theorem dX4_done_19 : decode cX4_done 19 = .ok (.iaload, 1) := by decide +kernel
theorem dX4_done_20 : decode cX4_done 20 = .ok (.goto 4, 3) := by decide +kernel
theorem dX4_done_23 : decode cX4_done 23 = .ok (.iconst (-1), 1) := by decide +kernel
theorem dX4_done_24 : decode cX4_done 24 = .ok (.ireturn, 1) := by decide +kernel
set_option maxRecDepth 20000 in
theorem ggX4_log_X4_in : GoodIn wsX4_log wsX4_in := goodIn_r _ [6] (by decide +kernel) (by decide +kernel)
set_option maxRecDepth 20000 in
theorem gX4_log_X4_in : GoodIn wsX4_log (va_wsS RX4 107 yX4_in wsX4_in) := goodIn_app (goodIn_of _ (by decide +kernel)) ggX4_log_X4_in
theorem dX4_log_0 : decode cX4_log 0 = .ok (.iload_n 1, 1) := by decide +kernel
theorem dX4_log_1 : decode cX4_log 1 = .ok (.iconst 0, 1) := by decide +kernel
theorem dX4_log_2 : decode cX4_log 2 = .ok (.aload_n 0, 1) := by decide +kernel
theorem dX4_log_3 : decode cX4_log 3 = .ok (.getfield 127, 3) := by decide +kernel
theorem dX4_log_6 : decode cX4_log 6 = .ok (.iconst 1, 1) := by decide +kernel
theorem dX4_log_7 : decode cX4_log 7 = .ok (.isub, 1) := by decide +kernel
theorem dX4_log_8 : decode cX4_log 8 = .ok (.invokestatic 107, 3) := by decide +kernel
theorem dX4_log_11 : decode cX4_log 11 = .ok (.ifCond .eq 25, 3) := by decide +kernel
theorem dX4_log_14 : decode cX4_log 14 = .ok (.iload_n 2, 1) := by decide +kernel
theorem dX4_log_15 : decode cX4_log 15 = .ok (.iconst 0, 1) := by decide +kernel
theorem dX4_log_16 : decode cX4_log 16 = .ok (.iconst 3, 1) := by decide +kernel
theorem dX4_log_17 : decode cX4_log 17 = .ok (.invokestatic 107, 3) := by decide +kernel
theorem dX4_log_20 : decode cX4_log 20 = .ok (.ifCond .eq 16, 3) := by decide +kernel
theorem dX4_log_23 : decode cX4_log 23 = .ok (.aload_n 0, 1) := by decide +kernel
theorem dX4_log_24 : decode cX4_log 24 = .ok (.getfield 95, 3) := by decide +kernel
theorem dX4_log_27 : decode cX4_log 27 = .ok (.iconst 4, 1) := by decide +kernel
theorem dX4_log_28 : decode cX4_log 28 = .ok (.iload_n 1, 1) := by decide +kernel
theorem dX4_log_29 : decode cX4_log 29 = .ok (.imul, 1) := by decide +kernel
theorem dX4_log_30 : decode cX4_log 30 = .ok (.iload_n 2, 1) := by decide +kernel
theorem dX4_log_31 : decode cX4_log 31 = .ok (.iadd, 1) := by decide +kernel
theorem dX4_log_32 : decode cX4_log 32 = .ok (.iaload, 1) := by decide +kernel
theorem dX4_log_33 : decode cX4_log 33 = .ok (.goto 4, 3) := by decide +kernel
theorem dX4_log_36 : decode cX4_log 36 = .ok (.iconst (-1), 1) := by decide +kernel
theorem dX4_log_37 : decode cX4_log 37 = .ok (.ireturn, 1) := by decide +kernel
theorem dX4_countOf_0 : decode cX4_countOf 0 = .ok (.iconst 0, 1) := by decide +kernel
theorem dX4_countOf_1 : decode cX4_countOf 1 = .ok (.istore_n 2, 1) := by decide +kernel
theorem dX4_countOf_2 : decode cX4_countOf 2 = .ok (.iconst 0, 1) := by decide +kernel
theorem dX4_countOf_3 : decode cX4_countOf 3 = .ok (.istore_n 3, 1) := by decide +kernel
theorem dX4_countOf_4 : decode cX4_countOf 4 = .ok (.iload_n 3, 1) := by decide +kernel
theorem dX4_countOf_5 : decode cX4_countOf 5 = .ok (.aload_n 0, 1) := by decide +kernel
theorem dX4_countOf_6 : decode cX4_countOf 6 = .ok (.getfield 111, 3) := by decide +kernel
theorem dX4_countOf_9 : decode cX4_countOf 9 = .ok (.if_icmp .ge 27, 3) := by decide +kernel
theorem dX4_countOf_12 : decode cX4_countOf 12 = .ok (.iload_n 2, 1) := by decide +kernel
theorem dX4_countOf_13 : decode cX4_countOf 13 = .ok (.aload_n 0, 1) := by decide +kernel
theorem dX4_countOf_14 : decode cX4_countOf 14 = .ok (.getfield 37, 3) := by decide +kernel
theorem dX4_countOf_17 : decode cX4_countOf 17 = .ok (.iload_n 3, 1) := by decide +kernel
theorem dX4_countOf_18 : decode cX4_countOf 18 = .ok (.iaload, 1) := by decide +kernel
theorem dX4_countOf_19 : decode cX4_countOf 19 = .ok (.iload_n 1, 1) := by decide +kernel
theorem dX4_countOf_20 : decode cX4_countOf 20 = .ok (.if_icmp .ne 7, 3) := by decide +kernel
theorem dX4_countOf_23 : decode cX4_countOf 23 = .ok (.iconst 1, 1) := by decide +kernel
theorem dX4_countOf_24 : decode cX4_countOf 24 = .ok (.goto 4, 3) := by decide +kernel
theorem dX4_countOf_27 : decode cX4_countOf 27 = .ok (.iconst 0, 1) := by decide +kernel
theorem dX4_countOf_28 : decode cX4_countOf 28 = .ok (.iadd, 1) := by decide +kernel
theorem dX4_countOf_29 : decode cX4_countOf 29 = .ok (.istore_n 2, 1) := by decide +kernel
theorem dX4_countOf_30 : decode cX4_countOf 30 = .ok (.iinc 3 1, 3) := by decide +kernel
theorem dX4_countOf_33 : decode cX4_countOf 33 = .ok (.goto (-29), 3) := by decide +kernel
theorem dX4_countOf_36 : decode cX4_countOf 36 = .ok (.iload_n 2, 1) := by decide +kernel
theorem dX4_countOf_37 : decode cX4_countOf 37 = .ok (.ireturn, 1) := by decide +kernel
set_option maxRecDepth 20000 in
theorem ggX4_count_X4_countOf : GoodIn wsX4_count wsX4_countOf := goodIn_r _ [11, 2, 12, 13, 14, 15, 16, 17, 18, 19, 20, 21, 22, 23, 24, 25, 26, 27, 28, 29, 30, 31, 32, 33, 34, 35, 36, 37, 38, 39, 40, 41, 42, 43, 44, 45, 46, 47, 48, 49, 50, 51] (by decide +kernel) (by decide +kernel)
set_option maxRecDepth 20000 in
theorem gX4_count_X4_countOf : GoodIn wsX4_count (wsV RX4 212 RX4 yX4_countOf wsX4_countOf) := goodIn_app (goodIn_of _ (by decide +kernel)) ggX4_count_X4_countOf
theorem dX4_count_0 : decode cX4_count 0 = .ok (.iload_n 1, 1) := by decide +kernel
theorem dX4_count_1 : decode cX4_count 1 = .ok (.tableswitch 105 0 8 #[51, 56, 61, 66, 71, 77, 83, 95, 100], 51) := by decide +kernel
theorem dX4_count_52 : decode cX4_count 52 = .ok (.aload_n 0, 1) := by decide +kernel
theorem dX4_count_53 : decode cX4_count 53 = .ok (.getfield 130, 3) := by decide +kernel
theorem dX4_count_56 : decode cX4_count 56 = .ok (.ireturn, 1) := by decide +kernel
theorem dX4_count_57 : decode cX4_count 57 = .ok (.aload_n 0, 1) := by decide +kernel
theorem dX4_count_58 : decode cX4_count 58 = .ok (.getfield 111, 3) := by decide +kernel
theorem dX4_count_61 : decode cX4_count 61 = .ok (.ireturn, 1) := by decide +kernel
theorem dX4_count_62 : decode cX4_count 62 = .ok (.aload_n 0, 1) := by decide +kernel
theorem dX4_count_63 : decode cX4_count 63 = .ok (.getfield 127, 3) := by decide +kernel
theorem dX4_count_66 : decode cX4_count 66 = .ok (.ireturn, 1) := by decide +kernel
theorem dX4_count_67 : decode cX4_count 67 = .ok (.aload_n 0, 1) := by decide +kernel
theorem dX4_count_68 : decode cX4_count 68 = .ok (.getfield 190, 3) := by decide +kernel
theorem dX4_count_71 : decode cX4_count 71 = .ok (.ireturn, 1) := by decide +kernel
theorem dX4_count_72 : decode cX4_count 72 = .ok (.aload_n 0, 1) := by decide +kernel
theorem dX4_count_73 : decode cX4_count 73 = .ok (.iconst 0, 1) := by decide +kernel
theorem dX4_count_74 : decode cX4_count 74 = .ok (.invokevirtual 212, 3) := by decide +kernel
theorem dX4_count_77 : decode cX4_count 77 = .ok (.ireturn, 1) := by decide +kernel
theorem dX4_count_78 : decode cX4_count 78 = .ok (.aload_n 0, 1) := by decide +kernel
theorem dX4_count_79 : decode cX4_count 79 = .ok (.iconst 1, 1) := by decide +kernel
theorem dX4_count_80 : decode cX4_count 80 = .ok (.invokevirtual 212, 3) := by decide +kernel
theorem dX4_count_83 : decode cX4_count 83 = .ok (.ireturn, 1) := by decide +kernel
theorem dX4_count_84 : decode cX4_count 84 = .ok (.aload_n 0, 1) := by decide +kernel
theorem dX4_count_85 : decode cX4_count 85 = .ok (.iconst 2, 1) := by decide +kernel
theorem dX4_count_86 : decode cX4_count 86 = .ok (.invokevirtual 212, 3) := by decide +kernel
theorem dX4_count_89 : decode cX4_count 89 = .ok (.aload_n 0, 1) := by decide +kernel
theorem dX4_count_90 : decode cX4_count 90 = .ok (.iconst 3, 1) := by decide +kernel
theorem dX4_count_91 : decode cX4_count 91 = .ok (.invokevirtual 212, 3) := by decide +kernel
theorem dX4_count_94 : decode cX4_count 94 = .ok (.iadd, 1) := by decide +kernel
theorem dX4_count_95 : decode cX4_count 95 = .ok (.ireturn, 1) := by decide +kernel
theorem dX4_count_96 : decode cX4_count 96 = .ok (.aload_n 0, 1) := by decide +kernel
theorem dX4_count_97 : decode cX4_count 97 = .ok (.getfield 184, 3) := by decide +kernel
theorem dX4_count_100 : decode cX4_count 100 = .ok (.ireturn, 1) := by decide +kernel
theorem dX4_count_101 : decode cX4_count 101 = .ok (.aload_n 0, 1) := by decide +kernel
theorem dX4_count_102 : decode cX4_count 102 = .ok (.getfield 205, 3) := by decide +kernel
theorem dX4_count_105 : decode cX4_count 105 = .ok (.ireturn, 1) := by decide +kernel
theorem dX4_count_106 : decode cX4_count 106 = .ok (.iconst (-1), 1) := by decide +kernel
theorem dX4_count_107 : decode cX4_count 107 = .ok (.ireturn, 1) := by decide +kernel
theorem dJ9_min_7cf53_0 : decode cJ9_min_7cf53 0 = .ok (.iload_n 0, 1) := by decide +kernel
theorem dJ9_min_7cf53_1 : decode cJ9_min_7cf53 1 = .ok (.iload_n 1, 1) := by decide +kernel
theorem dJ9_min_7cf53_2 : decode cJ9_min_7cf53 2 = .ok (.if_icmp .gt 7, 3) := by decide +kernel
theorem dJ9_min_7cf53_5 : decode cJ9_min_7cf53 5 = .ok (.iload_n 0, 1) := by decide +kernel
theorem dJ9_min_7cf53_6 : decode cJ9_min_7cf53 6 = .ok (.goto 4, 3) := by decide +kernel
theorem dJ9_min_7cf53_9 : decode cJ9_min_7cf53 9 = .ok (.iload_n 1, 1) := by decide +kernel
theorem dJ9_min_7cf53_10 : decode cJ9_min_7cf53 10 = .ok (.ireturn, 1) := by decide +kernel
theorem dJ7_fill_d0a16_0 : decode cJ7_fill_d0a16 0 = .ok (.iconst 0, 1) := by decide +kernel
theorem dJ7_fill_d0a16_1 : decode cJ7_fill_d0a16 1 = .ok (.istore_n 3, 1) := by decide +kernel
theorem dJ7_fill_d0a16_2 : decode cJ7_fill_d0a16 2 = .ok (.aload_n 0, 1) := by decide +kernel
theorem dJ7_fill_d0a16_3 : decode cJ7_fill_d0a16 3 = .ok (.arraylength, 1) := by decide +kernel
theorem dJ7_fill_d0a16_4 : decode cJ7_fill_d0a16 4 = .ok (.istore 4, 2) := by decide +kernel
theorem dJ7_fill_d0a16_6 : decode cJ7_fill_d0a16 6 = .ok (.iload_n 3, 1) := by decide +kernel
theorem dJ7_fill_d0a16_7 : decode cJ7_fill_d0a16 7 = .ok (.iload 4, 2) := by decide +kernel
theorem dJ7_fill_d0a16_9 : decode cJ7_fill_d0a16 9 = .ok (.if_icmp .ge 13, 3) := by decide +kernel
theorem dJ7_fill_d0a16_12 : decode cJ7_fill_d0a16 12 = .ok (.aload_n 0, 1) := by decide +kernel
theorem dJ7_fill_d0a16_13 : decode cJ7_fill_d0a16 13 = .ok (.iload_n 3, 1) := by decide +kernel
theorem dJ7_fill_d0a16_14 : decode cJ7_fill_d0a16 14 = .ok (.lload_n 1, 1) := by decide +kernel
theorem dJ7_fill_d0a16_15 : decode cJ7_fill_d0a16 15 = .ok (.lastore, 1) := by decide +kernel
theorem dJ7_fill_d0a16_16 : decode cJ7_fill_d0a16 16 = .ok (.iinc 3 1, 3) := by decide +kernel
theorem dJ7_fill_d0a16_19 : decode cJ7_fill_d0a16 19 = .ok (.goto (-13), 3) := by decide +kernel
theorem dJ7_fill_d0a16_22 : decode cJ7_fill_d0a16 22 = .ok (.return_, 1) := by decide +kernel
theorem dJ7_fill_53178_0 : decode cJ7_fill_53178 0 = .ok (.iconst 0, 1) := by decide +kernel
theorem dJ7_fill_53178_1 : decode cJ7_fill_53178 1 = .ok (.istore_n 2, 1) := by decide +kernel
theorem dJ7_fill_53178_2 : decode cJ7_fill_53178 2 = .ok (.aload_n 0, 1) := by decide +kernel
theorem dJ7_fill_53178_3 : decode cJ7_fill_53178 3 = .ok (.arraylength, 1) := by decide +kernel
theorem dJ7_fill_53178_4 : decode cJ7_fill_53178 4 = .ok (.istore_n 3, 1) := by decide +kernel
theorem dJ7_fill_53178_5 : decode cJ7_fill_53178 5 = .ok (.iload_n 2, 1) := by decide +kernel
theorem dJ7_fill_53178_6 : decode cJ7_fill_53178 6 = .ok (.iload_n 3, 1) := by decide +kernel
theorem dJ7_fill_53178_7 : decode cJ7_fill_53178 7 = .ok (.if_icmp .ge 13, 3) := by decide +kernel
theorem dJ7_fill_53178_10 : decode cJ7_fill_53178 10 = .ok (.aload_n 0, 1) := by decide +kernel
theorem dJ7_fill_53178_11 : decode cJ7_fill_53178 11 = .ok (.iload_n 2, 1) := by decide +kernel
theorem dJ7_fill_53178_12 : decode cJ7_fill_53178 12 = .ok (.iload_n 1, 1) := by decide +kernel
theorem dJ7_fill_53178_13 : decode cJ7_fill_53178 13 = .ok (.iastore, 1) := by decide +kernel
theorem dJ7_fill_53178_14 : decode cJ7_fill_53178 14 = .ok (.iinc 2 1, 3) := by decide +kernel
theorem dJ7_fill_53178_17 : decode cJ7_fill_53178 17 = .ok (.goto (-12), 3) := by decide +kernel
theorem dJ7_fill_53178_20 : decode cJ7_fill_53178 20 = .ok (.return_, 1) := by decide +kernel
theorem dJ7_copyOf_59c91_0 : decode cJ7_copyOf_59c91 0 = .ok (.iload_n 1, 1) := by decide +kernel
theorem dJ7_copyOf_59c91_1 : decode cJ7_copyOf_59c91 1 = .ok (.aload_n 0, 1) := by decide +kernel
theorem dJ7_copyOf_59c91_2 : decode cJ7_copyOf_59c91 2 = .ok (.arraylength, 1) := by decide +kernel
theorem dJ7_copyOf_59c91_3 : decode cJ7_copyOf_59c91 3 = .ok (.if_icmp .ne 11, 3) := by decide +kernel
theorem dJ7_copyOf_59c91_6 : decode cJ7_copyOf_59c91 6 = .ok (.aload_n 0, 1) := by decide +kernel
theorem dJ7_copyOf_59c91_7 : decode cJ7_copyOf_59c91 7 = .ok (.invokevirtual 316, 3) := by decide +kernel
theorem dJ7_copyOf_59c91_10 : decode cJ7_copyOf_59c91 10 = .ok (.checkcast 317, 3) := by decide +kernel
theorem dJ7_copyOf_59c91_13 : decode cJ7_copyOf_59c91 13 = .ok (.areturn, 1) := by decide +kernel
theorem dJ7_copyOf_59c91_14 : decode cJ7_copyOf_59c91 14 = .ok (.iload_n 1, 1) := by decide +kernel
theorem dJ7_copyOf_59c91_15 : decode cJ7_copyOf_59c91 15 = .ok (.newarray .int, 2) := by decide +kernel
theorem dJ7_copyOf_59c91_17 : decode cJ7_copyOf_59c91 17 = .ok (.astore_n 2, 1) := by decide +kernel
theorem dJ7_copyOf_59c91_18 : decode cJ7_copyOf_59c91 18 = .ok (.aload_n 0, 1) := by decide +kernel
theorem dJ7_copyOf_59c91_19 : decode cJ7_copyOf_59c91 19 = .ok (.iconst 0, 1) := by decide +kernel
theorem dJ7_copyOf_59c91_20 : decode cJ7_copyOf_59c91 20 = .ok (.aload_n 2, 1) := by decide +kernel
theorem dJ7_copyOf_59c91_21 : decode cJ7_copyOf_59c91 21 = .ok (.iconst 0, 1) := by decide +kernel
theorem dJ7_copyOf_59c91_22 : decode cJ7_copyOf_59c91 22 = .ok (.aload_n 0, 1) := by decide +kernel
theorem dJ7_copyOf_59c91_23 : decode cJ7_copyOf_59c91 23 = .ok (.arraylength, 1) := by decide +kernel
theorem dJ7_copyOf_59c91_24 : decode cJ7_copyOf_59c91 24 = .ok (.iload_n 1, 1) := by decide +kernel
theorem dJ7_copyOf_59c91_25 : decode cJ7_copyOf_59c91 25 = .ok (.invokestatic 304, 3) := by decide +kernel
theorem dJ7_copyOf_59c91_28 : decode cJ7_copyOf_59c91 28 = .ok (.invokestatic 150, 3) := by decide +kernel
theorem dJ7_copyOf_59c91_31 : decode cJ7_copyOf_59c91 31 = .ok (.aload_n 2, 1) := by decide +kernel
theorem dJ7_copyOf_59c91_32 : decode cJ7_copyOf_59c91 32 = .ok (.areturn, 1) := by decide +kernel
set_option maxRecDepth 20000 in
theorem ggL_law_X3_init : GoodIn wsL_law wsX3_init := goodIn_r _ [8, 9, 10, 11, 12, 13, 14, 15, 16, 17, 18, 19, 20, 21, 22, 23, 24, 25, 26, 27, 28, 29, 30, 31, 32, 33, 34, 35, 36, 37, 38, 39, 40, 41, 42, 43, 44, 45, 580, 581, 582, 583, 584, 585, 586, 587, 588, 589, 590, 591, 592, 593, 594, 595, 596, 597, 637, 638, 639, 640, 641, 642] (by decide +kernel) (by decide +kernel)
end
section
set_option maxRecDepth 20000 in
theorem gL_law_X3_init : GoodIn wsL_law (wsX3_init) := ggL_law_X3_init
set_option maxRecDepth 20000 in
theorem ggL_law_X4_init : GoodIn wsL_law wsX4_init := goodIn_r _ [48, 49, 10, 11, 12, 50, 51, 52, 53, 54, 55, 56, 57, 58, 59, 60, 61, 62, 63, 64, 65, 66, 67, 68, 69, 70, 71, 72, 73, 74, 75, 76, 77, 78, 79, 80, 81, 82, 598, 599, 600, 601, 602, 603, 604, 605, 606, 607, 608, 609, 610, 611, 612, 613, 614, 615, 616, 617, 618, 619, 620, 621, 622, 623, 624, 625, 626, 627, 628, 629, 630, 631, 632, 633, 634, 635, 636] (by decide +kernel) (by decide +kernel)
set_option maxRecDepth 20000 in
theorem gL_law_X4_init : GoodIn wsL_law (wsX4_init) := ggL_law_X4_init
set_option maxRecDepth 20000 in
theorem ggL_law_X3_program : GoodIn wsL_law wsX3_program := goodIn_r _ [86, 14, 87, 88, 2, 89, 580, 581, 582, 583, 584, 585, 586, 587, 588, 589, 590, 591, 592, 593, 594, 595, 596, 597] (by decide +kernel) (by decide +kernel)
set_option maxRecDepth 20000 in
theorem gL_law_X3_program : GoodIn wsL_law (wsV RL 13 RX3 yX3_program wsX3_program) := goodIn_app (goodIn_of _ (by decide +kernel)) ggL_law_X3_program
set_option maxRecDepth 20000 in
theorem ggL_law_X4_program : GoodIn wsL_law wsX4_program := goodIn_r _ [93, 54, 94, 95, 5, 96, 97, 98, 99, 598, 599, 600, 601, 602, 603, 604, 605, 606, 607, 608, 609, 610, 611, 612, 613, 614, 615, 616, 617, 618, 619, 620, 621, 622, 623, 624, 625, 626, 627, 628, 629, 630, 631, 632, 633, 634, 635, 636] (by decide +kernel) (by decide +kernel)
set_option maxRecDepth 20000 in
theorem gL_law_X4_program : GoodIn wsL_law (wsV RL 17 RX4 yX4_program wsX4_program) := goodIn_app (goodIn_of _ (by decide +kernel)) ggL_law_X4_program
set_option maxRecDepth 20000 in
theorem ggL_law_X3_step : GoodIn wsL_law wsX3_step := goodIn_r _ [103, 14, 13, 87, 88, 2, 89, 104, 105, 106, 107, 108, 109, 110, 111, 112, 580, 581, 582, 583, 584, 585, 586, 587, 588, 589, 590, 591, 592, 593, 594, 595, 596, 597] (by decide +kernel) (by decide +kernel)
set_option maxRecDepth 20000 in
theorem gL_law_X3_step : GoodIn wsL_law (wsV RL 18 RX3 yX3_step wsX3_step) := goodIn_app (goodIn_of _ (by decide +kernel)) ggL_law_X3_step
set_option maxRecDepth 20000 in
theorem ggL_law_X4_step : GoodIn wsL_law wsX4_step := goodIn_r _ [116, 54, 55, 94, 95, 5, 96, 97, 98, 99, 598, 599, 600, 601, 602, 603, 604, 605, 606, 607, 608, 609, 610, 611, 612, 613, 614, 615, 616, 617, 618, 619, 620, 621, 622, 623, 624, 625, 626, 627, 628, 629, 630, 631, 632, 633, 634, 635, 636] (by decide +kernel) (by decide +kernel)
end
section
set_option maxRecDepth 20000 in
theorem gL_law_X4_step : GoodIn wsL_law (wsV RL 22 RX4 yX4_step wsX4_step) := goodIn_app (goodIn_of _ (by decide +kernel)) ggL_law_X4_step
set_option maxRecDepth 20000 in
theorem ggL_law_X3_act : GoodIn wsL_law wsX3_act := goodIn_r _ [120, 87, 88, 2, 89, 121, 122, 123, 124, 125, 19, 18, 126, 127, 20, 128, 129, 130, 131, 132, 10, 11, 12, 133, 134, 135, 136, 137, 138, 139, 140, 141, 142, 143, 144, 145, 146, 147, 580, 581, 582, 583, 584, 585, 586, 587, 588, 589, 590, 591, 592, 593, 594, 595, 596, 597, 643, 644, 645, 646, 647, 648, 649, 650, 651, 652, 653, 654, 655, 656, 657, 658, 659, 660, 661, 662] (by decide +kernel) (by decide +kernel)
set_option maxRecDepth 20000 in
theorem gL_law_X3_act : GoodIn wsL_law (wsV RL 23 RX3 yX3_act wsX3_act) := goodIn_app (goodIn_of _ (by decide +kernel)) ggL_law_X3_act
set_option maxRecDepth 20000 in
theorem ggL_law_X4_act : GoodIn wsL_law wsX4_act := goodIn_r _ [151, 94, 95, 5, 96, 97, 98, 99, 152, 153, 154, 155, 156, 56, 57, 58, 68, 66, 69, 598, 599, 600, 601, 602, 603, 604, 605, 606, 607, 608, 609, 610, 611, 612, 613, 614, 615, 616, 617, 618, 619, 620, 621, 622, 623, 624, 625, 626, 627, 628, 629, 630, 631, 632, 633, 634, 635, 636] (by decide +kernel) (by decide +kernel)
set_option maxRecDepth 20000 in
theorem gL_law_X4_act : GoodIn wsL_law (wsV RL 27 RX4 yX4_act wsX4_act) := goodIn_app (goodIn_of _ (by decide +kernel)) ggL_law_X4_act
set_option maxRecDepth 20000 in
theorem ggL_law_X3_limit : GoodIn wsL_law wsX3_limit := goodIn_r _ [160, 15, 87, 88, 2, 89, 580, 581, 582, 583, 584, 585, 586, 587, 588, 589, 590, 591, 592, 593, 594, 595, 596, 597] (by decide +kernel) (by decide +kernel)
set_option maxRecDepth 20000 in
theorem gL_law_X3_limit : GoodIn wsL_law (wsV RL 28 RX3 yX3_limit wsX3_limit) := goodIn_app (goodIn_of _ (by decide +kernel)) ggL_law_X3_limit
set_option maxRecDepth 20000 in
theorem ggL_law_X4_limit : GoodIn wsL_law wsX4_limit := goodIn_r _ [164, 53, 97, 98, 5, 99, 598, 599, 600, 601, 602, 603, 604, 605, 606, 607, 608, 609, 610, 611, 612, 613, 614, 615, 616, 617, 618, 619, 620, 621, 622, 623, 624, 625, 626, 627, 628, 629, 630, 631, 632, 633, 634, 635, 636] (by decide +kernel) (by decide +kernel)
set_option maxRecDepth 20000 in
theorem gL_law_X4_limit : GoodIn wsL_law (wsV RL 32 RX4 yX4_limit wsX4_limit) := goodIn_app (goodIn_of _ (by decide +kernel)) ggL_law_X4_limit
set_option maxRecDepth 20000 in
theorem ggL_law_X3_floor : GoodIn wsL_law wsX3_floor := goodIn_r _ [168, 16, 87, 88, 2, 89, 169, 170, 171, 172, 17, 125, 19, 173, 174, 580, 581, 582, 583, 584, 585, 586, 587, 588, 589, 590, 591, 592, 593, 594, 595, 596, 597, 643, 644, 645, 646, 647, 648, 649, 650, 651, 652, 653, 654, 655, 656, 657, 658, 659, 660, 661, 662] (by decide +kernel) (by decide +kernel)
end
section
set_option maxRecDepth 20000 in
theorem gL_law_X3_floor : GoodIn wsL_law (wsV RL 33 RX3 yX3_floor wsX3_floor) := goodIn_app (goodIn_of _ (by decide +kernel)) ggL_law_X3_floor
set_option maxRecDepth 20000 in
theorem ggL_law_X4_floor : GoodIn wsL_law wsX4_floor := goodIn_r _ [178, 52, 97, 98, 5, 99, 179, 180, 181, 182, 51, 156, 59, 75, 598, 599, 600, 601, 602, 603, 604, 605, 606, 607, 608, 609, 610, 611, 612, 613, 614, 615, 616, 617, 618, 619, 620, 621, 622, 623, 624, 625, 626, 627, 628, 629, 630, 631, 632, 633, 634, 635, 636] (by decide +kernel) (by decide +kernel)
set_option maxRecDepth 20000 in
theorem gL_law_X4_floor : GoodIn wsL_law (wsV RL 36 RX4 yX4_floor wsX4_floor) := goodIn_app (goodIn_of _ (by decide +kernel)) ggL_law_X4_floor
set_option maxRecDepth 20000 in
theorem ggL_law_X3_go : GoodIn wsL_law wsX3_go := goodIn_r _ [186, 187, 188, 189, 190, 2, 191, 192, 193, 194, 195, 196, 22, 197, 198, 199, 200, 125, 19, 20, 173, 201, 202, 203, 204, 205, 206, 207, 208, 209, 210, 127, 211, 212, 213, 214, 215, 216, 217, 16, 107, 108, 109, 110, 111, 112, 218, 219, 220, 169, 170, 171, 172, 17, 174, 221, 222, 223, 224, 225, 226, 227, 228, 229, 230, 231, 232, 27, 233, 234, 235, 236, 134, 237, 238, 239, 240, 241, 242, 243, 244, 135, 136, 245, 246, 247, 248, 249, 250, 251, 252, 253, 254, 255, 256, 257, 258, 26, 259, 260, 261, 35, 262, 263, 44, 264, 265, 266, 267, 268, 269, 270, 12, 271, 272, 273, 274, 275, 276, 277, 278, 279, 280, 281, 282, 137, 283, 284, 285, 286, 287, 288, 138, 289, 290, 291, 292, 293, 294, 295, 296, 297, 139, 142, 143, 298, 43, 45, 299, 300, 301, 302, 303, 304, 21, 305, 306, 307, 128, 308, 309, 310, 311, 121, 122, 123, 124, 18, 126, 129, 130, 131, 132, 10, 11, 133, 140, 141, 144, 145, 146, 147, 312, 313, 314, 315, 31, 316, 317, 318, 319, 320, 321, 322, 30, 323, 324, 325, 40, 326, 327, 328, 329, 330, 331, 332, 333, 334, 335, 336, 337, 338, 339, 340, 41, 341, 342, 343, 344, 345, 346, 347, 348, 349, 350, 351, 352, 353, 354, 355, 356, 357, 358, 359, 360, 361, 362, 363, 364, 365, 366, 367, 368, 369, 14, 370, 23, 15, 13, 371, 372, 373, 374, 42, 375, 376, 377, 378, 379, 380, 381, 382, 383, 384, 385, 386, 387, 388, 580, 581, 582, 583, 584, 585, 586, 587, 588, 589, 590, 591, 592, 593, 594, 595, 596, 597, 643, 644, 645, 646, 647, 648, 649, 650, 651, 652, 653, 654, 655, 656, 657, 658, 659, 660, 661, 662, 637, 638, 639, 640, 641, 642] (by decide +kernel) (by decide +kernel)
set_option maxRecDepth 20000 in
theorem gL_law_X3_go : GoodIn wsL_law (wsV RL 37 RX3 yX3_go wsX3_go) := goodIn_app (goodIn_of _ (by decide +kernel)) ggL_law_X3_go
set_option maxRecDepth 20000 in
theorem ggL_law_X4_go : GoodIn wsL_law wsX4_go := goodIn_r _ [392, 393, 80, 97, 98, 5, 99, 394, 395, 396, 397, 156, 59, 398, 399, 400, 401, 58, 402, 403, 404, 405, 65, 63, 72, 73, 74, 75, 76, 77, 406, 407, 62, 60, 408, 409, 410, 411, 61, 412, 413, 414, 415, 52, 416, 417, 418, 419, 420, 421, 422, 423, 179, 180, 181, 182, 51, 424, 425, 426, 427, 50, 428, 429, 430, 431, 432, 79, 12, 433, 434, 435, 436, 437, 438, 439, 440, 66, 78, 441, 57, 442, 443, 444, 445, 446, 447, 448, 449, 152, 153, 154, 155, 56, 68, 69, 450, 451, 452, 453, 67, 454, 455, 456, 457, 458, 81, 82, 459, 460, 461, 462, 463, 464, 465, 466, 53, 54, 55, 467, 468, 469, 470, 471, 598, 599, 600, 601, 602, 603, 604, 605, 606, 607, 608, 609, 610, 611, 612, 613, 614, 615, 616, 617, 618, 619, 620, 621, 622, 623, 624, 625, 626, 627, 628, 629, 630, 631, 632, 633, 634, 635, 636] rfl (by decide +kernel)
set_option maxRecDepth 20000 in
theorem gL_law_X4_go : GoodIn wsL_law (wsV RL 41 RX4 yX4_go wsX4_go) := goodIn_app (goodIn_of _ (by decide +kernel)) ggL_law_X4_go
set_option maxRecDepth 20000 in
theorem ggL_law_X3_fall : GoodIn wsL_law wsX3_fall := goodIn_r _ [475, 27, 476, 477, 478, 125, 479, 480, 481, 26, 482, 260, 384, 385, 386, 387, 388, 483, 484, 485, 2, 486, 19, 173, 293, 487, 488, 489, 490, 491, 294, 295, 296, 127, 297, 139, 142, 143, 288, 134, 136, 137, 298, 43, 44, 45, 356, 357, 358, 359, 360, 361, 492, 493, 494, 495, 304, 21, 496, 497, 498, 499, 17, 42, 308, 309, 310, 311, 241, 242, 243, 244, 135, 580, 581, 582, 583, 584, 585, 586, 587, 588, 589, 590, 591, 592, 593, 594, 595, 596, 597, 637, 638, 639, 643, 644, 645, 646, 647, 648, 649, 650, 651, 652, 653, 654, 655, 656, 657, 658, 659, 660, 661, 662] (by decide +kernel) (by decide +kernel)
set_option maxRecDepth 20000 in
theorem gL_law_X3_fall : GoodIn wsL_law (wsV RL 42 RX3 yX3_fall wsX3_fall) := goodIn_app (goodIn_of _ (by decide +kernel)) ggL_law_X3_fall
set_option maxRecDepth 20000 in
theorem ggL_law_X4_fall : GoodIn wsL_law wsX4_fall := goodIn_r _ [503, 432, 471, 156, 71, 59, 79, 441, 66, 70, 68, 67, 50, 51, 78, 504, 433, 434, 435, 5, 436, 72, 74, 75, 77, 63, 62, 65, 446, 447, 448, 449, 73, 467, 468, 469, 470, 598, 599, 600, 601, 602, 603, 604, 605, 606, 607, 608, 609, 610, 611, 612, 613, 614, 615, 616, 617, 618, 619, 620, 621, 622, 623, 624, 625, 626, 627, 628, 629, 630, 631, 632, 633, 634, 635, 636] (by decide +kernel) (by decide +kernel)
end
section
set_option maxRecDepth 20000 in
theorem gL_law_X4_fall : GoodIn wsL_law (wsV RL 45 RX4 yX4_fall wsX4_fall) := goodIn_app (goodIn_of _ (by decide +kernel)) ggL_law_X4_fall
set_option maxRecDepth 20000 in
theorem ggL_law_X3_told : GoodIn wsL_law wsX3_told := goodIn_r _ [508, 125, 19, 173, 370, 307, 128, 206, 207, 187, 303, 509, 491, 350, 87, 88, 2, 89, 580, 581, 582, 583, 584, 585, 586, 587, 588, 589, 590, 591, 592, 593, 594, 595, 596, 597, 643, 644, 645, 646, 647, 648, 649, 650, 651, 652, 653, 654, 655, 656, 657, 658, 659, 660, 661, 662] (by decide +kernel) (by decide +kernel)
set_option maxRecDepth 20000 in
theorem gL_law_X3_told : GoodIn wsL_law (wsV RL 46 RX3 yX3_told wsX3_told) := goodIn_app (goodIn_of _ (by decide +kernel)) ggL_law_X3_told
set_option maxRecDepth 20000 in
theorem ggL_law_X4_told : GoodIn wsL_law wsX4_told := goodIn_r _ [513, 59, 56, 57, 58, 62, 65, 66, 67, 68, 69, 514, 515, 516, 5, 517, 156, 97, 98, 99, 598, 599, 600, 601, 602, 603, 604, 605, 606, 607, 608, 609, 610, 611, 612, 613, 614, 615, 616, 617, 618, 619, 620, 621, 622, 623, 624, 625, 626, 627, 628, 629, 630, 631, 632, 633, 634, 635, 636] (by decide +kernel) (by decide +kernel)
set_option maxRecDepth 20000 in
theorem gL_law_X4_told : GoodIn wsL_law (wsV RL 49 RX4 yX4_told wsX4_told) := goodIn_app (goodIn_of _ (by decide +kernel)) ggL_law_X4_told
set_option maxRecDepth 20000 in
theorem ggL_law_X3_register : GoodIn wsL_law wsX3_register := goodIn_r _ [521, 125, 19, 173, 522, 232, 87, 88, 2, 89, 580, 581, 582, 583, 584, 585, 586, 587, 588, 589, 590, 591, 592, 593, 594, 595, 596, 597, 643, 644, 645, 646, 647, 648, 649, 650, 651, 652, 653, 654, 655, 656, 657, 658, 659, 660, 661, 662] (by decide +kernel) (by decide +kernel)
set_option maxRecDepth 20000 in
theorem gL_law_X3_register : GoodIn wsL_law (wsV RL 50 RX3 yX3_register wsX3_register) := goodIn_app (goodIn_of _ (by decide +kernel)) ggL_law_X3_register
set_option maxRecDepth 20000 in
theorem ggL_law_X4_register : GoodIn wsL_law wsX4_register := goodIn_r _ [526, 59, 63, 527, 514, 515, 516, 5, 517, 156, 97, 98, 99, 598, 599, 600, 601, 602, 603, 604, 605, 606, 607, 608, 609, 610, 611, 612, 613, 614, 615, 616, 617, 618, 619, 620, 621, 622, 623, 624, 625, 626, 627, 628, 629, 630, 631, 632, 633, 634, 635, 636] (by decide +kernel) (by decide +kernel)
set_option maxRecDepth 20000 in
theorem gL_law_X4_register : GoodIn wsL_law (wsV RL 53 RX4 yX4_register wsX4_register) := goodIn_app (goodIn_of _ (by decide +kernel)) ggL_law_X4_register
set_option maxRecDepth 20000 in
theorem ggL_law_X3_holds : GoodIn wsL_law wsX3_holds := goodIn_r _ [531, 125, 19, 173, 227, 87, 88, 2, 89, 580, 581, 582, 583, 584, 585, 586, 587, 588, 589, 590, 591, 592, 593, 594, 595, 596, 597, 643, 644, 645, 646, 647, 648, 649, 650, 651, 652, 653, 654, 655, 656, 657, 658, 659, 660, 661, 662] (by decide +kernel) (by decide +kernel)
end
section
set_option maxRecDepth 20000 in
theorem gL_law_X3_holds : GoodIn wsL_law (wsV RL 54 RX3 yX3_holds wsX3_holds) := goodIn_app (goodIn_of _ (by decide +kernel)) ggL_law_X3_holds
set_option maxRecDepth 20000 in
theorem ggL_law_X4_holds : GoodIn wsL_law wsX4_holds := goodIn_r _ [535, 59, 72, 514, 515, 516, 5, 517, 156, 97, 98, 99, 598, 599, 600, 601, 602, 603, 604, 605, 606, 607, 608, 609, 610, 611, 612, 613, 614, 615, 616, 617, 618, 619, 620, 621, 622, 623, 624, 625, 626, 627, 628, 629, 630, 631, 632, 633, 634, 635, 636] (by decide +kernel) (by decide +kernel)
set_option maxRecDepth 20000 in
theorem gL_law_X4_holds : GoodIn wsL_law (wsV RL 57 RX4 yX4_holds wsX4_holds) := goodIn_app (goodIn_of _ (by decide +kernel)) ggL_law_X4_holds
set_option maxRecDepth 20000 in
theorem ggL_law_X3_value : GoodIn wsL_law wsX3_value := goodIn_r _ [539, 187, 522, 17, 304, 19, 21, 303, 87, 88, 2, 89, 241, 242, 243, 127, 244, 134, 135, 136, 580, 581, 582, 583, 584, 585, 586, 587, 588, 589, 590, 591, 592, 593, 594, 595, 596, 597, 643, 644, 645, 646, 647, 648, 649, 650, 651, 652, 653, 654, 655, 656, 657, 658, 659, 660, 661, 662] (by decide +kernel) (by decide +kernel)
set_option maxRecDepth 20000 in
theorem gL_law_X3_value : GoodIn wsL_law (wsV RL 58 RX3 yX3_value wsX3_value) := goodIn_app (goodIn_of _ (by decide +kernel)) ggL_law_X3_value
set_option maxRecDepth 20000 in
theorem ggL_law_X4_value : GoodIn wsL_law wsX4_value := goodIn_r _ [543, 393, 527, 441, 78, 66, 74, 72, 73, 97, 98, 5, 99, 598, 599, 600, 601, 602, 603, 604, 605, 606, 607, 608, 609, 610, 611, 612, 613, 614, 615, 616, 617, 618, 619, 620, 621, 622, 623, 624, 625, 626, 627, 628, 629, 630, 631, 632, 633, 634, 635, 636] (by decide +kernel) (by decide +kernel)
set_option maxRecDepth 20000 in
theorem gL_law_X4_value : GoodIn wsL_law (wsV RL 61 RX4 yX4_value wsX4_value) := goodIn_app (goodIn_of _ (by decide +kernel)) ggL_law_X4_value
set_option maxRecDepth 20000 in
theorem ggL_law_X3_done : GoodIn wsL_law wsX3_done := goodIn_r _ [547, 304, 21, 87, 88, 2, 89, 580, 581, 582, 583, 584, 585, 586, 587, 588, 589, 590, 591, 592, 593, 594, 595, 596, 597] (by decide +kernel) (by decide +kernel)
set_option maxRecDepth 20000 in
theorem gL_law_X3_done : GoodIn wsL_law (wsV RL 62 RX3 yX3_done wsX3_done) := goodIn_app (goodIn_of _ (by decide +kernel)) ggL_law_X3_done
set_option maxRecDepth 20000 in
theorem ggL_law_X4_done : GoodIn wsL_law wsX4_done := goodIn_r _ [551, 441, 78, 97, 98, 5, 99, 598, 599, 600, 601, 602, 603, 604, 605, 606, 607, 608, 609, 610, 611, 612, 613, 614, 615, 616, 617, 618, 619, 620, 621, 622, 623, 624, 625, 626, 627, 628, 629, 630, 631, 632, 633, 634, 635, 636] (by decide +kernel) (by decide +kernel)
end
section
set_option maxRecDepth 20000 in
theorem gL_law_X4_done : GoodIn wsL_law (wsV RL 65 RX4 yX4_done wsX4_done) := goodIn_app (goodIn_of _ (by decide +kernel)) ggL_law_X4_done
set_option maxRecDepth 20000 in
theorem ggL_law_X3_log : GoodIn wsL_law wsX3_log := goodIn_r _ [555, 27, 556, 557, 558, 26, 559, 260, 35, 580, 581, 582, 583, 584, 585, 586, 587, 588, 589, 590, 591, 592, 593, 594, 595, 596, 597, 637, 638, 639] (by decide +kernel) (by decide +kernel)
set_option maxRecDepth 20000 in
theorem gL_law_X3_log : GoodIn wsL_law (wsV RL 66 RX3 yX3_log wsX3_log) := goodIn_app (goodIn_of _ (by decide +kernel)) ggL_law_X3_log
set_option maxRecDepth 20000 in
theorem ggL_law_X4_log : GoodIn wsL_law wsX4_log := goodIn_r _ [563, 432, 79, 97, 98, 5, 99, 598, 599, 600, 601, 602, 603, 604, 605, 606, 607, 608, 609, 610, 611, 612, 613, 614, 615, 616, 617, 618, 619, 620, 621, 622, 623, 624, 625, 626, 627, 628, 629, 630, 631, 632, 633, 634, 635, 636] (by decide +kernel) (by decide +kernel)
set_option maxRecDepth 20000 in
theorem gL_law_X4_log : GoodIn wsL_law (wsV RL 69 RX4 yX4_log wsX4_log) := goodIn_app (goodIn_of _ (by decide +kernel)) ggL_law_X4_log
set_option maxRecDepth 20000 in
theorem ggL_law_X3_count : GoodIn wsL_law wsX3_count := goodIn_r _ [567, 187, 125, 27, 476, 477, 304, 355, 478, 568, 569, 570, 2, 571, 19, 173, 580, 581, 582, 583, 584, 585, 586, 587, 588, 589, 590, 591, 592, 593, 594, 595, 596, 597, 637, 638, 639, 643, 644, 645, 646, 647, 648, 649, 650, 651, 652, 653, 654, 655, 656, 657, 658, 659, 660, 661, 662] (by decide +kernel) (by decide +kernel)
set_option maxRecDepth 20000 in
theorem gL_law_X3_count : GoodIn wsL_law (wsV RL 70 RX3 yX3_count wsX3_count) := goodIn_app (goodIn_of _ (by decide +kernel)) ggL_law_X3_count
set_option maxRecDepth 20000 in
theorem ggL_law_X4_count : GoodIn wsL_law wsX4_count := goodIn_r _ [575, 393, 156, 432, 471, 454, 504, 576, 577, 578, 5, 579, 59, 598, 599, 600, 601, 602, 603, 604, 605, 606, 607, 608, 609, 610, 611, 612, 613, 614, 615, 616, 617, 618, 619, 620, 621, 622, 623, 624, 625, 626, 627, 628, 629, 630, 631, 632, 633, 634, 635, 636] (by decide +kernel) (by decide +kernel)
set_option maxRecDepth 20000 in
theorem gL_law_X4_count : GoodIn wsL_law (wsV RL 73 RX4 yX4_count wsX4_count) := goodIn_app (goodIn_of _ (by decide +kernel)) ggL_law_X4_count
theorem dL_law_0 : decode cL_law 0 = .ok (.new 7, 3) := by decide +kernel
theorem dL_law_3 : decode cL_law 3 = .ok (.dup, 1) := by decide +kernel
theorem dL_law_4 : decode cL_law 4 = .ok (.invokespecial 9, 3) := by decide +kernel
theorem dL_law_7 : decode cL_law 7 = .ok (.astore_n 1, 1) := by decide +kernel
theorem dL_law_8 : decode cL_law 8 = .ok (.new 10, 3) := by decide +kernel
theorem dL_law_11 : decode cL_law 11 = .ok (.dup, 1) := by decide +kernel
theorem dL_law_12 : decode cL_law 12 = .ok (.invokespecial 12, 3) := by decide +kernel
theorem dL_law_15 : decode cL_law 15 = .ok (.astore_n 2, 1) := by decide +kernel
theorem dL_law_16 : decode cL_law 16 = .ok (.iconst 0, 1) := by decide +kernel
theorem dL_law_17 : decode cL_law 17 = .ok (.istore_n 3, 1) := by decide +kernel
theorem dL_law_18 : decode cL_law 18 = .ok (.iload_n 3, 1) := by decide +kernel
theorem dL_law_19 : decode cL_law 19 = .ok (.aload_n 0, 1) := by decide +kernel
theorem dL_law_20 : decode cL_law 20 = .ok (.arraylength, 1) := by decide +kernel
theorem dL_law_21 : decode cL_law 21 = .ok (.iconst 4, 1) := by decide +kernel
theorem dL_law_22 : decode cL_law 22 = .ok (.isub, 1) := by decide +kernel
theorem dL_law_23 : decode cL_law 23 = .ok (.if_icmp .gt 499, 3) := by decide +kernel
theorem dL_law_26 : decode cL_law 26 = .ok (.aload_n 0, 1) := by decide +kernel
theorem dL_law_27 : decode cL_law 27 = .ok (.iload_n 3, 1) := by decide +kernel
theorem dL_law_28 : decode cL_law 28 = .ok (.iaload, 1) := by decide +kernel
theorem dL_law_29 : decode cL_law 29 = .ok (.bipush 15, 2) := by decide +kernel
theorem dL_law_31 : decode cL_law 31 = .ok (.iand, 1) := by decide +kernel
theorem dL_law_32 : decode cL_law 32 = .ok (.tableswitch 484 0 13 #[72, 95, 128, 171, 204, 237, 260, 283, 316, 339, 372, 405, 428, 461], 72) := by decide +kernel
theorem dL_law_104 : decode cL_law 104 = .ok (.aload_n 1, 1) := by decide +kernel
theorem dL_law_105 : decode cL_law 105 = .ok (.aload_n 0, 1) := by decide +kernel
theorem dL_law_106 : decode cL_law 106 = .ok (.iload_n 3, 1) := by decide +kernel
theorem dL_law_107 : decode cL_law 107 = .ok (.iconst 1, 1) := by decide +kernel
theorem dL_law_108 : decode cL_law 108 = .ok (.iadd, 1) := by decide +kernel
theorem dL_law_109 : decode cL_law 109 = .ok (.iaload, 1) := by decide +kernel
theorem dL_law_110 : decode cL_law 110 = .ok (.invokevirtual 13, 3) := by decide +kernel
theorem dL_law_113 : decode cL_law 113 = .ok (.aload_n 2, 1) := by decide +kernel
theorem dL_law_114 : decode cL_law 114 = .ok (.aload_n 0, 1) := by decide +kernel
theorem dL_law_115 : decode cL_law 115 = .ok (.iload_n 3, 1) := by decide +kernel
theorem dL_law_116 : decode cL_law 116 = .ok (.iconst 1, 1) := by decide +kernel
theorem dL_law_117 : decode cL_law 117 = .ok (.iadd, 1) := by decide +kernel
theorem dL_law_118 : decode cL_law 118 = .ok (.iaload, 1) := by decide +kernel
theorem dL_law_119 : decode cL_law 119 = .ok (.invokevirtual 17, 3) := by decide +kernel
theorem dL_law_122 : decode cL_law 122 = .ok (.if_icmp .eq 394, 3) := by decide +kernel
theorem dL_law_125 : decode cL_law 125 = .ok (.iconst 0, 1) := by decide +kernel
theorem dL_law_126 : decode cL_law 126 = .ok (.ireturn, 1) := by decide +kernel
theorem dL_law_127 : decode cL_law 127 = .ok (.aload_n 1, 1) := by decide +kernel
theorem dL_law_128 : decode cL_law 128 = .ok (.aload_n 0, 1) := by decide +kernel
theorem dL_law_129 : decode cL_law 129 = .ok (.iload_n 3, 1) := by decide +kernel
theorem dL_law_130 : decode cL_law 130 = .ok (.iconst 1, 1) := by decide +kernel
theorem dL_law_131 : decode cL_law 131 = .ok (.iadd, 1) := by decide +kernel
theorem dL_law_132 : decode cL_law 132 = .ok (.iaload, 1) := by decide +kernel
theorem dL_law_133 : decode cL_law 133 = .ok (.aload_n 0, 1) := by decide +kernel
theorem dL_law_134 : decode cL_law 134 = .ok (.iload_n 3, 1) := by decide +kernel
theorem dL_law_135 : decode cL_law 135 = .ok (.iconst 2, 1) := by decide +kernel
theorem dL_law_136 : decode cL_law 136 = .ok (.iadd, 1) := by decide +kernel
theorem dL_law_137 : decode cL_law 137 = .ok (.iaload, 1) := by decide +kernel
theorem dL_law_138 : decode cL_law 138 = .ok (.invokevirtual 18, 3) := by decide +kernel
theorem dL_law_141 : decode cL_law 141 = .ok (.aload_n 2, 1) := by decide +kernel
theorem dL_law_142 : decode cL_law 142 = .ok (.aload_n 0, 1) := by decide +kernel
theorem dL_law_143 : decode cL_law 143 = .ok (.iload_n 3, 1) := by decide +kernel
theorem dL_law_144 : decode cL_law 144 = .ok (.iconst 1, 1) := by decide +kernel
theorem dL_law_145 : decode cL_law 145 = .ok (.iadd, 1) := by decide +kernel
theorem dL_law_146 : decode cL_law 146 = .ok (.iaload, 1) := by decide +kernel
theorem dL_law_147 : decode cL_law 147 = .ok (.aload_n 0, 1) := by decide +kernel
theorem dL_law_148 : decode cL_law 148 = .ok (.iload_n 3, 1) := by decide +kernel
theorem dL_law_149 : decode cL_law 149 = .ok (.iconst 2, 1) := by decide +kernel
theorem dL_law_150 : decode cL_law 150 = .ok (.iadd, 1) := by decide +kernel
theorem dL_law_151 : decode cL_law 151 = .ok (.iaload, 1) := by decide +kernel
theorem dL_law_152 : decode cL_law 152 = .ok (.invokevirtual 22, 3) := by decide +kernel
theorem dL_law_155 : decode cL_law 155 = .ok (.if_icmp .eq 361, 3) := by decide +kernel
theorem dL_law_158 : decode cL_law 158 = .ok (.iconst 0, 1) := by decide +kernel
theorem dL_law_159 : decode cL_law 159 = .ok (.ireturn, 1) := by decide +kernel
theorem dL_law_160 : decode cL_law 160 = .ok (.aload_n 1, 1) := by decide +kernel
theorem dL_law_161 : decode cL_law 161 = .ok (.aload_n 0, 1) := by decide +kernel
theorem dL_law_162 : decode cL_law 162 = .ok (.iload_n 3, 1) := by decide +kernel
theorem dL_law_163 : decode cL_law 163 = .ok (.iconst 1, 1) := by decide +kernel
theorem dL_law_164 : decode cL_law 164 = .ok (.iadd, 1) := by decide +kernel
theorem dL_law_165 : decode cL_law 165 = .ok (.iaload, 1) := by decide +kernel
theorem dL_law_166 : decode cL_law 166 = .ok (.aload_n 0, 1) := by decide +kernel
theorem dL_law_167 : decode cL_law 167 = .ok (.iload_n 3, 1) := by decide +kernel
theorem dL_law_168 : decode cL_law 168 = .ok (.iconst 2, 1) := by decide +kernel
theorem dL_law_169 : decode cL_law 169 = .ok (.iadd, 1) := by decide +kernel
theorem dL_law_170 : decode cL_law 170 = .ok (.iaload, 1) := by decide +kernel
theorem dL_law_171 : decode cL_law 171 = .ok (.aload_n 0, 1) := by decide +kernel
theorem dL_law_172 : decode cL_law 172 = .ok (.iload_n 3, 1) := by decide +kernel
theorem dL_law_173 : decode cL_law 173 = .ok (.iconst 3, 1) := by decide +kernel
theorem dL_law_174 : decode cL_law 174 = .ok (.iadd, 1) := by decide +kernel
theorem dL_law_175 : decode cL_law 175 = .ok (.iaload, 1) := by decide +kernel
theorem dL_law_176 : decode cL_law 176 = .ok (.invokevirtual 23, 3) := by decide +kernel
theorem dL_law_179 : decode cL_law 179 = .ok (.aload_n 2, 1) := by decide +kernel
theorem dL_law_180 : decode cL_law 180 = .ok (.aload_n 0, 1) := by decide +kernel
theorem dL_law_181 : decode cL_law 181 = .ok (.iload_n 3, 1) := by decide +kernel
theorem dL_law_182 : decode cL_law 182 = .ok (.iconst 1, 1) := by decide +kernel
theorem dL_law_183 : decode cL_law 183 = .ok (.iadd, 1) := by decide +kernel
theorem dL_law_184 : decode cL_law 184 = .ok (.iaload, 1) := by decide +kernel
theorem dL_law_185 : decode cL_law 185 = .ok (.aload_n 0, 1) := by decide +kernel
theorem dL_law_186 : decode cL_law 186 = .ok (.iload_n 3, 1) := by decide +kernel
end
section
theorem dL_law_187 : decode cL_law 187 = .ok (.iconst 2, 1) := by decide +kernel
theorem dL_law_188 : decode cL_law 188 = .ok (.iadd, 1) := by decide +kernel
theorem dL_law_189 : decode cL_law 189 = .ok (.iaload, 1) := by decide +kernel
theorem dL_law_190 : decode cL_law 190 = .ok (.aload_n 0, 1) := by decide +kernel
theorem dL_law_191 : decode cL_law 191 = .ok (.iload_n 3, 1) := by decide +kernel
theorem dL_law_192 : decode cL_law 192 = .ok (.iconst 3, 1) := by decide +kernel
theorem dL_law_193 : decode cL_law 193 = .ok (.iadd, 1) := by decide +kernel
theorem dL_law_194 : decode cL_law 194 = .ok (.iaload, 1) := by decide +kernel
theorem dL_law_195 : decode cL_law 195 = .ok (.invokevirtual 27, 3) := by decide +kernel
theorem dL_law_198 : decode cL_law 198 = .ok (.if_icmp .eq 318, 3) := by decide +kernel
theorem dL_law_201 : decode cL_law 201 = .ok (.iconst 0, 1) := by decide +kernel
theorem dL_law_202 : decode cL_law 202 = .ok (.ireturn, 1) := by decide +kernel
theorem dL_law_203 : decode cL_law 203 = .ok (.aload_n 1, 1) := by decide +kernel
theorem dL_law_204 : decode cL_law 204 = .ok (.aload_n 0, 1) := by decide +kernel
theorem dL_law_205 : decode cL_law 205 = .ok (.iload_n 3, 1) := by decide +kernel
theorem dL_law_206 : decode cL_law 206 = .ok (.iconst 1, 1) := by decide +kernel
theorem dL_law_207 : decode cL_law 207 = .ok (.iadd, 1) := by decide +kernel
theorem dL_law_208 : decode cL_law 208 = .ok (.iaload, 1) := by decide +kernel
theorem dL_law_209 : decode cL_law 209 = .ok (.aload_n 0, 1) := by decide +kernel
theorem dL_law_210 : decode cL_law 210 = .ok (.iload_n 3, 1) := by decide +kernel
theorem dL_law_211 : decode cL_law 211 = .ok (.iconst 2, 1) := by decide +kernel
theorem dL_law_212 : decode cL_law 212 = .ok (.iadd, 1) := by decide +kernel
theorem dL_law_213 : decode cL_law 213 = .ok (.iaload, 1) := by decide +kernel
theorem dL_law_214 : decode cL_law 214 = .ok (.invokevirtual 28, 3) := by decide +kernel
theorem dL_law_217 : decode cL_law 217 = .ok (.aload_n 2, 1) := by decide +kernel
theorem dL_law_218 : decode cL_law 218 = .ok (.aload_n 0, 1) := by decide +kernel
theorem dL_law_219 : decode cL_law 219 = .ok (.iload_n 3, 1) := by decide +kernel
theorem dL_law_220 : decode cL_law 220 = .ok (.iconst 1, 1) := by decide +kernel
theorem dL_law_221 : decode cL_law 221 = .ok (.iadd, 1) := by decide +kernel
theorem dL_law_222 : decode cL_law 222 = .ok (.iaload, 1) := by decide +kernel
theorem dL_law_223 : decode cL_law 223 = .ok (.aload_n 0, 1) := by decide +kernel
theorem dL_law_224 : decode cL_law 224 = .ok (.iload_n 3, 1) := by decide +kernel
theorem dL_law_225 : decode cL_law 225 = .ok (.iconst 2, 1) := by decide +kernel
theorem dL_law_226 : decode cL_law 226 = .ok (.iadd, 1) := by decide +kernel
theorem dL_law_227 : decode cL_law 227 = .ok (.iaload, 1) := by decide +kernel
theorem dL_law_228 : decode cL_law 228 = .ok (.invokevirtual 32, 3) := by decide +kernel
theorem dL_law_231 : decode cL_law 231 = .ok (.if_icmp .eq 285, 3) := by decide +kernel
theorem dL_law_234 : decode cL_law 234 = .ok (.iconst 0, 1) := by decide +kernel
theorem dL_law_235 : decode cL_law 235 = .ok (.ireturn, 1) := by decide +kernel
theorem dL_law_236 : decode cL_law 236 = .ok (.aload_n 1, 1) := by decide +kernel
theorem dL_law_237 : decode cL_law 237 = .ok (.aload_n 0, 1) := by decide +kernel
theorem dL_law_238 : decode cL_law 238 = .ok (.iload_n 3, 1) := by decide +kernel
theorem dL_law_239 : decode cL_law 239 = .ok (.iconst 1, 1) := by decide +kernel
theorem dL_law_240 : decode cL_law 240 = .ok (.iadd, 1) := by decide +kernel
theorem dL_law_241 : decode cL_law 241 = .ok (.iaload, 1) := by decide +kernel
theorem dL_law_242 : decode cL_law 242 = .ok (.aload_n 0, 1) := by decide +kernel
theorem dL_law_243 : decode cL_law 243 = .ok (.iload_n 3, 1) := by decide +kernel
theorem dL_law_244 : decode cL_law 244 = .ok (.iconst 2, 1) := by decide +kernel
theorem dL_law_245 : decode cL_law 245 = .ok (.iadd, 1) := by decide +kernel
theorem dL_law_246 : decode cL_law 246 = .ok (.iaload, 1) := by decide +kernel
theorem dL_law_247 : decode cL_law 247 = .ok (.invokevirtual 33, 3) := by decide +kernel
theorem dL_law_250 : decode cL_law 250 = .ok (.aload_n 2, 1) := by decide +kernel
theorem dL_law_251 : decode cL_law 251 = .ok (.aload_n 0, 1) := by decide +kernel
theorem dL_law_252 : decode cL_law 252 = .ok (.iload_n 3, 1) := by decide +kernel
theorem dL_law_253 : decode cL_law 253 = .ok (.iconst 1, 1) := by decide +kernel
theorem dL_law_254 : decode cL_law 254 = .ok (.iadd, 1) := by decide +kernel
theorem dL_law_255 : decode cL_law 255 = .ok (.iaload, 1) := by decide +kernel
theorem dL_law_256 : decode cL_law 256 = .ok (.aload_n 0, 1) := by decide +kernel
theorem dL_law_257 : decode cL_law 257 = .ok (.iload_n 3, 1) := by decide +kernel
theorem dL_law_258 : decode cL_law 258 = .ok (.iconst 2, 1) := by decide +kernel
theorem dL_law_259 : decode cL_law 259 = .ok (.iadd, 1) := by decide +kernel
theorem dL_law_260 : decode cL_law 260 = .ok (.iaload, 1) := by decide +kernel
theorem dL_law_261 : decode cL_law 261 = .ok (.invokevirtual 36, 3) := by decide +kernel
theorem dL_law_264 : decode cL_law 264 = .ok (.if_icmp .eq 252, 3) := by decide +kernel
theorem dL_law_267 : decode cL_law 267 = .ok (.iconst 0, 1) := by decide +kernel
theorem dL_law_268 : decode cL_law 268 = .ok (.ireturn, 1) := by decide +kernel
theorem dL_law_269 : decode cL_law 269 = .ok (.aload_n 1, 1) := by decide +kernel
theorem dL_law_270 : decode cL_law 270 = .ok (.aload_n 0, 1) := by decide +kernel
theorem dL_law_271 : decode cL_law 271 = .ok (.iload_n 3, 1) := by decide +kernel
theorem dL_law_272 : decode cL_law 272 = .ok (.iconst 1, 1) := by decide +kernel
theorem dL_law_273 : decode cL_law 273 = .ok (.iadd, 1) := by decide +kernel
theorem dL_law_274 : decode cL_law 274 = .ok (.iaload, 1) := by decide +kernel
theorem dL_law_275 : decode cL_law 275 = .ok (.invokevirtual 37, 3) := by decide +kernel
theorem dL_law_278 : decode cL_law 278 = .ok (.aload_n 2, 1) := by decide +kernel
theorem dL_law_279 : decode cL_law 279 = .ok (.aload_n 0, 1) := by decide +kernel
theorem dL_law_280 : decode cL_law 280 = .ok (.iload_n 3, 1) := by decide +kernel
theorem dL_law_281 : decode cL_law 281 = .ok (.iconst 1, 1) := by decide +kernel
theorem dL_law_282 : decode cL_law 282 = .ok (.iadd, 1) := by decide +kernel
theorem dL_law_283 : decode cL_law 283 = .ok (.iaload, 1) := by decide +kernel
theorem dL_law_284 : decode cL_law 284 = .ok (.invokevirtual 41, 3) := by decide +kernel
theorem dL_law_287 : decode cL_law 287 = .ok (.if_icmp .eq 229, 3) := by decide +kernel
theorem dL_law_290 : decode cL_law 290 = .ok (.iconst 0, 1) := by decide +kernel
theorem dL_law_291 : decode cL_law 291 = .ok (.ireturn, 1) := by decide +kernel
theorem dL_law_292 : decode cL_law 292 = .ok (.aload_n 1, 1) := by decide +kernel
theorem dL_law_293 : decode cL_law 293 = .ok (.aload_n 0, 1) := by decide +kernel
theorem dL_law_294 : decode cL_law 294 = .ok (.iload_n 3, 1) := by decide +kernel
theorem dL_law_295 : decode cL_law 295 = .ok (.iconst 1, 1) := by decide +kernel
theorem dL_law_296 : decode cL_law 296 = .ok (.iadd, 1) := by decide +kernel
theorem dL_law_297 : decode cL_law 297 = .ok (.iaload, 1) := by decide +kernel
theorem dL_law_298 : decode cL_law 298 = .ok (.invokevirtual 42, 3) := by decide +kernel
theorem dL_law_301 : decode cL_law 301 = .ok (.aload_n 2, 1) := by decide +kernel
theorem dL_law_302 : decode cL_law 302 = .ok (.aload_n 0, 1) := by decide +kernel
theorem dL_law_303 : decode cL_law 303 = .ok (.iload_n 3, 1) := by decide +kernel
theorem dL_law_304 : decode cL_law 304 = .ok (.iconst 1, 1) := by decide +kernel
theorem dL_law_305 : decode cL_law 305 = .ok (.iadd, 1) := by decide +kernel
theorem dL_law_306 : decode cL_law 306 = .ok (.iaload, 1) := by decide +kernel
theorem dL_law_307 : decode cL_law 307 = .ok (.invokevirtual 45, 3) := by decide +kernel
theorem dL_law_310 : decode cL_law 310 = .ok (.if_icmp .eq 206, 3) := by decide +kernel
theorem dL_law_313 : decode cL_law 313 = .ok (.iconst 0, 1) := by decide +kernel
theorem dL_law_314 : decode cL_law 314 = .ok (.ireturn, 1) := by decide +kernel
theorem dL_law_315 : decode cL_law 315 = .ok (.aload_n 1, 1) := by decide +kernel
theorem dL_law_316 : decode cL_law 316 = .ok (.aload_n 0, 1) := by decide +kernel
theorem dL_law_317 : decode cL_law 317 = .ok (.iload_n 3, 1) := by decide +kernel
theorem dL_law_318 : decode cL_law 318 = .ok (.iconst 1, 1) := by decide +kernel
theorem dL_law_319 : decode cL_law 319 = .ok (.iadd, 1) := by decide +kernel
theorem dL_law_320 : decode cL_law 320 = .ok (.iaload, 1) := by decide +kernel
theorem dL_law_321 : decode cL_law 321 = .ok (.aload_n 0, 1) := by decide +kernel
theorem dL_law_322 : decode cL_law 322 = .ok (.iload_n 3, 1) := by decide +kernel
theorem dL_law_323 : decode cL_law 323 = .ok (.iconst 2, 1) := by decide +kernel
theorem dL_law_324 : decode cL_law 324 = .ok (.iadd, 1) := by decide +kernel
theorem dL_law_325 : decode cL_law 325 = .ok (.iaload, 1) := by decide +kernel
theorem dL_law_326 : decode cL_law 326 = .ok (.invokevirtual 46, 3) := by decide +kernel
theorem dL_law_329 : decode cL_law 329 = .ok (.aload_n 2, 1) := by decide +kernel
theorem dL_law_330 : decode cL_law 330 = .ok (.aload_n 0, 1) := by decide +kernel
theorem dL_law_331 : decode cL_law 331 = .ok (.iload_n 3, 1) := by decide +kernel
theorem dL_law_332 : decode cL_law 332 = .ok (.iconst 1, 1) := by decide +kernel
theorem dL_law_333 : decode cL_law 333 = .ok (.iadd, 1) := by decide +kernel
theorem dL_law_334 : decode cL_law 334 = .ok (.iaload, 1) := by decide +kernel
theorem dL_law_335 : decode cL_law 335 = .ok (.aload_n 0, 1) := by decide +kernel
theorem dL_law_336 : decode cL_law 336 = .ok (.iload_n 3, 1) := by decide +kernel
theorem dL_law_337 : decode cL_law 337 = .ok (.iconst 2, 1) := by decide +kernel
theorem dL_law_338 : decode cL_law 338 = .ok (.iadd, 1) := by decide +kernel
theorem dL_law_339 : decode cL_law 339 = .ok (.iaload, 1) := by decide +kernel
theorem dL_law_340 : decode cL_law 340 = .ok (.invokevirtual 49, 3) := by decide +kernel
theorem dL_law_343 : decode cL_law 343 = .ok (.if_icmp .eq 173, 3) := by decide +kernel
theorem dL_law_346 : decode cL_law 346 = .ok (.iconst 0, 1) := by decide +kernel
theorem dL_law_347 : decode cL_law 347 = .ok (.ireturn, 1) := by decide +kernel
theorem dL_law_348 : decode cL_law 348 = .ok (.aload_n 1, 1) := by decide +kernel
theorem dL_law_349 : decode cL_law 349 = .ok (.aload_n 0, 1) := by decide +kernel
theorem dL_law_350 : decode cL_law 350 = .ok (.iload_n 3, 1) := by decide +kernel
theorem dL_law_351 : decode cL_law 351 = .ok (.iconst 1, 1) := by decide +kernel
theorem dL_law_352 : decode cL_law 352 = .ok (.iadd, 1) := by decide +kernel
theorem dL_law_353 : decode cL_law 353 = .ok (.iaload, 1) := by decide +kernel
theorem dL_law_354 : decode cL_law 354 = .ok (.invokevirtual 50, 3) := by decide +kernel
theorem dL_law_357 : decode cL_law 357 = .ok (.aload_n 2, 1) := by decide +kernel
theorem dL_law_358 : decode cL_law 358 = .ok (.aload_n 0, 1) := by decide +kernel
theorem dL_law_359 : decode cL_law 359 = .ok (.iload_n 3, 1) := by decide +kernel
theorem dL_law_360 : decode cL_law 360 = .ok (.iconst 1, 1) := by decide +kernel
theorem dL_law_361 : decode cL_law 361 = .ok (.iadd, 1) := by decide +kernel
theorem dL_law_362 : decode cL_law 362 = .ok (.iaload, 1) := by decide +kernel
theorem dL_law_363 : decode cL_law 363 = .ok (.invokevirtual 53, 3) := by decide +kernel
theorem dL_law_366 : decode cL_law 366 = .ok (.if_icmp .eq 150, 3) := by decide +kernel
theorem dL_law_369 : decode cL_law 369 = .ok (.iconst 0, 1) := by decide +kernel
theorem dL_law_370 : decode cL_law 370 = .ok (.ireturn, 1) := by decide +kernel
theorem dL_law_371 : decode cL_law 371 = .ok (.aload_n 1, 1) := by decide +kernel
theorem dL_law_372 : decode cL_law 372 = .ok (.aload_n 0, 1) := by decide +kernel
theorem dL_law_373 : decode cL_law 373 = .ok (.iload_n 3, 1) := by decide +kernel
theorem dL_law_374 : decode cL_law 374 = .ok (.iconst 1, 1) := by decide +kernel
theorem dL_law_375 : decode cL_law 375 = .ok (.iadd, 1) := by decide +kernel
theorem dL_law_376 : decode cL_law 376 = .ok (.iaload, 1) := by decide +kernel
theorem dL_law_377 : decode cL_law 377 = .ok (.aload_n 0, 1) := by decide +kernel
theorem dL_law_378 : decode cL_law 378 = .ok (.iload_n 3, 1) := by decide +kernel
theorem dL_law_379 : decode cL_law 379 = .ok (.iconst 2, 1) := by decide +kernel
theorem dL_law_380 : decode cL_law 380 = .ok (.iadd, 1) := by decide +kernel
theorem dL_law_381 : decode cL_law 381 = .ok (.iaload, 1) := by decide +kernel
theorem dL_law_382 : decode cL_law 382 = .ok (.invokevirtual 54, 3) := by decide +kernel
theorem dL_law_385 : decode cL_law 385 = .ok (.aload_n 2, 1) := by decide +kernel
theorem dL_law_386 : decode cL_law 386 = .ok (.aload_n 0, 1) := by decide +kernel
theorem dL_law_387 : decode cL_law 387 = .ok (.iload_n 3, 1) := by decide +kernel
theorem dL_law_388 : decode cL_law 388 = .ok (.iconst 1, 1) := by decide +kernel
theorem dL_law_389 : decode cL_law 389 = .ok (.iadd, 1) := by decide +kernel
theorem dL_law_390 : decode cL_law 390 = .ok (.iaload, 1) := by decide +kernel
theorem dL_law_391 : decode cL_law 391 = .ok (.aload_n 0, 1) := by decide +kernel
theorem dL_law_392 : decode cL_law 392 = .ok (.iload_n 3, 1) := by decide +kernel
theorem dL_law_393 : decode cL_law 393 = .ok (.iconst 2, 1) := by decide +kernel
theorem dL_law_394 : decode cL_law 394 = .ok (.iadd, 1) := by decide +kernel
theorem dL_law_395 : decode cL_law 395 = .ok (.iaload, 1) := by decide +kernel
theorem dL_law_396 : decode cL_law 396 = .ok (.invokevirtual 57, 3) := by decide +kernel
theorem dL_law_399 : decode cL_law 399 = .ok (.if_icmp .eq 117, 3) := by decide +kernel
theorem dL_law_402 : decode cL_law 402 = .ok (.iconst 0, 1) := by decide +kernel
theorem dL_law_403 : decode cL_law 403 = .ok (.ireturn, 1) := by decide +kernel
theorem dL_law_404 : decode cL_law 404 = .ok (.aload_n 1, 1) := by decide +kernel
theorem dL_law_405 : decode cL_law 405 = .ok (.aload_n 0, 1) := by decide +kernel
theorem dL_law_406 : decode cL_law 406 = .ok (.iload_n 3, 1) := by decide +kernel
theorem dL_law_407 : decode cL_law 407 = .ok (.iconst 1, 1) := by decide +kernel
theorem dL_law_408 : decode cL_law 408 = .ok (.iadd, 1) := by decide +kernel
theorem dL_law_409 : decode cL_law 409 = .ok (.iaload, 1) := by decide +kernel
theorem dL_law_410 : decode cL_law 410 = .ok (.aload_n 0, 1) := by decide +kernel
theorem dL_law_411 : decode cL_law 411 = .ok (.iload_n 3, 1) := by decide +kernel
theorem dL_law_412 : decode cL_law 412 = .ok (.iconst 2, 1) := by decide +kernel
theorem dL_law_413 : decode cL_law 413 = .ok (.iadd, 1) := by decide +kernel
theorem dL_law_414 : decode cL_law 414 = .ok (.iaload, 1) := by decide +kernel
theorem dL_law_415 : decode cL_law 415 = .ok (.invokevirtual 58, 3) := by decide +kernel
theorem dL_law_418 : decode cL_law 418 = .ok (.aload_n 2, 1) := by decide +kernel
theorem dL_law_419 : decode cL_law 419 = .ok (.aload_n 0, 1) := by decide +kernel
theorem dL_law_420 : decode cL_law 420 = .ok (.iload_n 3, 1) := by decide +kernel
theorem dL_law_421 : decode cL_law 421 = .ok (.iconst 1, 1) := by decide +kernel
theorem dL_law_422 : decode cL_law 422 = .ok (.iadd, 1) := by decide +kernel
theorem dL_law_423 : decode cL_law 423 = .ok (.iaload, 1) := by decide +kernel
theorem dL_law_424 : decode cL_law 424 = .ok (.aload_n 0, 1) := by decide +kernel
theorem dL_law_425 : decode cL_law 425 = .ok (.iload_n 3, 1) := by decide +kernel
theorem dL_law_426 : decode cL_law 426 = .ok (.iconst 2, 1) := by decide +kernel
theorem dL_law_427 : decode cL_law 427 = .ok (.iadd, 1) := by decide +kernel
theorem dL_law_428 : decode cL_law 428 = .ok (.iaload, 1) := by decide +kernel
theorem dL_law_429 : decode cL_law 429 = .ok (.invokevirtual 61, 3) := by decide +kernel
theorem dL_law_432 : decode cL_law 432 = .ok (.if_icmp .eq 84, 3) := by decide +kernel
theorem dL_law_435 : decode cL_law 435 = .ok (.iconst 0, 1) := by decide +kernel
theorem dL_law_436 : decode cL_law 436 = .ok (.ireturn, 1) := by decide +kernel
theorem dL_law_437 : decode cL_law 437 = .ok (.aload_n 1, 1) := by decide +kernel
theorem dL_law_438 : decode cL_law 438 = .ok (.aload_n 0, 1) := by decide +kernel
theorem dL_law_439 : decode cL_law 439 = .ok (.iload_n 3, 1) := by decide +kernel
theorem dL_law_440 : decode cL_law 440 = .ok (.iconst 1, 1) := by decide +kernel
theorem dL_law_441 : decode cL_law 441 = .ok (.iadd, 1) := by decide +kernel
theorem dL_law_442 : decode cL_law 442 = .ok (.iaload, 1) := by decide +kernel
theorem dL_law_443 : decode cL_law 443 = .ok (.invokevirtual 62, 3) := by decide +kernel
theorem dL_law_446 : decode cL_law 446 = .ok (.aload_n 2, 1) := by decide +kernel
theorem dL_law_447 : decode cL_law 447 = .ok (.aload_n 0, 1) := by decide +kernel
theorem dL_law_448 : decode cL_law 448 = .ok (.iload_n 3, 1) := by decide +kernel
theorem dL_law_449 : decode cL_law 449 = .ok (.iconst 1, 1) := by decide +kernel
theorem dL_law_450 : decode cL_law 450 = .ok (.iadd, 1) := by decide +kernel
theorem dL_law_451 : decode cL_law 451 = .ok (.iaload, 1) := by decide +kernel
theorem dL_law_452 : decode cL_law 452 = .ok (.invokevirtual 65, 3) := by decide +kernel
theorem dL_law_455 : decode cL_law 455 = .ok (.if_icmp .eq 61, 3) := by decide +kernel
theorem dL_law_458 : decode cL_law 458 = .ok (.iconst 0, 1) := by decide +kernel
theorem dL_law_459 : decode cL_law 459 = .ok (.ireturn, 1) := by decide +kernel
theorem dL_law_460 : decode cL_law 460 = .ok (.aload_n 1, 1) := by decide +kernel
theorem dL_law_461 : decode cL_law 461 = .ok (.aload_n 0, 1) := by decide +kernel
theorem dL_law_462 : decode cL_law 462 = .ok (.iload_n 3, 1) := by decide +kernel
theorem dL_law_463 : decode cL_law 463 = .ok (.iconst 1, 1) := by decide +kernel
theorem dL_law_464 : decode cL_law 464 = .ok (.iadd, 1) := by decide +kernel
theorem dL_law_465 : decode cL_law 465 = .ok (.iaload, 1) := by decide +kernel
theorem dL_law_466 : decode cL_law 466 = .ok (.aload_n 0, 1) := by decide +kernel
theorem dL_law_467 : decode cL_law 467 = .ok (.iload_n 3, 1) := by decide +kernel
theorem dL_law_468 : decode cL_law 468 = .ok (.iconst 2, 1) := by decide +kernel
theorem dL_law_469 : decode cL_law 469 = .ok (.iadd, 1) := by decide +kernel
theorem dL_law_470 : decode cL_law 470 = .ok (.iaload, 1) := by decide +kernel
theorem dL_law_471 : decode cL_law 471 = .ok (.invokevirtual 66, 3) := by decide +kernel
theorem dL_law_474 : decode cL_law 474 = .ok (.aload_n 2, 1) := by decide +kernel
theorem dL_law_475 : decode cL_law 475 = .ok (.aload_n 0, 1) := by decide +kernel
theorem dL_law_476 : decode cL_law 476 = .ok (.iload_n 3, 1) := by decide +kernel
theorem dL_law_477 : decode cL_law 477 = .ok (.iconst 1, 1) := by decide +kernel
theorem dL_law_478 : decode cL_law 478 = .ok (.iadd, 1) := by decide +kernel
theorem dL_law_479 : decode cL_law 479 = .ok (.iaload, 1) := by decide +kernel
theorem dL_law_480 : decode cL_law 480 = .ok (.aload_n 0, 1) := by decide +kernel
theorem dL_law_481 : decode cL_law 481 = .ok (.iload_n 3, 1) := by decide +kernel
theorem dL_law_482 : decode cL_law 482 = .ok (.iconst 2, 1) := by decide +kernel
theorem dL_law_483 : decode cL_law 483 = .ok (.iadd, 1) := by decide +kernel
theorem dL_law_484 : decode cL_law 484 = .ok (.iaload, 1) := by decide +kernel
theorem dL_law_485 : decode cL_law 485 = .ok (.invokevirtual 69, 3) := by decide +kernel
theorem dL_law_488 : decode cL_law 488 = .ok (.if_icmp .eq 28, 3) := by decide +kernel
theorem dL_law_491 : decode cL_law 491 = .ok (.iconst 0, 1) := by decide +kernel
theorem dL_law_492 : decode cL_law 492 = .ok (.ireturn, 1) := by decide +kernel
theorem dL_law_493 : decode cL_law 493 = .ok (.aload_n 1, 1) := by decide +kernel
theorem dL_law_494 : decode cL_law 494 = .ok (.aload_n 0, 1) := by decide +kernel
theorem dL_law_495 : decode cL_law 495 = .ok (.iload_n 3, 1) := by decide +kernel
theorem dL_law_496 : decode cL_law 496 = .ok (.iconst 1, 1) := by decide +kernel
theorem dL_law_497 : decode cL_law 497 = .ok (.iadd, 1) := by decide +kernel
theorem dL_law_498 : decode cL_law 498 = .ok (.iaload, 1) := by decide +kernel
theorem dL_law_499 : decode cL_law 499 = .ok (.invokevirtual 70, 3) := by decide +kernel
theorem dL_law_502 : decode cL_law 502 = .ok (.aload_n 2, 1) := by decide +kernel
theorem dL_law_503 : decode cL_law 503 = .ok (.aload_n 0, 1) := by decide +kernel
theorem dL_law_504 : decode cL_law 504 = .ok (.iload_n 3, 1) := by decide +kernel
theorem dL_law_505 : decode cL_law 505 = .ok (.iconst 1, 1) := by decide +kernel
theorem dL_law_506 : decode cL_law 506 = .ok (.iadd, 1) := by decide +kernel
theorem dL_law_507 : decode cL_law 507 = .ok (.iaload, 1) := by decide +kernel
theorem dL_law_508 : decode cL_law 508 = .ok (.invokevirtual 73, 3) := by decide +kernel
theorem dL_law_511 : decode cL_law 511 = .ok (.if_icmp .eq 5, 3) := by decide +kernel
theorem dL_law_514 : decode cL_law 514 = .ok (.iconst 0, 1) := by decide +kernel
theorem dL_law_515 : decode cL_law 515 = .ok (.ireturn, 1) := by decide +kernel
theorem dL_law_516 : decode cL_law 516 = .ok (.iinc 3 4, 3) := by decide +kernel
theorem dL_law_519 : decode cL_law 519 = .ok (.goto (-501), 3) := by decide +kernel
theorem dL_law_522 : decode cL_law 522 = .ok (.iconst 1, 1) := by decide +kernel
theorem dL_law_523 : decode cL_law 523 = .ok (.ireturn, 1) := by decide +kernel
abbrev vwCl : List vw_C := [(RX0, TX0, 20), (RX1, TX1, 3), (RX2, TX2, 3), (RX3, TX3, 18), (RX4, TX4, 39)]
end
section

/-- the start of a contract: the world ws, the array classes tys -/
def k_Pre (D : va_G) (tys : List (ClassId × FieldType)) (ws : va_W) (sz : Nat) : State → Prop := fun U => U.heap.size = sz ∧ va_P D vwCl ws U.heap ∧ va_K D vwCl tys U ∧ va_D (fun _ => True) ws
/-- its end: what came back -/
def k_B (D : va_G) (A : Nat → Prop) : va_W × List (ClassId × FieldType) → State → Prop := fun u t => va_P D vwCl u.1 t.heap ∧ va_K D vwCl u.2 t ∧ va_D A u.1
theorem k_blind {D : va_G} {tys : List (ClassId × FieldType)} {ws : va_W} {sz : Nat} {av : List Value} : FrameBlind (va_Pc av (k_Pre D tys ws sz)) := fun a U g mk q => by
  obtain ⟨q0, q1, qP, qK, qD⟩ := q
  exact ⟨q0, q1, qP, va_K.moved (u := U) (U := U.calling g mk a) (Vm.Alike.refl U.vm) qK, qD⟩
theorem k_pre {D : va_G} {tys : List (ClassId × FieldType)} {ws : va_W} {s U : State} {H : Heap} {A : Nat → Prop} (hU : U.heap = H) (hW : s.WarmedH U.vm) (hP : va_P D vwCl ws H) (hK : va_K D vwCl tys s) (hD : va_D A ws) : k_Pre D tys ws H.size U := ⟨by rw [hU], by rw [hU]; exact hP, va_K.moved hW.alike hK, hD.weaken (fun _ _ _ _ => trivial)⟩
def k_PreO (D : va_G) (tys : List (ClassId × FieldType)) (ws : va_W) (sz : Nat) : State → Prop := fun U => k_Pre D tys ws sz U ∧ va_AO RX0 U ∧ va_Nw (.methodLinkNest RX3 45 yX1_init RX3) U ∧ va_Nw (.methodLinkNest RX3 52 yX2_init RX3) U
theorem k_blindO {D : va_G} {tys : List (ClassId × FieldType)} {ws : va_W} {sz : Nat} {av : List Value} : FrameBlind (va_Pc av (k_PreO D tys ws sz)) := fun a U g mk q => by
  obtain ⟨q0, ⟨q1, qP, qK, qD⟩, qA, qN, qM⟩ := q
  exact ⟨q0, ⟨q1, qP, va_K.moved (u := U) (U := U.calling g mk a) (Vm.Alike.refl U.vm) qK, qD⟩, va_AO.moved (u := U) (U := U.calling g mk a) (Vm.Alike.refl U.vm) qA, va_Nw.same rfl rfl qN, va_Nw.same rfl rfl qM⟩
theorem k_Q {p : Program} {l : Launch} {e : Env} {R : Room} {s : State} {m : MethodId} {args : Array Value} {below : List Frame} {meth : Method} {c : Code} {H : Heap} {locs : List Loc} {cells slots : Nat} {Q : State → Prop} {g : JFrame} (k : ∀ Q', Q' = Q → W p l e R s m args below meth c H locs cells slots Q' g) : W p l e R s m args below meth c H locs cells slots Q g := k Q rfl
theorem k_inc {x : Int32} (h : x.toInt < 2147483647) : (x + 1).toInt = x.toInt + 1 := by
  rw [Int32.toInt_add]
  have h0 := Int32.le_toInt x
  rw [show (1 : Int32).toInt = 1 from by decide]
  rw [Int.bmod_eq_of_le (by omega) (by omega)]
theorem k_add {x y : Int32} (h1 : -2147483648 ≤ x.toInt + y.toInt) (h2 : x.toInt + y.toInt ≤ 2147483647) : (x + y).toInt = x.toInt + y.toInt := by
  rw [Int32.toInt_add, Int.bmod_eq_of_le (by omega) (by omega)]
theorem k_sub {x y : Int32} (h1 : -2147483648 ≤ x.toInt - y.toInt) (h2 : x.toInt - y.toInt ≤ 2147483647) : (x - y).toInt = x.toInt - y.toInt := by
  rw [Int32.toInt_sub, Int.bmod_eq_of_le (by omega) (by omega)]
theorem k_mul {x y : Int32} {N : Int} (hy : y.toInt = N) (h1 : -2147483648 ≤ x.toInt * N) (h2 : x.toInt * N ≤ 2147483647) : (x * y).toInt = x.toInt * N := by
  rw [Int32.toInt_mul, hy, Int.bmod_eq_of_le (by omega) (by omega)]
theorem k_mul2 {x y : Int32} {N : Int} (hx : x.toInt = N) (h1 : -2147483648 ≤ N * y.toInt) (h2 : N * y.toInt ≤ 2147483647) : (x * y).toInt = N * y.toInt := by
  rw [Int32.toInt_mul, hx, Int.bmod_eq_of_le (by omega) (by omega)]
theorem k_zero {x : Int32} (h : x.toInt = 0) : x = 0 := Int32.toInt_inj.mp (h.trans (by decide))
theorem k_le {x y : Int32} (h : x ≤ y) : x.toInt ≤ y.toInt := Int32.le_iff_toInt_le.mp h
theorem k_lt {x y : Int32} (h : x < y) : x.toInt < y.toInt := Int32.lt_iff_toInt_lt.mp h
theorem k_nle {x y : Int32} (h : ¬ x ≤ y) : y.toInt < x.toInt := by rw [Int32.le_iff_toInt_le] at h; omega
theorem k_nlt {x y : Int32} (h : ¬ x < y) : y.toInt ≤ x.toInt := by rw [Int32.lt_iff_toInt_lt] at h; omega
theorem k_eq {x y : Int32} (h : x = y) : x.toInt = y.toInt := by rw [h]
theorem k_ne {x y : Int32} (h : ¬ x = y) : x.toInt ≠ y.toInt := fun e => h (Int32.toInt_inj.mp e)
theorem k_in {x : Int32} {n : Nat} (h : 0 ≤ x.toInt) (h2 : x.toInt < n) : vp_in x n := vp_in_iff.mpr ⟨h, h2⟩
theorem k_newa {p : Program} {l : Launch} {e : Env} {R : Room} {s : State} {m : MethodId} {args : Array Value} {below : List Frame} {meth : Method} {c : Code} {H : Heap} {locs : List Loc} {cells slots : Nat} {Q : State → Prop} {cc : ByteArray} {pc : Nat} {ls : Array Slot} {rest : List Value} {D : va_G} {cl : List vw_C} {ws : va_W} {tys : List (ClassId × FieldType)} {A : Nat → Prop} {H0 : Heap} (hexec : p.tables.exec = Jvm.exec) (hb : c.code = cc) {atype : ArrayType} (harr : (Cond.arrayClass (newarray.typeOf atype)).before args s = true) {ty : FieldType} (hty : newarray.typeOf atype = ty) (hK : va_K D cl tys s) (t0 : Nat) {cI : ClassId} (ht : tys[t0]? = some (cI, ty)) (hpr : ∀ (U : State) (cA : ClassId), va_RA U cA ty = (U.vm.findClass ("[" ++ ty.toString) = some cA)) (hP : va_P D cl ws H) (hD : va_D A ws) (hS : va_S A H0 H locs) (hA : ∀ q, H0.size ≤ q → A q)
    {n : Int32} {N' : Nat} {a0 : vp_A} (ha : ∀ cA : ClassId, vp_cell cA a0 = arrV cA N' (fun _ => defaultValue ty)) (hn : ¬ n < 0) (hN : n.toNatClampNeg = N') (hbytes : N' * componentBytes ty ≤ 536870912) (hcells : cells + 1 ≤ R.cells) (hslots : slots + N' ≤ R.slots) (hdg : decode cc pc = .ok (.newarray atype, 2))
    (kk : ∀ (q : Nat) (H1 : Heap), va_P D cl (ws ++ [(q, .inl (cI, a0))]) H1 → va_D A (ws ++ [(q, .inl (cI, a0))]) → va_S A H0 H1 locs →
      W p l e R s m args below meth c H1 locs (cells + 1) (slots + N') Q (F0 m (pc + 2) ls (.ref q :: rest))) : W p l e R s m args below meth c H locs cells slots Q (F0 m pc ls (.int n :: rest)) := by
  refine va_newa hexec hb harr hty hK hP hD hS hA ha hn hN hbytes hcells hslots hdg (fun q cA H1 hK' hP' hD' hS' => ?_)
  have h1 := (hK.2 t0 _ ht).2
  have h2 := (hK'.2 tys.length (cA, ty) (by simp)).2
  rw [hpr] at h1 h2
  have h3 : cI = cA := Option.some.inj (h1.symm.trans h2)
  subst h3
  exact kk q H1 hP' hD' hS'

set_option maxHeartbeats 4000000 in
set_option maxRecDepth 100000 in
theorem c_X3_isBelow {l : Launch} {D : va_G} {sz : Nat} {x : Int32} {y : Int32}  : Met l yX3_isBelow wsX3_isBelow ({ frames := 0, cells := 0, slots := 0, locals := 0 }) (va_Pc [.int x, .int y] (k_Pre D [] [] sz)) (va_Qi (fun (r : Int32) (u : va_W × List (ClassId × FieldType)) => (r = 1 ∧ u = ([], []) ∧ 0 ≤ x.toInt ∧ x.toInt < y.toInt) ∨ (r = 0 ∧ u = ([], []) ∧ (x.toInt < 0 ∨ y.toInt ≤ x.toInt))) (k_B D (va_A [] sz)) (va_A [] sz)) 0 0 (va_A [] sz) := by
  refine Met.ofW (cc := cX3_isBelow) (maxL := 2) (ret := (some .boolean)) (by decide) rfl ?_
  intro p e s m args below meth c s₁ B hml hv
  obtain ⟨rfl, hsz, hP, hK, hD0⟩ := hv
  have hx := B.exec
  have hb := B.bytes
  have hr := B.returns
  have hts := atoms_spec (ws := wsX3_isBelow) B.pre
  have hown : s.vm.findClass RX3 = some m.cls := findClass_of_methodNamed B.named
  have hlocks := B.notSynchronized
  subst hsz
  have hD := hD0.self (sz := s.heap.size)
  generalize hAe : va_A [] s.heap.size = A at hD ⊢
  have hA : ∀ q : Nat, s.heap.size ≤ q → A q := fun q h => by rw [← hAe]; exact Or.inr h
  have hS : va_S A s.heap s.heap [] := va_S.rf
  have hl := lv_entry ([.int x, .int y]) (n := 2) (Nat.le_of_ble_eq_true rfl)
  rw [lg_entry_eq]
  generalize (lg_sl ([.int x, .int y]) ++ List.replicate (2 - (lg_sl ([.int x, .int y])).length) Slot.unset).toArray = ls at hl ⊢
  have hl : lv_has ls 2 [(0, .int x), (1, .int y)] := hl
  refine lv_iload_n hx hb dX3_isBelow_0 rfl (lv_at hl 0 rfl) ?_
  refine lv_if_lt (tgt := 13) hx hb dX3_isBelow_1 (by decide) (fun c1 => ?_) (fun c1 => ?_)
  · skip
    have c1 := k_lt c1
    have hl0 : (0 : Int32).toInt = 0 := by decide
    refine lv_iconst (v := 0) hx hb dX3_isBelow_13 (by decide) ?_
    have hP := hP.sub (ws' := []) [] rfl
    have hD := hD.sub (ws' := []) [] (by decide) rfl
    have hK := hK.sub (tys' := []) [] rfl
    refine W.widen (k := 0) (n := 0) (by decide) (by decide) ?_
    exact W.zret (v := 0) hx hb hr (by decide) (fun t ht hW => ⟨⟨0, ([], []), rfl, Or.inr (⟨rfl, rfl, (by omega)⟩), ⟨by rw [ht]; exact hP, va_K.moved hW.alike hK, hD⟩⟩, hS.F ht⟩) hS.2.2 dX3_isBelow_14
  · skip
    have c1 := k_nlt c1
    have hl0 : (0 : Int32).toInt = 0 := by decide
    refine lv_iload_n hx hb dX3_isBelow_4 rfl (lv_at hl 0 rfl) ?_
    refine lv_iload_n hx hb dX3_isBelow_5 rfl (lv_at hl 1 rfl) ?_
    refine lv_icmp_ge (tgt := 13) hx hb dX3_isBelow_6 (by decide) (fun c2 => ?_) (fun c2 => ?_)
    · skip
      have c2 := k_le c2
      refine lv_iconst (v := 0) hx hb dX3_isBelow_13 (by decide) ?_
      have hP := hP.sub (ws' := []) [] rfl
      have hD := hD.sub (ws' := []) [] (by decide) rfl
      have hK := hK.sub (tys' := []) [] rfl
      refine W.widen (k := 0) (n := 0) (by decide) (by decide) ?_
      exact W.zret (v := 0) hx hb hr (by decide) (fun t ht hW => ⟨⟨0, ([], []), rfl, Or.inr (⟨rfl, rfl, (by omega)⟩), ⟨by rw [ht]; exact hP, va_K.moved hW.alike hK, hD⟩⟩, hS.F ht⟩) hS.2.2 dX3_isBelow_14
    · skip
      have c2 := k_nle c2
      refine lv_iconst (v := 1) hx hb dX3_isBelow_9 (by decide) ?_
      refine lv_goto (tgt := 14) hx hb dX3_isBelow_10 (by decide) ?_
      have hP := hP.sub (ws' := []) [] rfl
      have hD := hD.sub (ws' := []) [] (by decide) rfl
      have hK := hK.sub (tys' := []) [] rfl
      refine W.widen (k := 0) (n := 0) (by decide) (by decide) ?_
      exact W.zret (v := 1) hx hb hr (by decide) (fun t ht hW => ⟨⟨1, ([], []), rfl, Or.inl ⟨rfl, rfl, (by omega), (by omega)⟩, ⟨by rw [ht]; exact hP, va_K.moved hW.alike hK, hD⟩⟩, hS.F ht⟩) hS.2.2 dX3_isBelow_14
set_option maxHeartbeats 4000000 in
set_option maxRecDepth 100000 in
theorem c_X4_in {l : Launch} {D : va_G} {sz : Nat} {x : Int32} {y : Int32} {z : Int32}  : Met l yX4_in wsX4_in ({ frames := 0, cells := 0, slots := 0, locals := 0 }) (va_Pc [.int x, .int y, .int z] (k_Pre D [] [] sz)) (va_Qi (fun (r : Int32) (u : va_W × List (ClassId × FieldType)) => (r = 1 ∧ u = ([], []) ∧ y.toInt ≤ x.toInt ∧ x.toInt ≤ z.toInt) ∨ (r = 0 ∧ u = ([], []) ∧ (x.toInt < y.toInt ∨ z.toInt < x.toInt))) (k_B D (va_A [] sz)) (va_A [] sz)) 0 0 (va_A [] sz) := by
  refine Met.ofW (cc := cX4_in) (maxL := 3) (ret := (some .boolean)) (by decide) rfl ?_
  intro p e s m args below meth c s₁ B hml hv
  obtain ⟨rfl, hsz, hP, hK, hD0⟩ := hv
  have hx := B.exec
  have hb := B.bytes
  have hr := B.returns
  have hts := atoms_spec (ws := wsX4_in) B.pre
  have hown : s.vm.findClass RX4 = some m.cls := findClass_of_methodNamed B.named
  have hlocks := B.notSynchronized
  subst hsz
  have hD := hD0.self (sz := s.heap.size)
  generalize hAe : va_A [] s.heap.size = A at hD ⊢
  have hA : ∀ q : Nat, s.heap.size ≤ q → A q := fun q h => by rw [← hAe]; exact Or.inr h
  have hS : va_S A s.heap s.heap [] := va_S.rf
  have hl := lv_entry ([.int x, .int y, .int z]) (n := 3) (Nat.le_of_ble_eq_true rfl)
  rw [lg_entry_eq]
  generalize (lg_sl ([.int x, .int y, .int z]) ++ List.replicate (3 - (lg_sl ([.int x, .int y, .int z])).length) Slot.unset).toArray = ls at hl ⊢
  have hl : lv_has ls 3 [(0, .int x), (1, .int y), (2, .int z)] := hl
  refine lv_iload_n hx hb dX4_in_0 rfl (lv_at hl 0 rfl) ?_
  refine lv_iload_n hx hb dX4_in_1 rfl (lv_at hl 1 rfl) ?_
  refine lv_icmp_lt (tgt := 14) hx hb dX4_in_2 (by decide) (fun c1 => ?_) (fun c1 => ?_)
  · skip
    have c1 := k_lt c1
    refine lv_iconst (v := 0) hx hb dX4_in_14 (by decide) ?_
    have hP := hP.sub (ws' := []) [] rfl
    have hD := hD.sub (ws' := []) [] (by decide) rfl
    have hK := hK.sub (tys' := []) [] rfl
    refine W.widen (k := 0) (n := 0) (by decide) (by decide) ?_
    exact W.zret (v := 0) hx hb hr (by decide) (fun t ht hW => ⟨⟨0, ([], []), rfl, Or.inr (⟨rfl, rfl, (by omega)⟩), ⟨by rw [ht]; exact hP, va_K.moved hW.alike hK, hD⟩⟩, hS.F ht⟩) hS.2.2 dX4_in_15
  · skip
    have c1 := k_nlt c1
    refine lv_iload_n hx hb dX4_in_5 rfl (lv_at hl 0 rfl) ?_
    refine lv_iload_n hx hb dX4_in_6 rfl (lv_at hl 2 rfl) ?_
    refine lv_icmp_gt (tgt := 14) hx hb dX4_in_7 (by decide) (fun c2 => ?_) (fun c2 => ?_)
    · skip
      have c2 := k_lt c2
      refine lv_iconst (v := 0) hx hb dX4_in_14 (by decide) ?_
      have hP := hP.sub (ws' := []) [] rfl
      have hD := hD.sub (ws' := []) [] (by decide) rfl
      have hK := hK.sub (tys' := []) [] rfl
      refine W.widen (k := 0) (n := 0) (by decide) (by decide) ?_
      exact W.zret (v := 0) hx hb hr (by decide) (fun t ht hW => ⟨⟨0, ([], []), rfl, Or.inr (⟨rfl, rfl, (by omega)⟩), ⟨by rw [ht]; exact hP, va_K.moved hW.alike hK, hD⟩⟩, hS.F ht⟩) hS.2.2 dX4_in_15
    · skip
      have c2 := k_nlt c2
      refine lv_iconst (v := 1) hx hb dX4_in_10 (by decide) ?_
      refine lv_goto (tgt := 15) hx hb dX4_in_11 (by decide) ?_
      have hP := hP.sub (ws' := []) [] rfl
      have hD := hD.sub (ws' := []) [] (by decide) rfl
      have hK := hK.sub (tys' := []) [] rfl
      refine W.widen (k := 0) (n := 0) (by decide) (by decide) ?_
      exact W.zret (v := 1) hx hb hr (by decide) (fun t ht hW => ⟨⟨1, ([], []), rfl, Or.inl ⟨rfl, rfl, (by omega), (by omega)⟩, ⟨by rw [ht]; exact hP, va_K.moved hW.alike hK, hD⟩⟩, hS.F ht⟩) hS.2.2 dX4_in_15
set_option maxHeartbeats 4000000 in
set_option maxRecDepth 100000 in
theorem c_X4_isProgram {l : Launch} {D : va_G} {sz : Nat} {x : Int32}  : Met l yX4_isProgram wsX4_isProgram ({ frames := 1, cells := 0, slots := 0, locals := 22 }) (va_Pc [.int x] (k_Pre D [] [] sz)) (va_Qi (fun (r : Int32) (u : va_W × List (ClassId × FieldType)) => (r = 1 ∧ u = ([], []) ∧ 0 ≤ x.toInt ∧ x.toInt ≤ 7) ∨ (r = 0 ∧ u = ([], []) ∧ (x.toInt < 0 ∨ 7 < x.toInt))) (k_B D (va_A [] sz)) (va_A [] sz)) 0 0 (va_A [] sz) := by
  refine Met.ofW (cc := cX4_isProgram) (maxL := 1) (ret := (some .boolean)) (by decide) rfl ?_
  intro p e s m args below meth c s₁ B hml hv
  obtain ⟨rfl, hsz, hP, hK, hD0⟩ := hv
  have hx := B.exec
  have hb := B.bytes
  have hr := B.returns
  have hts := atoms_spec (ws := wsX4_isProgram) B.pre
  have hown : s.vm.findClass RX4 = some m.cls := findClass_of_methodNamed B.named
  have hlocks := B.notSynchronized
  subst hsz
  have hD := hD0.self (sz := s.heap.size)
  generalize hAe : va_A [] s.heap.size = A at hD ⊢
  have hA : ∀ q : Nat, s.heap.size ≤ q → A q := fun q h => by rw [← hAe]; exact Or.inr h
  have hS : va_S A s.heap s.heap [] := va_S.rf
  have hl := lv_entry ([.int x]) (n := 1) (Nat.le_of_ble_eq_true rfl)
  rw [lg_entry_eq]
  generalize (lg_sl ([.int x]) ++ List.replicate (1 - (lg_sl ([.int x])).length) Slot.unset).toArray = ls at hl ⊢
  have hl : lv_has ls 1 [(0, .int x)] := hl
  refine lv_iload_n hx hb dX4_isProgram_0 rfl (lv_at hl 0 rfl) ?_
  refine lv_iconst (v := 0) hx hb dX4_isProgram_1 (by decide) ?_
  refine lv_bipush (v := 7) hx hb dX4_isProgram_2 (by decide) ?_
  have hPc := hP.sub (ws' := []) [] rfl
  have hDc := hD.sub (ws' := []) [] (by decide) rfl
  have hKc := hK.sub (tys' := []) [] rfl
  have hFc := va_free (wc := []) hD hS hA [] rfl
  refine va_calli (va_runS (As := [.int x, .int 0, .int 7]) (rest := []) ⟨hx, hb, hml, hown, hts⟩ (c_X4_in (l := l) (D := D) (x := x) (y := 0) (z := 7) ) (va_cwS 3 hts gX4_isProgram_X4_in rfl rfl rfl (by decide +kernel) ⟨Nat.le_of_ble_eq_true rfl, Nat.le_of_ble_eq_true rfl⟩) ⟨k_blind, fun U hU hW => ⟨rfl, k_pre hU hW hPc hKc hDc⟩⟩ rfl rfl hl.1 rfl (lv_room (Nat.le_of_ble_eq_true rfl)) dX4_isProgram_4 ⟨by decide, by decide⟩) hS (fun q _ h => hFc q h) hFc (fun r1 u t H1 locs ht hvm hw hB hz1 hk1 hS => ?_)
  refine W.widen (k := 0) (n := 0) (Nat.le_refl _) (Nat.le_refl _) ?_
  have hl0 : (0 : Int32).toInt = 0 := by decide
  have hl7 : (7 : Int32).toInt = 7 := by decide
  rcases hw with ⟨rfl, rfl, ha_1, hb_1⟩ | ⟨rfl, rfl, ha_1⟩
  · skip
    obtain ⟨hP1, hK1, hD1⟩ := hB
    rw [ht] at hP1
    have hK1 := va_K.moved hvm.symm hK1
    obtain ⟨hP, hD⟩ := va_join (wr := []) (w1 := []) hP hD [] [] rfl rfl (by decide) (by decide) hk1 hFc hP1 hD1
    generalize H1 = H at hP hS ⊢
    have hP : va_P D vwCl [] H := hP
    have hD : va_D A [] := hD
    have hP := hP.sub (ws' := []) [] rfl
    have hD := hD.sub (ws' := []) [] (by decide) rfl
    have hK := hK.sub (tys' := []) [] rfl
    refine W.widen (k := 0) (n := 0) (by decide) (by decide) ?_
    exact W.zret (v := 1) hx hb hr (by decide) (fun t ht hW => ⟨⟨1, ([], []), rfl, Or.inl ⟨rfl, rfl, (by omega), (by omega)⟩, ⟨by rw [ht]; exact hP, va_K.moved hW.alike hK, hD⟩⟩, hS.F ht⟩) hS.2.2 dX4_isProgram_7
  · skip
    obtain ⟨hP1, hK1, hD1⟩ := hB
    rw [ht] at hP1
    have hK1 := va_K.moved hvm.symm hK1
    obtain ⟨hP, hD⟩ := va_join (wr := []) (w1 := []) hP hD [] [] rfl rfl (by decide) (by decide) hk1 hFc hP1 hD1
    generalize H1 = H at hP hS ⊢
    have hP : va_P D vwCl [] H := hP
    have hD : va_D A [] := hD
    have hP := hP.sub (ws' := []) [] rfl
    have hD := hD.sub (ws' := []) [] (by decide) rfl
    have hK := hK.sub (tys' := []) [] rfl
    refine W.widen (k := 0) (n := 0) (by decide) (by decide) ?_
    exact W.zret (v := 0) hx hb hr (by decide) (fun t ht hW => ⟨⟨0, ([], []), rfl, Or.inr (⟨rfl, rfl, (by omega)⟩), ⟨by rw [ht]; exact hP, va_K.moved hW.alike hK, hD⟩⟩, hS.F ht⟩) hS.2.2 dX4_isProgram_7
set_option maxHeartbeats 4000000 in
set_option maxRecDepth 100000 in
theorem c_X3_opOf {l : Launch} {D : va_G} {sz : Nat} {x : Int32}  : Met l yX3_opOf wsX3_opOf ({ frames := 0, cells := 0, slots := 0, locals := 0 }) (va_Pc [.int x] (k_Pre D [] [] sz)) (va_Qi (fun (r : Int32) (u : va_W × List (ClassId × FieldType)) => (r = (x / 10000) ∧ u = ([], []))) (k_B D (va_A [] sz)) (va_A [] sz)) 0 0 (va_A [] sz) := by
  refine Met.ofW (cc := cX3_opOf) (maxL := 1) (ret := (some .int)) (by decide) rfl ?_
  intro p e s m args below meth c s₁ B hml hv
  obtain ⟨rfl, hsz, hP, hK, hD0⟩ := hv
  have hx := B.exec
  have hb := B.bytes
  have hr := B.returns
  have hts := atoms_spec (ws := wsX3_opOf) B.pre
  have hown : s.vm.findClass RX3 = some m.cls := findClass_of_methodNamed B.named
  have hlocks := B.notSynchronized
  subst hsz
  have hD := hD0.self (sz := s.heap.size)
  generalize hAe : va_A [] s.heap.size = A at hD ⊢
  have hA : ∀ q : Nat, s.heap.size ≤ q → A q := fun q h => by rw [← hAe]; exact Or.inr h
  have hS : va_S A s.heap s.heap [] := va_S.rf
  have hl := lv_entry ([.int x]) (n := 1) (Nat.le_of_ble_eq_true rfl)
  rw [lg_entry_eq]
  generalize (lg_sl ([.int x]) ++ List.replicate (1 - (lg_sl ([.int x])).length) Slot.unset).toArray = ls at hl ⊢
  have hl : lv_has ls 1 [(0, .int x)] := hl
  refine lv_iload_n hx hb dX3_opOf_0 rfl (lv_at hl 0 rfl) ?_
  refine lv_sipush (v := 10000) hx hb dX3_opOf_1 (by decide) ?_
  refine lv_idiv hx hb dX3_opOf_4 (by decide) ?_
  have hP := hP.sub (ws' := []) [] rfl
  have hD := hD.sub (ws' := []) [] (by decide) rfl
  have hK := hK.sub (tys' := []) [] rfl
  refine W.widen (k := 0) (n := 0) (by decide) (by decide) ?_
  exact W.iret (v := (x / 10000)) hx hb hr (fun t ht hW => ⟨⟨(x / 10000), ([], []), rfl, ⟨rfl, rfl⟩, ⟨by rw [ht]; exact hP, va_K.moved hW.alike hK, hD⟩⟩, hS.F ht⟩) hS.2.2 dX3_opOf_5
set_option maxHeartbeats 4000000 in
set_option maxRecDepth 100000 in
theorem c_X3_aOf {l : Launch} {D : va_G} {sz : Nat} {x : Int32}  : Met l yX3_aOf wsX3_aOf ({ frames := 0, cells := 0, slots := 0, locals := 0 }) (va_Pc [.int x] (k_Pre D [] [] sz)) (va_Qi (fun (r : Int32) (u : va_W × List (ClassId × FieldType)) => (r = ((x / 100) - (x / 100) / 100 * 100) ∧ u = ([], []))) (k_B D (va_A [] sz)) (va_A [] sz)) 0 0 (va_A [] sz) := by
  refine Met.ofW (cc := cX3_aOf) (maxL := 1) (ret := (some .int)) (by decide) rfl ?_
  intro p e s m args below meth c s₁ B hml hv
  obtain ⟨rfl, hsz, hP, hK, hD0⟩ := hv
  have hx := B.exec
  have hb := B.bytes
  have hr := B.returns
  have hts := atoms_spec (ws := wsX3_aOf) B.pre
  have hown : s.vm.findClass RX3 = some m.cls := findClass_of_methodNamed B.named
  have hlocks := B.notSynchronized
  subst hsz
  have hD := hD0.self (sz := s.heap.size)
  generalize hAe : va_A [] s.heap.size = A at hD ⊢
  have hA : ∀ q : Nat, s.heap.size ≤ q → A q := fun q h => by rw [← hAe]; exact Or.inr h
  have hS : va_S A s.heap s.heap [] := va_S.rf
  have hl := lv_entry ([.int x]) (n := 1) (Nat.le_of_ble_eq_true rfl)
  rw [lg_entry_eq]
  generalize (lg_sl ([.int x]) ++ List.replicate (1 - (lg_sl ([.int x])).length) Slot.unset).toArray = ls at hl ⊢
  have hl : lv_has ls 1 [(0, .int x)] := hl
  refine lv_iload_n hx hb dX3_aOf_0 rfl (lv_at hl 0 rfl) ?_
  refine lv_bipush (v := 100) hx hb dX3_aOf_1 (by decide) ?_
  refine lv_idiv hx hb dX3_aOf_3 (by decide) ?_
  refine lv_bipush (v := 100) hx hb dX3_aOf_4 (by decide) ?_
  refine lv_irem hx hb dX3_aOf_6 (by decide) ?_
  have hP := hP.sub (ws' := []) [] rfl
  have hD := hD.sub (ws' := []) [] (by decide) rfl
  have hK := hK.sub (tys' := []) [] rfl
  refine W.widen (k := 0) (n := 0) (by decide) (by decide) ?_
  exact W.iret (v := ((x / 100) - (x / 100) / 100 * 100)) hx hb hr (fun t ht hW => ⟨⟨((x / 100) - (x / 100) / 100 * 100), ([], []), rfl, ⟨rfl, rfl⟩, ⟨by rw [ht]; exact hP, va_K.moved hW.alike hK, hD⟩⟩, hS.F ht⟩) hS.2.2 dX3_aOf_7
set_option maxHeartbeats 4000000 in
set_option maxRecDepth 100000 in
theorem c_J7_fill_53178 {l : Launch} {D : va_G} {sz : Nat} {a : Nat} {v : Int32} {n : Nat} {f : Nat → Int32} {cI : ClassId} (hn : n < 2147483647) : Met l yJ7_fill_53178 wsJ7_fill_53178 ({ frames := 0, cells := 0, slots := 0, locals := 0 }) (va_Pc [.ref a, .int v] (k_Pre D [(cI, .int)] [(a, .inl (cI, n, .inl f))] sz)) (va_Qv (fun (u : va_W × List (ClassId × FieldType)) => (∃ (f2 : Nat → Int32), u = ([(a, .inl (cI, n, .inl f2))], [(cI, .int)]))) (k_B D (va_A [(a, .inl (cI, n, .inl f))] sz)) (va_A [(a, .inl (cI, n, .inl f))] sz)) 0 0 (va_A [(a, .inl (cI, n, .inl f))] sz) := by
  refine Met.ofW (cc := cJ7_fill_53178) (maxL := 4) (ret := none) (by decide) rfl ?_
  intro p e s m args below meth c s₁ B hml hv
  obtain ⟨rfl, hsz, hP, hK, hD0⟩ := hv
  have hx := B.exec
  have hb := B.bytes
  have hr := B.returns
  have hts := atoms_spec (ws := wsJ7_fill_53178) B.pre
  have hown : s.vm.findClass RJ7 = some m.cls := findClass_of_methodNamed B.named
  have hlocks := B.notSynchronized
  subst hsz
  have hD := hD0.self (sz := s.heap.size)
  generalize hAe : va_A [(a, .inl (cI, n, .inl f))] s.heap.size = A at hD ⊢
  have hA : ∀ q : Nat, s.heap.size ≤ q → A q := fun q h => by rw [← hAe]; exact Or.inr h
  have hS : va_S A s.heap s.heap [] := va_S.rf
  have hl := lv_entry ([.ref a, .int v]) (n := 4) (Nat.le_of_ble_eq_true rfl)
  rw [lg_entry_eq]
  generalize (lg_sl ([.ref a, .int v]) ++ List.replicate (4 - (lg_sl ([.ref a, .int v])).length) Slot.unset).toArray = ls at hl ⊢
  have hl : lv_has ls 4 [(0, .ref a), (1, .int v)] := hl
  refine k_Q (fun Q hQ => ?_)
  have hn0 : (nI n).toInt = n := nI_toInt (by omega)
  refine lv_iconst (v := 0) hx hb dJ7_fill_53178_0 (by decide) ?_
  refine lv_istore_n (lv' := [(2, .int 0), (0, .ref a), (1, .int v)]) hx hb dJ7_fill_53178_1 rfl hl (by decide) rfl (fun ls hl => ?_)
  refine lv_aload_n hx hb dJ7_fill_53178_2 rfl (lv_at hl 1 rfl) ?_
  refine va_alen hx hb hK hP 0 0 rfl rfl (v := nI n) (by first | rfl | decide) dJ7_fill_53178_3 ?_
  refine lv_istore_n (lv' := [(3, .int (nI n)), (2, .int 0), (0, .ref a), (1, .int v)]) hx hb dJ7_fill_53178_4 rfl hl (by decide) rfl (fun ls hl => ?_)
  have loop : ∀ (k : Nat) (i : Int32) (f : Nat → Int32) (H : Heap) (locs : List Loc) (ls : Array Slot), (0 ≤ i.toInt) → (i.toInt + k = n) → va_P D vwCl [(a, .inl (cI, n, .inl f))] H → va_D A [(a, .inl (cI, n, .inl f))] → va_S A s.heap H locs → lv_has ls 4 [(2, .int i), (3, .int (nI n)), (0, .ref a), (1, .int v)] → W p l e (headSpec wsJ7_fill_53178 ({ frames := 0, cells := 0, slots := 0, locals := 0 })).room s m ([.ref a, .int v] : List Value).toArray below meth c H locs 0 0 Q (F0 m 5 ls []) := by
    intro k
    induction k with
    | zero =>
      intro i f H locs ls h0 hi hP hD hS hl
      refine lv_iload_n hx hb dJ7_fill_53178_5 rfl (lv_at hl 0 rfl) ?_
      refine lv_iload_n hx hb dJ7_fill_53178_6 rfl (lv_at hl 1 rfl) ?_
      refine lv_icmp_ge (tgt := 20) hx hb dJ7_fill_53178_7 (by decide) (fun c1 => ?_) (fun c1 => ?_)
      · skip
        have c1 := k_le c1
        subst hQ
        have hP := hP.sub (ws' := [(a, .inl (cI, n, .inl f))]) [0] rfl
        have hD := hD.sub (ws' := [(a, .inl (cI, n, .inl f))]) [0] (by decide) rfl
        have hK := hK.sub (tys' := [(cI, .int)]) [0] rfl
        refine W.widen (k := 0) (n := 0) (by decide) (by decide) ?_
        exact W.vret hx hb hr (fun t ht hW => ⟨⟨([(a, .inl (cI, n, .inl f))], [(cI, .int)]), rfl, ⟨f, rfl⟩, ⟨by rw [ht]; exact hP, va_K.moved hW.alike hK, hD⟩⟩, hS.F ht⟩) hS.2.2 dJ7_fill_53178_20
      · skip
        have c1 := k_nle c1
        exfalso; omega
    | succ k ih =>
      intro i f H locs ls h0 hi hP hD hS hl
      refine lv_iload_n hx hb dJ7_fill_53178_5 rfl (lv_at hl 0 rfl) ?_
      refine lv_iload_n hx hb dJ7_fill_53178_6 rfl (lv_at hl 1 rfl) ?_
      refine lv_icmp_ge (tgt := 20) hx hb dJ7_fill_53178_7 (by decide) (fun c2 => ?_) (fun c2 => ?_)
      · skip
        have c2 := k_le c2
        subst hQ
        have hP := hP.sub (ws' := [(a, .inl (cI, n, .inl f))]) [0] rfl
        have hD := hD.sub (ws' := [(a, .inl (cI, n, .inl f))]) [0] (by decide) rfl
        have hK := hK.sub (tys' := [(cI, .int)]) [0] rfl
        refine W.widen (k := 0) (n := 0) (by decide) (by decide) ?_
        exact W.vret hx hb hr (fun t ht hW => ⟨⟨([(a, .inl (cI, n, .inl f))], [(cI, .int)]), rfl, ⟨f, rfl⟩, ⟨by rw [ht]; exact hP, va_K.moved hW.alike hK, hD⟩⟩, hS.F ht⟩) hS.2.2 dJ7_fill_53178_20
      · skip
        have c2 := k_nle c2
        refine lv_aload_n hx hb dJ7_fill_53178_10 rfl (lv_at hl 2 rfl) ?_
        refine lv_iload_n hx hb dJ7_fill_53178_11 rfl (lv_at hl 0 rfl) ?_
        refine lv_iload_n hx hb dJ7_fill_53178_12 rfl (lv_at hl 3 rfl) ?_
        have hi13 : vp_in i n := (k_in (by omega) (by omega))
        refine va_iast hx hb hK hP hD hS 0 0 rfl rfl hi13 dJ7_fill_53178_13 (fun H locs hP hD hS => ?_)
        have hP : va_P D vwCl [(a, .inl (cI, n, .inl (upd f i.toNatClampNeg v)))] H := hP
        have hD : va_D A [(a, .inl (cI, n, .inl (upd f i.toNatClampNeg v)))] := hD
        refine lv_iinc (v := i + 1) (lv' := [(2, .int (i + 1)), (3, .int (nI n)), (0, .ref a), (1, .int v)]) hx hb dJ7_fill_53178_14 hl (k := 0) rfl (by rfl) (by decide) rfl (fun ls hl => ?_)
        refine lv_goto (tgt := 5) hx hb dJ7_fill_53178_17 (by decide) ?_
        have e1 := k_inc (x := i) (by omega)
        exact ih (i + 1) (upd f i.toNatClampNeg v) _ _ _ (by omega) (by omega) (hP.sub [0] rfl) (hD.sub [0] (by decide) rfl) hS (lv_sub hl [0, 1, 2, 3] rfl)
  exact loop n 0 f _ _ _ (by decide) (by rw [show (0 : Int32).toInt = 0 from by decide]; omega) (hP.sub [0] rfl) (hD.sub [0] (by decide) rfl) hS (lv_sub hl [1, 0, 2, 3] rfl)
set_option maxHeartbeats 4000000 in
set_option maxRecDepth 100000 in
theorem c_J7_fill_d0a16 {l : Launch} {D : va_G} {sz : Nat} {a : Nat} {v : Int64} {n : Nat} {f : Nat → Int64} {cJ : ClassId} (hn : n < 2147483647) : Met l yJ7_fill_d0a16 wsJ7_fill_d0a16 ({ frames := 0, cells := 0, slots := 0, locals := 0 }) (va_Pc [.ref a, .long v] (k_Pre D [(cJ, .long)] [(a, .inl (cJ, n, .inr (.inl f)))] sz)) (va_Qv (fun (u : va_W × List (ClassId × FieldType)) => (∃ (f2 : Nat → Int64), u = ([(a, .inl (cJ, n, .inr (.inl f2)))], [(cJ, .long)]))) (k_B D (va_A [(a, .inl (cJ, n, .inr (.inl f)))] sz)) (va_A [(a, .inl (cJ, n, .inr (.inl f)))] sz)) 0 0 (va_A [(a, .inl (cJ, n, .inr (.inl f)))] sz) := by
  refine Met.ofW (cc := cJ7_fill_d0a16) (maxL := 5) (ret := none) (by decide) rfl ?_
  intro p e s m args below meth c s₁ B hml hv
  obtain ⟨rfl, hsz, hP, hK, hD0⟩ := hv
  have hx := B.exec
  have hb := B.bytes
  have hr := B.returns
  have hts := atoms_spec (ws := wsJ7_fill_d0a16) B.pre
  have hown : s.vm.findClass RJ7 = some m.cls := findClass_of_methodNamed B.named
  have hlocks := B.notSynchronized
  subst hsz
  have hD := hD0.self (sz := s.heap.size)
  generalize hAe : va_A [(a, .inl (cJ, n, .inr (.inl f)))] s.heap.size = A at hD ⊢
  have hA : ∀ q : Nat, s.heap.size ≤ q → A q := fun q h => by rw [← hAe]; exact Or.inr h
  have hS : va_S A s.heap s.heap [] := va_S.rf
  have hl := lv_entry ([.ref a, .long v]) (n := 5) (Nat.le_of_ble_eq_true rfl)
  rw [lg_entry_eq]
  generalize (lg_sl ([.ref a, .long v]) ++ List.replicate (5 - (lg_sl ([.ref a, .long v])).length) Slot.unset).toArray = ls at hl ⊢
  have hl : lv_has ls 5 [(0, .ref a), (1, .long v)] := hl
  refine k_Q (fun Q hQ => ?_)
  have hn0 : (nI n).toInt = n := nI_toInt (by omega)
  refine lv_iconst (v := 0) hx hb dJ7_fill_d0a16_0 (by decide) ?_
  refine lv_istore_n (lv' := [(3, .int 0), (0, .ref a), (1, .long v)]) hx hb dJ7_fill_d0a16_1 rfl hl (by decide) rfl (fun ls hl => ?_)
  refine lv_aload_n hx hb dJ7_fill_d0a16_2 rfl (lv_at hl 1 rfl) ?_
  refine va_alen hx hb hK hP 0 0 rfl rfl (v := nI n) (by first | rfl | decide) dJ7_fill_d0a16_3 ?_
  refine lv_istore (lv' := [(4, .int (nI n)), (3, .int 0), (0, .ref a), (1, .long v)]) hx hb dJ7_fill_d0a16_4 hl (by decide) rfl (fun ls hl => ?_)
  have loop : ∀ (k : Nat) (i : Int32) (f : Nat → Int64) (H : Heap) (locs : List Loc) (ls : Array Slot), (0 ≤ i.toInt) → (i.toInt + k = n) → va_P D vwCl [(a, .inl (cJ, n, .inr (.inl f)))] H → va_D A [(a, .inl (cJ, n, .inr (.inl f)))] → va_S A s.heap H locs → lv_has ls 5 [(3, .int i), (4, .int (nI n)), (0, .ref a), (1, .long v)] → W p l e (headSpec wsJ7_fill_d0a16 ({ frames := 0, cells := 0, slots := 0, locals := 0 })).room s m ([.ref a, .long v] : List Value).toArray below meth c H locs 0 0 Q (F0 m 6 ls []) := by
    intro k
    induction k with
    | zero =>
      intro i f H locs ls h0 hi hP hD hS hl
      refine lv_iload_n hx hb dJ7_fill_d0a16_6 rfl (lv_at hl 0 rfl) ?_
      refine lv_iload hx hb dJ7_fill_d0a16_7 (lv_at hl 1 rfl) ?_
      refine lv_icmp_ge (tgt := 22) hx hb dJ7_fill_d0a16_9 (by decide) (fun c1 => ?_) (fun c1 => ?_)
      · skip
        have c1 := k_le c1
        subst hQ
        have hP := hP.sub (ws' := [(a, .inl (cJ, n, .inr (.inl f)))]) [0] rfl
        have hD := hD.sub (ws' := [(a, .inl (cJ, n, .inr (.inl f)))]) [0] (by decide) rfl
        have hK := hK.sub (tys' := [(cJ, .long)]) [0] rfl
        refine W.widen (k := 0) (n := 0) (by decide) (by decide) ?_
        exact W.vret hx hb hr (fun t ht hW => ⟨⟨([(a, .inl (cJ, n, .inr (.inl f)))], [(cJ, .long)]), rfl, ⟨f, rfl⟩, ⟨by rw [ht]; exact hP, va_K.moved hW.alike hK, hD⟩⟩, hS.F ht⟩) hS.2.2 dJ7_fill_d0a16_22
      · skip
        have c1 := k_nle c1
        exfalso; omega
    | succ k ih =>
      intro i f H locs ls h0 hi hP hD hS hl
      refine lv_iload_n hx hb dJ7_fill_d0a16_6 rfl (lv_at hl 0 rfl) ?_
      refine lv_iload hx hb dJ7_fill_d0a16_7 (lv_at hl 1 rfl) ?_
      refine lv_icmp_ge (tgt := 22) hx hb dJ7_fill_d0a16_9 (by decide) (fun c2 => ?_) (fun c2 => ?_)
      · skip
        have c2 := k_le c2
        subst hQ
        have hP := hP.sub (ws' := [(a, .inl (cJ, n, .inr (.inl f)))]) [0] rfl
        have hD := hD.sub (ws' := [(a, .inl (cJ, n, .inr (.inl f)))]) [0] (by decide) rfl
        have hK := hK.sub (tys' := [(cJ, .long)]) [0] rfl
        refine W.widen (k := 0) (n := 0) (by decide) (by decide) ?_
        exact W.vret hx hb hr (fun t ht hW => ⟨⟨([(a, .inl (cJ, n, .inr (.inl f)))], [(cJ, .long)]), rfl, ⟨f, rfl⟩, ⟨by rw [ht]; exact hP, va_K.moved hW.alike hK, hD⟩⟩, hS.F ht⟩) hS.2.2 dJ7_fill_d0a16_22
      · skip
        have c2 := k_nle c2
        refine lv_aload_n hx hb dJ7_fill_d0a16_12 rfl (lv_at hl 2 rfl) ?_
        refine lv_iload_n hx hb dJ7_fill_d0a16_13 rfl (lv_at hl 0 rfl) ?_
        refine lv_lload_n hx hb dJ7_fill_d0a16_14 rfl (lv_at hl 3 rfl) ?_
        have hi15 : vp_in i n := (k_in (by omega) (by omega))
        refine va_last hx hb hK hP hD hS 0 0 rfl rfl hi15 dJ7_fill_d0a16_15 (fun H locs hP hD hS => ?_)
        have hP : va_P D vwCl [(a, .inl (cJ, n, .inr (.inl (vp_updL f i.toNatClampNeg v))))] H := hP
        have hD : va_D A [(a, .inl (cJ, n, .inr (.inl (vp_updL f i.toNatClampNeg v))))] := hD
        refine lv_iinc (v := i + 1) (lv' := [(3, .int (i + 1)), (4, .int (nI n)), (0, .ref a), (1, .long v)]) hx hb dJ7_fill_d0a16_16 hl (k := 0) rfl (by rfl) (by decide) rfl (fun ls hl => ?_)
        refine lv_goto (tgt := 6) hx hb dJ7_fill_d0a16_19 (by decide) ?_
        have e1 := k_inc (x := i) (by omega)
        exact ih (i + 1) (vp_updL f i.toNatClampNeg v) _ _ _ (by omega) (by omega) (hP.sub [0] rfl) (hD.sub [0] (by decide) rfl) hS (lv_sub hl [0, 1, 2, 3] rfl)
  exact loop n 0 f _ _ _ (by decide) (by rw [show (0 : Int32).toInt = 0 from by decide]; omega) (hP.sub [0] rfl) (hD.sub [0] (by decide) rfl) hS (lv_sub hl [1, 0, 2, 3] rfl)
end
section
/-- a STEP that can be, as 1 or 0 -/
def kv (x : Int32) : Int := if 0 ≤ x.toInt ∧ (x / 10000).toInt ≤ 8 ∧ (((x / 10000).toInt = 0 ∨ (x / 10000).toInt = 3 ∨ (x / 10000).toInt = 4) → (x / 100 - x / 100 / 100 * 100).toInt < 24) ∧ ((x / 10000).toInt = 6 → (x / 100 - x / 100 / 100 * 100).toInt < 8) ∧ ((x / 10000).toInt = 7 → (x / 100 - x / 100 / 100 * 100).toInt < 8) then 1 else 0
set_option maxHeartbeats 4000000 in
set_option maxRecDepth 100000 in
theorem c_X3_isStep {l : Launch} {D : va_G} {sz : Nat} {x : Int32}  : Met l yX3_isStep wsX3_isStep ({ frames := 1, cells := 0, slots := 0, locals := 20 }) (va_Pc [.int x] (k_Pre D [] [] sz)) (va_Qi (fun (r : Int32) (u : va_W × List (ClassId × FieldType)) => (r = 1 ∧ u = ([], []) ∧ kv x = 1) ∨ (r = 0 ∧ u = ([], []) ∧ kv x = 0)) (k_B D (va_A [] sz)) (va_A [] sz)) 0 0 (va_A [] sz) := by
  refine Met.ofW (cc := cX3_isStep) (maxL := 1) (ret := (some .boolean)) (by decide) rfl ?_
  intro p e s m args below meth c s₁ B hml hv
  obtain ⟨rfl, hsz, hP, hK, hD0⟩ := hv
  have hx := B.exec
  have hb := B.bytes
  have hr := B.returns
  have hts := atoms_spec (ws := wsX3_isStep) B.pre
  have hown : s.vm.findClass RX3 = some m.cls := findClass_of_methodNamed B.named
  have hlocks := B.notSynchronized
  subst hsz
  have hD := hD0.self (sz := s.heap.size)
  generalize hAe : va_A [] s.heap.size = A at hD ⊢
  have hA : ∀ q : Nat, s.heap.size ≤ q → A q := fun q h => by rw [← hAe]; exact Or.inr h
  have hS : va_S A s.heap s.heap [] := va_S.rf
  have hl := lv_entry ([.int x]) (n := 1) (Nat.le_of_ble_eq_true rfl)
  rw [lg_entry_eq]
  generalize (lg_sl ([.int x]) ++ List.replicate (1 - (lg_sl ([.int x])).length) Slot.unset).toArray = ls at hl ⊢
  have hl : lv_has ls 1 [(0, .int x)] := hl
  refine lv_iload_n hx hb dX3_isStep_0 rfl (lv_at hl 0 rfl) ?_
  refine lv_if_lt (tgt := 13) hx hb dX3_isStep_1 (by decide) (fun c1 => ?_) (fun c1 => ?_)
  · skip
    have c1 := k_lt c1
    have hl0 : (0 : Int32).toInt = 0 := by decide
    refine lv_iconst (v := 0) hx hb dX3_isStep_13 (by decide) ?_
    have hP := hP.sub (ws' := []) [] rfl
    have hD := hD.sub (ws' := []) [] (by decide) rfl
    have hK := hK.sub (tys' := []) [] rfl
    refine W.widen (k := 0) (n := 0) (by decide) (by decide) ?_
    exact W.zret (v := 0) hx hb hr (by decide) (fun t ht hW => ⟨⟨0, ([], []), rfl, Or.inr (⟨rfl, rfl, (by unfold kv; split <;> omega)⟩), ⟨by rw [ht]; exact hP, va_K.moved hW.alike hK, hD⟩⟩, hS.F ht⟩) hS.2.2 dX3_isStep_14
  · skip
    have c1 := k_nlt c1
    have hl0 : (0 : Int32).toInt = 0 := by decide
    refine lv_iload_n hx hb dX3_isStep_4 rfl (lv_at hl 0 rfl) ?_
    have hPc := hP.sub (ws' := []) [] rfl
    have hDc := hD.sub (ws' := []) [] (by decide) rfl
    have hKc := hK.sub (tys' := []) [] rfl
    have hFc := va_free (wc := []) hD hS hA [] rfl
    refine va_calli (va_runS (As := [.int x]) (rest := []) ⟨hx, hb, hml, hown, hts⟩ (c_X3_opOf (l := l) (D := D) (x := x) ) (va_cwS 1 hts gX3_isStep_X3_opOf rfl rfl rfl (by decide +kernel) ⟨Nat.le_of_ble_eq_true rfl, Nat.le_of_ble_eq_true rfl⟩) ⟨k_blind, fun U hU hW => ⟨rfl, k_pre hU hW hPc hKc hDc⟩⟩ rfl rfl hl.1 rfl (lv_room (Nat.le_of_ble_eq_true rfl)) dX3_isStep_5 ⟨by decide, by decide⟩) hS (fun q _ h => hFc q h) hFc (fun r2 u t H1 locs ht hvm hw hB hz1 hk1 hS => ?_)
    refine W.widen (k := 0) (n := 0) (Nat.le_refl _) (Nat.le_refl _) ?_
    obtain ⟨rfl, rfl⟩ := hw
    obtain ⟨hP1, hK1, hD1⟩ := hB
    rw [ht] at hP1
    have hK1 := va_K.moved hvm.symm hK1
    obtain ⟨hP, hD⟩ := va_join (wr := []) (w1 := []) hP hD [] [] rfl rfl (by decide) (by decide) hk1 hFc hP1 hD1
    generalize H1 = H at hP hS ⊢
    have hP : va_P D vwCl [] H := hP
    have hD : va_D A [] := hD
    refine lv_bipush (v := 8) hx hb dX3_isStep_8 (by decide) ?_
    refine lv_icmp_le (tgt := 15) hx hb dX3_isStep_10 (by decide) (fun c3 => ?_) (fun c3 => ?_)
    · skip
      have c3 := k_le c3
      have hl8 : (8 : Int32).toInt = 8 := by decide
      refine lv_iload_n hx hb dX3_isStep_15 rfl (lv_at hl 0 rfl) ?_
      have hPc := hP.sub (ws' := []) [] rfl
      have hDc := hD.sub (ws' := []) [] (by decide) rfl
      have hKc := hK.sub (tys' := []) [] rfl
      have hFc := va_free (wc := []) hD hS hA [] rfl
      refine va_calli (va_runS (As := [.int x]) (rest := []) ⟨hx, hb, hml, hown, hts⟩ (c_X3_opOf (l := l) (D := D) (x := x) ) (va_cwS 1 hts gX3_isStep_X3_opOf rfl rfl rfl (by decide +kernel) ⟨Nat.le_of_ble_eq_true rfl, Nat.le_of_ble_eq_true rfl⟩) ⟨k_blind, fun U hU hW => ⟨rfl, k_pre hU hW hPc hKc hDc⟩⟩ rfl rfl hl.1 rfl (lv_room (Nat.le_of_ble_eq_true rfl)) dX3_isStep_16 ⟨by decide, by decide⟩) hS (fun q _ h => hFc q h) hFc (fun r4 u t H1 locs ht hvm hw hB hz1 hk1 hS => ?_)
      refine W.widen (k := 0) (n := 0) (Nat.le_refl _) (Nat.le_refl _) ?_
      obtain ⟨rfl, rfl⟩ := hw
      obtain ⟨hP1, hK1, hD1⟩ := hB
      rw [ht] at hP1
      have hK1 := va_K.moved hvm.symm hK1
      obtain ⟨hP, hD⟩ := va_join (wr := []) (w1 := []) hP hD [] [] rfl rfl (by decide) (by decide) hk1 hFc hP1 hD1
      generalize H1 = H at hP hS ⊢
      have hP : va_P D vwCl [] H := hP
      have hD : va_D A [] := hD
      by_cases hs5 : (x / 10000).toInt < 0 ∨ 7 < (x / 10000).toInt
      · skip
        refine lv_tableOut (tgt := 109) hx hb dX3_isStep_19 hs5 (by decide) ?_
        refine lv_iconst (v := 1) hx hb dX3_isStep_109 (by decide) ?_
        have hP := hP.sub (ws' := []) [] rfl
        have hD := hD.sub (ws' := []) [] (by decide) rfl
        have hK := hK.sub (tys' := []) [] rfl
        refine W.widen (k := 0) (n := 0) (by decide) (by decide) ?_
        exact W.zret (v := 1) hx hb hr (by decide) (fun t ht hW => ⟨⟨1, ([], []), rfl, Or.inl ⟨rfl, rfl, (by unfold kv; split <;> omega)⟩, ⟨by rw [ht]; exact hP, va_K.moved hW.alike hK, hD⟩⟩, hS.F ht⟩) hS.2.2 dX3_isStep_110
      · skip
        have hs5 : (x / 10000).toInt = 0 ∨ (x / 10000).toInt = 1 ∨ (x / 10000).toInt = 2 ∨ (x / 10000).toInt = 3 ∨ (x / 10000).toInt = 4 ∨ (x / 10000).toInt = 5 ∨ (x / 10000).toInt = 6 ∨ (x / 10000).toInt = 7 := by omega
        rcases hs5 with hs5 | hs5 | hs5 | hs5 | hs5 | hs5 | hs5 | hs5
        · skip
          refine lv_tableIn (off := 45) (tgt := 64) hx hb dX3_isStep_19 (by omega) (by omega) (by rw [hs5]; rfl) (by decide) ?_
          refine lv_iload_n hx hb dX3_isStep_64 rfl (lv_at hl 0 rfl) ?_
          have hPc := hP.sub (ws' := []) [] rfl
          have hDc := hD.sub (ws' := []) [] (by decide) rfl
          have hKc := hK.sub (tys' := []) [] rfl
          have hFc := va_free (wc := []) hD hS hA [] rfl
          refine va_calli (va_runS (As := [.int x]) (rest := []) ⟨hx, hb, hml, hown, hts⟩ (c_X3_aOf (l := l) (D := D) (x := x) ) (va_cwS 1 hts gX3_isStep_X3_aOf rfl rfl rfl (by decide +kernel) ⟨Nat.le_of_ble_eq_true rfl, Nat.le_of_ble_eq_true rfl⟩) ⟨k_blind, fun U hU hW => ⟨rfl, k_pre hU hW hPc hKc hDc⟩⟩ rfl rfl hl.1 rfl (lv_room (Nat.le_of_ble_eq_true rfl)) dX3_isStep_65 ⟨by decide, by decide⟩) hS (fun q _ h => hFc q h) hFc (fun r6 u t H1 locs ht hvm hw hB hz1 hk1 hS => ?_)
          refine W.widen (k := 0) (n := 0) (Nat.le_refl _) (Nat.le_refl _) ?_
          obtain ⟨rfl, rfl⟩ := hw
          obtain ⟨hP1, hK1, hD1⟩ := hB
          rw [ht] at hP1
          have hK1 := va_K.moved hvm.symm hK1
          obtain ⟨hP, hD⟩ := va_join (wr := []) (w1 := []) hP hD [] [] rfl rfl (by decide) (by decide) hk1 hFc hP1 hD1
          generalize H1 = H at hP hS ⊢
          have hP : va_P D vwCl [] H := hP
          have hD : va_D A [] := hD
          refine lv_bipush (v := 24) hx hb dX3_isStep_68 (by decide) ?_
          refine lv_icmp_ge (tgt := 77) hx hb dX3_isStep_70 (by decide) (fun c7 => ?_) (fun c7 => ?_)
          · skip
            have c7 := k_le c7
            have hl24 : (24 : Int32).toInt = 24 := by decide
            refine lv_iconst (v := 0) hx hb dX3_isStep_77 (by decide) ?_
            have hP := hP.sub (ws' := []) [] rfl
            have hD := hD.sub (ws' := []) [] (by decide) rfl
            have hK := hK.sub (tys' := []) [] rfl
            refine W.widen (k := 0) (n := 0) (by decide) (by decide) ?_
            exact W.zret (v := 0) hx hb hr (by decide) (fun t ht hW => ⟨⟨0, ([], []), rfl, Or.inr (⟨rfl, rfl, (by unfold kv; split <;> omega)⟩), ⟨by rw [ht]; exact hP, va_K.moved hW.alike hK, hD⟩⟩, hS.F ht⟩) hS.2.2 dX3_isStep_78
          · skip
            have c7 := k_nle c7
            have hl24 : (24 : Int32).toInt = 24 := by decide
            refine lv_iconst (v := 1) hx hb dX3_isStep_73 (by decide) ?_
            refine lv_goto (tgt := 78) hx hb dX3_isStep_74 (by decide) ?_
            have hP := hP.sub (ws' := []) [] rfl
            have hD := hD.sub (ws' := []) [] (by decide) rfl
            have hK := hK.sub (tys' := []) [] rfl
            refine W.widen (k := 0) (n := 0) (by decide) (by decide) ?_
            exact W.zret (v := 1) hx hb hr (by decide) (fun t ht hW => ⟨⟨1, ([], []), rfl, Or.inl ⟨rfl, rfl, (by unfold kv; split <;> omega)⟩, ⟨by rw [ht]; exact hP, va_K.moved hW.alike hK, hD⟩⟩, hS.F ht⟩) hS.2.2 dX3_isStep_78
        · skip
          refine lv_tableIn (off := 90) (tgt := 109) hx hb dX3_isStep_19 (by omega) (by omega) (by rw [hs5]; rfl) (by decide) ?_
          refine lv_iconst (v := 1) hx hb dX3_isStep_109 (by decide) ?_
          have hP := hP.sub (ws' := []) [] rfl
          have hD := hD.sub (ws' := []) [] (by decide) rfl
          have hK := hK.sub (tys' := []) [] rfl
          refine W.widen (k := 0) (n := 0) (by decide) (by decide) ?_
          exact W.zret (v := 1) hx hb hr (by decide) (fun t ht hW => ⟨⟨1, ([], []), rfl, Or.inl ⟨rfl, rfl, (by unfold kv; split <;> omega)⟩, ⟨by rw [ht]; exact hP, va_K.moved hW.alike hK, hD⟩⟩, hS.F ht⟩) hS.2.2 dX3_isStep_110
        · skip
          refine lv_tableIn (off := 90) (tgt := 109) hx hb dX3_isStep_19 (by omega) (by omega) (by rw [hs5]; rfl) (by decide) ?_
          refine lv_iconst (v := 1) hx hb dX3_isStep_109 (by decide) ?_
          have hP := hP.sub (ws' := []) [] rfl
          have hD := hD.sub (ws' := []) [] (by decide) rfl
          have hK := hK.sub (tys' := []) [] rfl
          refine W.widen (k := 0) (n := 0) (by decide) (by decide) ?_
          exact W.zret (v := 1) hx hb hr (by decide) (fun t ht hW => ⟨⟨1, ([], []), rfl, Or.inl ⟨rfl, rfl, (by unfold kv; split <;> omega)⟩, ⟨by rw [ht]; exact hP, va_K.moved hW.alike hK, hD⟩⟩, hS.F ht⟩) hS.2.2 dX3_isStep_110
        · skip
          refine lv_tableIn (off := 45) (tgt := 64) hx hb dX3_isStep_19 (by omega) (by omega) (by rw [hs5]; rfl) (by decide) ?_
          refine lv_iload_n hx hb dX3_isStep_64 rfl (lv_at hl 0 rfl) ?_
          have hPc := hP.sub (ws' := []) [] rfl
          have hDc := hD.sub (ws' := []) [] (by decide) rfl
          have hKc := hK.sub (tys' := []) [] rfl
          have hFc := va_free (wc := []) hD hS hA [] rfl
          refine va_calli (va_runS (As := [.int x]) (rest := []) ⟨hx, hb, hml, hown, hts⟩ (c_X3_aOf (l := l) (D := D) (x := x) ) (va_cwS 1 hts gX3_isStep_X3_aOf rfl rfl rfl (by decide +kernel) ⟨Nat.le_of_ble_eq_true rfl, Nat.le_of_ble_eq_true rfl⟩) ⟨k_blind, fun U hU hW => ⟨rfl, k_pre hU hW hPc hKc hDc⟩⟩ rfl rfl hl.1 rfl (lv_room (Nat.le_of_ble_eq_true rfl)) dX3_isStep_65 ⟨by decide, by decide⟩) hS (fun q _ h => hFc q h) hFc (fun r8 u t H1 locs ht hvm hw hB hz1 hk1 hS => ?_)
          refine W.widen (k := 0) (n := 0) (Nat.le_refl _) (Nat.le_refl _) ?_
          obtain ⟨rfl, rfl⟩ := hw
          obtain ⟨hP1, hK1, hD1⟩ := hB
          rw [ht] at hP1
          have hK1 := va_K.moved hvm.symm hK1
          obtain ⟨hP, hD⟩ := va_join (wr := []) (w1 := []) hP hD [] [] rfl rfl (by decide) (by decide) hk1 hFc hP1 hD1
          generalize H1 = H at hP hS ⊢
          have hP : va_P D vwCl [] H := hP
          have hD : va_D A [] := hD
          refine lv_bipush (v := 24) hx hb dX3_isStep_68 (by decide) ?_
          refine lv_icmp_ge (tgt := 77) hx hb dX3_isStep_70 (by decide) (fun c9 => ?_) (fun c9 => ?_)
          · skip
            have c9 := k_le c9
            have hl24 : (24 : Int32).toInt = 24 := by decide
            refine lv_iconst (v := 0) hx hb dX3_isStep_77 (by decide) ?_
            have hP := hP.sub (ws' := []) [] rfl
            have hD := hD.sub (ws' := []) [] (by decide) rfl
            have hK := hK.sub (tys' := []) [] rfl
            refine W.widen (k := 0) (n := 0) (by decide) (by decide) ?_
            exact W.zret (v := 0) hx hb hr (by decide) (fun t ht hW => ⟨⟨0, ([], []), rfl, Or.inr (⟨rfl, rfl, (by unfold kv; split <;> omega)⟩), ⟨by rw [ht]; exact hP, va_K.moved hW.alike hK, hD⟩⟩, hS.F ht⟩) hS.2.2 dX3_isStep_78
          · skip
            have c9 := k_nle c9
            have hl24 : (24 : Int32).toInt = 24 := by decide
            refine lv_iconst (v := 1) hx hb dX3_isStep_73 (by decide) ?_
            refine lv_goto (tgt := 78) hx hb dX3_isStep_74 (by decide) ?_
            have hP := hP.sub (ws' := []) [] rfl
            have hD := hD.sub (ws' := []) [] (by decide) rfl
            have hK := hK.sub (tys' := []) [] rfl
            refine W.widen (k := 0) (n := 0) (by decide) (by decide) ?_
            exact W.zret (v := 1) hx hb hr (by decide) (fun t ht hW => ⟨⟨1, ([], []), rfl, Or.inl ⟨rfl, rfl, (by unfold kv; split <;> omega)⟩, ⟨by rw [ht]; exact hP, va_K.moved hW.alike hK, hD⟩⟩, hS.F ht⟩) hS.2.2 dX3_isStep_78
        · skip
          refine lv_tableIn (off := 45) (tgt := 64) hx hb dX3_isStep_19 (by omega) (by omega) (by rw [hs5]; rfl) (by decide) ?_
          refine lv_iload_n hx hb dX3_isStep_64 rfl (lv_at hl 0 rfl) ?_
          have hPc := hP.sub (ws' := []) [] rfl
          have hDc := hD.sub (ws' := []) [] (by decide) rfl
          have hKc := hK.sub (tys' := []) [] rfl
          have hFc := va_free (wc := []) hD hS hA [] rfl
          refine va_calli (va_runS (As := [.int x]) (rest := []) ⟨hx, hb, hml, hown, hts⟩ (c_X3_aOf (l := l) (D := D) (x := x) ) (va_cwS 1 hts gX3_isStep_X3_aOf rfl rfl rfl (by decide +kernel) ⟨Nat.le_of_ble_eq_true rfl, Nat.le_of_ble_eq_true rfl⟩) ⟨k_blind, fun U hU hW => ⟨rfl, k_pre hU hW hPc hKc hDc⟩⟩ rfl rfl hl.1 rfl (lv_room (Nat.le_of_ble_eq_true rfl)) dX3_isStep_65 ⟨by decide, by decide⟩) hS (fun q _ h => hFc q h) hFc (fun r10 u t H1 locs ht hvm hw hB hz1 hk1 hS => ?_)
          refine W.widen (k := 0) (n := 0) (Nat.le_refl _) (Nat.le_refl _) ?_
          obtain ⟨rfl, rfl⟩ := hw
          obtain ⟨hP1, hK1, hD1⟩ := hB
          rw [ht] at hP1
          have hK1 := va_K.moved hvm.symm hK1
          obtain ⟨hP, hD⟩ := va_join (wr := []) (w1 := []) hP hD [] [] rfl rfl (by decide) (by decide) hk1 hFc hP1 hD1
          generalize H1 = H at hP hS ⊢
          have hP : va_P D vwCl [] H := hP
          have hD : va_D A [] := hD
          refine lv_bipush (v := 24) hx hb dX3_isStep_68 (by decide) ?_
          refine lv_icmp_ge (tgt := 77) hx hb dX3_isStep_70 (by decide) (fun c11 => ?_) (fun c11 => ?_)
          · skip
            have c11 := k_le c11
            have hl24 : (24 : Int32).toInt = 24 := by decide
            refine lv_iconst (v := 0) hx hb dX3_isStep_77 (by decide) ?_
            have hP := hP.sub (ws' := []) [] rfl
            have hD := hD.sub (ws' := []) [] (by decide) rfl
            have hK := hK.sub (tys' := []) [] rfl
            refine W.widen (k := 0) (n := 0) (by decide) (by decide) ?_
            exact W.zret (v := 0) hx hb hr (by decide) (fun t ht hW => ⟨⟨0, ([], []), rfl, Or.inr (⟨rfl, rfl, (by unfold kv; split <;> omega)⟩), ⟨by rw [ht]; exact hP, va_K.moved hW.alike hK, hD⟩⟩, hS.F ht⟩) hS.2.2 dX3_isStep_78
          · skip
            have c11 := k_nle c11
            have hl24 : (24 : Int32).toInt = 24 := by decide
            refine lv_iconst (v := 1) hx hb dX3_isStep_73 (by decide) ?_
            refine lv_goto (tgt := 78) hx hb dX3_isStep_74 (by decide) ?_
            have hP := hP.sub (ws' := []) [] rfl
            have hD := hD.sub (ws' := []) [] (by decide) rfl
            have hK := hK.sub (tys' := []) [] rfl
            refine W.widen (k := 0) (n := 0) (by decide) (by decide) ?_
            exact W.zret (v := 1) hx hb hr (by decide) (fun t ht hW => ⟨⟨1, ([], []), rfl, Or.inl ⟨rfl, rfl, (by unfold kv; split <;> omega)⟩, ⟨by rw [ht]; exact hP, va_K.moved hW.alike hK, hD⟩⟩, hS.F ht⟩) hS.2.2 dX3_isStep_78
        · skip
          refine lv_tableIn (off := 90) (tgt := 109) hx hb dX3_isStep_19 (by omega) (by omega) (by rw [hs5]; rfl) (by decide) ?_
          refine lv_iconst (v := 1) hx hb dX3_isStep_109 (by decide) ?_
          have hP := hP.sub (ws' := []) [] rfl
          have hD := hD.sub (ws' := []) [] (by decide) rfl
          have hK := hK.sub (tys' := []) [] rfl
          refine W.widen (k := 0) (n := 0) (by decide) (by decide) ?_
          exact W.zret (v := 1) hx hb hr (by decide) (fun t ht hW => ⟨⟨1, ([], []), rfl, Or.inl ⟨rfl, rfl, (by unfold kv; split <;> omega)⟩, ⟨by rw [ht]; exact hP, va_K.moved hW.alike hK, hD⟩⟩, hS.F ht⟩) hS.2.2 dX3_isStep_110
        · skip
          refine lv_tableIn (off := 60) (tgt := 79) hx hb dX3_isStep_19 (by omega) (by omega) (by rw [hs5]; rfl) (by decide) ?_
          refine lv_iload_n hx hb dX3_isStep_79 rfl (lv_at hl 0 rfl) ?_
          have hPc := hP.sub (ws' := []) [] rfl
          have hDc := hD.sub (ws' := []) [] (by decide) rfl
          have hKc := hK.sub (tys' := []) [] rfl
          have hFc := va_free (wc := []) hD hS hA [] rfl
          refine va_calli (va_runS (As := [.int x]) (rest := []) ⟨hx, hb, hml, hown, hts⟩ (c_X3_aOf (l := l) (D := D) (x := x) ) (va_cwS 1 hts gX3_isStep_X3_aOf rfl rfl rfl (by decide +kernel) ⟨Nat.le_of_ble_eq_true rfl, Nat.le_of_ble_eq_true rfl⟩) ⟨k_blind, fun U hU hW => ⟨rfl, k_pre hU hW hPc hKc hDc⟩⟩ rfl rfl hl.1 rfl (lv_room (Nat.le_of_ble_eq_true rfl)) dX3_isStep_80 ⟨by decide, by decide⟩) hS (fun q _ h => hFc q h) hFc (fun r12 u t H1 locs ht hvm hw hB hz1 hk1 hS => ?_)
          refine W.widen (k := 0) (n := 0) (Nat.le_refl _) (Nat.le_refl _) ?_
          obtain ⟨rfl, rfl⟩ := hw
          obtain ⟨hP1, hK1, hD1⟩ := hB
          rw [ht] at hP1
          have hK1 := va_K.moved hvm.symm hK1
          obtain ⟨hP, hD⟩ := va_join (wr := []) (w1 := []) hP hD [] [] rfl rfl (by decide) (by decide) hk1 hFc hP1 hD1
          generalize H1 = H at hP hS ⊢
          have hP : va_P D vwCl [] H := hP
          have hD : va_D A [] := hD
          refine lv_bipush (v := 8) hx hb dX3_isStep_83 (by decide) ?_
          refine lv_icmp_ge (tgt := 92) hx hb dX3_isStep_85 (by decide) (fun c13 => ?_) (fun c13 => ?_)
          · skip
            have c13 := k_le c13
            have hl8 : (8 : Int32).toInt = 8 := by decide
            refine lv_iconst (v := 0) hx hb dX3_isStep_92 (by decide) ?_
            have hP := hP.sub (ws' := []) [] rfl
            have hD := hD.sub (ws' := []) [] (by decide) rfl
            have hK := hK.sub (tys' := []) [] rfl
            refine W.widen (k := 0) (n := 0) (by decide) (by decide) ?_
            exact W.zret (v := 0) hx hb hr (by decide) (fun t ht hW => ⟨⟨0, ([], []), rfl, Or.inr (⟨rfl, rfl, (by unfold kv; split <;> omega)⟩), ⟨by rw [ht]; exact hP, va_K.moved hW.alike hK, hD⟩⟩, hS.F ht⟩) hS.2.2 dX3_isStep_93
          · skip
            have c13 := k_nle c13
            have hl8 : (8 : Int32).toInt = 8 := by decide
            refine lv_iconst (v := 1) hx hb dX3_isStep_88 (by decide) ?_
            refine lv_goto (tgt := 93) hx hb dX3_isStep_89 (by decide) ?_
            have hP := hP.sub (ws' := []) [] rfl
            have hD := hD.sub (ws' := []) [] (by decide) rfl
            have hK := hK.sub (tys' := []) [] rfl
            refine W.widen (k := 0) (n := 0) (by decide) (by decide) ?_
            exact W.zret (v := 1) hx hb hr (by decide) (fun t ht hW => ⟨⟨1, ([], []), rfl, Or.inl ⟨rfl, rfl, (by unfold kv; split <;> omega)⟩, ⟨by rw [ht]; exact hP, va_K.moved hW.alike hK, hD⟩⟩, hS.F ht⟩) hS.2.2 dX3_isStep_93
        · skip
          refine lv_tableIn (off := 75) (tgt := 94) hx hb dX3_isStep_19 (by omega) (by omega) (by rw [hs5]; rfl) (by decide) ?_
          refine lv_iload_n hx hb dX3_isStep_94 rfl (lv_at hl 0 rfl) ?_
          have hPc := hP.sub (ws' := []) [] rfl
          have hDc := hD.sub (ws' := []) [] (by decide) rfl
          have hKc := hK.sub (tys' := []) [] rfl
          have hFc := va_free (wc := []) hD hS hA [] rfl
          refine va_calli (va_runS (As := [.int x]) (rest := []) ⟨hx, hb, hml, hown, hts⟩ (c_X3_aOf (l := l) (D := D) (x := x) ) (va_cwS 1 hts gX3_isStep_X3_aOf rfl rfl rfl (by decide +kernel) ⟨Nat.le_of_ble_eq_true rfl, Nat.le_of_ble_eq_true rfl⟩) ⟨k_blind, fun U hU hW => ⟨rfl, k_pre hU hW hPc hKc hDc⟩⟩ rfl rfl hl.1 rfl (lv_room (Nat.le_of_ble_eq_true rfl)) dX3_isStep_95 ⟨by decide, by decide⟩) hS (fun q _ h => hFc q h) hFc (fun r14 u t H1 locs ht hvm hw hB hz1 hk1 hS => ?_)
          refine W.widen (k := 0) (n := 0) (Nat.le_refl _) (Nat.le_refl _) ?_
          obtain ⟨rfl, rfl⟩ := hw
          obtain ⟨hP1, hK1, hD1⟩ := hB
          rw [ht] at hP1
          have hK1 := va_K.moved hvm.symm hK1
          obtain ⟨hP, hD⟩ := va_join (wr := []) (w1 := []) hP hD [] [] rfl rfl (by decide) (by decide) hk1 hFc hP1 hD1
          generalize H1 = H at hP hS ⊢
          have hP : va_P D vwCl [] H := hP
          have hD : va_D A [] := hD
          refine lv_bipush (v := 8) hx hb dX3_isStep_98 (by decide) ?_
          refine lv_icmp_ge (tgt := 107) hx hb dX3_isStep_100 (by decide) (fun c15 => ?_) (fun c15 => ?_)
          · skip
            have c15 := k_le c15
            have hl8 : (8 : Int32).toInt = 8 := by decide
            refine lv_iconst (v := 0) hx hb dX3_isStep_107 (by decide) ?_
            have hP := hP.sub (ws' := []) [] rfl
            have hD := hD.sub (ws' := []) [] (by decide) rfl
            have hK := hK.sub (tys' := []) [] rfl
            refine W.widen (k := 0) (n := 0) (by decide) (by decide) ?_
            exact W.zret (v := 0) hx hb hr (by decide) (fun t ht hW => ⟨⟨0, ([], []), rfl, Or.inr (⟨rfl, rfl, (by unfold kv; split <;> omega)⟩), ⟨by rw [ht]; exact hP, va_K.moved hW.alike hK, hD⟩⟩, hS.F ht⟩) hS.2.2 dX3_isStep_108
          · skip
            have c15 := k_nle c15
            have hl8 : (8 : Int32).toInt = 8 := by decide
            refine lv_iconst (v := 1) hx hb dX3_isStep_103 (by decide) ?_
            refine lv_goto (tgt := 108) hx hb dX3_isStep_104 (by decide) ?_
            have hP := hP.sub (ws' := []) [] rfl
            have hD := hD.sub (ws' := []) [] (by decide) rfl
            have hK := hK.sub (tys' := []) [] rfl
            refine W.widen (k := 0) (n := 0) (by decide) (by decide) ?_
            exact W.zret (v := 1) hx hb hr (by decide) (fun t ht hW => ⟨⟨1, ([], []), rfl, Or.inl ⟨rfl, rfl, (by unfold kv; split <;> omega)⟩, ⟨by rw [ht]; exact hP, va_K.moved hW.alike hK, hD⟩⟩, hS.F ht⟩) hS.2.2 dX3_isStep_108
    · skip
      have c3 := k_nle c3
      have hl8 : (8 : Int32).toInt = 8 := by decide
      refine lv_iconst (v := 0) hx hb dX3_isStep_13 (by decide) ?_
      have hP := hP.sub (ws' := []) [] rfl
      have hD := hD.sub (ws' := []) [] (by decide) rfl
      have hK := hK.sub (tys' := []) [] rfl
      refine W.widen (k := 0) (n := 0) (by decide) (by decide) ?_
      exact W.zret (v := 0) hx hb hr (by decide) (fun t ht hW => ⟨⟨0, ([], []), rfl, Or.inr (⟨rfl, rfl, (by unfold kv; split <;> omega)⟩), ⟨by rw [ht]; exact hP, va_K.moved hW.alike hK, hD⟩⟩, hS.F ht⟩) hS.2.2 dX3_isStep_14
set_option maxRecDepth 100000 in
theorem kw_X1_init__methodLink_RX1_3_objectInit : (.methodLink RX1 3 objectInit : Cond) ∈ wsX1_init := by decide +kernel
set_option maxRecDepth 100000 in
theorem kw_X1_init__instanceMethod_objectInit : (.instanceMethod objectInit : Cond) ∈ wsX1_init := by decide +kernel
set_option maxRecDepth 100000 in
theorem kw_X1_init__code_objectInit_0xb1_1_none : (.code objectInit ⟨#[0xb1]⟩ 1 none : Cond) ∈ wsX1_init := by decide +kernel
set_option maxRecDepth 100000 in
theorem kw_X1_init__arrayClass_int : (.arrayClass .int : Cond) ∈ wsX1_init := by decide +kernel
set_option maxRecDepth 100000 in
theorem kw_X1_init__fieldLink_RX1_11_ActHouse_LogBook_entries_I_ : (.fieldLink RX1 11 "ActHouse$LogBook" "entries" "[I" : Cond) ∈ wsX1_init := by decide +kernel
set_option maxRecDepth 100000 in
theorem kin_X1_init_X1 : ∀ w ∈ u_ws RX1 TX1 3, w ∈ wsX1_init := by decide +kernel
set_option maxHeartbeats 4000000 in
set_option maxRecDepth 100000 in
theorem c_X1_init {l : Launch} {D : va_G} {sz : Nat} {h : Nat} {cI : ClassId}  : Met l yX1_init wsX1_init ({ frames := 1, cells := 1, slots := 256, locals := 12 }) (va_Pc [.ref h] (k_Pre D [(cI, .int)] [(h, .inr (1, [.null, .int 0, .int 0]))] sz)) (va_Qv (fun (u : va_W × List (ClassId × FieldType)) => (∃ (en : Nat), u = ([(h, .inr (1, [.ref en, .int 0, .int 0])), (en, .inl (cI, 256, .inl (fun _ => 0)))], [(cI, .int)]))) (k_B D (va_A [(h, .inr (1, [.null, .int 0, .int 0]))] sz)) (va_A [(h, .inr (1, [.null, .int 0, .int 0]))] sz)) 1 256 (va_A [(h, .inr (1, [.null, .int 0, .int 0]))] sz) := by
  refine Met.ofW (cc := cX1_init) (maxL := 1) (ret := none) (by decide) rfl ?_
  intro p e s m args below meth c s₁ B hml hv
  obtain ⟨rfl, hsz, hP, hK, hD0⟩ := hv
  have hx := B.exec
  have hb := B.bytes
  have hr := B.returns
  have hts := atoms_spec (ws := wsX1_init) B.pre
  have hown : s.vm.findClass RX1 = some m.cls := findClass_of_methodNamed B.named
  have hlocks := B.notSynchronized
  have hin : meth.name = "<init>" := (name_of_methodNamed B.named B.method).1
  subst hsz
  have hD := hD0.self (sz := s.heap.size)
  generalize hAe : va_A [(h, .inr (1, [.null, .int 0, .int 0]))] s.heap.size = A at hD ⊢
  have hA : ∀ q : Nat, s.heap.size ≤ q → A q := fun q h => by rw [← hAe]; exact Or.inr h
  have hS : va_S A s.heap s.heap [] := va_S.rf
  have hl := lv_entry ([.ref h]) (n := 1) (Nat.le_of_ble_eq_true rfl)
  rw [lg_entry_eq]
  generalize (lg_sl ([.ref h]) ++ List.replicate (1 - (lg_sl ([.ref h])).length) Slot.unset).toArray = ls at hl ⊢
  have hl : lv_has ls 1 [(0, .ref h)] := hl
  refine lv_aload_n hx hb dX1_init_0 rfl (lv_at hl 0 rfl) ?_
  refine W.objInit hx hb hown (hts _ kw_X1_init__methodLink_RX1_3_objectInit) (hts _ kw_X1_init__instanceMethod_objectInit) (hts _ kw_X1_init__code_objectInit_0xb1_1_none) rfl (by rw [hml]; exact hl.1) rfl dX1_init_1 (Nat.le_of_ble_eq_true rfl) (Nat.le_of_ble_eq_true rfl) ?_
  refine W.eq (g2 := F0 m 4 ls []) rfl ?_
  refine lv_aload_n hx hb dX1_init_4 rfl (lv_at hl 0 rfl) ?_
  refine lv_sipush (v := 256) hx hb dX1_init_5 (by decide) ?_
  refine k_newa (ty := .int) (N' := 256) (a0 := (256, .inl (fun _ => 0))) (atype := .int) hx hb (hts _ kw_X1_init__arrayClass_int) rfl hK 0 rfl (fun _ _ => rfl) hP hD hS hA (fun _ => rfl) (by decide) (by decide) (by decide) (by decide) (by decide) dX1_init_8 (fun q8 H hP hD hS => ?_)
  refine W.widen (k := 1) (n := 256) (by decide) (by decide) ?_
  have hP : va_P D vwCl [(h, .inr (1, [.null, .int 0, .int 0])), (q8, .inl (cI, 256, .inl (fun _ => 0)))] H := hP
  have hD : va_D A [(h, .inr (1, [.null, .int 0, .int 0])), (q8, .inl (cI, 256, .inl (fun _ => 0)))] := hD
  refine va_put (D := D) (ci := 1) (v := .ref q8) (ty := .array .int) (C := RX1) (T := TX1) (N := 3) hx hb hts kin_X1_init_X1 tyX1 tyX1_ok nmX1 hown hK hP hD hS 0 rfl rfl 0 (by decide) (hts _ kw_X1_init__fieldLink_RX1_11_ActHouse_LogBook_entries_I_) (fun _ h9 => h9) rfl (by decide +kernel) rfl rfl (Nat.le_of_ble_eq_true rfl) dX1_init_10 (fun H locs hP hD hS => ?_)
  have hP : va_P D vwCl [(h, .inr (1, [.ref q8, .int 0, .int 0])), (q8, .inl (cI, 256, .inl (fun _ => 0)))] H := hP
  have hD : va_D A [(h, .inr (1, [.ref q8, .int 0, .int 0])), (q8, .inl (cI, 256, .inl (fun _ => 0)))] := hD
  have hP := hP.sub (ws' := [(h, .inr (1, [.ref q8, .int 0, .int 0])), (q8, .inl (cI, 256, .inl (fun _ => 0)))]) [0, 1] rfl
  have hD := hD.sub (ws' := [(h, .inr (1, [.ref q8, .int 0, .int 0])), (q8, .inl (cI, 256, .inl (fun _ => 0)))]) [0, 1] (by decide) rfl
  have hK := hK.sub (tys' := [(cI, .int)]) [0] rfl
  refine W.widen (k := 1) (n := 256) (by decide) (by decide) ?_
  exact W.vret hx hb hr (fun t ht hW => ⟨⟨([(h, .inr (1, [.ref q8, .int 0, .int 0])), (q8, .inl (cI, 256, .inl (fun _ => 0)))], [(cI, .int)]), rfl, ⟨q8, rfl⟩, ⟨by rw [ht]; exact hP, va_K.moved hW.alike hK, hD⟩⟩, hS.F ht⟩) hS.2.2 dX1_init_13
set_option maxRecDepth 100000 in
theorem kw_X2_init__methodLink_RX2_3_objectInit : (.methodLink RX2 3 objectInit : Cond) ∈ wsX2_init := by decide +kernel
set_option maxRecDepth 100000 in
theorem kw_X2_init__instanceMethod_objectInit : (.instanceMethod objectInit : Cond) ∈ wsX2_init := by decide +kernel
set_option maxRecDepth 100000 in
theorem kw_X2_init__code_objectInit_0xb1_1_none : (.code objectInit ⟨#[0xb1]⟩ 1 none : Cond) ∈ wsX2_init := by decide +kernel
set_option maxRecDepth 100000 in
theorem kw_X2_init__arrayClass_long : (.arrayClass .long : Cond) ∈ wsX2_init := by decide +kernel
set_option maxRecDepth 100000 in
theorem kw_X2_init__fieldLink_RX2_9_ActHouse_Waits_direct_J_ : (.fieldLink RX2 9 "ActHouse$Waits" "direct" "[J" : Cond) ∈ wsX2_init := by decide +kernel
set_option maxRecDepth 100000 in
theorem kin_X2_init_X2 : ∀ w ∈ u_ws RX2 TX2 3, w ∈ wsX2_init := by decide +kernel
set_option maxRecDepth 100000 in
theorem kw_X2_init__fieldLink_RX2_15_ActHouse_Waits_reach_J_ : (.fieldLink RX2 15 "ActHouse$Waits" "reach" "[J" : Cond) ∈ wsX2_init := by decide +kernel
set_option maxHeartbeats 4000000 in
set_option maxRecDepth 100000 in
theorem c_X2_init {l : Launch} {D : va_G} {sz : Nat} {h : Nat}  : Met l yX2_init wsX2_init ({ frames := 1, cells := 2, slots := 72, locals := 12 }) (va_Pc [.ref h] (k_Pre D [] [(h, .inr (2, [.null, .null, .int 0]))] sz)) (va_Qv (fun (u : va_W × List (ClassId × FieldType)) => (∃ (dr : Nat) (rc : Nat) (cJ : ClassId), u = ([(h, .inr (2, [.ref dr, .ref rc, .int 0])), (dr, .inl (cJ, 36, .inr (.inl (fun _ => 0)))), (rc, .inl (cJ, 36, .inr (.inl (fun _ => 0))))], [(cJ, .long)]))) (k_B D (va_A [(h, .inr (2, [.null, .null, .int 0]))] sz)) (va_A [(h, .inr (2, [.null, .null, .int 0]))] sz)) 2 72 (va_A [(h, .inr (2, [.null, .null, .int 0]))] sz) := by
  refine Met.ofW (cc := cX2_init) (maxL := 1) (ret := none) (by decide) rfl ?_
  intro p e s m args below meth c s₁ B hml hv
  obtain ⟨rfl, hsz, hP, hK, hD0⟩ := hv
  have hx := B.exec
  have hb := B.bytes
  have hr := B.returns
  have hts := atoms_spec (ws := wsX2_init) B.pre
  have hown : s.vm.findClass RX2 = some m.cls := findClass_of_methodNamed B.named
  have hlocks := B.notSynchronized
  have hin : meth.name = "<init>" := (name_of_methodNamed B.named B.method).1
  subst hsz
  have hD := hD0.self (sz := s.heap.size)
  generalize hAe : va_A [(h, .inr (2, [.null, .null, .int 0]))] s.heap.size = A at hD ⊢
  have hA : ∀ q : Nat, s.heap.size ≤ q → A q := fun q h => by rw [← hAe]; exact Or.inr h
  have hS : va_S A s.heap s.heap [] := va_S.rf
  have hl := lv_entry ([.ref h]) (n := 1) (Nat.le_of_ble_eq_true rfl)
  rw [lg_entry_eq]
  generalize (lg_sl ([.ref h]) ++ List.replicate (1 - (lg_sl ([.ref h])).length) Slot.unset).toArray = ls at hl ⊢
  have hl : lv_has ls 1 [(0, .ref h)] := hl
  refine lv_aload_n hx hb dX2_init_0 rfl (lv_at hl 0 rfl) ?_
  refine W.objInit hx hb hown (hts _ kw_X2_init__methodLink_RX2_3_objectInit) (hts _ kw_X2_init__instanceMethod_objectInit) (hts _ kw_X2_init__code_objectInit_0xb1_1_none) rfl (by rw [hml]; exact hl.1) rfl dX2_init_1 (Nat.le_of_ble_eq_true rfl) (Nat.le_of_ble_eq_true rfl) ?_
  refine W.eq (g2 := F0 m 4 ls []) rfl ?_
  refine lv_aload_n hx hb dX2_init_4 rfl (lv_at hl 0 rfl) ?_
  refine lv_bipush (v := 36) hx hb dX2_init_5 (by decide) ?_
  refine va_newa (ty := .long) (N' := 36) (a0 := (36, .inr (.inl (fun _ => 0)))) (atype := .long) hx hb (hts _ kw_X2_init__arrayClass_long) rfl hK hP hD hS hA (fun _ => rfl) (by decide) (by decide) (by decide) (by decide) (by decide) dX2_init_7 (fun q7 cy7 H hK hP hD hS => ?_)
  have hK : va_K D vwCl [(cy7, .long)] s := hK
  refine W.widen (k := 1) (n := 36) (by decide) (by decide) ?_
  have hP : va_P D vwCl [(h, .inr (2, [.null, .null, .int 0])), (q7, .inl (cy7, 36, .inr (.inl (fun _ => 0))))] H := hP
  have hD : va_D A [(h, .inr (2, [.null, .null, .int 0])), (q7, .inl (cy7, 36, .inr (.inl (fun _ => 0))))] := hD
  refine va_putF (D := D) (ci := 2) (v := .ref q7) (ty := .array .long) (C := RX2) (T := TX2) (N := 3) hx hb hts kin_X2_init_X2 tyX2 tyX2_ok nmX2 hown hK hP hD hS 0 rfl rfl 0 (by decide) (hts _ kw_X2_init__fieldLink_RX2_9_ActHouse_Waits_direct_J_) (fun _ h9 => h9) rfl hin rfl (by decide +kernel) rfl rfl (Nat.le_of_ble_eq_true rfl) dX2_init_9 (fun H locs hP hD hS => ?_)
  have hP : va_P D vwCl [(h, .inr (2, [.ref q7, .null, .int 0])), (q7, .inl (cy7, 36, .inr (.inl (fun _ => 0))))] H := hP
  have hD : va_D A [(h, .inr (2, [.ref q7, .null, .int 0])), (q7, .inl (cy7, 36, .inr (.inl (fun _ => 0))))] := hD
  refine lv_aload_n hx hb dX2_init_12 rfl (lv_at hl 0 rfl) ?_
  refine lv_bipush (v := 36) hx hb dX2_init_13 (by decide) ?_
  refine k_newa (ty := .long) (N' := 36) (a0 := (36, .inr (.inl (fun _ => 0)))) (atype := .long) hx hb (hts _ kw_X2_init__arrayClass_long) rfl hK 0 rfl (fun _ _ => rfl) hP hD hS hA (fun _ => rfl) (by decide) (by decide) (by decide) (by decide) (by decide) dX2_init_15 (fun q15 H hP hD hS => ?_)
  refine W.widen (k := 2) (n := 72) (by decide) (by decide) ?_
  have hP : va_P D vwCl [(h, .inr (2, [.ref q7, .null, .int 0])), (q7, .inl (cy7, 36, .inr (.inl (fun _ => 0)))), (q15, .inl (cy7, 36, .inr (.inl (fun _ => 0))))] H := hP
  have hD : va_D A [(h, .inr (2, [.ref q7, .null, .int 0])), (q7, .inl (cy7, 36, .inr (.inl (fun _ => 0)))), (q15, .inl (cy7, 36, .inr (.inl (fun _ => 0))))] := hD
  refine va_putF (D := D) (ci := 2) (v := .ref q15) (ty := .array .long) (C := RX2) (T := TX2) (N := 3) hx hb hts kin_X2_init_X2 tyX2 tyX2_ok nmX2 hown hK hP hD hS 0 rfl rfl 1 (by decide) (hts _ kw_X2_init__fieldLink_RX2_15_ActHouse_Waits_reach_J_) (fun _ h9 => h9) rfl hin rfl (by decide +kernel) rfl rfl (Nat.le_of_ble_eq_true rfl) dX2_init_17 (fun H locs hP hD hS => ?_)
  have hP : va_P D vwCl [(h, .inr (2, [.ref q7, .ref q15, .int 0])), (q7, .inl (cy7, 36, .inr (.inl (fun _ => 0)))), (q15, .inl (cy7, 36, .inr (.inl (fun _ => 0))))] H := hP
  have hD : va_D A [(h, .inr (2, [.ref q7, .ref q15, .int 0])), (q7, .inl (cy7, 36, .inr (.inl (fun _ => 0)))), (q15, .inl (cy7, 36, .inr (.inl (fun _ => 0))))] := hD
  have hP := hP.sub (ws' := [(h, .inr (2, [.ref q7, .ref q15, .int 0])), (q7, .inl (cy7, 36, .inr (.inl (fun _ => 0)))), (q15, .inl (cy7, 36, .inr (.inl (fun _ => 0))))]) [0, 1, 2] rfl
  have hD := hD.sub (ws' := [(h, .inr (2, [.ref q7, .ref q15, .int 0])), (q7, .inl (cy7, 36, .inr (.inl (fun _ => 0)))), (q15, .inl (cy7, 36, .inr (.inl (fun _ => 0))))]) [0, 1, 2] (by decide) rfl
  have hK := hK.sub (tys' := [(cy7, .long)]) [0] rfl
  refine W.widen (k := 2) (n := 72) (by decide) (by decide) ?_
  exact W.vret hx hb hr (fun t ht hW => ⟨⟨([(h, .inr (2, [.ref q7, .ref q15, .int 0])), (q7, .inl (cy7, 36, .inr (.inl (fun _ => 0)))), (q15, .inl (cy7, 36, .inr (.inl (fun _ => 0))))], [(cy7, .long)]), rfl, ⟨q7, q15, cy7, rfl⟩, ⟨by rw [ht]; exact hP, va_K.moved hW.alike hK, hD⟩⟩, hS.F ht⟩) hS.2.2 dX2_init_20
set_option maxRecDepth 100000 in
theorem kw_X3_init__methodLink_RX3_3_objectInit : (.methodLink RX3 3 objectInit : Cond) ∈ wsX3_init := by decide +kernel
set_option maxRecDepth 100000 in
theorem kw_X3_init__instanceMethod_objectInit : (.instanceMethod objectInit : Cond) ∈ wsX3_init := by decide +kernel
set_option maxRecDepth 100000 in
theorem kw_X3_init__code_objectInit_0xb1_1_none : (.code objectInit ⟨#[0xb1]⟩ 1 none : Cond) ∈ wsX3_init := by decide +kernel
set_option maxRecDepth 100000 in
theorem kw_X3_init__arrayClass_int : (.arrayClass .int : Cond) ∈ wsX3_init := by decide +kernel
set_option maxRecDepth 100000 in
theorem kw_X3_init__fieldLink_RX3_9_ActHouse_programSteps_I_ : (.fieldLink RX3 9 "ActHouse" "programSteps" "[I" : Cond) ∈ wsX3_init := by decide +kernel
set_option maxRecDepth 100000 in
theorem kin_X3_init_X3 : ∀ w ∈ u_ws RX3 TX3 18, w ∈ wsX3_init := by decide +kernel
set_option maxRecDepth 100000 in
theorem kw_X3_init__fieldLink_RX3_13_ActHouse_programLengths_I_ : (.fieldLink RX3 13 "ActHouse" "programLengths" "[I" : Cond) ∈ wsX3_init := by decide +kernel
set_option maxRecDepth 100000 in
theorem kw_X3_init__fieldLink_RX3_16_ActHouse_limits_I_ : (.fieldLink RX3 16 "ActHouse" "limits" "[I" : Cond) ∈ wsX3_init := by decide +kernel
set_option maxRecDepth 100000 in
theorem kw_X3_init__fieldLink_RX3_19_ActHouse_floors_I_ : (.fieldLink RX3 19 "ActHouse" "floors" "[I" : Cond) ∈ wsX3_init := by decide +kernel
set_option maxRecDepth 100000 in
theorem kw_X3_init__fieldLink_RX3_22_ActHouse_values_I_ : (.fieldLink RX3 22 "ActHouse" "values" "[I" : Cond) ∈ wsX3_init := by decide +kernel
set_option maxRecDepth 100000 in
theorem kw_X3_init__classLink_RX3_25_RX0 : (.classLink RX3 25 RX0 : Cond) ∈ wsX3_init := by decide +kernel
set_option maxRecDepth 100000 in
theorem kw_X3_init__fieldLink_RX3_27_ActHouse_acts_LActHouse_Act_ : (.fieldLink RX3 27 "ActHouse" "acts" "[LActHouse$Act;" : Cond) ∈ wsX3_init := by decide +kernel
set_option maxRecDepth 100000 in
theorem kw_X3_init__fieldLink_RX3_31_ActHouse_order_I_ : (.fieldLink RX3 31 "ActHouse" "order" "[I" : Cond) ∈ wsX3_init := by decide +kernel
set_option maxRecDepth 100000 in
theorem kw_X3_init__fieldLink_RX3_34_ActHouse_doneRow_I_ : (.fieldLink RX3 34 "ActHouse" "doneRow" "[I" : Cond) ∈ wsX3_init := by decide +kernel
set_option maxRecDepth 100000 in
theorem kw_X3_init__fieldLink_RX3_37_ActHouse_running_I_ : (.fieldLink RX3 37 "ActHouse" "running" "[I" : Cond) ∈ wsX3_init := by decide +kernel
set_option maxRecDepth 100000 in
theorem kw_X3_init__fieldLink_RX3_40_ActHouse_begunOfClass_I_ : (.fieldLink RX3 40 "ActHouse" "begunOfClass" "[I" : Cond) ∈ wsX3_init := by decide +kernel
set_option maxRecDepth 100000 in
theorem kin_X3_init_X1 : ∀ w ∈ u_ws RX1 TX1 3, w ∈ wsX3_init := by decide +kernel
set_option maxRecDepth 100000 in
theorem kw_X3_init__classLink_RX3_43_RX1 : (.classLink RX3 43 RX1 : Cond) ∈ wsX3_init := by decide +kernel
set_option maxRecDepth 100000 in
theorem kw_X3_init__instantiable_RX1_3 : (.instantiable RX1 3 : Cond) ∈ wsX3_init := by decide +kernel
set_option maxRecDepth 100000 in
theorem kw_X3_init__initialized_RX1 : (.initialized RX1 : Cond) ∈ wsX3_init := by decide +kernel
set_option maxRecDepth 100000 in
theorem kw_X3_init__instanceMethod_yX1_init : (.instanceMethod yX1_init : Cond) ∈ wsX3_init := by decide +kernel
set_option maxRecDepth 100000 in
theorem kw_X3_init__fieldLink_RX3_46_ActHouse_book_LActHouse_LogBook_ : (.fieldLink RX3 46 "ActHouse" "book" "LActHouse$LogBook;" : Cond) ∈ wsX3_init := by decide +kernel
set_option maxRecDepth 100000 in
theorem kin_X3_init_X2 : ∀ w ∈ u_ws RX2 TX2 3, w ∈ wsX3_init := by decide +kernel
set_option maxRecDepth 100000 in
theorem kw_X3_init__classLink_RX3_50_RX2 : (.classLink RX3 50 RX2 : Cond) ∈ wsX3_init := by decide +kernel
set_option maxRecDepth 100000 in
theorem kw_X3_init__instantiable_RX2_3 : (.instantiable RX2 3 : Cond) ∈ wsX3_init := by decide +kernel
set_option maxRecDepth 100000 in
theorem kw_X3_init__initialized_RX2 : (.initialized RX2 : Cond) ∈ wsX3_init := by decide +kernel
set_option maxRecDepth 100000 in
theorem kw_X3_init__instanceMethod_yX2_init : (.instanceMethod yX2_init : Cond) ∈ wsX3_init := by decide +kernel
set_option maxRecDepth 100000 in
theorem kw_X3_init__fieldLink_RX3_53_ActHouse_waits_LActHouse_Waits_ : (.fieldLink RX3 53 "ActHouse" "waits" "LActHouse$Waits;" : Cond) ∈ wsX3_init := by decide +kernel
set_option maxHeartbeats 4000000 in
set_option maxRecDepth 100000 in
theorem c_X3_init {l : Launch} {D : va_G} {sz : Nat} {h : Nat}  : Met l yX3_init wsX3_init ({ frames := 2, cells := 15, slots := 762, locals := 32 }) (va_Pc [.ref h] (k_PreO D [] [(h, .inr (3, [.null, .null, .null, .null, .null, .null, .null, .null, .null, .null, .null, .null, .int 0, .int 0, .int 0, .int 0, .int 0, .int 0]))] sz)) (va_Qv (fun (u : va_W × List (ClassId × FieldType)) => (∃ (xprogramSteps : Nat) (xprogramLengths : Nat) (xlimits : Nat) (xfloors : Nat) (xvalues : Nat) (xacts : Nat) (xorder : Nat) (xdoneRow : Nat) (xrunning : Nat) (xbegunOfClass : Nat) (xbook : Nat) (xwaits : Nat) (en : Nat) (dr : Nat) (rc : Nat) (fl : Nat → Int32) (cI : ClassId) (cO : ClassId) (cJ : ClassId), u = ([(h, .inr (3, [.ref xprogramSteps, .ref xprogramLengths, .ref xlimits, .ref xfloors, .ref xvalues, .ref xacts, .ref xorder, .ref xdoneRow, .ref xrunning, .ref xbegunOfClass, .ref xbook, .ref xwaits, .int 0, .int 0, .int 0, .int 0, .int 0, .int 0])), (xprogramSteps, .inl (cI, 96, .inl (fun _ => 0))), (xprogramLengths, .inl (cI, 8, .inl (fun _ => 0))), (xlimits, .inl (cI, 4, .inl fl)), (xfloors, .inl (cI, 8, .inl (fun _ => 0))), (xvalues, .inl (cI, 32, .inl (fun _ => 0))), (xacts, .inl (cO, 80, .inr (.inr (.inr (.inr (fun _ => none)))))), (xorder, .inl (cI, 80, .inl (fun _ => 0))), (xdoneRow, .inl (cI, 80, .inl (fun _ => 0))), (xrunning, .inl (cI, 36, .inl (fun _ => 0))), (xbegunOfClass, .inl (cI, 4, .inl (fun _ => 0))), (xbook, .inr (1, [.ref en, .int 0, .int 0])), (en, .inl (cI, 256, .inl (fun _ => 0))), (xwaits, .inr (2, [.ref dr, .ref rc, .int 0])), (dr, .inl (cJ, 36, .inr (.inl (fun _ => 0)))), (rc, .inl (cJ, 36, .inr (.inl (fun _ => 0))))], [(cI, .int), (cO, .object RX0), (cJ, .long)]))) (k_B D (va_A [(h, .inr (3, [.null, .null, .null, .null, .null, .null, .null, .null, .null, .null, .null, .null, .int 0, .int 0, .int 0, .int 0, .int 0, .int 0]))] sz)) (va_A [(h, .inr (3, [.null, .null, .null, .null, .null, .null, .null, .null, .null, .null, .null, .null, .int 0, .int 0, .int 0, .int 0, .int 0, .int 0]))] sz)) 15 762 (va_A [(h, .inr (3, [.null, .null, .null, .null, .null, .null, .null, .null, .null, .null, .null, .null, .int 0, .int 0, .int 0, .int 0, .int 0, .int 0]))] sz) := by
  refine Met.ofW (cc := cX3_init) (maxL := 1) (ret := none) (by decide) rfl ?_
  intro p e s m args below meth c s₁ B hml hv
  obtain ⟨rfl, ⟨hsz, hP, hK, hD0⟩, hAO, hN45, hN52⟩ := hv
  have hx := B.exec
  have hb := B.bytes
  have hr := B.returns
  have hts := atoms_spec (ws := wsX3_init) B.pre
  have hown : s.vm.findClass RX3 = some m.cls := findClass_of_methodNamed B.named
  have hlocks := B.notSynchronized
  have hin : meth.name = "<init>" := (name_of_methodNamed B.named B.method).1
  subst hsz
  have hD := hD0.self (sz := s.heap.size)
  generalize hAe : va_A [(h, .inr (3, [.null, .null, .null, .null, .null, .null, .null, .null, .null, .null, .null, .null, .int 0, .int 0, .int 0, .int 0, .int 0, .int 0]))] s.heap.size = A at hD ⊢
  have hA : ∀ q : Nat, s.heap.size ≤ q → A q := fun q h => by rw [← hAe]; exact Or.inr h
  have hS : va_S A s.heap s.heap [] := va_S.rf
  have hl := lv_entry ([.ref h]) (n := 1) (Nat.le_of_ble_eq_true rfl)
  rw [lg_entry_eq]
  generalize (lg_sl ([.ref h]) ++ List.replicate (1 - (lg_sl ([.ref h])).length) Slot.unset).toArray = ls at hl ⊢
  have hl : lv_has ls 1 [(0, .ref h)] := hl
  refine lv_aload_n hx hb dX3_init_0 rfl (lv_at hl 0 rfl) ?_
  refine W.objInit hx hb hown (hts _ kw_X3_init__methodLink_RX3_3_objectInit) (hts _ kw_X3_init__instanceMethod_objectInit) (hts _ kw_X3_init__code_objectInit_0xb1_1_none) rfl (by rw [hml]; exact hl.1) rfl dX3_init_1 (Nat.le_of_ble_eq_true rfl) (Nat.le_of_ble_eq_true rfl) ?_
  refine W.eq (g2 := F0 m 4 ls []) rfl ?_
  refine lv_aload_n hx hb dX3_init_4 rfl (lv_at hl 0 rfl) ?_
  refine lv_bipush (v := 96) hx hb dX3_init_5 (by decide) ?_
  refine va_newa (ty := .int) (N' := 96) (a0 := (96, .inl (fun _ => 0))) (atype := .int) hx hb (hts _ kw_X3_init__arrayClass_int) rfl hK hP hD hS hA (fun _ => rfl) (by decide) (by decide) (by decide) (by decide) (by decide) dX3_init_7 (fun q7 cy7 H hK hP hD hS => ?_)
  have hK : va_K D vwCl [(cy7, .int)] s := hK
  refine W.widen (k := 1) (n := 96) (by decide) (by decide) ?_
  have hP : va_P D vwCl [(h, .inr (3, [.null, .null, .null, .null, .null, .null, .null, .null, .null, .null, .null, .null, .int 0, .int 0, .int 0, .int 0, .int 0, .int 0])), (q7, .inl (cy7, 96, .inl (fun _ => 0)))] H := hP
  have hD : va_D A [(h, .inr (3, [.null, .null, .null, .null, .null, .null, .null, .null, .null, .null, .null, .null, .int 0, .int 0, .int 0, .int 0, .int 0, .int 0])), (q7, .inl (cy7, 96, .inl (fun _ => 0)))] := hD
  refine va_putF (D := D) (ci := 3) (v := .ref q7) (ty := .array .int) (C := RX3) (T := TX3) (N := 18) hx hb hts kin_X3_init_X3 tyX3 tyX3_ok nmX3 hown hK hP hD hS 0 rfl rfl 0 (by decide) (hts _ kw_X3_init__fieldLink_RX3_9_ActHouse_programSteps_I_) (fun _ h9 => h9) rfl hin rfl (by decide +kernel) rfl rfl (Nat.le_of_ble_eq_true rfl) dX3_init_9 (fun H locs hP hD hS => ?_)
  have hP : va_P D vwCl [(h, .inr (3, [.ref q7, .null, .null, .null, .null, .null, .null, .null, .null, .null, .null, .null, .int 0, .int 0, .int 0, .int 0, .int 0, .int 0])), (q7, .inl (cy7, 96, .inl (fun _ => 0)))] H := hP
  have hD : va_D A [(h, .inr (3, [.ref q7, .null, .null, .null, .null, .null, .null, .null, .null, .null, .null, .null, .int 0, .int 0, .int 0, .int 0, .int 0, .int 0])), (q7, .inl (cy7, 96, .inl (fun _ => 0)))] := hD
  refine lv_aload_n hx hb dX3_init_12 rfl (lv_at hl 0 rfl) ?_
  refine lv_bipush (v := 8) hx hb dX3_init_13 (by decide) ?_
  refine k_newa (ty := .int) (N' := 8) (a0 := (8, .inl (fun _ => 0))) (atype := .int) hx hb (hts _ kw_X3_init__arrayClass_int) rfl hK 0 rfl (fun _ _ => rfl) hP hD hS hA (fun _ => rfl) (by decide) (by decide) (by decide) (by decide) (by decide) dX3_init_15 (fun q15 H hP hD hS => ?_)
  refine W.widen (k := 2) (n := 104) (by decide) (by decide) ?_
  have hP : va_P D vwCl [(h, .inr (3, [.ref q7, .null, .null, .null, .null, .null, .null, .null, .null, .null, .null, .null, .int 0, .int 0, .int 0, .int 0, .int 0, .int 0])), (q7, .inl (cy7, 96, .inl (fun _ => 0))), (q15, .inl (cy7, 8, .inl (fun _ => 0)))] H := hP
  have hD : va_D A [(h, .inr (3, [.ref q7, .null, .null, .null, .null, .null, .null, .null, .null, .null, .null, .null, .int 0, .int 0, .int 0, .int 0, .int 0, .int 0])), (q7, .inl (cy7, 96, .inl (fun _ => 0))), (q15, .inl (cy7, 8, .inl (fun _ => 0)))] := hD
  refine va_putF (D := D) (ci := 3) (v := .ref q15) (ty := .array .int) (C := RX3) (T := TX3) (N := 18) hx hb hts kin_X3_init_X3 tyX3 tyX3_ok nmX3 hown hK hP hD hS 0 rfl rfl 1 (by decide) (hts _ kw_X3_init__fieldLink_RX3_13_ActHouse_programLengths_I_) (fun _ h9 => h9) rfl hin rfl (by decide +kernel) rfl rfl (Nat.le_of_ble_eq_true rfl) dX3_init_17 (fun H locs hP hD hS => ?_)
  have hP : va_P D vwCl [(h, .inr (3, [.ref q7, .ref q15, .null, .null, .null, .null, .null, .null, .null, .null, .null, .null, .int 0, .int 0, .int 0, .int 0, .int 0, .int 0])), (q7, .inl (cy7, 96, .inl (fun _ => 0))), (q15, .inl (cy7, 8, .inl (fun _ => 0)))] H := hP
  have hD : va_D A [(h, .inr (3, [.ref q7, .ref q15, .null, .null, .null, .null, .null, .null, .null, .null, .null, .null, .int 0, .int 0, .int 0, .int 0, .int 0, .int 0])), (q7, .inl (cy7, 96, .inl (fun _ => 0))), (q15, .inl (cy7, 8, .inl (fun _ => 0)))] := hD
  refine lv_aload_n hx hb dX3_init_20 rfl (lv_at hl 0 rfl) ?_
  refine lv_iconst (v := 4) hx hb dX3_init_21 (by decide) ?_
  refine k_newa (ty := .int) (N' := 4) (a0 := (4, .inl (fun _ => 0))) (atype := .int) hx hb (hts _ kw_X3_init__arrayClass_int) rfl hK 0 rfl (fun _ _ => rfl) hP hD hS hA (fun _ => rfl) (by decide) (by decide) (by decide) (by decide) (by decide) dX3_init_22 (fun q22 H hP hD hS => ?_)
  refine W.widen (k := 3) (n := 108) (by decide) (by decide) ?_
  have hP : va_P D vwCl [(h, .inr (3, [.ref q7, .ref q15, .null, .null, .null, .null, .null, .null, .null, .null, .null, .null, .int 0, .int 0, .int 0, .int 0, .int 0, .int 0])), (q7, .inl (cy7, 96, .inl (fun _ => 0))), (q15, .inl (cy7, 8, .inl (fun _ => 0))), (q22, .inl (cy7, 4, .inl (fun _ => 0)))] H := hP
  have hD : va_D A [(h, .inr (3, [.ref q7, .ref q15, .null, .null, .null, .null, .null, .null, .null, .null, .null, .null, .int 0, .int 0, .int 0, .int 0, .int 0, .int 0])), (q7, .inl (cy7, 96, .inl (fun _ => 0))), (q15, .inl (cy7, 8, .inl (fun _ => 0))), (q22, .inl (cy7, 4, .inl (fun _ => 0)))] := hD
  refine va_putF (D := D) (ci := 3) (v := .ref q22) (ty := .array .int) (C := RX3) (T := TX3) (N := 18) hx hb hts kin_X3_init_X3 tyX3 tyX3_ok nmX3 hown hK hP hD hS 0 rfl rfl 2 (by decide) (hts _ kw_X3_init__fieldLink_RX3_16_ActHouse_limits_I_) (fun _ h9 => h9) rfl hin rfl (by decide +kernel) rfl rfl (Nat.le_of_ble_eq_true rfl) dX3_init_24 (fun H locs hP hD hS => ?_)
  have hP : va_P D vwCl [(h, .inr (3, [.ref q7, .ref q15, .ref q22, .null, .null, .null, .null, .null, .null, .null, .null, .null, .int 0, .int 0, .int 0, .int 0, .int 0, .int 0])), (q7, .inl (cy7, 96, .inl (fun _ => 0))), (q15, .inl (cy7, 8, .inl (fun _ => 0))), (q22, .inl (cy7, 4, .inl (fun _ => 0)))] H := hP
  have hD : va_D A [(h, .inr (3, [.ref q7, .ref q15, .ref q22, .null, .null, .null, .null, .null, .null, .null, .null, .null, .int 0, .int 0, .int 0, .int 0, .int 0, .int 0])), (q7, .inl (cy7, 96, .inl (fun _ => 0))), (q15, .inl (cy7, 8, .inl (fun _ => 0))), (q22, .inl (cy7, 4, .inl (fun _ => 0)))] := hD
  refine lv_aload_n hx hb dX3_init_27 rfl (lv_at hl 0 rfl) ?_
  refine lv_bipush (v := 8) hx hb dX3_init_28 (by decide) ?_
  refine k_newa (ty := .int) (N' := 8) (a0 := (8, .inl (fun _ => 0))) (atype := .int) hx hb (hts _ kw_X3_init__arrayClass_int) rfl hK 0 rfl (fun _ _ => rfl) hP hD hS hA (fun _ => rfl) (by decide) (by decide) (by decide) (by decide) (by decide) dX3_init_30 (fun q30 H hP hD hS => ?_)
  refine W.widen (k := 4) (n := 116) (by decide) (by decide) ?_
  have hP : va_P D vwCl [(h, .inr (3, [.ref q7, .ref q15, .ref q22, .null, .null, .null, .null, .null, .null, .null, .null, .null, .int 0, .int 0, .int 0, .int 0, .int 0, .int 0])), (q7, .inl (cy7, 96, .inl (fun _ => 0))), (q15, .inl (cy7, 8, .inl (fun _ => 0))), (q22, .inl (cy7, 4, .inl (fun _ => 0))), (q30, .inl (cy7, 8, .inl (fun _ => 0)))] H := hP
  have hD : va_D A [(h, .inr (3, [.ref q7, .ref q15, .ref q22, .null, .null, .null, .null, .null, .null, .null, .null, .null, .int 0, .int 0, .int 0, .int 0, .int 0, .int 0])), (q7, .inl (cy7, 96, .inl (fun _ => 0))), (q15, .inl (cy7, 8, .inl (fun _ => 0))), (q22, .inl (cy7, 4, .inl (fun _ => 0))), (q30, .inl (cy7, 8, .inl (fun _ => 0)))] := hD
  refine va_putF (D := D) (ci := 3) (v := .ref q30) (ty := .array .int) (C := RX3) (T := TX3) (N := 18) hx hb hts kin_X3_init_X3 tyX3 tyX3_ok nmX3 hown hK hP hD hS 0 rfl rfl 3 (by decide) (hts _ kw_X3_init__fieldLink_RX3_19_ActHouse_floors_I_) (fun _ h9 => h9) rfl hin rfl (by decide +kernel) rfl rfl (Nat.le_of_ble_eq_true rfl) dX3_init_32 (fun H locs hP hD hS => ?_)
  have hP : va_P D vwCl [(h, .inr (3, [.ref q7, .ref q15, .ref q22, .ref q30, .null, .null, .null, .null, .null, .null, .null, .null, .int 0, .int 0, .int 0, .int 0, .int 0, .int 0])), (q7, .inl (cy7, 96, .inl (fun _ => 0))), (q15, .inl (cy7, 8, .inl (fun _ => 0))), (q22, .inl (cy7, 4, .inl (fun _ => 0))), (q30, .inl (cy7, 8, .inl (fun _ => 0)))] H := hP
  have hD : va_D A [(h, .inr (3, [.ref q7, .ref q15, .ref q22, .ref q30, .null, .null, .null, .null, .null, .null, .null, .null, .int 0, .int 0, .int 0, .int 0, .int 0, .int 0])), (q7, .inl (cy7, 96, .inl (fun _ => 0))), (q15, .inl (cy7, 8, .inl (fun _ => 0))), (q22, .inl (cy7, 4, .inl (fun _ => 0))), (q30, .inl (cy7, 8, .inl (fun _ => 0)))] := hD
  refine lv_aload_n hx hb dX3_init_35 rfl (lv_at hl 0 rfl) ?_
  refine lv_bipush (v := 32) hx hb dX3_init_36 (by decide) ?_
  refine k_newa (ty := .int) (N' := 32) (a0 := (32, .inl (fun _ => 0))) (atype := .int) hx hb (hts _ kw_X3_init__arrayClass_int) rfl hK 0 rfl (fun _ _ => rfl) hP hD hS hA (fun _ => rfl) (by decide) (by decide) (by decide) (by decide) (by decide) dX3_init_38 (fun q38 H hP hD hS => ?_)
  refine W.widen (k := 5) (n := 148) (by decide) (by decide) ?_
  have hP : va_P D vwCl [(h, .inr (3, [.ref q7, .ref q15, .ref q22, .ref q30, .null, .null, .null, .null, .null, .null, .null, .null, .int 0, .int 0, .int 0, .int 0, .int 0, .int 0])), (q7, .inl (cy7, 96, .inl (fun _ => 0))), (q15, .inl (cy7, 8, .inl (fun _ => 0))), (q22, .inl (cy7, 4, .inl (fun _ => 0))), (q30, .inl (cy7, 8, .inl (fun _ => 0))), (q38, .inl (cy7, 32, .inl (fun _ => 0)))] H := hP
  have hD : va_D A [(h, .inr (3, [.ref q7, .ref q15, .ref q22, .ref q30, .null, .null, .null, .null, .null, .null, .null, .null, .int 0, .int 0, .int 0, .int 0, .int 0, .int 0])), (q7, .inl (cy7, 96, .inl (fun _ => 0))), (q15, .inl (cy7, 8, .inl (fun _ => 0))), (q22, .inl (cy7, 4, .inl (fun _ => 0))), (q30, .inl (cy7, 8, .inl (fun _ => 0))), (q38, .inl (cy7, 32, .inl (fun _ => 0)))] := hD
  refine va_putF (D := D) (ci := 3) (v := .ref q38) (ty := .array .int) (C := RX3) (T := TX3) (N := 18) hx hb hts kin_X3_init_X3 tyX3 tyX3_ok nmX3 hown hK hP hD hS 0 rfl rfl 4 (by decide) (hts _ kw_X3_init__fieldLink_RX3_22_ActHouse_values_I_) (fun _ h9 => h9) rfl hin rfl (by decide +kernel) rfl rfl (Nat.le_of_ble_eq_true rfl) dX3_init_40 (fun H locs hP hD hS => ?_)
  have hP : va_P D vwCl [(h, .inr (3, [.ref q7, .ref q15, .ref q22, .ref q30, .ref q38, .null, .null, .null, .null, .null, .null, .null, .int 0, .int 0, .int 0, .int 0, .int 0, .int 0])), (q7, .inl (cy7, 96, .inl (fun _ => 0))), (q15, .inl (cy7, 8, .inl (fun _ => 0))), (q22, .inl (cy7, 4, .inl (fun _ => 0))), (q30, .inl (cy7, 8, .inl (fun _ => 0))), (q38, .inl (cy7, 32, .inl (fun _ => 0)))] H := hP
  have hD : va_D A [(h, .inr (3, [.ref q7, .ref q15, .ref q22, .ref q30, .ref q38, .null, .null, .null, .null, .null, .null, .null, .int 0, .int 0, .int 0, .int 0, .int 0, .int 0])), (q7, .inl (cy7, 96, .inl (fun _ => 0))), (q15, .inl (cy7, 8, .inl (fun _ => 0))), (q22, .inl (cy7, 4, .inl (fun _ => 0))), (q30, .inl (cy7, 8, .inl (fun _ => 0))), (q38, .inl (cy7, 32, .inl (fun _ => 0)))] := hD
  refine lv_aload_n hx hb dX3_init_43 rfl (lv_at hl 0 rfl) ?_
  refine lv_bipush (v := 80) hx hb dX3_init_44 (by decide) ?_
  refine va_newq (N' := 80) hx hb hown (hts _ kw_X3_init__classLink_RX3_25_RX0) hAO hK hP hD hS hA (by decide) (by decide) (by decide) (by decide) (by decide) dX3_init_46 (fun q46 cy46 H hK hP hD hS => ?_)
  have hK : va_K D vwCl [(cy7, .int), (cy46, .object RX0)] s := hK
  refine W.widen (k := 6) (n := 228) (by decide) (by decide) ?_
  have hP : va_P D vwCl [(h, .inr (3, [.ref q7, .ref q15, .ref q22, .ref q30, .ref q38, .null, .null, .null, .null, .null, .null, .null, .int 0, .int 0, .int 0, .int 0, .int 0, .int 0])), (q7, .inl (cy7, 96, .inl (fun _ => 0))), (q15, .inl (cy7, 8, .inl (fun _ => 0))), (q22, .inl (cy7, 4, .inl (fun _ => 0))), (q30, .inl (cy7, 8, .inl (fun _ => 0))), (q38, .inl (cy7, 32, .inl (fun _ => 0))), (q46, .inl (cy46, 80, .inr (.inr (.inr (.inr (fun _ => none))))))] H := hP
  have hD : va_D A [(h, .inr (3, [.ref q7, .ref q15, .ref q22, .ref q30, .ref q38, .null, .null, .null, .null, .null, .null, .null, .int 0, .int 0, .int 0, .int 0, .int 0, .int 0])), (q7, .inl (cy7, 96, .inl (fun _ => 0))), (q15, .inl (cy7, 8, .inl (fun _ => 0))), (q22, .inl (cy7, 4, .inl (fun _ => 0))), (q30, .inl (cy7, 8, .inl (fun _ => 0))), (q38, .inl (cy7, 32, .inl (fun _ => 0))), (q46, .inl (cy46, 80, .inr (.inr (.inr (.inr (fun _ => none))))))] := hD
  refine va_putF (D := D) (ci := 3) (v := .ref q46) (ty := .array (.object "ActHouse$Act")) (C := RX3) (T := TX3) (N := 18) hx hb hts kin_X3_init_X3 tyX3 tyX3_ok nmX3 hown hK hP hD hS 0 rfl rfl 5 (by decide) (hts _ kw_X3_init__fieldLink_RX3_27_ActHouse_acts_LActHouse_Act_) (fun _ h9 => h9) rfl hin rfl (by decide +kernel) rfl rfl (Nat.le_of_ble_eq_true rfl) dX3_init_49 (fun H locs hP hD hS => ?_)
  have hP : va_P D vwCl [(h, .inr (3, [.ref q7, .ref q15, .ref q22, .ref q30, .ref q38, .ref q46, .null, .null, .null, .null, .null, .null, .int 0, .int 0, .int 0, .int 0, .int 0, .int 0])), (q7, .inl (cy7, 96, .inl (fun _ => 0))), (q15, .inl (cy7, 8, .inl (fun _ => 0))), (q22, .inl (cy7, 4, .inl (fun _ => 0))), (q30, .inl (cy7, 8, .inl (fun _ => 0))), (q38, .inl (cy7, 32, .inl (fun _ => 0))), (q46, .inl (cy46, 80, .inr (.inr (.inr (.inr (fun _ => none))))))] H := hP
  have hD : va_D A [(h, .inr (3, [.ref q7, .ref q15, .ref q22, .ref q30, .ref q38, .ref q46, .null, .null, .null, .null, .null, .null, .int 0, .int 0, .int 0, .int 0, .int 0, .int 0])), (q7, .inl (cy7, 96, .inl (fun _ => 0))), (q15, .inl (cy7, 8, .inl (fun _ => 0))), (q22, .inl (cy7, 4, .inl (fun _ => 0))), (q30, .inl (cy7, 8, .inl (fun _ => 0))), (q38, .inl (cy7, 32, .inl (fun _ => 0))), (q46, .inl (cy46, 80, .inr (.inr (.inr (.inr (fun _ => none))))))] := hD
  refine lv_aload_n hx hb dX3_init_52 rfl (lv_at hl 0 rfl) ?_
  refine lv_bipush (v := 80) hx hb dX3_init_53 (by decide) ?_
  refine k_newa (ty := .int) (N' := 80) (a0 := (80, .inl (fun _ => 0))) (atype := .int) hx hb (hts _ kw_X3_init__arrayClass_int) rfl hK 0 rfl (fun _ _ => rfl) hP hD hS hA (fun _ => rfl) (by decide) (by decide) (by decide) (by decide) (by decide) dX3_init_55 (fun q55 H hP hD hS => ?_)
  refine W.widen (k := 7) (n := 308) (by decide) (by decide) ?_
  have hP : va_P D vwCl [(h, .inr (3, [.ref q7, .ref q15, .ref q22, .ref q30, .ref q38, .ref q46, .null, .null, .null, .null, .null, .null, .int 0, .int 0, .int 0, .int 0, .int 0, .int 0])), (q7, .inl (cy7, 96, .inl (fun _ => 0))), (q15, .inl (cy7, 8, .inl (fun _ => 0))), (q22, .inl (cy7, 4, .inl (fun _ => 0))), (q30, .inl (cy7, 8, .inl (fun _ => 0))), (q38, .inl (cy7, 32, .inl (fun _ => 0))), (q46, .inl (cy46, 80, .inr (.inr (.inr (.inr (fun _ => none)))))), (q55, .inl (cy7, 80, .inl (fun _ => 0)))] H := hP
  have hD : va_D A [(h, .inr (3, [.ref q7, .ref q15, .ref q22, .ref q30, .ref q38, .ref q46, .null, .null, .null, .null, .null, .null, .int 0, .int 0, .int 0, .int 0, .int 0, .int 0])), (q7, .inl (cy7, 96, .inl (fun _ => 0))), (q15, .inl (cy7, 8, .inl (fun _ => 0))), (q22, .inl (cy7, 4, .inl (fun _ => 0))), (q30, .inl (cy7, 8, .inl (fun _ => 0))), (q38, .inl (cy7, 32, .inl (fun _ => 0))), (q46, .inl (cy46, 80, .inr (.inr (.inr (.inr (fun _ => none)))))), (q55, .inl (cy7, 80, .inl (fun _ => 0)))] := hD
  refine va_putF (D := D) (ci := 3) (v := .ref q55) (ty := .array .int) (C := RX3) (T := TX3) (N := 18) hx hb hts kin_X3_init_X3 tyX3 tyX3_ok nmX3 hown hK hP hD hS 0 rfl rfl 6 (by decide) (hts _ kw_X3_init__fieldLink_RX3_31_ActHouse_order_I_) (fun _ h9 => h9) rfl hin rfl (by decide +kernel) rfl rfl (Nat.le_of_ble_eq_true rfl) dX3_init_57 (fun H locs hP hD hS => ?_)
  have hP : va_P D vwCl [(h, .inr (3, [.ref q7, .ref q15, .ref q22, .ref q30, .ref q38, .ref q46, .ref q55, .null, .null, .null, .null, .null, .int 0, .int 0, .int 0, .int 0, .int 0, .int 0])), (q7, .inl (cy7, 96, .inl (fun _ => 0))), (q15, .inl (cy7, 8, .inl (fun _ => 0))), (q22, .inl (cy7, 4, .inl (fun _ => 0))), (q30, .inl (cy7, 8, .inl (fun _ => 0))), (q38, .inl (cy7, 32, .inl (fun _ => 0))), (q46, .inl (cy46, 80, .inr (.inr (.inr (.inr (fun _ => none)))))), (q55, .inl (cy7, 80, .inl (fun _ => 0)))] H := hP
  have hD : va_D A [(h, .inr (3, [.ref q7, .ref q15, .ref q22, .ref q30, .ref q38, .ref q46, .ref q55, .null, .null, .null, .null, .null, .int 0, .int 0, .int 0, .int 0, .int 0, .int 0])), (q7, .inl (cy7, 96, .inl (fun _ => 0))), (q15, .inl (cy7, 8, .inl (fun _ => 0))), (q22, .inl (cy7, 4, .inl (fun _ => 0))), (q30, .inl (cy7, 8, .inl (fun _ => 0))), (q38, .inl (cy7, 32, .inl (fun _ => 0))), (q46, .inl (cy46, 80, .inr (.inr (.inr (.inr (fun _ => none)))))), (q55, .inl (cy7, 80, .inl (fun _ => 0)))] := hD
  refine lv_aload_n hx hb dX3_init_60 rfl (lv_at hl 0 rfl) ?_
  refine lv_bipush (v := 80) hx hb dX3_init_61 (by decide) ?_
  refine k_newa (ty := .int) (N' := 80) (a0 := (80, .inl (fun _ => 0))) (atype := .int) hx hb (hts _ kw_X3_init__arrayClass_int) rfl hK 0 rfl (fun _ _ => rfl) hP hD hS hA (fun _ => rfl) (by decide) (by decide) (by decide) (by decide) (by decide) dX3_init_63 (fun q63 H hP hD hS => ?_)
  refine W.widen (k := 8) (n := 388) (by decide) (by decide) ?_
  have hP : va_P D vwCl [(h, .inr (3, [.ref q7, .ref q15, .ref q22, .ref q30, .ref q38, .ref q46, .ref q55, .null, .null, .null, .null, .null, .int 0, .int 0, .int 0, .int 0, .int 0, .int 0])), (q7, .inl (cy7, 96, .inl (fun _ => 0))), (q15, .inl (cy7, 8, .inl (fun _ => 0))), (q22, .inl (cy7, 4, .inl (fun _ => 0))), (q30, .inl (cy7, 8, .inl (fun _ => 0))), (q38, .inl (cy7, 32, .inl (fun _ => 0))), (q46, .inl (cy46, 80, .inr (.inr (.inr (.inr (fun _ => none)))))), (q55, .inl (cy7, 80, .inl (fun _ => 0))), (q63, .inl (cy7, 80, .inl (fun _ => 0)))] H := hP
  have hD : va_D A [(h, .inr (3, [.ref q7, .ref q15, .ref q22, .ref q30, .ref q38, .ref q46, .ref q55, .null, .null, .null, .null, .null, .int 0, .int 0, .int 0, .int 0, .int 0, .int 0])), (q7, .inl (cy7, 96, .inl (fun _ => 0))), (q15, .inl (cy7, 8, .inl (fun _ => 0))), (q22, .inl (cy7, 4, .inl (fun _ => 0))), (q30, .inl (cy7, 8, .inl (fun _ => 0))), (q38, .inl (cy7, 32, .inl (fun _ => 0))), (q46, .inl (cy46, 80, .inr (.inr (.inr (.inr (fun _ => none)))))), (q55, .inl (cy7, 80, .inl (fun _ => 0))), (q63, .inl (cy7, 80, .inl (fun _ => 0)))] := hD
  refine va_putF (D := D) (ci := 3) (v := .ref q63) (ty := .array .int) (C := RX3) (T := TX3) (N := 18) hx hb hts kin_X3_init_X3 tyX3 tyX3_ok nmX3 hown hK hP hD hS 0 rfl rfl 7 (by decide) (hts _ kw_X3_init__fieldLink_RX3_34_ActHouse_doneRow_I_) (fun _ h9 => h9) rfl hin rfl (by decide +kernel) rfl rfl (Nat.le_of_ble_eq_true rfl) dX3_init_65 (fun H locs hP hD hS => ?_)
  have hP : va_P D vwCl [(h, .inr (3, [.ref q7, .ref q15, .ref q22, .ref q30, .ref q38, .ref q46, .ref q55, .ref q63, .null, .null, .null, .null, .int 0, .int 0, .int 0, .int 0, .int 0, .int 0])), (q7, .inl (cy7, 96, .inl (fun _ => 0))), (q15, .inl (cy7, 8, .inl (fun _ => 0))), (q22, .inl (cy7, 4, .inl (fun _ => 0))), (q30, .inl (cy7, 8, .inl (fun _ => 0))), (q38, .inl (cy7, 32, .inl (fun _ => 0))), (q46, .inl (cy46, 80, .inr (.inr (.inr (.inr (fun _ => none)))))), (q55, .inl (cy7, 80, .inl (fun _ => 0))), (q63, .inl (cy7, 80, .inl (fun _ => 0)))] H := hP
  have hD : va_D A [(h, .inr (3, [.ref q7, .ref q15, .ref q22, .ref q30, .ref q38, .ref q46, .ref q55, .ref q63, .null, .null, .null, .null, .int 0, .int 0, .int 0, .int 0, .int 0, .int 0])), (q7, .inl (cy7, 96, .inl (fun _ => 0))), (q15, .inl (cy7, 8, .inl (fun _ => 0))), (q22, .inl (cy7, 4, .inl (fun _ => 0))), (q30, .inl (cy7, 8, .inl (fun _ => 0))), (q38, .inl (cy7, 32, .inl (fun _ => 0))), (q46, .inl (cy46, 80, .inr (.inr (.inr (.inr (fun _ => none)))))), (q55, .inl (cy7, 80, .inl (fun _ => 0))), (q63, .inl (cy7, 80, .inl (fun _ => 0)))] := hD
  refine lv_aload_n hx hb dX3_init_68 rfl (lv_at hl 0 rfl) ?_
  refine lv_bipush (v := 36) hx hb dX3_init_69 (by decide) ?_
  refine k_newa (ty := .int) (N' := 36) (a0 := (36, .inl (fun _ => 0))) (atype := .int) hx hb (hts _ kw_X3_init__arrayClass_int) rfl hK 0 rfl (fun _ _ => rfl) hP hD hS hA (fun _ => rfl) (by decide) (by decide) (by decide) (by decide) (by decide) dX3_init_71 (fun q71 H hP hD hS => ?_)
  refine W.widen (k := 9) (n := 424) (by decide) (by decide) ?_
  have hP : va_P D vwCl [(h, .inr (3, [.ref q7, .ref q15, .ref q22, .ref q30, .ref q38, .ref q46, .ref q55, .ref q63, .null, .null, .null, .null, .int 0, .int 0, .int 0, .int 0, .int 0, .int 0])), (q7, .inl (cy7, 96, .inl (fun _ => 0))), (q15, .inl (cy7, 8, .inl (fun _ => 0))), (q22, .inl (cy7, 4, .inl (fun _ => 0))), (q30, .inl (cy7, 8, .inl (fun _ => 0))), (q38, .inl (cy7, 32, .inl (fun _ => 0))), (q46, .inl (cy46, 80, .inr (.inr (.inr (.inr (fun _ => none)))))), (q55, .inl (cy7, 80, .inl (fun _ => 0))), (q63, .inl (cy7, 80, .inl (fun _ => 0))), (q71, .inl (cy7, 36, .inl (fun _ => 0)))] H := hP
  have hD : va_D A [(h, .inr (3, [.ref q7, .ref q15, .ref q22, .ref q30, .ref q38, .ref q46, .ref q55, .ref q63, .null, .null, .null, .null, .int 0, .int 0, .int 0, .int 0, .int 0, .int 0])), (q7, .inl (cy7, 96, .inl (fun _ => 0))), (q15, .inl (cy7, 8, .inl (fun _ => 0))), (q22, .inl (cy7, 4, .inl (fun _ => 0))), (q30, .inl (cy7, 8, .inl (fun _ => 0))), (q38, .inl (cy7, 32, .inl (fun _ => 0))), (q46, .inl (cy46, 80, .inr (.inr (.inr (.inr (fun _ => none)))))), (q55, .inl (cy7, 80, .inl (fun _ => 0))), (q63, .inl (cy7, 80, .inl (fun _ => 0))), (q71, .inl (cy7, 36, .inl (fun _ => 0)))] := hD
  refine va_putF (D := D) (ci := 3) (v := .ref q71) (ty := .array .int) (C := RX3) (T := TX3) (N := 18) hx hb hts kin_X3_init_X3 tyX3 tyX3_ok nmX3 hown hK hP hD hS 0 rfl rfl 8 (by decide) (hts _ kw_X3_init__fieldLink_RX3_37_ActHouse_running_I_) (fun _ h9 => h9) rfl hin rfl (by decide +kernel) rfl rfl (Nat.le_of_ble_eq_true rfl) dX3_init_73 (fun H locs hP hD hS => ?_)
  have hP : va_P D vwCl [(h, .inr (3, [.ref q7, .ref q15, .ref q22, .ref q30, .ref q38, .ref q46, .ref q55, .ref q63, .ref q71, .null, .null, .null, .int 0, .int 0, .int 0, .int 0, .int 0, .int 0])), (q7, .inl (cy7, 96, .inl (fun _ => 0))), (q15, .inl (cy7, 8, .inl (fun _ => 0))), (q22, .inl (cy7, 4, .inl (fun _ => 0))), (q30, .inl (cy7, 8, .inl (fun _ => 0))), (q38, .inl (cy7, 32, .inl (fun _ => 0))), (q46, .inl (cy46, 80, .inr (.inr (.inr (.inr (fun _ => none)))))), (q55, .inl (cy7, 80, .inl (fun _ => 0))), (q63, .inl (cy7, 80, .inl (fun _ => 0))), (q71, .inl (cy7, 36, .inl (fun _ => 0)))] H := hP
  have hD : va_D A [(h, .inr (3, [.ref q7, .ref q15, .ref q22, .ref q30, .ref q38, .ref q46, .ref q55, .ref q63, .ref q71, .null, .null, .null, .int 0, .int 0, .int 0, .int 0, .int 0, .int 0])), (q7, .inl (cy7, 96, .inl (fun _ => 0))), (q15, .inl (cy7, 8, .inl (fun _ => 0))), (q22, .inl (cy7, 4, .inl (fun _ => 0))), (q30, .inl (cy7, 8, .inl (fun _ => 0))), (q38, .inl (cy7, 32, .inl (fun _ => 0))), (q46, .inl (cy46, 80, .inr (.inr (.inr (.inr (fun _ => none)))))), (q55, .inl (cy7, 80, .inl (fun _ => 0))), (q63, .inl (cy7, 80, .inl (fun _ => 0))), (q71, .inl (cy7, 36, .inl (fun _ => 0)))] := hD
  refine lv_aload_n hx hb dX3_init_76 rfl (lv_at hl 0 rfl) ?_
  refine lv_iconst (v := 4) hx hb dX3_init_77 (by decide) ?_
  refine k_newa (ty := .int) (N' := 4) (a0 := (4, .inl (fun _ => 0))) (atype := .int) hx hb (hts _ kw_X3_init__arrayClass_int) rfl hK 0 rfl (fun _ _ => rfl) hP hD hS hA (fun _ => rfl) (by decide) (by decide) (by decide) (by decide) (by decide) dX3_init_78 (fun q78 H hP hD hS => ?_)
  refine W.widen (k := 10) (n := 428) (by decide) (by decide) ?_
  have hP : va_P D vwCl [(h, .inr (3, [.ref q7, .ref q15, .ref q22, .ref q30, .ref q38, .ref q46, .ref q55, .ref q63, .ref q71, .null, .null, .null, .int 0, .int 0, .int 0, .int 0, .int 0, .int 0])), (q7, .inl (cy7, 96, .inl (fun _ => 0))), (q15, .inl (cy7, 8, .inl (fun _ => 0))), (q22, .inl (cy7, 4, .inl (fun _ => 0))), (q30, .inl (cy7, 8, .inl (fun _ => 0))), (q38, .inl (cy7, 32, .inl (fun _ => 0))), (q46, .inl (cy46, 80, .inr (.inr (.inr (.inr (fun _ => none)))))), (q55, .inl (cy7, 80, .inl (fun _ => 0))), (q63, .inl (cy7, 80, .inl (fun _ => 0))), (q71, .inl (cy7, 36, .inl (fun _ => 0))), (q78, .inl (cy7, 4, .inl (fun _ => 0)))] H := hP
  have hD : va_D A [(h, .inr (3, [.ref q7, .ref q15, .ref q22, .ref q30, .ref q38, .ref q46, .ref q55, .ref q63, .ref q71, .null, .null, .null, .int 0, .int 0, .int 0, .int 0, .int 0, .int 0])), (q7, .inl (cy7, 96, .inl (fun _ => 0))), (q15, .inl (cy7, 8, .inl (fun _ => 0))), (q22, .inl (cy7, 4, .inl (fun _ => 0))), (q30, .inl (cy7, 8, .inl (fun _ => 0))), (q38, .inl (cy7, 32, .inl (fun _ => 0))), (q46, .inl (cy46, 80, .inr (.inr (.inr (.inr (fun _ => none)))))), (q55, .inl (cy7, 80, .inl (fun _ => 0))), (q63, .inl (cy7, 80, .inl (fun _ => 0))), (q71, .inl (cy7, 36, .inl (fun _ => 0))), (q78, .inl (cy7, 4, .inl (fun _ => 0)))] := hD
  refine va_putF (D := D) (ci := 3) (v := .ref q78) (ty := .array .int) (C := RX3) (T := TX3) (N := 18) hx hb hts kin_X3_init_X3 tyX3 tyX3_ok nmX3 hown hK hP hD hS 0 rfl rfl 9 (by decide) (hts _ kw_X3_init__fieldLink_RX3_40_ActHouse_begunOfClass_I_) (fun _ h9 => h9) rfl hin rfl (by decide +kernel) rfl rfl (Nat.le_of_ble_eq_true rfl) dX3_init_80 (fun H locs hP hD hS => ?_)
  have hP : va_P D vwCl [(h, .inr (3, [.ref q7, .ref q15, .ref q22, .ref q30, .ref q38, .ref q46, .ref q55, .ref q63, .ref q71, .ref q78, .null, .null, .int 0, .int 0, .int 0, .int 0, .int 0, .int 0])), (q7, .inl (cy7, 96, .inl (fun _ => 0))), (q15, .inl (cy7, 8, .inl (fun _ => 0))), (q22, .inl (cy7, 4, .inl (fun _ => 0))), (q30, .inl (cy7, 8, .inl (fun _ => 0))), (q38, .inl (cy7, 32, .inl (fun _ => 0))), (q46, .inl (cy46, 80, .inr (.inr (.inr (.inr (fun _ => none)))))), (q55, .inl (cy7, 80, .inl (fun _ => 0))), (q63, .inl (cy7, 80, .inl (fun _ => 0))), (q71, .inl (cy7, 36, .inl (fun _ => 0))), (q78, .inl (cy7, 4, .inl (fun _ => 0)))] H := hP
  have hD : va_D A [(h, .inr (3, [.ref q7, .ref q15, .ref q22, .ref q30, .ref q38, .ref q46, .ref q55, .ref q63, .ref q71, .ref q78, .null, .null, .int 0, .int 0, .int 0, .int 0, .int 0, .int 0])), (q7, .inl (cy7, 96, .inl (fun _ => 0))), (q15, .inl (cy7, 8, .inl (fun _ => 0))), (q22, .inl (cy7, 4, .inl (fun _ => 0))), (q30, .inl (cy7, 8, .inl (fun _ => 0))), (q38, .inl (cy7, 32, .inl (fun _ => 0))), (q46, .inl (cy46, 80, .inr (.inr (.inr (.inr (fun _ => none)))))), (q55, .inl (cy7, 80, .inl (fun _ => 0))), (q63, .inl (cy7, 80, .inl (fun _ => 0))), (q71, .inl (cy7, 36, .inl (fun _ => 0))), (q78, .inl (cy7, 4, .inl (fun _ => 0)))] := hD
  refine lv_aload_n hx hb dX3_init_83 rfl (lv_at hl 0 rfl) ?_
  refine va_new (ci := 1) (fs := [.null, .int 0, .int 0]) (C := RX1) (T := TX1) (N := 3) hx hb hts kin_X3_init_X1 tyX1 tyX1_ok hown (hts _ kw_X3_init__classLink_RX3_43_RX1) (hts _ kw_X3_init__instantiable_RX1_3) (hts _ kw_X3_init__initialized_RX1) hK hP hD hS hA rfl (fun j hj => by revert j; decide) (by decide) (by decide) dX3_init_84 (fun q84 H hP hD hS => ?_)
  refine W.widen (k := 11) (n := 431) (by decide) (by decide) ?_
  have hP : va_P D vwCl [(h, .inr (3, [.ref q7, .ref q15, .ref q22, .ref q30, .ref q38, .ref q46, .ref q55, .ref q63, .ref q71, .ref q78, .null, .null, .int 0, .int 0, .int 0, .int 0, .int 0, .int 0])), (q7, .inl (cy7, 96, .inl (fun _ => 0))), (q15, .inl (cy7, 8, .inl (fun _ => 0))), (q22, .inl (cy7, 4, .inl (fun _ => 0))), (q30, .inl (cy7, 8, .inl (fun _ => 0))), (q38, .inl (cy7, 32, .inl (fun _ => 0))), (q46, .inl (cy46, 80, .inr (.inr (.inr (.inr (fun _ => none)))))), (q55, .inl (cy7, 80, .inl (fun _ => 0))), (q63, .inl (cy7, 80, .inl (fun _ => 0))), (q71, .inl (cy7, 36, .inl (fun _ => 0))), (q78, .inl (cy7, 4, .inl (fun _ => 0))), (q84, .inr (1, [.null, .int 0, .int 0]))] H := hP
  have hD : va_D A [(h, .inr (3, [.ref q7, .ref q15, .ref q22, .ref q30, .ref q38, .ref q46, .ref q55, .ref q63, .ref q71, .ref q78, .null, .null, .int 0, .int 0, .int 0, .int 0, .int 0, .int 0])), (q7, .inl (cy7, 96, .inl (fun _ => 0))), (q15, .inl (cy7, 8, .inl (fun _ => 0))), (q22, .inl (cy7, 4, .inl (fun _ => 0))), (q30, .inl (cy7, 8, .inl (fun _ => 0))), (q38, .inl (cy7, 32, .inl (fun _ => 0))), (q46, .inl (cy46, 80, .inr (.inr (.inr (.inr (fun _ => none)))))), (q55, .inl (cy7, 80, .inl (fun _ => 0))), (q63, .inl (cy7, 80, .inl (fun _ => 0))), (q71, .inl (cy7, 36, .inl (fun _ => 0))), (q78, .inl (cy7, 4, .inl (fun _ => 0))), (q84, .inr (1, [.null, .int 0, .int 0]))] := hD
  refine lv_dup hx hb dX3_init_87 rfl ?_
  have hPc := hP.sub (ws' := [(q84, .inr (1, [.null, .int 0, .int 0]))]) [11] rfl
  have hDc := hD.sub (ws' := [(q84, .inr (1, [.null, .int 0, .int 0]))]) [11] (by decide) rfl
  have hKc := hK.sub (tys' := [(cy7, .int)]) [0] rfl
  have hFc := va_free (wc := [(q84, .inr (1, [.null, .int 0, .int 0]))]) hD hS hA [11] rfl
  refine va_callv (va_runIN (As := []) (rest := [.ref q84, .ref h]) ⟨hx, hb, hml, hown, hts⟩ (c_X1_init (l := l) (D := D) (h := q84) (cI := cy7) ) ⟨va_cnB 0 hts gX3_init_X1_init_n45 rfl rfl rfl hN45 (hts _ kw_X3_init__initialized_RX1) (by decide +kernel) ⟨Nat.le_of_ble_eq_true rfl, Nat.le_of_ble_eq_true rfl⟩, rfl, (hts _ kw_X3_init__instanceMethod_yX1_init)⟩ ⟨k_blind, fun U hU hW => ⟨rfl, k_pre hU hW hPc hKc hDc⟩⟩ rfl rfl hl.1 rfl (lv_room (Nat.le_of_ble_eq_true rfl)) dX3_init_88 ⟨by decide, by decide⟩) hS (fun q _ h => hFc q h) hFc (fun u t H1 locs ht hvm hw hB hz1 hk1 hS => ?_)
  refine W.widen (k := 12) (n := 687) (by decide) (by decide) ?_
  obtain ⟨en_1, rfl⟩ := hw
  obtain ⟨hP1, hK1, hD1⟩ := hB
  rw [ht] at hP1
  have hK1 := va_K.moved hvm.symm hK1
  obtain ⟨hP, hD⟩ := va_join (wr := [(h, .inr (3, [.ref q7, .ref q15, .ref q22, .ref q30, .ref q38, .ref q46, .ref q55, .ref q63, .ref q71, .ref q78, .null, .null, .int 0, .int 0, .int 0, .int 0, .int 0, .int 0])), (q7, .inl (cy7, 96, .inl (fun _ => 0))), (q15, .inl (cy7, 8, .inl (fun _ => 0))), (q22, .inl (cy7, 4, .inl (fun _ => 0))), (q30, .inl (cy7, 8, .inl (fun _ => 0))), (q38, .inl (cy7, 32, .inl (fun _ => 0))), (q46, .inl (cy46, 80, .inr (.inr (.inr (.inr (fun _ => none)))))), (q55, .inl (cy7, 80, .inl (fun _ => 0))), (q63, .inl (cy7, 80, .inl (fun _ => 0))), (q71, .inl (cy7, 36, .inl (fun _ => 0))), (q78, .inl (cy7, 4, .inl (fun _ => 0)))]) (w1 := [(q84, .inr (1, [.ref en_1, .int 0, .int 0])), (en_1, .inl (cy7, 256, .inl (fun _ => 0)))]) hP hD [11] [0, 1, 2, 3, 4, 5, 6, 7, 8, 9, 10] rfl rfl (by decide) (by decide) hk1 hFc hP1 hD1
  generalize H1 = H at hP hS ⊢
  have hP : va_P D vwCl [(h, .inr (3, [.ref q7, .ref q15, .ref q22, .ref q30, .ref q38, .ref q46, .ref q55, .ref q63, .ref q71, .ref q78, .null, .null, .int 0, .int 0, .int 0, .int 0, .int 0, .int 0])), (q7, .inl (cy7, 96, .inl (fun _ => 0))), (q15, .inl (cy7, 8, .inl (fun _ => 0))), (q22, .inl (cy7, 4, .inl (fun _ => 0))), (q30, .inl (cy7, 8, .inl (fun _ => 0))), (q38, .inl (cy7, 32, .inl (fun _ => 0))), (q46, .inl (cy46, 80, .inr (.inr (.inr (.inr (fun _ => none)))))), (q55, .inl (cy7, 80, .inl (fun _ => 0))), (q63, .inl (cy7, 80, .inl (fun _ => 0))), (q71, .inl (cy7, 36, .inl (fun _ => 0))), (q78, .inl (cy7, 4, .inl (fun _ => 0))), (q84, .inr (1, [.ref en_1, .int 0, .int 0])), (en_1, .inl (cy7, 256, .inl (fun _ => 0)))] H := hP
  have hD : va_D A [(h, .inr (3, [.ref q7, .ref q15, .ref q22, .ref q30, .ref q38, .ref q46, .ref q55, .ref q63, .ref q71, .ref q78, .null, .null, .int 0, .int 0, .int 0, .int 0, .int 0, .int 0])), (q7, .inl (cy7, 96, .inl (fun _ => 0))), (q15, .inl (cy7, 8, .inl (fun _ => 0))), (q22, .inl (cy7, 4, .inl (fun _ => 0))), (q30, .inl (cy7, 8, .inl (fun _ => 0))), (q38, .inl (cy7, 32, .inl (fun _ => 0))), (q46, .inl (cy46, 80, .inr (.inr (.inr (.inr (fun _ => none)))))), (q55, .inl (cy7, 80, .inl (fun _ => 0))), (q63, .inl (cy7, 80, .inl (fun _ => 0))), (q71, .inl (cy7, 36, .inl (fun _ => 0))), (q78, .inl (cy7, 4, .inl (fun _ => 0))), (q84, .inr (1, [.ref en_1, .int 0, .int 0])), (en_1, .inl (cy7, 256, .inl (fun _ => 0)))] := hD
  refine va_putF (D := D) (ci := 3) (v := .ref q84) (ty := .object "ActHouse$LogBook") (C := RX3) (T := TX3) (N := 18) hx hb hts kin_X3_init_X3 tyX3 tyX3_ok nmX3 hown hK hP hD hS 0 rfl rfl 10 (by decide) (hts _ kw_X3_init__fieldLink_RX3_46_ActHouse_book_LActHouse_LogBook_) (fun _ h9 => h9) rfl hin rfl (by decide +kernel) rfl rfl (Nat.le_of_ble_eq_true rfl) dX3_init_91 (fun H locs hP hD hS => ?_)
  have hP : va_P D vwCl [(h, .inr (3, [.ref q7, .ref q15, .ref q22, .ref q30, .ref q38, .ref q46, .ref q55, .ref q63, .ref q71, .ref q78, .ref q84, .null, .int 0, .int 0, .int 0, .int 0, .int 0, .int 0])), (q7, .inl (cy7, 96, .inl (fun _ => 0))), (q15, .inl (cy7, 8, .inl (fun _ => 0))), (q22, .inl (cy7, 4, .inl (fun _ => 0))), (q30, .inl (cy7, 8, .inl (fun _ => 0))), (q38, .inl (cy7, 32, .inl (fun _ => 0))), (q46, .inl (cy46, 80, .inr (.inr (.inr (.inr (fun _ => none)))))), (q55, .inl (cy7, 80, .inl (fun _ => 0))), (q63, .inl (cy7, 80, .inl (fun _ => 0))), (q71, .inl (cy7, 36, .inl (fun _ => 0))), (q78, .inl (cy7, 4, .inl (fun _ => 0))), (q84, .inr (1, [.ref en_1, .int 0, .int 0])), (en_1, .inl (cy7, 256, .inl (fun _ => 0)))] H := hP
  have hD : va_D A [(h, .inr (3, [.ref q7, .ref q15, .ref q22, .ref q30, .ref q38, .ref q46, .ref q55, .ref q63, .ref q71, .ref q78, .ref q84, .null, .int 0, .int 0, .int 0, .int 0, .int 0, .int 0])), (q7, .inl (cy7, 96, .inl (fun _ => 0))), (q15, .inl (cy7, 8, .inl (fun _ => 0))), (q22, .inl (cy7, 4, .inl (fun _ => 0))), (q30, .inl (cy7, 8, .inl (fun _ => 0))), (q38, .inl (cy7, 32, .inl (fun _ => 0))), (q46, .inl (cy46, 80, .inr (.inr (.inr (.inr (fun _ => none)))))), (q55, .inl (cy7, 80, .inl (fun _ => 0))), (q63, .inl (cy7, 80, .inl (fun _ => 0))), (q71, .inl (cy7, 36, .inl (fun _ => 0))), (q78, .inl (cy7, 4, .inl (fun _ => 0))), (q84, .inr (1, [.ref en_1, .int 0, .int 0])), (en_1, .inl (cy7, 256, .inl (fun _ => 0)))] := hD
  refine lv_aload_n hx hb dX3_init_94 rfl (lv_at hl 0 rfl) ?_
  refine va_new (ci := 2) (fs := [.null, .null, .int 0]) (C := RX2) (T := TX2) (N := 3) hx hb hts kin_X3_init_X2 tyX2 tyX2_ok hown (hts _ kw_X3_init__classLink_RX3_50_RX2) (hts _ kw_X3_init__instantiable_RX2_3) (hts _ kw_X3_init__initialized_RX2) hK hP hD hS hA rfl (fun j hj => by revert j; decide) (by decide) (by decide) dX3_init_95 (fun q95 H hP hD hS => ?_)
  refine W.widen (k := 13) (n := 690) (by decide) (by decide) ?_
  have hP : va_P D vwCl [(h, .inr (3, [.ref q7, .ref q15, .ref q22, .ref q30, .ref q38, .ref q46, .ref q55, .ref q63, .ref q71, .ref q78, .ref q84, .null, .int 0, .int 0, .int 0, .int 0, .int 0, .int 0])), (q7, .inl (cy7, 96, .inl (fun _ => 0))), (q15, .inl (cy7, 8, .inl (fun _ => 0))), (q22, .inl (cy7, 4, .inl (fun _ => 0))), (q30, .inl (cy7, 8, .inl (fun _ => 0))), (q38, .inl (cy7, 32, .inl (fun _ => 0))), (q46, .inl (cy46, 80, .inr (.inr (.inr (.inr (fun _ => none)))))), (q55, .inl (cy7, 80, .inl (fun _ => 0))), (q63, .inl (cy7, 80, .inl (fun _ => 0))), (q71, .inl (cy7, 36, .inl (fun _ => 0))), (q78, .inl (cy7, 4, .inl (fun _ => 0))), (q84, .inr (1, [.ref en_1, .int 0, .int 0])), (en_1, .inl (cy7, 256, .inl (fun _ => 0))), (q95, .inr (2, [.null, .null, .int 0]))] H := hP
  have hD : va_D A [(h, .inr (3, [.ref q7, .ref q15, .ref q22, .ref q30, .ref q38, .ref q46, .ref q55, .ref q63, .ref q71, .ref q78, .ref q84, .null, .int 0, .int 0, .int 0, .int 0, .int 0, .int 0])), (q7, .inl (cy7, 96, .inl (fun _ => 0))), (q15, .inl (cy7, 8, .inl (fun _ => 0))), (q22, .inl (cy7, 4, .inl (fun _ => 0))), (q30, .inl (cy7, 8, .inl (fun _ => 0))), (q38, .inl (cy7, 32, .inl (fun _ => 0))), (q46, .inl (cy46, 80, .inr (.inr (.inr (.inr (fun _ => none)))))), (q55, .inl (cy7, 80, .inl (fun _ => 0))), (q63, .inl (cy7, 80, .inl (fun _ => 0))), (q71, .inl (cy7, 36, .inl (fun _ => 0))), (q78, .inl (cy7, 4, .inl (fun _ => 0))), (q84, .inr (1, [.ref en_1, .int 0, .int 0])), (en_1, .inl (cy7, 256, .inl (fun _ => 0))), (q95, .inr (2, [.null, .null, .int 0]))] := hD
  refine lv_dup hx hb dX3_init_98 rfl ?_
  have hPc := hP.sub (ws' := [(q95, .inr (2, [.null, .null, .int 0]))]) [13] rfl
  have hDc := hD.sub (ws' := [(q95, .inr (2, [.null, .null, .int 0]))]) [13] (by decide) rfl
  have hKc := hK.sub (tys' := []) [] rfl
  have hFc := va_free (wc := [(q95, .inr (2, [.null, .null, .int 0]))]) hD hS hA [13] rfl
  refine va_callv (va_runIN (As := []) (rest := [.ref q95, .ref h]) ⟨hx, hb, hml, hown, hts⟩ (c_X2_init (l := l) (D := D) (h := q95) ) ⟨va_cnB 0 hts gX3_init_X2_init_n52 rfl rfl rfl hN52 (hts _ kw_X3_init__initialized_RX2) (by decide +kernel) ⟨Nat.le_of_ble_eq_true rfl, Nat.le_of_ble_eq_true rfl⟩, rfl, (hts _ kw_X3_init__instanceMethod_yX2_init)⟩ ⟨k_blind, fun U hU hW => ⟨rfl, k_pre hU hW hPc hKc hDc⟩⟩ rfl rfl hl.1 rfl (lv_room (Nat.le_of_ble_eq_true rfl)) dX3_init_99 ⟨by decide, by decide⟩) hS (fun q _ h => hFc q h) hFc (fun u t H1 locs ht hvm hw hB hz1 hk1 hS => ?_)
  refine W.widen (k := 15) (n := 762) (by decide) (by decide) ?_
  obtain ⟨dr_2, rc_2, cJ_2, rfl⟩ := hw
  obtain ⟨hP1, hK1, hD1⟩ := hB
  rw [ht] at hP1
  have hK1 := va_K.moved hvm.symm hK1
  obtain ⟨hP, hD⟩ := va_join (wr := [(h, .inr (3, [.ref q7, .ref q15, .ref q22, .ref q30, .ref q38, .ref q46, .ref q55, .ref q63, .ref q71, .ref q78, .ref q84, .null, .int 0, .int 0, .int 0, .int 0, .int 0, .int 0])), (q7, .inl (cy7, 96, .inl (fun _ => 0))), (q15, .inl (cy7, 8, .inl (fun _ => 0))), (q22, .inl (cy7, 4, .inl (fun _ => 0))), (q30, .inl (cy7, 8, .inl (fun _ => 0))), (q38, .inl (cy7, 32, .inl (fun _ => 0))), (q46, .inl (cy46, 80, .inr (.inr (.inr (.inr (fun _ => none)))))), (q55, .inl (cy7, 80, .inl (fun _ => 0))), (q63, .inl (cy7, 80, .inl (fun _ => 0))), (q71, .inl (cy7, 36, .inl (fun _ => 0))), (q78, .inl (cy7, 4, .inl (fun _ => 0))), (q84, .inr (1, [.ref en_1, .int 0, .int 0])), (en_1, .inl (cy7, 256, .inl (fun _ => 0)))]) (w1 := [(q95, .inr (2, [.ref dr_2, .ref rc_2, .int 0])), (dr_2, .inl (cJ_2, 36, .inr (.inl (fun _ => 0)))), (rc_2, .inl (cJ_2, 36, .inr (.inl (fun _ => 0))))]) hP hD [13] [0, 1, 2, 3, 4, 5, 6, 7, 8, 9, 10, 11, 12] rfl rfl (by decide) (by decide) hk1 hFc hP1 hD1
  generalize H1 = H at hP hS ⊢
  have hP : va_P D vwCl [(h, .inr (3, [.ref q7, .ref q15, .ref q22, .ref q30, .ref q38, .ref q46, .ref q55, .ref q63, .ref q71, .ref q78, .ref q84, .null, .int 0, .int 0, .int 0, .int 0, .int 0, .int 0])), (q7, .inl (cy7, 96, .inl (fun _ => 0))), (q15, .inl (cy7, 8, .inl (fun _ => 0))), (q22, .inl (cy7, 4, .inl (fun _ => 0))), (q30, .inl (cy7, 8, .inl (fun _ => 0))), (q38, .inl (cy7, 32, .inl (fun _ => 0))), (q46, .inl (cy46, 80, .inr (.inr (.inr (.inr (fun _ => none)))))), (q55, .inl (cy7, 80, .inl (fun _ => 0))), (q63, .inl (cy7, 80, .inl (fun _ => 0))), (q71, .inl (cy7, 36, .inl (fun _ => 0))), (q78, .inl (cy7, 4, .inl (fun _ => 0))), (q84, .inr (1, [.ref en_1, .int 0, .int 0])), (en_1, .inl (cy7, 256, .inl (fun _ => 0))), (q95, .inr (2, [.ref dr_2, .ref rc_2, .int 0])), (dr_2, .inl (cJ_2, 36, .inr (.inl (fun _ => 0)))), (rc_2, .inl (cJ_2, 36, .inr (.inl (fun _ => 0))))] H := hP
  have hD : va_D A [(h, .inr (3, [.ref q7, .ref q15, .ref q22, .ref q30, .ref q38, .ref q46, .ref q55, .ref q63, .ref q71, .ref q78, .ref q84, .null, .int 0, .int 0, .int 0, .int 0, .int 0, .int 0])), (q7, .inl (cy7, 96, .inl (fun _ => 0))), (q15, .inl (cy7, 8, .inl (fun _ => 0))), (q22, .inl (cy7, 4, .inl (fun _ => 0))), (q30, .inl (cy7, 8, .inl (fun _ => 0))), (q38, .inl (cy7, 32, .inl (fun _ => 0))), (q46, .inl (cy46, 80, .inr (.inr (.inr (.inr (fun _ => none)))))), (q55, .inl (cy7, 80, .inl (fun _ => 0))), (q63, .inl (cy7, 80, .inl (fun _ => 0))), (q71, .inl (cy7, 36, .inl (fun _ => 0))), (q78, .inl (cy7, 4, .inl (fun _ => 0))), (q84, .inr (1, [.ref en_1, .int 0, .int 0])), (en_1, .inl (cy7, 256, .inl (fun _ => 0))), (q95, .inr (2, [.ref dr_2, .ref rc_2, .int 0])), (dr_2, .inl (cJ_2, 36, .inr (.inl (fun _ => 0)))), (rc_2, .inl (cJ_2, 36, .inr (.inl (fun _ => 0))))] := hD
  have hK : va_K D vwCl [(cy7, .int), (cy46, .object RX0), (cJ_2, .long)] s := hK.app (hK1.sub (tys' := [(cJ_2, .long)]) [0] rfl)
  refine va_putF (D := D) (ci := 3) (v := .ref q95) (ty := .object "ActHouse$Waits") (C := RX3) (T := TX3) (N := 18) hx hb hts kin_X3_init_X3 tyX3 tyX3_ok nmX3 hown hK hP hD hS 0 rfl rfl 11 (by decide) (hts _ kw_X3_init__fieldLink_RX3_53_ActHouse_waits_LActHouse_Waits_) (fun _ h9 => h9) rfl hin rfl (by decide +kernel) rfl rfl (Nat.le_of_ble_eq_true rfl) dX3_init_102 (fun H locs hP hD hS => ?_)
  have hP : va_P D vwCl [(h, .inr (3, [.ref q7, .ref q15, .ref q22, .ref q30, .ref q38, .ref q46, .ref q55, .ref q63, .ref q71, .ref q78, .ref q84, .ref q95, .int 0, .int 0, .int 0, .int 0, .int 0, .int 0])), (q7, .inl (cy7, 96, .inl (fun _ => 0))), (q15, .inl (cy7, 8, .inl (fun _ => 0))), (q22, .inl (cy7, 4, .inl (fun _ => 0))), (q30, .inl (cy7, 8, .inl (fun _ => 0))), (q38, .inl (cy7, 32, .inl (fun _ => 0))), (q46, .inl (cy46, 80, .inr (.inr (.inr (.inr (fun _ => none)))))), (q55, .inl (cy7, 80, .inl (fun _ => 0))), (q63, .inl (cy7, 80, .inl (fun _ => 0))), (q71, .inl (cy7, 36, .inl (fun _ => 0))), (q78, .inl (cy7, 4, .inl (fun _ => 0))), (q84, .inr (1, [.ref en_1, .int 0, .int 0])), (en_1, .inl (cy7, 256, .inl (fun _ => 0))), (q95, .inr (2, [.ref dr_2, .ref rc_2, .int 0])), (dr_2, .inl (cJ_2, 36, .inr (.inl (fun _ => 0)))), (rc_2, .inl (cJ_2, 36, .inr (.inl (fun _ => 0))))] H := hP
  have hD : va_D A [(h, .inr (3, [.ref q7, .ref q15, .ref q22, .ref q30, .ref q38, .ref q46, .ref q55, .ref q63, .ref q71, .ref q78, .ref q84, .ref q95, .int 0, .int 0, .int 0, .int 0, .int 0, .int 0])), (q7, .inl (cy7, 96, .inl (fun _ => 0))), (q15, .inl (cy7, 8, .inl (fun _ => 0))), (q22, .inl (cy7, 4, .inl (fun _ => 0))), (q30, .inl (cy7, 8, .inl (fun _ => 0))), (q38, .inl (cy7, 32, .inl (fun _ => 0))), (q46, .inl (cy46, 80, .inr (.inr (.inr (.inr (fun _ => none)))))), (q55, .inl (cy7, 80, .inl (fun _ => 0))), (q63, .inl (cy7, 80, .inl (fun _ => 0))), (q71, .inl (cy7, 36, .inl (fun _ => 0))), (q78, .inl (cy7, 4, .inl (fun _ => 0))), (q84, .inr (1, [.ref en_1, .int 0, .int 0])), (en_1, .inl (cy7, 256, .inl (fun _ => 0))), (q95, .inr (2, [.ref dr_2, .ref rc_2, .int 0])), (dr_2, .inl (cJ_2, 36, .inr (.inl (fun _ => 0)))), (rc_2, .inl (cJ_2, 36, .inr (.inl (fun _ => 0))))] := hD
  refine lv_aload_n hx hb dX3_init_105 rfl (lv_at hl 0 rfl) ?_
  refine va_get (D := D) (ci := 3) (v := .ref q22) (C := RX3) (T := TX3) (N := 18) hx hb hts kin_X3_init_X3 hown hK hP 0 rfl rfl 2 (by decide) (hts _ kw_X3_init__fieldLink_RX3_16_ActHouse_limits_I_) (fun _ h9 => h9) rfl dX3_init_106 ?_
  refine lv_iconst (v := 3) hx hb dX3_init_109 (by decide) ?_
  have hPc := hP.sub (ws' := [(q22, .inl (cy7, 4, .inl (fun _ => 0)))]) [3] rfl
  have hDc := hD.sub (ws' := [(q22, .inl (cy7, 4, .inl (fun _ => 0)))]) [3] (by decide) rfl
  have hKc := hK.sub (tys' := [(cy7, .int)]) [0] rfl
  have hFc := va_free (wc := [(q22, .inl (cy7, 4, .inl (fun _ => 0)))]) hD hS hA [3] rfl
  refine va_callv (va_runS (As := [.ref q22, .int 3]) (rest := []) ⟨hx, hb, hml, hown, hts⟩ (c_J7_fill_53178 (l := l) (D := D) (a := q22) (v := 3) (n := 4) (f := (fun _ => 0)) (cI := cy7) (by omega)) (va_cwS 2 hts gX3_init_J7_fill_53178 rfl rfl rfl (by decide +kernel) ⟨Nat.le_of_ble_eq_true rfl, Nat.le_of_ble_eq_true rfl⟩) ⟨k_blind, fun U hU hW => ⟨rfl, k_pre hU hW hPc hKc hDc⟩⟩ rfl rfl hl.1 rfl (lv_room (Nat.le_of_ble_eq_true rfl)) dX3_init_110 ⟨by decide, by decide⟩) hS (fun q _ h => hFc q h) hFc (fun u t H1 locs ht hvm hw hB hz1 hk1 hS => ?_)
  refine W.widen (k := 15) (n := 762) (Nat.le_refl _) (Nat.le_refl _) ?_
  have hl3 : (3 : Int32).toInt = 3 := by decide
  obtain ⟨f2_3, rfl⟩ := hw
  obtain ⟨hP1, hK1, hD1⟩ := hB
  rw [ht] at hP1
  have hK1 := va_K.moved hvm.symm hK1
  obtain ⟨hP, hD⟩ := va_join (wr := [(h, .inr (3, [.ref q7, .ref q15, .ref q22, .ref q30, .ref q38, .ref q46, .ref q55, .ref q63, .ref q71, .ref q78, .ref q84, .ref q95, .int 0, .int 0, .int 0, .int 0, .int 0, .int 0])), (q7, .inl (cy7, 96, .inl (fun _ => 0))), (q15, .inl (cy7, 8, .inl (fun _ => 0))), (q30, .inl (cy7, 8, .inl (fun _ => 0))), (q38, .inl (cy7, 32, .inl (fun _ => 0))), (q46, .inl (cy46, 80, .inr (.inr (.inr (.inr (fun _ => none)))))), (q55, .inl (cy7, 80, .inl (fun _ => 0))), (q63, .inl (cy7, 80, .inl (fun _ => 0))), (q71, .inl (cy7, 36, .inl (fun _ => 0))), (q78, .inl (cy7, 4, .inl (fun _ => 0))), (q84, .inr (1, [.ref en_1, .int 0, .int 0])), (en_1, .inl (cy7, 256, .inl (fun _ => 0))), (q95, .inr (2, [.ref dr_2, .ref rc_2, .int 0])), (dr_2, .inl (cJ_2, 36, .inr (.inl (fun _ => 0)))), (rc_2, .inl (cJ_2, 36, .inr (.inl (fun _ => 0))))]) (w1 := [(q22, .inl (cy7, 4, .inl f2_3))]) hP hD [3] [0, 1, 2, 4, 5, 6, 7, 8, 9, 10, 11, 12, 13, 14, 15] rfl rfl (by decide) (by decide) hk1 hFc hP1 hD1
  generalize H1 = H at hP hS ⊢
  have hP : va_P D vwCl [(h, .inr (3, [.ref q7, .ref q15, .ref q22, .ref q30, .ref q38, .ref q46, .ref q55, .ref q63, .ref q71, .ref q78, .ref q84, .ref q95, .int 0, .int 0, .int 0, .int 0, .int 0, .int 0])), (q7, .inl (cy7, 96, .inl (fun _ => 0))), (q15, .inl (cy7, 8, .inl (fun _ => 0))), (q30, .inl (cy7, 8, .inl (fun _ => 0))), (q38, .inl (cy7, 32, .inl (fun _ => 0))), (q46, .inl (cy46, 80, .inr (.inr (.inr (.inr (fun _ => none)))))), (q55, .inl (cy7, 80, .inl (fun _ => 0))), (q63, .inl (cy7, 80, .inl (fun _ => 0))), (q71, .inl (cy7, 36, .inl (fun _ => 0))), (q78, .inl (cy7, 4, .inl (fun _ => 0))), (q84, .inr (1, [.ref en_1, .int 0, .int 0])), (en_1, .inl (cy7, 256, .inl (fun _ => 0))), (q95, .inr (2, [.ref dr_2, .ref rc_2, .int 0])), (dr_2, .inl (cJ_2, 36, .inr (.inl (fun _ => 0)))), (rc_2, .inl (cJ_2, 36, .inr (.inl (fun _ => 0)))), (q22, .inl (cy7, 4, .inl f2_3))] H := hP
  have hD : va_D A [(h, .inr (3, [.ref q7, .ref q15, .ref q22, .ref q30, .ref q38, .ref q46, .ref q55, .ref q63, .ref q71, .ref q78, .ref q84, .ref q95, .int 0, .int 0, .int 0, .int 0, .int 0, .int 0])), (q7, .inl (cy7, 96, .inl (fun _ => 0))), (q15, .inl (cy7, 8, .inl (fun _ => 0))), (q30, .inl (cy7, 8, .inl (fun _ => 0))), (q38, .inl (cy7, 32, .inl (fun _ => 0))), (q46, .inl (cy46, 80, .inr (.inr (.inr (.inr (fun _ => none)))))), (q55, .inl (cy7, 80, .inl (fun _ => 0))), (q63, .inl (cy7, 80, .inl (fun _ => 0))), (q71, .inl (cy7, 36, .inl (fun _ => 0))), (q78, .inl (cy7, 4, .inl (fun _ => 0))), (q84, .inr (1, [.ref en_1, .int 0, .int 0])), (en_1, .inl (cy7, 256, .inl (fun _ => 0))), (q95, .inr (2, [.ref dr_2, .ref rc_2, .int 0])), (dr_2, .inl (cJ_2, 36, .inr (.inl (fun _ => 0)))), (rc_2, .inl (cJ_2, 36, .inr (.inl (fun _ => 0)))), (q22, .inl (cy7, 4, .inl f2_3))] := hD
  have hP := hP.sub (ws' := [(h, .inr (3, [.ref q7, .ref q15, .ref q22, .ref q30, .ref q38, .ref q46, .ref q55, .ref q63, .ref q71, .ref q78, .ref q84, .ref q95, .int 0, .int 0, .int 0, .int 0, .int 0, .int 0])), (q7, .inl (cy7, 96, .inl (fun _ => 0))), (q15, .inl (cy7, 8, .inl (fun _ => 0))), (q22, .inl (cy7, 4, .inl f2_3)), (q30, .inl (cy7, 8, .inl (fun _ => 0))), (q38, .inl (cy7, 32, .inl (fun _ => 0))), (q46, .inl (cy46, 80, .inr (.inr (.inr (.inr (fun _ => none)))))), (q55, .inl (cy7, 80, .inl (fun _ => 0))), (q63, .inl (cy7, 80, .inl (fun _ => 0))), (q71, .inl (cy7, 36, .inl (fun _ => 0))), (q78, .inl (cy7, 4, .inl (fun _ => 0))), (q84, .inr (1, [.ref en_1, .int 0, .int 0])), (en_1, .inl (cy7, 256, .inl (fun _ => 0))), (q95, .inr (2, [.ref dr_2, .ref rc_2, .int 0])), (dr_2, .inl (cJ_2, 36, .inr (.inl (fun _ => 0)))), (rc_2, .inl (cJ_2, 36, .inr (.inl (fun _ => 0))))]) [0, 1, 2, 15, 3, 4, 5, 6, 7, 8, 9, 10, 11, 12, 13, 14] rfl
  have hD := hD.sub (ws' := [(h, .inr (3, [.ref q7, .ref q15, .ref q22, .ref q30, .ref q38, .ref q46, .ref q55, .ref q63, .ref q71, .ref q78, .ref q84, .ref q95, .int 0, .int 0, .int 0, .int 0, .int 0, .int 0])), (q7, .inl (cy7, 96, .inl (fun _ => 0))), (q15, .inl (cy7, 8, .inl (fun _ => 0))), (q22, .inl (cy7, 4, .inl f2_3)), (q30, .inl (cy7, 8, .inl (fun _ => 0))), (q38, .inl (cy7, 32, .inl (fun _ => 0))), (q46, .inl (cy46, 80, .inr (.inr (.inr (.inr (fun _ => none)))))), (q55, .inl (cy7, 80, .inl (fun _ => 0))), (q63, .inl (cy7, 80, .inl (fun _ => 0))), (q71, .inl (cy7, 36, .inl (fun _ => 0))), (q78, .inl (cy7, 4, .inl (fun _ => 0))), (q84, .inr (1, [.ref en_1, .int 0, .int 0])), (en_1, .inl (cy7, 256, .inl (fun _ => 0))), (q95, .inr (2, [.ref dr_2, .ref rc_2, .int 0])), (dr_2, .inl (cJ_2, 36, .inr (.inl (fun _ => 0)))), (rc_2, .inl (cJ_2, 36, .inr (.inl (fun _ => 0))))]) [0, 1, 2, 15, 3, 4, 5, 6, 7, 8, 9, 10, 11, 12, 13, 14] (by decide) rfl
  have hK := hK.sub (tys' := [(cy7, .int), (cy46, .object RX0), (cJ_2, .long)]) [0, 1, 2] rfl
  refine W.widen (k := 15) (n := 762) (by decide) (by decide) ?_
  exact W.vret hx hb hr (fun t ht hW => ⟨⟨([(h, .inr (3, [.ref q7, .ref q15, .ref q22, .ref q30, .ref q38, .ref q46, .ref q55, .ref q63, .ref q71, .ref q78, .ref q84, .ref q95, .int 0, .int 0, .int 0, .int 0, .int 0, .int 0])), (q7, .inl (cy7, 96, .inl (fun _ => 0))), (q15, .inl (cy7, 8, .inl (fun _ => 0))), (q22, .inl (cy7, 4, .inl f2_3)), (q30, .inl (cy7, 8, .inl (fun _ => 0))), (q38, .inl (cy7, 32, .inl (fun _ => 0))), (q46, .inl (cy46, 80, .inr (.inr (.inr (.inr (fun _ => none)))))), (q55, .inl (cy7, 80, .inl (fun _ => 0))), (q63, .inl (cy7, 80, .inl (fun _ => 0))), (q71, .inl (cy7, 36, .inl (fun _ => 0))), (q78, .inl (cy7, 4, .inl (fun _ => 0))), (q84, .inr (1, [.ref en_1, .int 0, .int 0])), (en_1, .inl (cy7, 256, .inl (fun _ => 0))), (q95, .inr (2, [.ref dr_2, .ref rc_2, .int 0])), (dr_2, .inl (cJ_2, 36, .inr (.inl (fun _ => 0)))), (rc_2, .inl (cJ_2, 36, .inr (.inl (fun _ => 0))))], [(cy7, .int), (cy46, .object RX0), (cJ_2, .long)]), rfl, ⟨q7, q15, q22, q30, q38, q46, q55, q63, q71, q78, q84, q95, en_1, dr_2, rc_2, f2_3, cy7, cy46, cJ_2, rfl⟩, ⟨by rw [ht]; exact hP, va_K.moved hW.alike hK, hD⟩⟩, hS.F ht⟩) hS.2.2 dX3_init_113
end
