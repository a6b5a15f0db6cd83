section
-- ===== PART A: goes FIRST, ahead of the names: the tables' words, and 'selects' of the private methods out of them =====
/-- a private method of a class that the tables say can be made, by its rows of tables_1 -/
def lw_okq (q : MethodName × Nat) : Prop := (q.1.cls ≠ "java/lang/invoke/MethodHandle" ∧ q.1.cls ≠ "java/lang/invoke/VarHandle") ∧ Cond.instantiable q.1.cls q.2 ∈ tables_1 ∧ Cond.privateMethod q.1 ∈ tables_1 ∧ Cond.instanceMethod q.1 ∈ tables_1
theorem lw_p0 : lw_okq (⟨"CacheLadder", "uppermost", "(I)LCacheLadder$Line;"⟩, 8) := ⟨⟨by decide +kernel, by decide +kernel⟩, List.mem_of_getElem? (i := 15) (by decide +kernel), List.mem_of_getElem? (i := 55) (by decide +kernel), List.mem_of_getElem? (i := 56) (by decide +kernel)⟩
theorem lw_p1 : lw_okq (⟨"CacheLadder", "wordsUnlikeStore", "(LCacheLadder$Line;)I"⟩, 8) := ⟨⟨by decide +kernel, by decide +kernel⟩, List.mem_of_getElem? (i := 15) (by decide +kernel), List.mem_of_getElem? (i := 75) (by decide +kernel), List.mem_of_getElem? (i := 76) (by decide +kernel)⟩
theorem lw_p2 : lw_okq (⟨"CacheLadder", "standsWrong", "(ILCacheLadder$Line;)Z"⟩, 8) := ⟨⟨by decide +kernel, by decide +kernel⟩, List.mem_of_getElem? (i := 15) (by decide +kernel), List.mem_of_getElem? (i := 103) (by decide +kernel), List.mem_of_getElem? (i := 104) (by decide +kernel)⟩
theorem lw_p3 : lw_okq (⟨"CacheLadder", "isMissedBelow", "(II)Z"⟩, 8) := ⟨⟨by decide +kernel, by decide +kernel⟩, List.mem_of_getElem? (i := 15) (by decide +kernel), List.mem_of_getElem? (i := 107) (by decide +kernel), List.mem_of_getElem? (i := 108) (by decide +kernel)⟩
theorem lw_p4 : lw_okq (⟨"java/lang/Throwable", "fillInStackTrace", "(I)Ljava/lang/Throwable;"⟩, 6) := ⟨⟨by decide +kernel, by decide +kernel⟩, List.mem_of_getElem? (i := 170) (by decide +kernel), List.mem_of_getElem? (i := 168) (by decide +kernel), List.mem_of_getElem? (i := 169) (by decide +kernel)⟩
theorem lw_p5 : lw_okq (⟨"CacheLadder", "readWord", "(I)I"⟩, 8) := ⟨⟨by decide +kernel, by decide +kernel⟩, List.mem_of_getElem? (i := 15) (by decide +kernel), List.mem_of_getElem? (i := 333) (by decide +kernel), List.mem_of_getElem? (i := 334) (by decide +kernel)⟩
theorem lw_p6 : lw_okq (⟨"CacheLadder", "readAt", "(II[I)V"⟩, 8) := ⟨⟨by decide +kernel, by decide +kernel⟩, List.mem_of_getElem? (i := 15) (by decide +kernel), List.mem_of_getElem? (i := 340) (by decide +kernel), List.mem_of_getElem? (i := 341) (by decide +kernel)⟩
theorem lw_p7 : lw_okq (⟨"CacheLadder", "fetch", "(IIZ)LCacheLadder$Line;"⟩, 8) := ⟨⟨by decide +kernel, by decide +kernel⟩, List.mem_of_getElem? (i := 15) (by decide +kernel), List.mem_of_getElem? (i := 347) (by decide +kernel), List.mem_of_getElem? (i := 348) (by decide +kernel)⟩
theorem lw_p8 : lw_okq (⟨"CacheLadder", "makeRoom", "(II)LCacheLadder$Line;"⟩, 8) := ⟨⟨by decide +kernel, by decide +kernel⟩, List.mem_of_getElem? (i := 15) (by decide +kernel), List.mem_of_getElem? (i := 351) (by decide +kernel), List.mem_of_getElem? (i := 352) (by decide +kernel)⟩
theorem lw_p9 : lw_okq (⟨"CacheLadder$Tier", "turnHand", "(I)LCacheLadder$Line;"⟩, 9) := ⟨⟨by decide +kernel, by decide +kernel⟩, List.mem_of_getElem? (i := 232) (by decide +kernel), List.mem_of_getElem? (i := 365) (by decide +kernel), List.mem_of_getElem? (i := 366) (by decide +kernel)⟩
theorem lw_p10 : lw_okq (⟨"CacheLadder$Tier", "wayAfter", "(I)I"⟩, 9) := ⟨⟨by decide +kernel, by decide +kernel⟩, List.mem_of_getElem? (i := 232) (by decide +kernel), List.mem_of_getElem? (i := 369) (by decide +kernel), List.mem_of_getElem? (i := 370) (by decide +kernel)⟩
theorem lw_p11 : lw_okq (⟨"CacheLadder$Tier", "firstToGo", "(I)LCacheLadder$Line;"⟩, 9) := ⟨⟨by decide +kernel, by decide +kernel⟩, List.mem_of_getElem? (i := 232) (by decide +kernel), List.mem_of_getElem? (i := 373) (by decide +kernel), List.mem_of_getElem? (i := 374) (by decide +kernel)⟩
theorem lw_p12 : lw_okq (⟨"CacheLadder$Tier", "goesBefore", "(LCacheLadder$Line;LCacheLadder$Line;)Z"⟩, 9) := ⟨⟨by decide +kernel, by decide +kernel⟩, List.mem_of_getElem? (i := 232) (by decide +kernel), List.mem_of_getElem? (i := 377) (by decide +kernel), List.mem_of_getElem? (i := 378) (by decide +kernel)⟩
theorem lw_p13 : lw_okq (⟨"CacheLadder", "leave", "(ILCacheLadder$Line;)V"⟩, 8) := ⟨⟨by decide +kernel, by decide +kernel⟩, List.mem_of_getElem? (i := 15) (by decide +kernel), List.mem_of_getElem? (i := 381) (by decide +kernel), List.mem_of_getElem? (i := 382) (by decide +kernel)⟩
theorem lw_p14 : lw_okq (⟨"CacheLadder", "gatherFromAbove", "(ILCacheLadder$Line;)V"⟩, 8) := ⟨⟨by decide +kernel, by decide +kernel⟩, List.mem_of_getElem? (i := 15) (by decide +kernel), List.mem_of_getElem? (i := 385) (by decide +kernel), List.mem_of_getElem? (i := 386) (by decide +kernel)⟩
theorem lw_p15 : lw_okq (⟨"CacheLadder", "writeDirty", "(ILCacheLadder$Line;)I"⟩, 8) := ⟨⟨by decide +kernel, by decide +kernel⟩, List.mem_of_getElem? (i := 15) (by decide +kernel), List.mem_of_getElem? (i := 393) (by decide +kernel), List.mem_of_getElem? (i := 394) (by decide +kernel)⟩
def lw_privs_1 : List (MethodName × Nat) := [(⟨"CacheLadder", "uppermost", "(I)LCacheLadder$Line;"⟩, 8), (⟨"CacheLadder", "wordsUnlikeStore", "(LCacheLadder$Line;)I"⟩, 8), (⟨"CacheLadder", "standsWrong", "(ILCacheLadder$Line;)Z"⟩, 8), (⟨"CacheLadder", "isMissedBelow", "(II)Z"⟩, 8), (⟨"java/lang/Throwable", "fillInStackTrace", "(I)Ljava/lang/Throwable;"⟩, 6), (⟨"CacheLadder", "readWord", "(I)I"⟩, 8), (⟨"CacheLadder", "readAt", "(II[I)V"⟩, 8), (⟨"CacheLadder", "fetch", "(IIZ)LCacheLadder$Line;"⟩, 8), (⟨"CacheLadder", "makeRoom", "(II)LCacheLadder$Line;"⟩, 8), (⟨"CacheLadder$Tier", "turnHand", "(I)LCacheLadder$Line;"⟩, 9), (⟨"CacheLadder$Tier", "wayAfter", "(I)I"⟩, 9), (⟨"CacheLadder$Tier", "firstToGo", "(I)LCacheLadder$Line;"⟩, 9), (⟨"CacheLadder$Tier", "goesBefore", "(LCacheLadder$Line;LCacheLadder$Line;)Z"⟩, 9), (⟨"CacheLadder", "leave", "(ILCacheLadder$Line;)V"⟩, 8), (⟨"CacheLadder", "gatherFromAbove", "(ILCacheLadder$Line;)V"⟩, 8), (⟨"CacheLadder", "writeDirty", "(ILCacheLadder$Line;)I"⟩, 8)]
theorem lw_r1 : ∀ q ∈ lw_privs_1, lw_okq q := List.forall_mem_cons.mpr ⟨lw_p0, List.forall_mem_cons.mpr ⟨lw_p1, List.forall_mem_cons.mpr ⟨lw_p2, List.forall_mem_cons.mpr ⟨lw_p3, List.forall_mem_cons.mpr ⟨lw_p4, List.forall_mem_cons.mpr ⟨lw_p5, List.forall_mem_cons.mpr ⟨lw_p6, List.forall_mem_cons.mpr ⟨lw_p7, List.forall_mem_cons.mpr ⟨lw_p8, List.forall_mem_cons.mpr ⟨lw_p9, List.forall_mem_cons.mpr ⟨lw_p10, List.forall_mem_cons.mpr ⟨lw_p11, List.forall_mem_cons.mpr ⟨lw_p12, List.forall_mem_cons.mpr ⟨lw_p13, List.forall_mem_cons.mpr ⟨lw_p14, List.forall_mem_cons.mpr ⟨lw_p15, fun _ h => absurd h List.not_mem_nil⟩⟩⟩⟩⟩⟩⟩⟩⟩⟩⟩⟩⟩⟩⟩⟩
theorem lw_p16 : lw_okq (⟨"CacheLadder", "writeBelow", "(III[I)V"⟩, 8) := ⟨⟨by decide +kernel, by decide +kernel⟩, List.mem_of_getElem? (i := 15) (by decide +kernel), List.mem_of_getElem? (i := 397) (by decide +kernel), List.mem_of_getElem? (i := 398) (by decide +kernel)⟩
theorem lw_p17 : lw_okq (⟨"CacheLadder", "writeAt", "(III[I)V"⟩, 8) := ⟨⟨by decide +kernel, by decide +kernel⟩, List.mem_of_getElem? (i := 15) (by decide +kernel), List.mem_of_getElem? (i := 401) (by decide +kernel), List.mem_of_getElem? (i := 402) (by decide +kernel)⟩
theorem lw_p18 : lw_okq (⟨"CacheLadder", "writeAround", "(III[I)V"⟩, 8) := ⟨⟨by decide +kernel, by decide +kernel⟩, List.mem_of_getElem? (i := 15) (by decide +kernel), List.mem_of_getElem? (i := 405) (by decide +kernel), List.mem_of_getElem? (i := 406) (by decide +kernel)⟩
theorem lw_p19 : lw_okq (⟨"CacheLadder", "writeInLine", "(III[I)V"⟩, 8) := ⟨⟨by decide +kernel, by decide +kernel⟩, List.mem_of_getElem? (i := 15) (by decide +kernel), List.mem_of_getElem? (i := 409) (by decide +kernel), List.mem_of_getElem? (i := 410) (by decide +kernel)⟩
theorem lw_p20 : lw_okq (⟨"CacheLadder", "closedBelow", "(I)Z"⟩, 8) := ⟨⟨by decide +kernel, by decide +kernel⟩, List.mem_of_getElem? (i := 15) (by decide +kernel), List.mem_of_getElem? (i := 413) (by decide +kernel), List.mem_of_getElem? (i := 414) (by decide +kernel)⟩
theorem lw_p21 : lw_okq (⟨"CacheLadder", "writeWord", "(II)V"⟩, 8) := ⟨⟨by decide +kernel, by decide +kernel⟩, List.mem_of_getElem? (i := 15) (by decide +kernel), List.mem_of_getElem? (i := 433) (by decide +kernel), List.mem_of_getElem? (i := 434) (by decide +kernel)⟩
theorem lw_p22 : lw_okq (⟨"CacheLadder", "needTier", "(I)V"⟩, 8) := ⟨⟨by decide +kernel, by decide +kernel⟩, List.mem_of_getElem? (i := 15) (by decide +kernel), List.mem_of_getElem? (i := 477) (by decide +kernel), List.mem_of_getElem? (i := 478) (by decide +kernel)⟩
theorem lw_p23 : lw_okq (⟨"CacheLadder", "needSet", "(II)V"⟩, 8) := ⟨⟨by decide +kernel, by decide +kernel⟩, List.mem_of_getElem? (i := 15) (by decide +kernel), List.mem_of_getElem? (i := 504) (by decide +kernel), List.mem_of_getElem? (i := 505) (by decide +kernel)⟩
theorem lw_p24 : lw_okq (⟨"CacheLadder", "needBlock", "(II)V"⟩, 8) := ⟨⟨by decide +kernel, by decide +kernel⟩, List.mem_of_getElem? (i := 15) (by decide +kernel), List.mem_of_getElem? (i := 518) (by decide +kernel), List.mem_of_getElem? (i := 519) (by decide +kernel)⟩
theorem lw_p25 : lw_okq (⟨"CacheLadder$Tier", "aheadOfHand", "(I)LCacheLadder$Line;"⟩, 9) := ⟨⟨by decide +kernel, by decide +kernel⟩, List.mem_of_getElem? (i := 232) (by decide +kernel), List.mem_of_getElem? (i := 541) (by decide +kernel), List.mem_of_getElem? (i := 542) (by decide +kernel)⟩
theorem lw_p26 : lw_okq (⟨"CacheLadderModel", "readWord", "(I)I"⟩, 31) := ⟨⟨by decide +kernel, by decide +kernel⟩, List.mem_of_getElem? (i := 545) (by decide +kernel), List.mem_of_getElem? (i := 661) (by decide +kernel), List.mem_of_getElem? (i := 662) (by decide +kernel)⟩
theorem lw_p27 : lw_okq (⟨"CacheLadderModel", "push", "(IIIII)V"⟩, 31) := ⟨⟨by decide +kernel, by decide +kernel⟩, List.mem_of_getElem? (i := 545) (by decide +kernel), List.mem_of_getElem? (i := 665) (by decide +kernel), List.mem_of_getElem? (i := 666) (by decide +kernel)⟩
theorem lw_p28 : lw_okq (⟨"CacheLadderModel", "workOff", "()V"⟩, 31) := ⟨⟨by decide +kernel, by decide +kernel⟩, List.mem_of_getElem? (i := 545) (by decide +kernel), List.mem_of_getElem? (i := 669) (by decide +kernel), List.mem_of_getElem? (i := 670) (by decide +kernel)⟩
theorem lw_p29 : lw_okq (⟨"CacheLadderModel", "stepRead", "(I)V"⟩, 31) := ⟨⟨by decide +kernel, by decide +kernel⟩, List.mem_of_getElem? (i := 545) (by decide +kernel), List.mem_of_getElem? (i := 673) (by decide +kernel), List.mem_of_getElem? (i := 674) (by decide +kernel)⟩
theorem lw_p30 : lw_okq (⟨"CacheLadderModel", "find", "(II)I"⟩, 31) := ⟨⟨by decide +kernel, by decide +kernel⟩, List.mem_of_getElem? (i := 545) (by decide +kernel), List.mem_of_getElem? (i := 677) (by decide +kernel), List.mem_of_getElem? (i := 678) (by decide +kernel)⟩
theorem lw_p31 : lw_okq (⟨"CacheLadderModel", "firstOf", "(II)I"⟩, 31) := ⟨⟨by decide +kernel, by decide +kernel⟩, List.mem_of_getElem? (i := 545) (by decide +kernel), List.mem_of_getElem? (i := 681) (by decide +kernel), List.mem_of_getElem? (i := 682) (by decide +kernel)⟩
def lw_privs_2 : List (MethodName × Nat) := [(⟨"CacheLadder", "writeBelow", "(III[I)V"⟩, 8), (⟨"CacheLadder", "writeAt", "(III[I)V"⟩, 8), (⟨"CacheLadder", "writeAround", "(III[I)V"⟩, 8), (⟨"CacheLadder", "writeInLine", "(III[I)V"⟩, 8), (⟨"CacheLadder", "closedBelow", "(I)Z"⟩, 8), (⟨"CacheLadder", "writeWord", "(II)V"⟩, 8), (⟨"CacheLadder", "needTier", "(I)V"⟩, 8), (⟨"CacheLadder", "needSet", "(II)V"⟩, 8), (⟨"CacheLadder", "needBlock", "(II)V"⟩, 8), (⟨"CacheLadder$Tier", "aheadOfHand", "(I)LCacheLadder$Line;"⟩, 9), (⟨"CacheLadderModel", "readWord", "(I)I"⟩, 31), (⟨"CacheLadderModel", "push", "(IIIII)V"⟩, 31), (⟨"CacheLadderModel", "workOff", "()V"⟩, 31), (⟨"CacheLadderModel", "stepRead", "(I)V"⟩, 31), (⟨"CacheLadderModel", "find", "(II)I"⟩, 31), (⟨"CacheLadderModel", "firstOf", "(II)I"⟩, 31)]
theorem lw_r2 : ∀ q ∈ lw_privs_2, lw_okq q := List.forall_mem_cons.mpr ⟨lw_p16, List.forall_mem_cons.mpr ⟨lw_p17, List.forall_mem_cons.mpr ⟨lw_p18, List.forall_mem_cons.mpr ⟨lw_p19, List.forall_mem_cons.mpr ⟨lw_p20, List.forall_mem_cons.mpr ⟨lw_p21, List.forall_mem_cons.mpr ⟨lw_p22, List.forall_mem_cons.mpr ⟨lw_p23, List.forall_mem_cons.mpr ⟨lw_p24, List.forall_mem_cons.mpr ⟨lw_p25, List.forall_mem_cons.mpr ⟨lw_p26, List.forall_mem_cons.mpr ⟨lw_p27, List.forall_mem_cons.mpr ⟨lw_p28, List.forall_mem_cons.mpr ⟨lw_p29, List.forall_mem_cons.mpr ⟨lw_p30, List.forall_mem_cons.mpr ⟨lw_p31, fun _ h => absurd h List.not_mem_nil⟩⟩⟩⟩⟩⟩⟩⟩⟩⟩⟩⟩⟩⟩⟩⟩
theorem lw_p32 : lw_okq (⟨"CacheLadderModel", "makeRoom", "(I)V"⟩, 31) := ⟨⟨by decide +kernel, by decide +kernel⟩, List.mem_of_getElem? (i := 545) (by decide +kernel), List.mem_of_getElem? (i := 685) (by decide +kernel), List.mem_of_getElem? (i := 686) (by decide +kernel)⟩
theorem lw_p33 : lw_okq (⟨"CacheLadderModel", "freeIn", "(II)I"⟩, 31) := ⟨⟨by decide +kernel, by decide +kernel⟩, List.mem_of_getElem? (i := 545) (by decide +kernel), List.mem_of_getElem? (i := 689) (by decide +kernel), List.mem_of_getElem? (i := 690) (by decide +kernel)⟩
theorem lw_p34 : lw_okq (⟨"CacheLadderModel", "choice", "(II)I"⟩, 31) := ⟨⟨by decide +kernel, by decide +kernel⟩, List.mem_of_getElem? (i := 545) (by decide +kernel), List.mem_of_getElem? (i := 693) (by decide +kernel), List.mem_of_getElem? (i := 694) (by decide +kernel)⟩
theorem lw_p35 : lw_okq (⟨"CacheLadderModel", "goesBefore", "(III)Z"⟩, 31) := ⟨⟨by decide +kernel, by decide +kernel⟩, List.mem_of_getElem? (i := 545) (by decide +kernel), List.mem_of_getElem? (i := 697) (by decide +kernel), List.mem_of_getElem? (i := 698) (by decide +kernel)⟩
theorem lw_p36 : lw_okq (⟨"CacheLadderModel", "moveHand", "(II)V"⟩, 31) := ⟨⟨by decide +kernel, by decide +kernel⟩, List.mem_of_getElem? (i := 545) (by decide +kernel), List.mem_of_getElem? (i := 701) (by decide +kernel), List.mem_of_getElem? (i := 702) (by decide +kernel)⟩
theorem lw_p37 : lw_okq (⟨"CacheLadderModel", "use", "(I)V"⟩, 31) := ⟨⟨by decide +kernel, by decide +kernel⟩, List.mem_of_getElem? (i := 545) (by decide +kernel), List.mem_of_getElem? (i := 705) (by decide +kernel), List.mem_of_getElem? (i := 706) (by decide +kernel)⟩
theorem lw_p38 : lw_okq (⟨"CacheLadderModel", "answerLine", "(II)V"⟩, 31) := ⟨⟨by decide +kernel, by decide +kernel⟩, List.mem_of_getElem? (i := 545) (by decide +kernel), List.mem_of_getElem? (i := 709) (by decide +kernel), List.mem_of_getElem? (i := 710) (by decide +kernel)⟩
theorem lw_p39 : lw_okq (⟨"CacheLadderModel", "fillLine", "(IZ)V"⟩, 31) := ⟨⟨by decide +kernel, by decide +kernel⟩, List.mem_of_getElem? (i := 545) (by decide +kernel), List.mem_of_getElem? (i := 713) (by decide +kernel), List.mem_of_getElem? (i := 714) (by decide +kernel)⟩
theorem lw_p40 : lw_okq (⟨"CacheLadderModel", "place", "(II)V"⟩, 31) := ⟨⟨by decide +kernel, by decide +kernel⟩, List.mem_of_getElem? (i := 545) (by decide +kernel), List.mem_of_getElem? (i := 717) (by decide +kernel), List.mem_of_getElem? (i := 718) (by decide +kernel)⟩
theorem lw_p41 : lw_okq (⟨"CacheLadderModel", "stepWrite", "(I)V"⟩, 31) := ⟨⟨by decide +kernel, by decide +kernel⟩, List.mem_of_getElem? (i := 545) (by decide +kernel), List.mem_of_getElem? (i := 721) (by decide +kernel), List.mem_of_getElem? (i := 722) (by decide +kernel)⟩
theorem lw_p42 : lw_okq (⟨"CacheLadderModel", "storeWords", "(II)V"⟩, 31) := ⟨⟨by decide +kernel, by decide +kernel⟩, List.mem_of_getElem? (i := 545) (by decide +kernel), List.mem_of_getElem? (i := 725) (by decide +kernel), List.mem_of_getElem? (i := 726) (by decide +kernel)⟩
theorem lw_p43 : lw_okq (⟨"CacheLadderModel", "beginWrite", "(I)V"⟩, 31) := ⟨⟨by decide +kernel, by decide +kernel⟩, List.mem_of_getElem? (i := 545) (by decide +kernel), List.mem_of_getElem? (i := 729) (by decide +kernel), List.mem_of_getElem? (i := 730) (by decide +kernel)⟩
theorem lw_p44 : lw_okq (⟨"CacheLadderModel", "isWatched", "(I)Z"⟩, 31) := ⟨⟨by decide +kernel, by decide +kernel⟩, List.mem_of_getElem? (i := 545) (by decide +kernel), List.mem_of_getElem? (i := 733) (by decide +kernel), List.mem_of_getElem? (i := 734) (by decide +kernel)⟩
theorem lw_p45 : lw_okq (⟨"CacheLadderModel", "goDown", "(III[II)V"⟩, 31) := ⟨⟨by decide +kernel, by decide +kernel⟩, List.mem_of_getElem? (i := 545) (by decide +kernel), List.mem_of_getElem? (i := 737) (by decide +kernel), List.mem_of_getElem? (i := 738) (by decide +kernel)⟩
theorem lw_p46 : lw_okq (⟨"CacheLadderModel", "stepLeave", "(I)V"⟩, 31) := ⟨⟨by decide +kernel, by decide +kernel⟩, List.mem_of_getElem? (i := 545) (by decide +kernel), List.mem_of_getElem? (i := 744) (by decide +kernel), List.mem_of_getElem? (i := 745) (by decide +kernel)⟩
theorem lw_p47 : lw_okq (⟨"CacheLadderModel", "gather", "(II)V"⟩, 31) := ⟨⟨by decide +kernel, by decide +kernel⟩, List.mem_of_getElem? (i := 545) (by decide +kernel), List.mem_of_getElem? (i := 748) (by decide +kernel), List.mem_of_getElem? (i := 749) (by decide +kernel)⟩
def lw_privs_3 : List (MethodName × Nat) := [(⟨"CacheLadderModel", "makeRoom", "(I)V"⟩, 31), (⟨"CacheLadderModel", "freeIn", "(II)I"⟩, 31), (⟨"CacheLadderModel", "choice", "(II)I"⟩, 31), (⟨"CacheLadderModel", "goesBefore", "(III)Z"⟩, 31), (⟨"CacheLadderModel", "moveHand", "(II)V"⟩, 31), (⟨"CacheLadderModel", "use", "(I)V"⟩, 31), (⟨"CacheLadderModel", "answerLine", "(II)V"⟩, 31), (⟨"CacheLadderModel", "fillLine", "(IZ)V"⟩, 31), (⟨"CacheLadderModel", "place", "(II)V"⟩, 31), (⟨"CacheLadderModel", "stepWrite", "(I)V"⟩, 31), (⟨"CacheLadderModel", "storeWords", "(II)V"⟩, 31), (⟨"CacheLadderModel", "beginWrite", "(I)V"⟩, 31), (⟨"CacheLadderModel", "isWatched", "(I)Z"⟩, 31), (⟨"CacheLadderModel", "goDown", "(III[II)V"⟩, 31), (⟨"CacheLadderModel", "stepLeave", "(I)V"⟩, 31), (⟨"CacheLadderModel", "gather", "(II)V"⟩, 31)]
theorem lw_r3 : ∀ q ∈ lw_privs_3, lw_okq q := List.forall_mem_cons.mpr ⟨lw_p32, List.forall_mem_cons.mpr ⟨lw_p33, List.forall_mem_cons.mpr ⟨lw_p34, List.forall_mem_cons.mpr ⟨lw_p35, List.forall_mem_cons.mpr ⟨lw_p36, List.forall_mem_cons.mpr ⟨lw_p37, List.forall_mem_cons.mpr ⟨lw_p38, List.forall_mem_cons.mpr ⟨lw_p39, List.forall_mem_cons.mpr ⟨lw_p40, List.forall_mem_cons.mpr ⟨lw_p41, List.forall_mem_cons.mpr ⟨lw_p42, List.forall_mem_cons.mpr ⟨lw_p43, List.forall_mem_cons.mpr ⟨lw_p44, List.forall_mem_cons.mpr ⟨lw_p45, List.forall_mem_cons.mpr ⟨lw_p46, List.forall_mem_cons.mpr ⟨lw_p47, fun _ h => absurd h List.not_mem_nil⟩⟩⟩⟩⟩⟩⟩⟩⟩⟩⟩⟩⟩⟩⟩⟩
theorem lw_p48 : lw_okq (⟨"CacheLadderModel", "writeWord", "(II)V"⟩, 31) := ⟨⟨by decide +kernel, by decide +kernel⟩, List.mem_of_getElem? (i := 545) (by decide +kernel), List.mem_of_getElem? (i := 756) (by decide +kernel), List.mem_of_getElem? (i := 757) (by decide +kernel)⟩
theorem lw_p49 : lw_okq (⟨"CacheLadderModel", "newest", "(I)I"⟩, 31) := ⟨⟨by decide +kernel, by decide +kernel⟩, List.mem_of_getElem? (i := 545) (by decide +kernel), List.mem_of_getElem? (i := 773) (by decide +kernel), List.mem_of_getElem? (i := 774) (by decide +kernel)⟩
theorem lw_p50 : lw_okq (⟨"CacheLadderModel", "isTier", "(I)Z"⟩, 31) := ⟨⟨by decide +kernel, by decide +kernel⟩, List.mem_of_getElem? (i := 545) (by decide +kernel), List.mem_of_getElem? (i := 785) (by decide +kernel), List.mem_of_getElem? (i := 786) (by decide +kernel)⟩
theorem lw_p51 : lw_okq (⟨"CacheLadderModel", "each", "(II)I"⟩, 31) := ⟨⟨by decide +kernel, by decide +kernel⟩, List.mem_of_getElem? (i := 545) (by decide +kernel), List.mem_of_getElem? (i := 789) (by decide +kernel), List.mem_of_getElem? (i := 790) (by decide +kernel)⟩
def lw_privs_4 : List (MethodName × Nat) := [(⟨"CacheLadderModel", "writeWord", "(II)V"⟩, 31), (⟨"CacheLadderModel", "newest", "(I)I"⟩, 31), (⟨"CacheLadderModel", "isTier", "(I)Z"⟩, 31), (⟨"CacheLadderModel", "each", "(II)I"⟩, 31)]
theorem lw_r4 : ∀ q ∈ lw_privs_4, lw_okq q := List.forall_mem_cons.mpr ⟨lw_p48, List.forall_mem_cons.mpr ⟨lw_p49, List.forall_mem_cons.mpr ⟨lw_p50, List.forall_mem_cons.mpr ⟨lw_p51, fun _ h => absurd h List.not_mem_nil⟩⟩⟩⟩
def lw_privs : List (MethodName × Nat) := lw_privs_1 ++ (lw_privs_2 ++ (lw_privs_3 ++ (lw_privs_4)))
def lw_tbl : List Cond := k2_sels lw_privs ++ tables_1
theorem lw_privs_ok : ∀ q ∈ lw_privs, lw_okq q := by
  show ∀ q ∈ lw_privs_1 ++ (lw_privs_2 ++ (lw_privs_3 ++ (lw_privs_4))), lw_okq q
  exact List.forall_mem_append.mpr ⟨lw_r1, List.forall_mem_append.mpr ⟨lw_r2, List.forall_mem_append.mpr ⟨lw_r3, lw_r4⟩⟩⟩
end
section
/-! the tables of the abstract machine: written by program (wip/whole/gen) out of the Statement's own tables and javap's listing -/
abbrev am_K : Type := Nat × Nat × Nat
abbrev am_V : Type := Int32 ⊕ (Int32 ⊕ (Option am_K ⊕ Nat))
abbrev am_M : Type := am_K → Nat → Int32
/-- how many tiers; how many lines a tier has; how many sets; how long the script is -/
abbrev am_Sh : Type := Nat × (Nat → Nat) × (Nat → Nat) × Nat
def am_FLi : u_T := fun k => match k with
  | 0 => ("CacheLadder$Line", "words", "[I", true)
  | 1 => ("CacheLadder$Line", "block", "I", false)
  | 2 => ("CacheLadder$Line", "dirtyBits", "I", false)
  | 3 => ("CacheLadder$Line", "placedAt", "I", false)
  | 4 => ("CacheLadder$Line", "usedAt", "I", false)
  | 5 => ("CacheLadder$Line", "uses", "I", false)
  | _ => ("CacheLadder$Line", "marked", "Z", false)
def am_TLi : Nat → FieldType := fun k => match k with
  | 0 => .array .int
  | 1 => .int
  | 2 => .int
  | 3 => .int
  | 4 => .int
  | 5 => .int
  | _ => .boolean
def am_FTi : u_T := fun k => match k with
  | 0 => ("CacheLadder$Tier", "sets", "I", true)
  | 1 => ("CacheLadder$Tier", "ways", "I", true)
  | 2 => ("CacheLadder$Tier", "choosing", "I", true)
  | 3 => ("CacheLadder$Tier", "writing", "I", true)
  | 4 => ("CacheLadder$Tier", "closed", "Z", true)
  | 5 => ("CacheLadder$Tier", "lines", "[LCacheLadder$Line;", true)
  | 6 => ("CacheLadder$Tier", "hands", "[I", true)
  | 7 => ("CacheLadder$Tier", "counts", "[I", true)
  | _ => ("CacheLadder$Tier", "time", "I", false)
def am_TTi : Nat → FieldType := fun k => match k with
  | 0 => .int
  | 1 => .int
  | 2 => .int
  | 3 => .int
  | 4 => .boolean
  | 5 => .array (.object "CacheLadder$Line")
  | 6 => .array .int
  | 7 => .array .int
  | _ => .int
def am_FCL : u_T := fun k => match k with
  | 0 => ("CacheLadder", "store", "[I", true)
  | 1 => ("CacheLadder", "ladder", "[LCacheLadder$Tier;", true)
  | 2 => ("CacheLadder", "answered", "[I", true)
  | 3 => ("CacheLadder", "given", "[I", true)
  | 4 => ("CacheLadder", "height", "I", false)
  | 5 => ("CacheLadder", "loadCount", "I", false)
  | 6 => ("CacheLadder", "storeCount", "I", false)
  | _ => ("CacheLadder", "accessed", "Z", false)
def am_TCL : Nat → FieldType := fun k => match k with
  | 0 => .array .int
  | 1 => .array (.object "CacheLadder$Tier")
  | 2 => .array .int
  | 3 => .array .int
  | 4 => .int
  | 5 => .int
  | 6 => .int
  | _ => .boolean
def am_FMo : u_T := fun k => match k with
  | 0 => ("CacheLadderModel", "code", "I", false)
  | 1 => ("CacheLadderModel", "tierCount", "I", false)
  | 2 => ("CacheLadderModel", "begun", "Z", false)
  | 3 => ("CacheLadderModel", "setsOf", "[I", true)
  | 4 => ("CacheLadderModel", "waysOf", "[I", true)
  | 5 => ("CacheLadderModel", "choosing", "[I", true)
  | 6 => ("CacheLadderModel", "writing", "[I", true)
  | 7 => ("CacheLadderModel", "closed", "[Z", true)
  | 8 => ("CacheLadderModel", "counts", "[I", true)
  | 9 => ("CacheLadderModel", "hands", "[I", true)
  | 10 => ("CacheLadderModel", "blockOf", "[I", true)
  | 11 => ("CacheLadderModel", "dirtyOf", "[I", true)
  | 12 => ("CacheLadderModel", "placed", "[I", true)
  | 13 => ("CacheLadderModel", "used", "[I", true)
  | 14 => ("CacheLadderModel", "uses", "[I", true)
  | 15 => ("CacheLadderModel", "marked", "[Z", true)
  | 16 => ("CacheLadderModel", "lineWords", "[I", true)
  | 17 => ("CacheLadderModel", "clock", "I", false)
  | 18 => ("CacheLadderModel", "store", "[I", true)
  | 19 => ("CacheLadderModel", "loads", "I", false)
  | 20 => ("CacheLadderModel", "stores", "I", false)
  | 21 => ("CacheLadderModel", "answers", "[I", true)
  | 22 => ("CacheLadderModel", "writes", "[I", true)
  | 23 => ("CacheLadderModel", "jobs", "I", false)
  | 24 => ("CacheLadderModel", "job", "[I", true)
  | 25 => ("CacheLadderModel", "jobTier", "[I", true)
  | 26 => ("CacheLadderModel", "jobBlock", "[I", true)
  | 27 => ("CacheLadderModel", "jobMask", "[I", true)
  | 28 => ("CacheLadderModel", "jobLine", "[I", true)
  | 29 => ("CacheLadderModel", "stage", "[I", true)
  | _ => ("CacheLadderModel", "before", "[I", true)
def am_TMo : Nat → FieldType := fun k => match k with
  | 0 => .int
  | 1 => .int
  | 2 => .boolean
  | 3 => .array .int
  | 4 => .array .int
  | 5 => .array .int
  | 6 => .array .int
  | 7 => .array .boolean
  | 8 => .array .int
  | 9 => .array .int
  | 10 => .array .int
  | 11 => .array .int
  | 12 => .array .int
  | 13 => .array .int
  | 14 => .array .int
  | 15 => .array .boolean
  | 16 => .array .int
  | 17 => .int
  | 18 => .array .int
  | 19 => .int
  | 20 => .int
  | 21 => .array .int
  | 22 => .array .int
  | 23 => .int
  | 24 => .array .int
  | 25 => .array .int
  | 26 => .array .int
  | 27 => .array .int
  | 28 => .array .int
  | 29 => .array .int
  | _ => .array .int
def am_cn (c : Nat) : String := match c with
  | 0 => "CacheLadder$Line"
  | 1 => "CacheLadder$Tier"
  | 2 => "CacheLadder"
  | 3 => "CacheLadderModel"
  | 4 => "CacheLadderLaw"
  | _ => "java/lang/Integer"
abbrev am_nT : String := "CacheLadder$Tier"
abbrev am_nL : String := "CacheLadder$Line"
def am_F (ci : Nat) : u_T := match ci with
  | 0 => am_FLi
  | 1 => am_FTi
  | 2 => am_FCL
  | _ => am_FMo
def am_T (ci : Nat) : Nat → FieldType := match ci with
  | 0 => am_TLi
  | 1 => am_TTi
  | 2 => am_TCL
  | _ => am_TMo
def am_nf (ci : Nat) : Nat := match ci with
  | 0 => 7
  | 1 => 9
  | 2 => 8
  | _ => 31
abbrev am_cl : List vw_C := [(am_cn 0, am_FLi, 7), (am_cn 1, am_FTi, 9), (am_cn 2, am_FCL, 8), (am_cn 3, am_FMo, 31)]
def am_fk (ci j : Nat) : Nat := match am_T ci j with
  | .int => 0
  | .boolean => 1
  | _ => 2
def am_wr (ci j : Nat) : Bool := !(am_F ci j).2.2.2
/-- the reference's arrays, by their fields -/
def am_mk (j : Nat) : Option (Nat ⊕ (Nat × Nat)) := match j with
  | 3 => some (Sum.inr (0, 4))
  | 4 => some (Sum.inr (0, 4))
  | 5 => some (Sum.inr (0, 4))
  | 6 => some (Sum.inr (0, 4))
  | 7 => some (Sum.inr (1, 4))
  | 8 => some (Sum.inr (0, 24))
  | 9 => some (Sum.inr (0, 64))
  | 10 => some (Sum.inr (0, 256))
  | 11 => some (Sum.inr (0, 256))
  | 12 => some (Sum.inr (0, 256))
  | 13 => some (Sum.inr (0, 256))
  | 14 => some (Sum.inr (0, 256))
  | 15 => some (Sum.inr (1, 256))
  | 16 => some (Sum.inr (0, 1024))
  | 18 => some (Sum.inr (0, 1024))
  | 21 => some (Sum.inr (0, 20))
  | 22 => some (Sum.inr (0, 20))
  | 24 => some (Sum.inr (0, 64))
  | 25 => some (Sum.inr (0, 64))
  | 26 => some (Sum.inr (0, 64))
  | 27 => some (Sum.inr (0, 64))
  | 28 => some (Sum.inr (0, 64))
  | 29 => some (Sum.inr (0, 64))
  | 30 => some (Sum.inr (0, 1024))
  | _ => none
/-- which keys there are, and what their cells are: an object of the class numbered so, or an array: kind 0 int, 1 boolean, 2 tiers, 3 long, 4 lines, 5 the script; how long -/
def am_ct (sh : am_Sh) (k : am_K) : Option (Nat ⊕ (Nat × Nat)) := match k with
  | (0, a, b) => if a = 0 ∧ b = 0 then some (Sum.inl 2) else none
  | (1, a, b) => if a = 0 ∧ b = 0 then some (Sum.inr (0, 1024)) else none
  | (2, a, b) => if a = 0 ∧ b = 0 then some (Sum.inr (2, 4)) else none
  | (3, a, b) => if a = 0 ∧ b = 0 then some (Sum.inr (0, 4)) else none
  | (4, a, b) => if a = 0 ∧ b = 0 then some (Sum.inr (0, 4)) else none
  | (5, t, b) => if t < sh.1 ∧ b = 0 then some (Sum.inl 1) else none
  | (6, t, b) => if t < sh.1 ∧ b = 0 then some (Sum.inr (4, sh.2.1 t)) else none
  | (7, t, b) => if t < sh.1 ∧ b = 0 then some (Sum.inr (0, sh.2.2.1 t)) else none
  | (8, t, b) => if t < sh.1 ∧ b = 0 then some (Sum.inr (0, 6)) else none
  | (9, t, i) => if t < sh.1 ∧ i < sh.2.1 t then some (Sum.inl 0) else none
  | (10, t, i) => if t < sh.1 ∧ i < sh.2.1 t then some (Sum.inr (0, 4)) else none
  | (20, a, b) => if a = 0 ∧ b = 0 then some (Sum.inl 3) else none
  | (21, j, b) => if b = 0 then am_mk j else none
  | (30, a, b) => if a = 0 ∧ b = 0 then some (Sum.inr (3, 1)) else none
  | (31, a, b) => if a = 0 ∧ b = 0 then some (Sum.inr (5, sh.2.2.2)) else none
  | _ => none
/-- which cell a reference in a cell's field, or at an array's place, leads to -/
def am_rf (sh : am_Sh) (k : am_K) (j : Nat) : Option am_K := match k with
  | (0, _, _) => (match j with
    | 0 => some (1, 0, 0)
    | 1 => some (2, 0, 0)
    | 2 => some (3, 0, 0)
    | 3 => some (4, 0, 0)
    | _ => none)
  | (2, _, _) => if j < sh.1 then some (5, j, 0) else none
  | (5, t, _) => (match j with
    | 5 => some (6, t, 0)
    | 6 => some (7, t, 0)
    | 7 => some (8, t, 0)
    | _ => none)
  | (6, t, _) => if j < sh.2.1 t then some (9, t, j) else none
  | (9, t, i) => (match j with
    | 0 => some (10, t, i)
    | _ => none)
  | (20, _, _) => some (21, j, 0)
  | _ => none
abbrev am_Row : Type := MethodName × ByteArray × Nat × Option FieldType × List (Nat × Nat × Nat × Nat) × Nat × Nat × Nat
/-- a method: name, bytes, locals, what it answers, handlers, the number of its own class, of the receiver's (99: static), how many exceptions it may make -/
def am_tb : List am_Row := [
  (⟨"CacheLadder$Line", "go", "()V"⟩, prog_2_method_3_code, 1, none, [], 0, 0, 0),
  (⟨"CacheLadder$Line", "isThere", "()Z"⟩, prog_2_method_2_code, 1, some .boolean, [], 0, 0, 0),
  (⟨"CacheLadder$Tier", "find", "(I)LCacheLadder$Line;"⟩, prog_3_method_5_code, 3, some (.object "CacheLadder$Line"), [], 1, 1, 0),
  (⟨"CacheLadder$Tier", "wayOf", "(I)I"⟩, prog_3_method_4_code, 4, some .int, [], 1, 1, 0),
  (⟨"CacheLadder$Tier", "setOf", "(I)I"⟩, prog_3_method_2_code, 2, some .int, [], 1, 1, 0),
  (⟨"CacheLadder$Tier", "at", "(II)LCacheLadder$Line;"⟩, prog_3_method_3_code, 3, some (.object "CacheLadder$Line"), [], 1, 1, 0),
  (⟨"CacheLadder$Tier", "lose", "()V"⟩, prog_3_method_16_code, 2, none, [], 1, 1, 0),
  (⟨"CacheLadder$Tier", "freeIn", "(I)LCacheLadder$Line;"⟩, prog_3_method_6_code, 3, some (.object "CacheLadder$Line"), [], 1, 1, 0),
  (⟨"CacheLadder$Tier", "choose", "(I)LCacheLadder$Line;"⟩, prog_3_method_7_code, 2, some (.object "CacheLadder$Line"), [], 1, 1, 0),
  (⟨"CacheLadder$Tier", "turnHand", "(I)LCacheLadder$Line;"⟩, prog_3_method_11_code, 4, some (.object "CacheLadder$Line"), [], 1, 1, 0),
  (⟨"CacheLadder$Tier", "wayAfter", "(I)I"⟩, prog_3_method_13_code, 2, some .int, [], 1, 1, 0),
  (⟨"CacheLadder$Tier", "firstToGo", "(I)LCacheLadder$Line;"⟩, prog_3_method_9_code, 4, some (.object "CacheLadder$Line"), [], 1, 1, 0),
  (⟨"CacheLadder$Tier", "goesBefore", "(LCacheLadder$Line;LCacheLadder$Line;)Z"⟩, prog_3_method_10_code, 3, some .boolean, [], 1, 1, 0),
  (⟨"CacheLadder$Tier", "noteUse", "(LCacheLadder$Line;)V"⟩, prog_3_method_15_code, 2, none, [], 1, 1, 0),
  (⟨"CacheLadder$Tier", "place", "(LCacheLadder$Line;I)V"⟩, prog_3_method_14_code, 3, none, [], 1, 1, 0),
  (⟨"CacheLadder$Tier", "foresee", "(I)LCacheLadder$Line;"⟩, prog_3_method_8_code, 2, some (.object "CacheLadder$Line"), [], 1, 1, 0),
  (⟨"CacheLadder$Tier", "aheadOfHand", "(I)LCacheLadder$Line;"⟩, prog_3_method_12_code, 4, some (.object "CacheLadder$Line"), [], 1, 1, 0),
  (⟨"CacheLadder", "crash", "()I"⟩, prog_1_method_11_code, 4, some .int, [], 2, 2, 0),
  (⟨"CacheLadder", "uppermost", "(I)LCacheLadder$Line;"⟩, prog_1_method_29_code, 4, some (.object "CacheLadder$Line"), [], 2, 2, 0),
  (⟨"CacheLadder", "wordsUnlikeStore", "(LCacheLadder$Line;)I"⟩, prog_1_method_30_code, 4, some .int, [], 2, 2, 0),
  (⟨"CacheLadder", "traffic", "(Z)I"⟩, prog_1_method_13_code, 2, some .int, [], 2, 2, 0),
  (⟨"CacheLadder", "tiers", "()I"⟩, prog_1_method_18_code, 1, some .int, [], 2, 2, 0),
  (⟨"CacheLadder", "astray", "()I"⟩, prog_1_method_19_code, 5, some .int, [], 2, 2, 0),
  (⟨"CacheLadder", "standsWrong", "(ILCacheLadder$Line;)Z"⟩, prog_1_method_42_code, 3, some .boolean, [], 2, 2, 0),
  (⟨"CacheLadder", "isMissedBelow", "(II)Z"⟩, prog_1_method_43_code, 4, some .boolean, [], 2, 2, 0),
  (⟨"CacheLadder", "tier", "(IIIIZ)I"⟩, prog_1_method_2_code, 6, some .int, [], 2, 2, 1),
  (⟨"CacheLadder", "isSets", "(I)Z"⟩, prog_1_method_20_code, 1, some .boolean, [], 2, 99, 0),
  (⟨"CacheLadder", "read", "(I)I"⟩, prog_1_method_3_code, 2, some .int, [], 2, 2, 1),
  (⟨"CacheLadder", "needWord", "(I)V"⟩, prog_1_method_21_code, 1, none, [], 2, 99, 1),
  (⟨"CacheLadder", "readWord", "(I)I"⟩, prog_1_method_27_code, 2, some .int, [], 2, 2, 0),
  (⟨"CacheLadder", "blockOf", "(I)I"⟩, prog_1_method_25_code, 1, some .int, [], 2, 99, 0),
  (⟨"CacheLadder", "readAt", "(II[I)V"⟩, prog_1_method_31_code, 6, none, [], 2, 2, 0),
  (⟨"CacheLadder", "fetch", "(IIZ)LCacheLadder$Line;"⟩, prog_1_method_32_code, 5, some (.object "CacheLadder$Line"), [], 2, 2, 0),
  (⟨"CacheLadder", "makeRoom", "(II)LCacheLadder$Line;"⟩, prog_1_method_33_code, 7, some (.object "CacheLadder$Line"), [], 2, 2, 0),
  (⟨"CacheLadder", "leave", "(ILCacheLadder$Line;)V"⟩, prog_1_method_34_code, 3, none, [], 2, 2, 0),
  (⟨"CacheLadder", "gatherFromAbove", "(ILCacheLadder$Line;)V"⟩, prog_1_method_35_code, 5, none, [], 2, 2, 0),
  (⟨"CacheLadder", "copyWords", "(I[I[II)V"⟩, prog_1_method_26_code, 5, none, [], 2, 99, 0),
  (⟨"CacheLadder", "writeDirty", "(ILCacheLadder$Line;)I"⟩, prog_1_method_36_code, 4, some .int, [], 2, 2, 0),
  (⟨"CacheLadder", "writeBelow", "(III[I)V"⟩, prog_1_method_37_code, 5, none, [], 2, 2, 0),
  (⟨"CacheLadder", "writeAt", "(III[I)V"⟩, prog_1_method_38_code, 5, none, [], 2, 2, 0),
  (⟨"CacheLadder", "writeAround", "(III[I)V"⟩, prog_1_method_39_code, 6, none, [], 2, 2, 0),
  (⟨"CacheLadder", "writeInLine", "(III[I)V"⟩, prog_1_method_40_code, 7, none, [], 2, 2, 0),
  (⟨"CacheLadder", "closedBelow", "(I)Z"⟩, prog_1_method_41_code, 3, some .boolean, [], 2, 2, 0),
  (⟨"CacheLadder", "write", "(II)V"⟩, prog_1_method_4_code, 3, none, [], 2, 2, 1),
  (⟨"CacheLadder", "writeWord", "(II)V"⟩, prog_1_method_28_code, 3, none, [], 2, 2, 0),
  (⟨"CacheLadder", "fill", "(IIII)V"⟩, prog_1_method_5_code, 10, none, [], 2, 2, 2),
  (⟨"CacheLadder", "run", "(III)I"⟩, prog_1_method_6_code, 8, some .int, [], 2, 2, 1),
  (⟨"CacheLadder", "peek", "(I)I"⟩, prog_1_method_7_code, 3, some .int, [], 2, 2, 1),
  (⟨"CacheLadder", "stored", "(I)I"⟩, prog_1_method_8_code, 2, some .int, [], 2, 2, 1),
  (⟨"CacheLadder", "flush", "(I)I"⟩, prog_1_method_9_code, 5, some .int, [], 2, 2, 1),
  (⟨"CacheLadder", "needTier", "(I)V"⟩, prog_1_method_22_code, 2, none, [], 2, 2, 1),
  (⟨"CacheLadder", "empty", "(I)I"⟩, prog_1_method_10_code, 5, some .int, [], 2, 2, 1),
  (⟨"CacheLadder", "count", "(II)I"⟩, prog_1_method_12_code, 3, some .int, [], 2, 2, 2),
  (⟨"CacheLadder", "line", "(III)I"⟩, prog_1_method_14_code, 4, some .int, [], 2, 2, 3),
  (⟨"CacheLadder", "needSet", "(II)V"⟩, prog_1_method_23_code, 3, none, [], 2, 2, 2),
  (⟨"CacheLadder", "way", "(II)I"⟩, prog_1_method_15_code, 3, some .int, [], 2, 2, 2),
  (⟨"CacheLadder", "needBlock", "(II)V"⟩, prog_1_method_24_code, 3, none, [], 2, 2, 2),
  (⟨"CacheLadder", "dirty", "(II)I"⟩, prog_1_method_16_code, 4, some .int, [], 2, 2, 2),
  (⟨"CacheLadder", "next", "(II)I"⟩, prog_1_method_17_code, 3, some .int, [], 2, 2, 2),
  (⟨"java/lang/Integer", "bitCount", "(I)I"⟩, prog_10_method_49_code, 1, some .int, [], 5, 99, 0),
  (⟨"CacheLadderModel", "thrown", "()I"⟩, prog_5_method_2_code, 1, some .int, [], 3, 3, 0),
  (⟨"CacheLadderModel", "tier", "(IIIIZ)I"⟩, prog_5_method_26_code, 7, some .int, [], 3, 3, 0),
  (⟨"CacheLadderModel", "in", "(III)Z"⟩, prog_5_method_3_code, 3, some .boolean, [], 3, 99, 0),
  (⟨"CacheLadderModel", "read", "(I)I"⟩, prog_5_method_29_code, 2, some .int, [], 3, 3, 0),
  (⟨"CacheLadderModel", "readWord", "(I)I"⟩, prog_5_method_27_code, 2, some .int, [], 3, 3, 0),
  (⟨"CacheLadderModel", "push", "(IIIII)V"⟩, prog_5_method_13_code, 6, none, [], 3, 3, 0),
  (⟨"CacheLadderModel", "workOff", "()V"⟩, prog_5_method_14_code, 2, none, [], 3, 3, 0),
  (⟨"CacheLadderModel", "stepRead", "(I)V"⟩, prog_5_method_18_code, 5, none, [], 3, 3, 0),
  (⟨"CacheLadderModel", "find", "(II)I"⟩, prog_5_method_6_code, 6, some .int, [], 3, 3, 0),
  (⟨"CacheLadderModel", "firstOf", "(II)I"⟩, prog_5_method_5_code, 3, some .int, [], 3, 3, 0),
  (⟨"CacheLadderModel", "makeRoom", "(I)V"⟩, prog_5_method_15_code, 5, none, [], 3, 3, 0),
  (⟨"CacheLadderModel", "freeIn", "(II)I"⟩, prog_5_method_9_code, 6, some .int, [], 3, 3, 0),
  (⟨"CacheLadderModel", "choice", "(II)I"⟩, prog_5_method_11_code, 10, some .int, [], 3, 3, 0),
  (⟨"CacheLadderModel", "goesBefore", "(III)Z"⟩, prog_5_method_10_code, 4, some .boolean, [], 3, 3, 0),
  (⟨"CacheLadderModel", "moveHand", "(II)V"⟩, prog_5_method_12_code, 5, none, [], 3, 3, 0),
  (⟨"CacheLadderModel", "use", "(I)V"⟩, prog_5_method_7_code, 2, none, [], 3, 3, 0),
  (⟨"CacheLadderModel", "answerLine", "(II)V"⟩, prog_5_method_16_code, 4, none, [], 3, 3, 0),
  (⟨"CacheLadderModel", "fillLine", "(IZ)V"⟩, prog_5_method_17_code, 6, none, [], 3, 3, 0),
  (⟨"CacheLadderModel", "place", "(II)V"⟩, prog_5_method_8_code, 3, none, [], 3, 3, 0),
  (⟨"CacheLadderModel", "stepWrite", "(I)V"⟩, prog_5_method_23_code, 7, none, [], 3, 3, 0),
  (⟨"CacheLadderModel", "storeWords", "(II)V"⟩, prog_5_method_20_code, 4, none, [], 3, 3, 0),
  (⟨"CacheLadderModel", "beginWrite", "(I)V"⟩, prog_5_method_22_code, 4, none, [], 3, 3, 0),
  (⟨"CacheLadderModel", "isWatched", "(I)Z"⟩, prog_5_method_21_code, 4, some .boolean, [], 3, 3, 0),
  (⟨"CacheLadderModel", "goDown", "(III[II)V"⟩, prog_5_method_19_code, 7, none, [], 3, 3, 0),
  (⟨"CacheLadderModel", "bitsOf", "(I)I"⟩, prog_5_method_4_code, 1, some .int, [], 3, 99, 0),
  (⟨"CacheLadderModel", "stepLeave", "(I)V"⟩, prog_5_method_25_code, 5, none, [], 3, 3, 0),
  (⟨"CacheLadderModel", "gather", "(II)V"⟩, prog_5_method_24_code, 7, none, [], 3, 3, 0),
  (⟨"CacheLadderModel", "write", "(II)V"⟩, prog_5_method_30_code, 3, none, [], 3, 3, 0),
  (⟨"CacheLadderModel", "writeWord", "(II)V"⟩, prog_5_method_28_code, 3, none, [], 3, 3, 0),
  (⟨"CacheLadderModel", "fill", "(IIII)V"⟩, prog_5_method_31_code, 8, none, [], 3, 3, 0),
  (⟨"CacheLadderModel", "run", "(III)I"⟩, prog_5_method_32_code, 8, some .int, [], 3, 3, 0),
  (⟨"CacheLadderModel", "peek", "(I)I"⟩, prog_5_method_34_code, 2, some .int, [], 3, 3, 0),
  (⟨"CacheLadderModel", "newest", "(I)I"⟩, prog_5_method_33_code, 5, some .int, [], 3, 3, 0),
  (⟨"CacheLadderModel", "stored", "(I)I"⟩, prog_5_method_35_code, 2, some .int, [], 3, 3, 0),
  (⟨"CacheLadderModel", "flush", "(I)I"⟩, prog_5_method_38_code, 4, some .int, [], 3, 3, 0),
  (⟨"CacheLadderModel", "isTier", "(I)Z"⟩, prog_5_method_36_code, 2, some .boolean, [], 3, 3, 0),
  (⟨"CacheLadderModel", "each", "(II)I"⟩, prog_5_method_37_code, 7, some .int, [], 3, 3, 0),
  (⟨"CacheLadderModel", "empty", "(I)I"⟩, prog_5_method_39_code, 2, some .int, [], 3, 3, 0),
  (⟨"CacheLadderModel", "crash", "()I"⟩, prog_5_method_40_code, 3, some .int, [], 3, 3, 0),
  (⟨"CacheLadderModel", "count", "(II)I"⟩, prog_5_method_41_code, 3, some .int, [], 3, 3, 0),
  (⟨"CacheLadderModel", "traffic", "(Z)I"⟩, prog_5_method_42_code, 2, some .int, [], 3, 3, 0),
  (⟨"CacheLadderModel", "line", "(III)I"⟩, prog_5_method_43_code, 4, some .int, [], 3, 3, 0),
  (⟨"CacheLadderModel", "way", "(II)I"⟩, prog_5_method_44_code, 4, some .int, [], 3, 3, 0),
  (⟨"CacheLadderModel", "dirty", "(II)I"⟩, prog_5_method_45_code, 4, some .int, [], 3, 3, 0),
  (⟨"CacheLadderModel", "next", "(II)I"⟩, prog_5_method_46_code, 3, some .int, [], 3, 3, 0),
  (⟨"CacheLadderModel", "tiers", "()I"⟩, prog_5_method_47_code, 1, some .int, [], 3, 3, 0),
  (⟨"CacheLadderModel", "astray", "()I"⟩, prog_5_method_48_code, 1, some .int, [], 3, 3, 0),
  (⟨"CacheLadderLaw", "tier", "(LCacheLadder;IIIIZ[J)I"⟩, method_3_code, 8, some .int, [(0, 16, 19, 13), (0, 16, 23, 15), (0, 16, 27, 17)], 4, 99, 1),
  (⟨"CacheLadderLaw", "read", "(LCacheLadder;I[J)I"⟩, method_4_code, 4, some .int, [(0, 9, 12, 23)], 4, 99, 1),
  (⟨"CacheLadderLaw", "write", "(LCacheLadder;II)I"⟩, method_5_code, 4, some .int, [(0, 6, 9, 23)], 4, 99, 1),
  (⟨"CacheLadderLaw", "fill", "(LCacheLadder;IIII)I"⟩, method_6_code, 6, some .int, [(0, 9, 12, 13), (0, 9, 16, 23)], 4, 99, 2),
  (⟨"CacheLadderLaw", "run", "(LCacheLadder;III[J)I"⟩, method_7_code, 6, some .int, [(0, 12, 15, 13)], 4, 99, 1),
  (⟨"CacheLadderLaw", "peek", "(LCacheLadder;I[J)I"⟩, method_8_code, 4, some .int, [(0, 9, 12, 23)], 4, 99, 1),
  (⟨"CacheLadderLaw", "stored", "(LCacheLadder;I[J)I"⟩, method_9_code, 4, some .int, [(0, 9, 12, 23)], 4, 99, 1),
  (⟨"CacheLadderLaw", "flush", "(LCacheLadder;I[J)I"⟩, method_10_code, 4, some .int, [(0, 9, 12, 23)], 4, 99, 1),
  (⟨"CacheLadderLaw", "empty", "(LCacheLadder;I[J)I"⟩, method_11_code, 4, some .int, [(0, 9, 12, 23)], 4, 99, 1),
  (⟨"CacheLadderLaw", "count", "(LCacheLadder;II[J)I"⟩, method_12_code, 5, some .int, [(0, 10, 13, 23), (0, 10, 17, 13)], 4, 99, 2),
  (⟨"CacheLadderLaw", "line", "(LCacheLadder;III[J)I"⟩, method_13_code, 6, some .int, [(0, 12, 15, 23)], 4, 99, 3),
  (⟨"CacheLadderLaw", "way", "(LCacheLadder;II[J)I"⟩, method_14_code, 5, some .int, [(0, 10, 13, 23)], 4, 99, 2),
  (⟨"CacheLadderLaw", "dirty", "(LCacheLadder;II[J)I"⟩, method_15_code, 5, some .int, [(0, 10, 13, 23)], 4, 99, 2),
  (⟨"CacheLadderLaw", "next", "(LCacheLadder;II[J)I"⟩, method_16_code, 5, some .int, [(0, 10, 13, 23)], 4, 99, 2),
  (⟨"CacheLadderLaw", "law", "([I)Z"⟩, code, 7, some .boolean, [], 4, 99, 600000)]
def am_row (m : Nat) : am_Row := am_tb.getD m (⟨"", "", ""⟩, ⟨#[]⟩, 0, none, [], 99, 99, 0)
def am_y (m : Nat) : MethodName := (am_row m).1
def am_b (m : Nat) : ByteArray := (am_row m).2.1
def am_mL (m : Nat) : Nat := (am_row m).2.2.1
def am_rt (m : Nat) : Option FieldType := (am_row m).2.2.2.1
def am_hh (m : Nat) : List (Nat × Nat × Nat × Nat) := (am_row m).2.2.2.2.1
def am_oc (m : Nat) : Nat := (am_row m).2.2.2.2.2.1
def am_rc (m : Nat) : Nat := (am_row m).2.2.2.2.2.2.1
def am_bud (m : Nat) : Nat := (am_row m).2.2.2.2.2.2.2
def am_ra (m : Nat) : Bool := match am_rt m with
  | some (.object _) => true
  | _ => false
/-- a class's field references: the entry; the class, the field -/
def am_ft (oc : Nat) : List (Nat × Nat × Nat) := match oc with
  | 0 => [(9, 0, 0), (15, 0, 1), (19, 0, 2)]
  | 1 => [(50, 0, 1), (89, 0, 2), (80, 0, 3), (74, 0, 4), (77, 0, 5), (86, 0, 6), (15, 1, 0), (19, 1, 1), (22, 1, 2), (25, 1, 3), (28, 1, 4), (34, 1, 5), (39, 1, 6), (9, 1, 7), (96, 1, 8)]
  | 2 => [(9, 2, 0), (15, 2, 1), (19, 2, 2), (22, 2, 3), (38, 2, 4), (133, 2, 5), (130, 2, 6), (47, 2, 7), (94, 0, 0), (148, 0, 1), (160, 0, 2), (182, 1, 0), (139, 1, 1), (236, 1, 3), (220, 1, 4), (102, 1, 5), (127, 1, 7)]
  | 3 => [(83, 3, 0), (131, 3, 1), (177, 3, 2), (7, 3, 3), (13, 3, 4), (16, 3, 5), (19, 3, 6), (22, 3, 7), (26, 3, 8), (29, 3, 9), (32, 3, 10), (35, 3, 11), (38, 3, 12), (41, 3, 13), (44, 3, 14), (47, 3, 15), (50, 3, 16), (91, 3, 17), (53, 3, 18), (134, 3, 19), (154, 3, 20), (56, 3, 21), (59, 3, 22), (102, 3, 23), (62, 3, 24), (65, 3, 25), (68, 3, 26), (71, 3, 27), (74, 3, 28), (77, 3, 29), (80, 3, 30)]
  | _ => []
/-- a class's method references: the entry; the callee, how many values it takes, 0 static, 1 on an object -/
def am_mt (oc : Nat) : List (Nat × Nat × Nat × Nat) := match oc with
  | 1 => [(53, 3, 2, 1), (42, 4, 2, 1), (46, 5, 3, 1), (99, 0, 1, 1), (56, 1, 1, 1), (60, 9, 2, 1), (83, 10, 2, 1), (64, 11, 2, 1), (70, 12, 3, 1), (92, 13, 2, 1), (67, 16, 2, 1)]
  | 2 => [(90, 18, 2, 1), (157, 2, 2, 1), (118, 19, 2, 1), (122, 6, 1, 1), (106, 1, 1, 1), (169, 23, 3, 1), (248, 24, 3, 1), (154, 3, 2, 1), (25, 26, 1, 0), (173, 59, 1, 0), (59, 28, 1, 0), (63, 29, 2, 1), (78, 30, 1, 0), (189, 31, 4, 1), (199, 32, 4, 1), (207, 33, 3, 1), (214, 4, 2, 1), (163, 7, 2, 1), (217, 8, 2, 1), (114, 34, 3, 1), (223, 35, 3, 1), (229, 36, 4, 0), (226, 0, 1, 1), (110, 37, 3, 1), (233, 38, 5, 1), (81, 39, 5, 1), (239, 40, 5, 1), (242, 41, 5, 1), (245, 42, 2, 1), (203, 13, 2, 1), (210, 14, 3, 1), (67, 44, 3, 1), (99, 50, 2, 1), (136, 54, 3, 1), (144, 5, 3, 1), (151, 56, 3, 1), (166, 15, 2, 1)]
  | 3 => [(174, 62, 3, 0), (184, 64, 2, 1), (124, 65, 6, 1), (181, 66, 1, 1), (105, 67, 2, 1), (137, 68, 3, 1), (87, 69, 3, 1), (140, 70, 2, 1), (114, 71, 3, 1), (117, 72, 3, 1), (98, 73, 4, 1), (120, 74, 3, 1), (94, 75, 2, 1), (143, 76, 3, 1), (146, 77, 3, 1), (128, 78, 3, 1), (108, 79, 2, 1), (157, 80, 3, 1), (160, 81, 2, 1), (163, 82, 2, 1), (167, 83, 6, 1), (150, 84, 1, 0), (111, 85, 2, 1), (171, 86, 3, 1), (187, 88, 3, 1), (191, 92, 2, 1), (194, 95, 2, 1), (197, 96, 3, 1)]
  | 4 => [(107, 17, 1, 1), (115, 20, 2, 1), (132, 21, 1, 1), (136, 22, 1, 1), (69, 107, 7, 0), (7, 25, 6, 1), (79, 108, 3, 0), (19, 27, 2, 1), (83, 109, 3, 0), (25, 43, 3, 1), (87, 110, 5, 0), (29, 45, 5, 1), (91, 111, 5, 0), (33, 46, 4, 1), (95, 112, 3, 0), (37, 47, 2, 1), (98, 113, 3, 0), (40, 48, 2, 1), (101, 114, 3, 0), (43, 49, 2, 1), (104, 115, 3, 0), (46, 51, 2, 1), (111, 116, 4, 0), (49, 52, 3, 1), (120, 117, 5, 0), (53, 53, 4, 1), (123, 118, 4, 0), (56, 55, 3, 1), (126, 119, 4, 0), (59, 57, 3, 1), (129, 120, 4, 0), (62, 58, 3, 1), (75, 60, 1, 1), (74, 61, 6, 1), (82, 63, 2, 1), (86, 87, 3, 1), (90, 89, 5, 1), (94, 90, 4, 1), (97, 91, 2, 1), (100, 93, 2, 1), (103, 94, 2, 1), (106, 97, 2, 1), (110, 98, 1, 1), (114, 99, 3, 1), (119, 100, 2, 1), (122, 101, 4, 1), (125, 102, 3, 1), (128, 103, 3, 1), (131, 104, 3, 1), (135, 105, 1, 1), (139, 106, 1, 1)]
  | _ => []
/-- a class's int constants -/
def am_kt (oc : Nat) : List (Nat × Int32) := match oc with
  | 2 => [(89, 1103515245)]
  | 3 => [(190, 1103515245)]
  | 5 => [(265, 1431655765), (266, 858993459), (267, 252645135)]
  | _ => []
def am_fl (m idx : Nat) : Option (Nat × Nat) := ((am_ft (am_oc m)).find? (fun e => e.1 == idx)).map (fun e => e.2)
def am_ml (m idx : Nat) : Option (Nat × Nat × Nat) := ((am_mt (am_oc m)).find? (fun e => e.1 == idx)).map (fun e => e.2)
def am_kc (m idx : Nat) : Option Int32 := ((am_kt (am_oc m)).find? (fun e => e.1 == idx)).map (fun e => e.2)
def am_ac (m idx : Nat) : Bool := am_oc m == 2 && idx == 193
def am_xn (x : Nat) : String := match x with
  | 0 => "java/lang/IllegalArgumentException"
  | 1 => "java/lang/UnsupportedOperationException"
  | 2 => "java/lang/IllegalStateException"
  | _ => "java/lang/IndexOutOfBoundsException"
/-- where an exception is made: method, place; its class, the entries of class, text, constructor -/
def am_tt : List (Nat × Nat × Nat × Nat × Nat × Nat) := [(25, 17, 0, 29, 31, 33), (25, 47, 0, 29, 36, 33), (25, 65, 1, 42, 44, 46), (25, 82, 2, 51, 53, 55), (28, 11, 3, 73, 178, 77), (45, 5, 0, 29, 71, 33), (45, 28, 3, 73, 75, 77), (46, 11, 0, 29, 85, 33), (46, 33, 0, 29, 87, 33), (50, 12, 3, 73, 180, 77), (52, 15, 0, 29, 125, 33), (53, 23, 3, 73, 142, 77), (54, 22, 3, 73, 185, 77), (56, 16, 3, 73, 187, 77)]
def am_th (m pc : Nat) : Option Nat := (am_tt.find? (fun e => e.1 == m && e.2.1 == pc)).map (fun e => e.2.2.1)
/-- where an exception is caught: method, place of the call, class; the handler -/
def am_ht : List (Nat × Nat × Nat × Nat) := [(107, 11, 0, 19), (107, 11, 1, 23), (107, 11, 2, 27), (108, 4, 3, 12), (109, 3, 3, 9), (110, 6, 0, 12), (110, 6, 3, 16), (111, 7, 0, 15), (112, 4, 3, 12), (113, 4, 3, 12), (114, 4, 3, 12), (115, 4, 3, 12), (116, 5, 3, 13), (116, 5, 0, 17), (117, 7, 3, 15), (118, 5, 3, 13), (119, 5, 3, 13), (120, 5, 3, 13)]
def am_hd (m pc x : Nat) : Option (Option Nat) := if am_hh m = [] then some none else (am_ht.find? (fun e => e.1 == m && e.2.1 == pc && e.2.2.1 == x)).map (fun e => some e.2.2.2)
end
section
/-! the words: all good ones of the Statement's tables, and 'selects' of the private methods -/
def am_ws : List Cond := lw_tbl.filter goodWord
theorem am_ws_in {w : Cond} (h : w ∈ am_ws) : w ∈ lw_tbl := (List.mem_filter.mp h).1
theorem am_good (w : Cond) (h : w ∈ am_ws) : (w.onTables && w.keeps) = true ∨ ∃ ty, w = .arrayClass ty := good_of_word (List.mem_filter.mp h).2
theorem am_in1 {w : Cond} (i : Nat) (h : tables_1[i]? = some w) (hg : goodWord w = true) : w ∈ am_ws := List.mem_filter.mpr ⟨List.mem_append_right _ (List.mem_of_getElem? h), hg⟩
theorem am_in2 {w : Cond} {q : MethodName × Nat} (hq : q ∈ lw_privs) (h : w = Cond.selects q.1.cls q.1 q.1) (hg : goodWord w = true) : w ∈ am_ws := List.mem_filter.mpr ⟨List.mem_append_left _ (List.mem_map.mpr ⟨q, hq, h.symm⟩), hg⟩
theorem am_fk0 {ci j : Nat} (h : am_fk ci j = 0) : am_T ci j = .int := by
  unfold am_fk at h
  split at h
  · assumption
  · cases h
  · cases h
theorem am_fk1 {ci j : Nat} (h : am_fk ci j = 1) : am_T ci j = .boolean := by
  unfold am_fk at h
  split at h
  · cases h
  · assumption
  · cases h
theorem am_l_0_0 : u_lay (am_cn 0) (am_F 0) 0 ∈ am_ws := am_in1 256 (by decide +kernel) (by decide +kernel)
theorem am_l_0_1 : u_lay (am_cn 0) (am_F 0) 1 ∈ am_ws := am_in1 258 (by decide +kernel) (by decide +kernel)
theorem am_l_0_2 : u_lay (am_cn 0) (am_F 0) 2 ∈ am_ws := am_in1 260 (by decide +kernel) (by decide +kernel)
theorem am_l_0_3 : u_lay (am_cn 0) (am_F 0) 3 ∈ am_ws := am_in1 262 (by decide +kernel) (by decide +kernel)
theorem am_l_0_4 : u_lay (am_cn 0) (am_F 0) 4 ∈ am_ws := am_in1 264 (by decide +kernel) (by decide +kernel)
theorem am_l_0_5 : u_lay (am_cn 0) (am_F 0) 5 ∈ am_ws := am_in1 266 (by decide +kernel) (by decide +kernel)
theorem am_l_0_6 : u_lay (am_cn 0) (am_F 0) 6 ∈ am_ws := am_in1 268 (by decide +kernel) (by decide +kernel)
theorem am_u_0 : ∀ w ∈ u_ws (am_cn 0) (am_F 0) 7, w ∈ am_ws := by
  intro w hw
  obtain ⟨k, hk, rfl⟩ := List.mem_map.mp hw
  have hk := List.mem_range.mp hk
  match k, hk with
  | 0, _ => exact am_l_0_0
  | 1, _ => exact am_l_0_1
  | 2, _ => exact am_l_0_2
  | 3, _ => exact am_l_0_3
  | 4, _ => exact am_l_0_4
  | 5, _ => exact am_l_0_5
  | 6, _ => exact am_l_0_6
  | k + 7, hk => exact absurd hk (by omega)
theorem am_y_0 : ∀ k, k < 7 → parseFieldDescriptor (am_F 0 k).2.2.1 = some (am_T 0 k) := by decide +kernel
theorem am_n_0 : ∀ a, a < 7 → ∀ b, b < 7 → a ≠ b → (am_F 0 a).2.1 ≠ (am_F 0 b).2.1 := by decide +kernel
theorem am_l_1_0 : u_lay (am_cn 1) (am_F 1) 0 ∈ am_ws := am_in1 286 (by decide +kernel) (by decide +kernel)
theorem am_l_1_1 : u_lay (am_cn 1) (am_F 1) 1 ∈ am_ws := am_in1 288 (by decide +kernel) (by decide +kernel)
theorem am_l_1_2 : u_lay (am_cn 1) (am_F 1) 2 ∈ am_ws := am_in1 290 (by decide +kernel) (by decide +kernel)
theorem am_l_1_3 : u_lay (am_cn 1) (am_F 1) 3 ∈ am_ws := am_in1 292 (by decide +kernel) (by decide +kernel)
theorem am_l_1_4 : u_lay (am_cn 1) (am_F 1) 4 ∈ am_ws := am_in1 294 (by decide +kernel) (by decide +kernel)
theorem am_l_1_5 : u_lay (am_cn 1) (am_F 1) 5 ∈ am_ws := am_in1 296 (by decide +kernel) (by decide +kernel)
theorem am_l_1_6 : u_lay (am_cn 1) (am_F 1) 6 ∈ am_ws := am_in1 298 (by decide +kernel) (by decide +kernel)
theorem am_l_1_7 : u_lay (am_cn 1) (am_F 1) 7 ∈ am_ws := am_in1 300 (by decide +kernel) (by decide +kernel)
theorem am_l_1_8 : u_lay (am_cn 1) (am_F 1) 8 ∈ am_ws := am_in1 302 (by decide +kernel) (by decide +kernel)
theorem am_u_1 : ∀ w ∈ u_ws (am_cn 1) (am_F 1) 9, w ∈ am_ws := by
  intro w hw
  obtain ⟨k, hk, rfl⟩ := List.mem_map.mp hw
  have hk := List.mem_range.mp hk
  match k, hk with
  | 0, _ => exact am_l_1_0
  | 1, _ => exact am_l_1_1
  | 2, _ => exact am_l_1_2
  | 3, _ => exact am_l_1_3
  | 4, _ => exact am_l_1_4
  | 5, _ => exact am_l_1_5
  | 6, _ => exact am_l_1_6
  | 7, _ => exact am_l_1_7
  | 8, _ => exact am_l_1_8
  | k + 9, hk => exact absurd hk (by omega)
theorem am_y_1 : ∀ k, k < 9 → parseFieldDescriptor (am_F 1 k).2.2.1 = some (am_T 1 k) := by decide +kernel
theorem am_n_1 : ∀ a, a < 9 → ∀ b, b < 9 → a ≠ b → (am_F 1 a).2.1 ≠ (am_F 1 b).2.1 := by decide +kernel
theorem am_l_2_0 : u_lay (am_cn 2) (am_F 2) 0 ∈ am_ws := am_in1 32 (by decide +kernel) (by decide +kernel)
theorem am_l_2_1 : u_lay (am_cn 2) (am_F 2) 1 ∈ am_ws := am_in1 34 (by decide +kernel) (by decide +kernel)
theorem am_l_2_2 : u_lay (am_cn 2) (am_F 2) 2 ∈ am_ws := am_in1 36 (by decide +kernel) (by decide +kernel)
theorem am_l_2_3 : u_lay (am_cn 2) (am_F 2) 3 ∈ am_ws := am_in1 38 (by decide +kernel) (by decide +kernel)
theorem am_l_2_4 : u_lay (am_cn 2) (am_F 2) 4 ∈ am_ws := am_in1 40 (by decide +kernel) (by decide +kernel)
theorem am_l_2_5 : u_lay (am_cn 2) (am_F 2) 5 ∈ am_ws := am_in1 42 (by decide +kernel) (by decide +kernel)
theorem am_l_2_6 : u_lay (am_cn 2) (am_F 2) 6 ∈ am_ws := am_in1 44 (by decide +kernel) (by decide +kernel)
theorem am_l_2_7 : u_lay (am_cn 2) (am_F 2) 7 ∈ am_ws := am_in1 46 (by decide +kernel) (by decide +kernel)
theorem am_u_2 : ∀ w ∈ u_ws (am_cn 2) (am_F 2) 8, w ∈ am_ws := by
  intro w hw
  obtain ⟨k, hk, rfl⟩ := List.mem_map.mp hw
  have hk := List.mem_range.mp hk
  match k, hk with
  | 0, _ => exact am_l_2_0
  | 1, _ => exact am_l_2_1
  | 2, _ => exact am_l_2_2
  | 3, _ => exact am_l_2_3
  | 4, _ => exact am_l_2_4
  | 5, _ => exact am_l_2_5
  | 6, _ => exact am_l_2_6
  | 7, _ => exact am_l_2_7
  | k + 8, hk => exact absurd hk (by omega)
theorem am_y_2 : ∀ k, k < 8 → parseFieldDescriptor (am_F 2 k).2.2.1 = some (am_T 2 k) := by decide +kernel
theorem am_n_2 : ∀ a, a < 8 → ∀ b, b < 8 → a ≠ b → (am_F 2 a).2.1 ≠ (am_F 2 b).2.1 := by decide +kernel
theorem am_l_3_0 : u_lay (am_cn 3) (am_F 3) 0 ∈ am_ws := am_in1 581 (by decide +kernel) (by decide +kernel)
theorem am_l_3_1 : u_lay (am_cn 3) (am_F 3) 1 ∈ am_ws := am_in1 583 (by decide +kernel) (by decide +kernel)
theorem am_l_3_2 : u_lay (am_cn 3) (am_F 3) 2 ∈ am_ws := am_in1 585 (by decide +kernel) (by decide +kernel)
theorem am_l_3_3 : u_lay (am_cn 3) (am_F 3) 3 ∈ am_ws := am_in1 587 (by decide +kernel) (by decide +kernel)
theorem am_l_3_4 : u_lay (am_cn 3) (am_F 3) 4 ∈ am_ws := am_in1 589 (by decide +kernel) (by decide +kernel)
theorem am_l_3_5 : u_lay (am_cn 3) (am_F 3) 5 ∈ am_ws := am_in1 591 (by decide +kernel) (by decide +kernel)
theorem am_l_3_6 : u_lay (am_cn 3) (am_F 3) 6 ∈ am_ws := am_in1 593 (by decide +kernel) (by decide +kernel)
theorem am_l_3_7 : u_lay (am_cn 3) (am_F 3) 7 ∈ am_ws := am_in1 595 (by decide +kernel) (by decide +kernel)
theorem am_l_3_8 : u_lay (am_cn 3) (am_F 3) 8 ∈ am_ws := am_in1 597 (by decide +kernel) (by decide +kernel)
theorem am_l_3_9 : u_lay (am_cn 3) (am_F 3) 9 ∈ am_ws := am_in1 599 (by decide +kernel) (by decide +kernel)
theorem am_l_3_10 : u_lay (am_cn 3) (am_F 3) 10 ∈ am_ws := am_in1 601 (by decide +kernel) (by decide +kernel)
theorem am_l_3_11 : u_lay (am_cn 3) (am_F 3) 11 ∈ am_ws := am_in1 603 (by decide +kernel) (by decide +kernel)
theorem am_l_3_12 : u_lay (am_cn 3) (am_F 3) 12 ∈ am_ws := am_in1 605 (by decide +kernel) (by decide +kernel)
theorem am_l_3_13 : u_lay (am_cn 3) (am_F 3) 13 ∈ am_ws := am_in1 607 (by decide +kernel) (by decide +kernel)
theorem am_l_3_14 : u_lay (am_cn 3) (am_F 3) 14 ∈ am_ws := am_in1 609 (by decide +kernel) (by decide +kernel)
theorem am_l_3_15 : u_lay (am_cn 3) (am_F 3) 15 ∈ am_ws := am_in1 611 (by decide +kernel) (by decide +kernel)
theorem am_l_3_16 : u_lay (am_cn 3) (am_F 3) 16 ∈ am_ws := am_in1 613 (by decide +kernel) (by decide +kernel)
theorem am_l_3_17 : u_lay (am_cn 3) (am_F 3) 17 ∈ am_ws := am_in1 615 (by decide +kernel) (by decide +kernel)
theorem am_l_3_18 : u_lay (am_cn 3) (am_F 3) 18 ∈ am_ws := am_in1 617 (by decide +kernel) (by decide +kernel)
theorem am_l_3_19 : u_lay (am_cn 3) (am_F 3) 19 ∈ am_ws := am_in1 619 (by decide +kernel) (by decide +kernel)
theorem am_l_3_20 : u_lay (am_cn 3) (am_F 3) 20 ∈ am_ws := am_in1 621 (by decide +kernel) (by decide +kernel)
theorem am_l_3_21 : u_lay (am_cn 3) (am_F 3) 21 ∈ am_ws := am_in1 623 (by decide +kernel) (by decide +kernel)
theorem am_l_3_22 : u_lay (am_cn 3) (am_F 3) 22 ∈ am_ws := am_in1 625 (by decide +kernel) (by decide +kernel)
theorem am_l_3_23 : u_lay (am_cn 3) (am_F 3) 23 ∈ am_ws := am_in1 627 (by decide +kernel) (by decide +kernel)
theorem am_l_3_24 : u_lay (am_cn 3) (am_F 3) 24 ∈ am_ws := am_in1 629 (by decide +kernel) (by decide +kernel)
theorem am_l_3_25 : u_lay (am_cn 3) (am_F 3) 25 ∈ am_ws := am_in1 631 (by decide +kernel) (by decide +kernel)
theorem am_l_3_26 : u_lay (am_cn 3) (am_F 3) 26 ∈ am_ws := am_in1 633 (by decide +kernel) (by decide +kernel)
theorem am_l_3_27 : u_lay (am_cn 3) (am_F 3) 27 ∈ am_ws := am_in1 635 (by decide +kernel) (by decide +kernel)
theorem am_l_3_28 : u_lay (am_cn 3) (am_F 3) 28 ∈ am_ws := am_in1 637 (by decide +kernel) (by decide +kernel)
theorem am_l_3_29 : u_lay (am_cn 3) (am_F 3) 29 ∈ am_ws := am_in1 639 (by decide +kernel) (by decide +kernel)
theorem am_l_3_30 : u_lay (am_cn 3) (am_F 3) 30 ∈ am_ws := am_in1 641 (by decide +kernel) (by decide +kernel)
theorem am_u_3 : ∀ w ∈ u_ws (am_cn 3) (am_F 3) 31, w ∈ am_ws := by
  intro w hw
  obtain ⟨k, hk, rfl⟩ := List.mem_map.mp hw
  have hk := List.mem_range.mp hk
  match k, hk with
  | 0, _ => exact am_l_3_0
  | 1, _ => exact am_l_3_1
  | 2, _ => exact am_l_3_2
  | 3, _ => exact am_l_3_3
  | 4, _ => exact am_l_3_4
  | 5, _ => exact am_l_3_5
  | 6, _ => exact am_l_3_6
  | 7, _ => exact am_l_3_7
  | 8, _ => exact am_l_3_8
  | 9, _ => exact am_l_3_9
  | 10, _ => exact am_l_3_10
  | 11, _ => exact am_l_3_11
  | 12, _ => exact am_l_3_12
  | 13, _ => exact am_l_3_13
  | 14, _ => exact am_l_3_14
  | 15, _ => exact am_l_3_15
  | 16, _ => exact am_l_3_16
  | 17, _ => exact am_l_3_17
  | 18, _ => exact am_l_3_18
  | 19, _ => exact am_l_3_19
  | 20, _ => exact am_l_3_20
  | 21, _ => exact am_l_3_21
  | 22, _ => exact am_l_3_22
  | 23, _ => exact am_l_3_23
  | 24, _ => exact am_l_3_24
  | 25, _ => exact am_l_3_25
  | 26, _ => exact am_l_3_26
  | 27, _ => exact am_l_3_27
  | 28, _ => exact am_l_3_28
  | 29, _ => exact am_l_3_29
  | 30, _ => exact am_l_3_30
  | k + 31, hk => exact absurd hk (by omega)
theorem am_y_3 : ∀ k, k < 31 → parseFieldDescriptor (am_F 3 k).2.2.1 = some (am_T 3 k) := by decide +kernel
theorem am_n_3 : ∀ a, a < 31 → ∀ b, b < 31 → a ≠ b → (am_F 3 a).2.1 ≠ (am_F 3 b).2.1 := by decide +kernel
def am_FP (m idx ci j : Nat) : Prop := ∃ (C : String) (T : u_T) (N : Nat) (ty0 : Nat → FieldType), am_cl[ci]? = some (C, T, N) ∧ N = am_nf ci ∧ j < N ∧ (∀ w ∈ u_ws C T N, w ∈ am_ws) ∧ (Cond.fieldLink (am_y m).cls idx (T j).1 (T j).2.1 (T j).2.2.1 ∈ am_ws) ∧ (∀ k, k < N → parseFieldDescriptor (T k).2.2.1 = some (ty0 k)) ∧ (∀ a, a < N → ∀ b, b < N → a ≠ b → (T a).2.1 ≠ (T b).2.1) ∧ (am_wr ci j = true → (T j).2.2.2 = false) ∧ (am_fk ci j = 0 → ty0 j = .int) ∧ (am_fk ci j = 1 → ty0 j = .boolean)
theorem am_FPo {m idx ci j oc : Nat} (hm : (am_y m).cls = am_cn oc) (h4 : ci < 4) (hj : j < am_nf ci) (hl : Cond.fieldLink (am_cn oc) idx (am_F ci j).1 (am_F ci j).2.1 (am_F ci j).2.2.1 ∈ am_ws) : am_FP m idx ci j := by
  have hw : am_wr ci j = true → (am_F ci j).2.2.2 = false := fun h => by simpa [am_wr] using h
  rw [← hm] at hl
  rcases (show ci = 0 ∨ ci = 1 ∨ ci = 2 ∨ ci = 3 by omega) with rfl | rfl | rfl | rfl
  · exact ⟨_, _, _, _, rfl, rfl, hj, am_u_0, hl, am_y_0, am_n_0, hw, am_fk0, am_fk1⟩
  · exact ⟨_, _, _, _, rfl, rfl, hj, am_u_1, hl, am_y_1, am_n_1, hw, am_fk0, am_fk1⟩
  · exact ⟨_, _, _, _, rfl, rfl, hj, am_u_2, hl, am_y_2, am_n_2, hw, am_fk0, am_fk1⟩
  · exact ⟨_, _, _, _, rfl, rfl, hj, am_u_3, hl, am_y_3, am_n_3, hw, am_fk0, am_fk1⟩
theorem am_oc_ok : ∀ m, m < 122 → (am_y m).cls = am_cn (am_oc m) := by decide +kernel
theorem am_row_out {m : Nat} (h : 122 ≤ m) : am_row m = (⟨"", "", ""⟩, ⟨#[]⟩, 0, none, [], 99, 99, 0) := by
  unfold am_row
  have h1 : am_tb[m]? = none := List.getElem?_eq_none (Nat.le_trans (show am_tb.length ≤ 122 by decide +kernel) h)
  rw [List.getD_eq_getElem?_getD, h1]
  rfl
theorem am_find_mem {α : Type} {l : List (Nat × α)} {i : Nat} {v : α} (h : (l.find? (fun e => e.1 == i)).map (fun e => e.2) = some v) : (i, v) ∈ l := by
  cases hf : l.find? (fun e => e.1 == i) with
  | none => rw [hf] at h; cases h
  | some e =>
    rw [hf] at h
    have h1 := List.find?_some hf
    have h2 := List.mem_of_find?_eq_some hf
    cases h
    have h3 : e.1 = i := by simpa using h1
    rw [← h3]
    exact h2
theorem am_f_2_9 : Cond.fieldLink (am_cn 2) 9 (am_F 2 0).1 (am_F 2 0).2.1 (am_F 2 0).2.2.1 ∈ am_ws := am_in1 24 (by decide +kernel) (by decide +kernel)
theorem am_f_2_15 : Cond.fieldLink (am_cn 2) 15 (am_F 2 1).1 (am_F 2 1).2.1 (am_F 2 1).2.2.1 ∈ am_ws := am_in1 25 (by decide +kernel) (by decide +kernel)
theorem am_f_2_19 : Cond.fieldLink (am_cn 2) 19 (am_F 2 2).1 (am_F 2 2).2.1 (am_F 2 2).2.2.1 ∈ am_ws := am_in1 26 (by decide +kernel) (by decide +kernel)
theorem am_f_2_22 : Cond.fieldLink (am_cn 2) 22 (am_F 2 3).1 (am_F 2 3).2.1 (am_F 2 3).2.2.1 ∈ am_ws := am_in1 27 (by decide +kernel) (by decide +kernel)
theorem am_f_2_38 : Cond.fieldLink (am_cn 2) 38 (am_F 2 4).1 (am_F 2 4).2.1 (am_F 2 4).2.2.1 ∈ am_ws := am_in1 28 (by decide +kernel) (by decide +kernel)
theorem am_f_2_133 : Cond.fieldLink (am_cn 2) 133 (am_F 2 5).1 (am_F 2 5).2.1 (am_F 2 5).2.2.1 ∈ am_ws := am_in1 29 (by decide +kernel) (by decide +kernel)
theorem am_f_2_130 : Cond.fieldLink (am_cn 2) 130 (am_F 2 6).1 (am_F 2 6).2.1 (am_F 2 6).2.2.1 ∈ am_ws := am_in1 30 (by decide +kernel) (by decide +kernel)
theorem am_f_2_47 : Cond.fieldLink (am_cn 2) 47 (am_F 2 7).1 (am_F 2 7).2.1 (am_F 2 7).2.2.1 ∈ am_ws := am_in1 31 (by decide +kernel) (by decide +kernel)
theorem am_f_0_9 : Cond.fieldLink (am_cn 0) 9 (am_F 0 0).1 (am_F 0 0).2.1 (am_F 0 0).2.2.1 ∈ am_ws := am_in1 244 (by decide +kernel) (by decide +kernel)
theorem am_f_2_94 : Cond.fieldLink (am_cn 2) 94 (am_F 0 0).1 (am_F 0 0).2.1 (am_F 0 0).2.2.1 ∈ am_ws := am_in1 245 (by decide +kernel) (by decide +kernel)
theorem am_f_0_15 : Cond.fieldLink (am_cn 0) 15 (am_F 0 1).1 (am_F 0 1).2.1 (am_F 0 1).2.2.1 ∈ am_ws := am_in1 246 (by decide +kernel) (by decide +kernel)
theorem am_f_1_50 : Cond.fieldLink (am_cn 1) 50 (am_F 0 1).1 (am_F 0 1).2.1 (am_F 0 1).2.2.1 ∈ am_ws := am_in1 247 (by decide +kernel) (by decide +kernel)
theorem am_f_2_148 : Cond.fieldLink (am_cn 2) 148 (am_F 0 1).1 (am_F 0 1).2.1 (am_F 0 1).2.2.1 ∈ am_ws := am_in1 248 (by decide +kernel) (by decide +kernel)
theorem am_f_0_19 : Cond.fieldLink (am_cn 0) 19 (am_F 0 2).1 (am_F 0 2).2.1 (am_F 0 2).2.2.1 ∈ am_ws := am_in1 249 (by decide +kernel) (by decide +kernel)
theorem am_f_1_89 : Cond.fieldLink (am_cn 1) 89 (am_F 0 2).1 (am_F 0 2).2.1 (am_F 0 2).2.2.1 ∈ am_ws := am_in1 250 (by decide +kernel) (by decide +kernel)
theorem am_f_2_160 : Cond.fieldLink (am_cn 2) 160 (am_F 0 2).1 (am_F 0 2).2.1 (am_F 0 2).2.2.1 ∈ am_ws := am_in1 251 (by decide +kernel) (by decide +kernel)
theorem am_f_1_80 : Cond.fieldLink (am_cn 1) 80 (am_F 0 3).1 (am_F 0 3).2.1 (am_F 0 3).2.2.1 ∈ am_ws := am_in1 252 (by decide +kernel) (by decide +kernel)
theorem am_f_1_74 : Cond.fieldLink (am_cn 1) 74 (am_F 0 4).1 (am_F 0 4).2.1 (am_F 0 4).2.2.1 ∈ am_ws := am_in1 253 (by decide +kernel) (by decide +kernel)
theorem am_f_1_77 : Cond.fieldLink (am_cn 1) 77 (am_F 0 5).1 (am_F 0 5).2.1 (am_F 0 5).2.2.1 ∈ am_ws := am_in1 254 (by decide +kernel) (by decide +kernel)
theorem am_f_1_86 : Cond.fieldLink (am_cn 1) 86 (am_F 0 6).1 (am_F 0 6).2.1 (am_F 0 6).2.2.1 ∈ am_ws := am_in1 255 (by decide +kernel) (by decide +kernel)
theorem am_f_1_15 : Cond.fieldLink (am_cn 1) 15 (am_F 1 0).1 (am_F 1 0).2.1 (am_F 1 0).2.2.1 ∈ am_ws := am_in1 271 (by decide +kernel) (by decide +kernel)
theorem am_f_2_182 : Cond.fieldLink (am_cn 2) 182 (am_F 1 0).1 (am_F 1 0).2.1 (am_F 1 0).2.2.1 ∈ am_ws := am_in1 272 (by decide +kernel) (by decide +kernel)
theorem am_f_1_19 : Cond.fieldLink (am_cn 1) 19 (am_F 1 1).1 (am_F 1 1).2.1 (am_F 1 1).2.2.1 ∈ am_ws := am_in1 273 (by decide +kernel) (by decide +kernel)
theorem am_f_2_139 : Cond.fieldLink (am_cn 2) 139 (am_F 1 1).1 (am_F 1 1).2.1 (am_F 1 1).2.2.1 ∈ am_ws := am_in1 274 (by decide +kernel) (by decide +kernel)
theorem am_f_1_22 : Cond.fieldLink (am_cn 1) 22 (am_F 1 2).1 (am_F 1 2).2.1 (am_F 1 2).2.2.1 ∈ am_ws := am_in1 275 (by decide +kernel) (by decide +kernel)
theorem am_f_1_25 : Cond.fieldLink (am_cn 1) 25 (am_F 1 3).1 (am_F 1 3).2.1 (am_F 1 3).2.2.1 ∈ am_ws := am_in1 276 (by decide +kernel) (by decide +kernel)
theorem am_f_2_236 : Cond.fieldLink (am_cn 2) 236 (am_F 1 3).1 (am_F 1 3).2.1 (am_F 1 3).2.2.1 ∈ am_ws := am_in1 277 (by decide +kernel) (by decide +kernel)
theorem am_f_1_28 : Cond.fieldLink (am_cn 1) 28 (am_F 1 4).1 (am_F 1 4).2.1 (am_F 1 4).2.2.1 ∈ am_ws := am_in1 278 (by decide +kernel) (by decide +kernel)
theorem am_f_2_220 : Cond.fieldLink (am_cn 2) 220 (am_F 1 4).1 (am_F 1 4).2.1 (am_F 1 4).2.2.1 ∈ am_ws := am_in1 279 (by decide +kernel) (by decide +kernel)
theorem am_f_1_34 : Cond.fieldLink (am_cn 1) 34 (am_F 1 5).1 (am_F 1 5).2.1 (am_F 1 5).2.2.1 ∈ am_ws := am_in1 280 (by decide +kernel) (by decide +kernel)
theorem am_f_2_102 : Cond.fieldLink (am_cn 2) 102 (am_F 1 5).1 (am_F 1 5).2.1 (am_F 1 5).2.2.1 ∈ am_ws := am_in1 281 (by decide +kernel) (by decide +kernel)
theorem am_f_1_39 : Cond.fieldLink (am_cn 1) 39 (am_F 1 6).1 (am_F 1 6).2.1 (am_F 1 6).2.2.1 ∈ am_ws := am_in1 282 (by decide +kernel) (by decide +kernel)
theorem am_f_1_9 : Cond.fieldLink (am_cn 1) 9 (am_F 1 7).1 (am_F 1 7).2.1 (am_F 1 7).2.2.1 ∈ am_ws := am_in1 283 (by decide +kernel) (by decide +kernel)
theorem am_f_2_127 : Cond.fieldLink (am_cn 2) 127 (am_F 1 7).1 (am_F 1 7).2.1 (am_F 1 7).2.2.1 ∈ am_ws := am_in1 284 (by decide +kernel) (by decide +kernel)
theorem am_f_1_96 : Cond.fieldLink (am_cn 1) 96 (am_F 1 8).1 (am_F 1 8).2.1 (am_F 1 8).2.2.1 ∈ am_ws := am_in1 285 (by decide +kernel) (by decide +kernel)
theorem am_f_3_83 : Cond.fieldLink (am_cn 3) 83 (am_F 3 0).1 (am_F 3 0).2.1 (am_F 3 0).2.2.1 ∈ am_ws := am_in1 550 (by decide +kernel) (by decide +kernel)
theorem am_f_3_131 : Cond.fieldLink (am_cn 3) 131 (am_F 3 1).1 (am_F 3 1).2.1 (am_F 3 1).2.2.1 ∈ am_ws := am_in1 551 (by decide +kernel) (by decide +kernel)
theorem am_f_3_177 : Cond.fieldLink (am_cn 3) 177 (am_F 3 2).1 (am_F 3 2).2.1 (am_F 3 2).2.2.1 ∈ am_ws := am_in1 552 (by decide +kernel) (by decide +kernel)
theorem am_f_3_7 : Cond.fieldLink (am_cn 3) 7 (am_F 3 3).1 (am_F 3 3).2.1 (am_F 3 3).2.2.1 ∈ am_ws := am_in1 553 (by decide +kernel) (by decide +kernel)
theorem am_f_3_13 : Cond.fieldLink (am_cn 3) 13 (am_F 3 4).1 (am_F 3 4).2.1 (am_F 3 4).2.2.1 ∈ am_ws := am_in1 554 (by decide +kernel) (by decide +kernel)
theorem am_f_3_16 : Cond.fieldLink (am_cn 3) 16 (am_F 3 5).1 (am_F 3 5).2.1 (am_F 3 5).2.2.1 ∈ am_ws := am_in1 555 (by decide +kernel) (by decide +kernel)
theorem am_f_3_19 : Cond.fieldLink (am_cn 3) 19 (am_F 3 6).1 (am_F 3 6).2.1 (am_F 3 6).2.2.1 ∈ am_ws := am_in1 556 (by decide +kernel) (by decide +kernel)
theorem am_f_3_22 : Cond.fieldLink (am_cn 3) 22 (am_F 3 7).1 (am_F 3 7).2.1 (am_F 3 7).2.2.1 ∈ am_ws := am_in1 557 (by decide +kernel) (by decide +kernel)
theorem am_f_3_26 : Cond.fieldLink (am_cn 3) 26 (am_F 3 8).1 (am_F 3 8).2.1 (am_F 3 8).2.2.1 ∈ am_ws := am_in1 558 (by decide +kernel) (by decide +kernel)
theorem am_f_3_29 : Cond.fieldLink (am_cn 3) 29 (am_F 3 9).1 (am_F 3 9).2.1 (am_F 3 9).2.2.1 ∈ am_ws := am_in1 559 (by decide +kernel) (by decide +kernel)
theorem am_f_3_32 : Cond.fieldLink (am_cn 3) 32 (am_F 3 10).1 (am_F 3 10).2.1 (am_F 3 10).2.2.1 ∈ am_ws := am_in1 560 (by decide +kernel) (by decide +kernel)
theorem am_f_3_35 : Cond.fieldLink (am_cn 3) 35 (am_F 3 11).1 (am_F 3 11).2.1 (am_F 3 11).2.2.1 ∈ am_ws := am_in1 561 (by decide +kernel) (by decide +kernel)
theorem am_f_3_38 : Cond.fieldLink (am_cn 3) 38 (am_F 3 12).1 (am_F 3 12).2.1 (am_F 3 12).2.2.1 ∈ am_ws := am_in1 562 (by decide +kernel) (by decide +kernel)
theorem am_f_3_41 : Cond.fieldLink (am_cn 3) 41 (am_F 3 13).1 (am_F 3 13).2.1 (am_F 3 13).2.2.1 ∈ am_ws := am_in1 563 (by decide +kernel) (by decide +kernel)
theorem am_f_3_44 : Cond.fieldLink (am_cn 3) 44 (am_F 3 14).1 (am_F 3 14).2.1 (am_F 3 14).2.2.1 ∈ am_ws := am_in1 564 (by decide +kernel) (by decide +kernel)
theorem am_f_3_47 : Cond.fieldLink (am_cn 3) 47 (am_F 3 15).1 (am_F 3 15).2.1 (am_F 3 15).2.2.1 ∈ am_ws := am_in1 565 (by decide +kernel) (by decide +kernel)
theorem am_f_3_50 : Cond.fieldLink (am_cn 3) 50 (am_F 3 16).1 (am_F 3 16).2.1 (am_F 3 16).2.2.1 ∈ am_ws := am_in1 566 (by decide +kernel) (by decide +kernel)
theorem am_f_3_91 : Cond.fieldLink (am_cn 3) 91 (am_F 3 17).1 (am_F 3 17).2.1 (am_F 3 17).2.2.1 ∈ am_ws := am_in1 567 (by decide +kernel) (by decide +kernel)
theorem am_f_3_53 : Cond.fieldLink (am_cn 3) 53 (am_F 3 18).1 (am_F 3 18).2.1 (am_F 3 18).2.2.1 ∈ am_ws := am_in1 568 (by decide +kernel) (by decide +kernel)
theorem am_f_3_134 : Cond.fieldLink (am_cn 3) 134 (am_F 3 19).1 (am_F 3 19).2.1 (am_F 3 19).2.2.1 ∈ am_ws := am_in1 569 (by decide +kernel) (by decide +kernel)
theorem am_f_3_154 : Cond.fieldLink (am_cn 3) 154 (am_F 3 20).1 (am_F 3 20).2.1 (am_F 3 20).2.2.1 ∈ am_ws := am_in1 570 (by decide +kernel) (by decide +kernel)
theorem am_f_3_56 : Cond.fieldLink (am_cn 3) 56 (am_F 3 21).1 (am_F 3 21).2.1 (am_F 3 21).2.2.1 ∈ am_ws := am_in1 571 (by decide +kernel) (by decide +kernel)
theorem am_f_3_59 : Cond.fieldLink (am_cn 3) 59 (am_F 3 22).1 (am_F 3 22).2.1 (am_F 3 22).2.2.1 ∈ am_ws := am_in1 572 (by decide +kernel) (by decide +kernel)
theorem am_f_3_102 : Cond.fieldLink (am_cn 3) 102 (am_F 3 23).1 (am_F 3 23).2.1 (am_F 3 23).2.2.1 ∈ am_ws := am_in1 573 (by decide +kernel) (by decide +kernel)
theorem am_f_3_62 : Cond.fieldLink (am_cn 3) 62 (am_F 3 24).1 (am_F 3 24).2.1 (am_F 3 24).2.2.1 ∈ am_ws := am_in1 574 (by decide +kernel) (by decide +kernel)
theorem am_f_3_65 : Cond.fieldLink (am_cn 3) 65 (am_F 3 25).1 (am_F 3 25).2.1 (am_F 3 25).2.2.1 ∈ am_ws := am_in1 575 (by decide +kernel) (by decide +kernel)
theorem am_f_3_68 : Cond.fieldLink (am_cn 3) 68 (am_F 3 26).1 (am_F 3 26).2.1 (am_F 3 26).2.2.1 ∈ am_ws := am_in1 576 (by decide +kernel) (by decide +kernel)
theorem am_f_3_71 : Cond.fieldLink (am_cn 3) 71 (am_F 3 27).1 (am_F 3 27).2.1 (am_F 3 27).2.2.1 ∈ am_ws := am_in1 577 (by decide +kernel) (by decide +kernel)
theorem am_f_3_74 : Cond.fieldLink (am_cn 3) 74 (am_F 3 28).1 (am_F 3 28).2.1 (am_F 3 28).2.2.1 ∈ am_ws := am_in1 578 (by decide +kernel) (by decide +kernel)
theorem am_f_3_77 : Cond.fieldLink (am_cn 3) 77 (am_F 3 29).1 (am_F 3 29).2.1 (am_F 3 29).2.2.1 ∈ am_ws := am_in1 579 (by decide +kernel) (by decide +kernel)
theorem am_f_3_80 : Cond.fieldLink (am_cn 3) 80 (am_F 3 30).1 (am_F 3 30).2.1 (am_F 3 30).2.2.1 ∈ am_ws := am_in1 580 (by decide +kernel) (by decide +kernel)
theorem am_fact_f {m idx ci j : Nat} (h : am_fl m idx = some (ci, j)) : am_FP m idx ci j := by
  have hm : m < 122 := by
    rcases Nat.lt_or_ge m 122 with hm | hm
    · exact hm
    · have : am_oc m = 99 := by unfold am_oc; rw [am_row_out hm]
      unfold am_fl at h
      rw [this] at h
      cases h
  have hc := am_oc_ok m hm
  have h1 := am_find_mem h
  revert hc h1
  generalize am_oc m = oc
  intro hc h1
  match oc, h1 with
  | 0, h1 =>
    simp only [am_ft, List.mem_cons, List.not_mem_nil, or_false, Prod.mk.injEq] at h1
    rcases h1 with ⟨rfl, rfl, rfl⟩ | ⟨rfl, rfl, rfl⟩ | ⟨rfl, rfl, rfl⟩
    · exact am_FPo hc (by decide) (by decide) am_f_0_9
    · exact am_FPo hc (by decide) (by decide) am_f_0_15
    · exact am_FPo hc (by decide) (by decide) am_f_0_19
  | 1, h1 =>
    simp only [am_ft, List.mem_cons, List.not_mem_nil, or_false, Prod.mk.injEq] at h1
    rcases h1 with ⟨rfl, rfl, rfl⟩ | ⟨rfl, rfl, rfl⟩ | ⟨rfl, rfl, rfl⟩ | ⟨rfl, rfl, rfl⟩ | ⟨rfl, rfl, rfl⟩ | ⟨rfl, rfl, rfl⟩ | ⟨rfl, rfl, rfl⟩ | ⟨rfl, rfl, rfl⟩ | ⟨rfl, rfl, rfl⟩ | ⟨rfl, rfl, rfl⟩ | ⟨rfl, rfl, rfl⟩ | ⟨rfl, rfl, rfl⟩ | ⟨rfl, rfl, rfl⟩ | ⟨rfl, rfl, rfl⟩ | ⟨rfl, rfl, rfl⟩
    · exact am_FPo hc (by decide) (by decide) am_f_1_50
    · exact am_FPo hc (by decide) (by decide) am_f_1_89
    · exact am_FPo hc (by decide) (by decide) am_f_1_80
    · exact am_FPo hc (by decide) (by decide) am_f_1_74
    · exact am_FPo hc (by decide) (by decide) am_f_1_77
    · exact am_FPo hc (by decide) (by decide) am_f_1_86
    · exact am_FPo hc (by decide) (by decide) am_f_1_15
    · exact am_FPo hc (by decide) (by decide) am_f_1_19
    · exact am_FPo hc (by decide) (by decide) am_f_1_22
    · exact am_FPo hc (by decide) (by decide) am_f_1_25
    · exact am_FPo hc (by decide) (by decide) am_f_1_28
    · exact am_FPo hc (by decide) (by decide) am_f_1_34
    · exact am_FPo hc (by decide) (by decide) am_f_1_39
    · exact am_FPo hc (by decide) (by decide) am_f_1_9
    · exact am_FPo hc (by decide) (by decide) am_f_1_96
  | 2, h1 =>
    simp only [am_ft, List.mem_cons, List.not_mem_nil, or_false, Prod.mk.injEq] at h1
    rcases h1 with ⟨rfl, rfl, rfl⟩ | ⟨rfl, rfl, rfl⟩ | ⟨rfl, rfl, rfl⟩ | ⟨rfl, rfl, rfl⟩ | ⟨rfl, rfl, rfl⟩ | ⟨rfl, rfl, rfl⟩ | ⟨rfl, rfl, rfl⟩ | ⟨rfl, rfl, rfl⟩ | ⟨rfl, rfl, rfl⟩ | ⟨rfl, rfl, rfl⟩ | ⟨rfl, rfl, rfl⟩ | ⟨rfl, rfl, rfl⟩ | ⟨rfl, rfl, rfl⟩ | ⟨rfl, rfl, rfl⟩ | ⟨rfl, rfl, rfl⟩ | ⟨rfl, rfl, rfl⟩ | ⟨rfl, rfl, rfl⟩
    · exact am_FPo hc (by decide) (by decide) am_f_2_9
    · exact am_FPo hc (by decide) (by decide) am_f_2_15
    · exact am_FPo hc (by decide) (by decide) am_f_2_19
    · exact am_FPo hc (by decide) (by decide) am_f_2_22
    · exact am_FPo hc (by decide) (by decide) am_f_2_38
    · exact am_FPo hc (by decide) (by decide) am_f_2_133
    · exact am_FPo hc (by decide) (by decide) am_f_2_130
    · exact am_FPo hc (by decide) (by decide) am_f_2_47
    · exact am_FPo hc (by decide) (by decide) am_f_2_94
    · exact am_FPo hc (by decide) (by decide) am_f_2_148
    · exact am_FPo hc (by decide) (by decide) am_f_2_160
    · exact am_FPo hc (by decide) (by decide) am_f_2_182
    · exact am_FPo hc (by decide) (by decide) am_f_2_139
    · exact am_FPo hc (by decide) (by decide) am_f_2_236
    · exact am_FPo hc (by decide) (by decide) am_f_2_220
    · exact am_FPo hc (by decide) (by decide) am_f_2_102
    · exact am_FPo hc (by decide) (by decide) am_f_2_127
  | 3, h1 =>
    simp only [am_ft, List.mem_cons, List.not_mem_nil, or_false, Prod.mk.injEq] at h1
    rcases h1 with ⟨rfl, rfl, rfl⟩ | ⟨rfl, rfl, rfl⟩ | ⟨rfl, rfl, rfl⟩ | ⟨rfl, rfl, rfl⟩ | ⟨rfl, rfl, rfl⟩ | ⟨rfl, rfl, rfl⟩ | ⟨rfl, rfl, rfl⟩ | ⟨rfl, rfl, rfl⟩ | ⟨rfl, rfl, rfl⟩ | ⟨rfl, rfl, rfl⟩ | ⟨rfl, rfl, rfl⟩ | ⟨rfl, rfl, rfl⟩ | ⟨rfl, rfl, rfl⟩ | ⟨rfl, rfl, rfl⟩ | ⟨rfl, rfl, rfl⟩ | ⟨rfl, rfl, rfl⟩ | ⟨rfl, rfl, rfl⟩ | ⟨rfl, rfl, rfl⟩ | ⟨rfl, rfl, rfl⟩ | ⟨rfl, rfl, rfl⟩ | ⟨rfl, rfl, rfl⟩ | ⟨rfl, rfl, rfl⟩ | ⟨rfl, rfl, rfl⟩ | ⟨rfl, rfl, rfl⟩ | ⟨rfl, rfl, rfl⟩ | ⟨rfl, rfl, rfl⟩ | ⟨rfl, rfl, rfl⟩ | ⟨rfl, rfl, rfl⟩ | ⟨rfl, rfl, rfl⟩ | ⟨rfl, rfl, rfl⟩ | ⟨rfl, rfl, rfl⟩
    · exact am_FPo hc (by decide) (by decide) am_f_3_83
    · exact am_FPo hc (by decide) (by decide) am_f_3_131
    · exact am_FPo hc (by decide) (by decide) am_f_3_177
    · exact am_FPo hc (by decide) (by decide) am_f_3_7
    · exact am_FPo hc (by decide) (by decide) am_f_3_13
    · exact am_FPo hc (by decide) (by decide) am_f_3_16
    · exact am_FPo hc (by decide) (by decide) am_f_3_19
    · exact am_FPo hc (by decide) (by decide) am_f_3_22
    · exact am_FPo hc (by decide) (by decide) am_f_3_26
    · exact am_FPo hc (by decide) (by decide) am_f_3_29
    · exact am_FPo hc (by decide) (by decide) am_f_3_32
    · exact am_FPo hc (by decide) (by decide) am_f_3_35
    · exact am_FPo hc (by decide) (by decide) am_f_3_38
    · exact am_FPo hc (by decide) (by decide) am_f_3_41
    · exact am_FPo hc (by decide) (by decide) am_f_3_44
    · exact am_FPo hc (by decide) (by decide) am_f_3_47
    · exact am_FPo hc (by decide) (by decide) am_f_3_50
    · exact am_FPo hc (by decide) (by decide) am_f_3_91
    · exact am_FPo hc (by decide) (by decide) am_f_3_53
    · exact am_FPo hc (by decide) (by decide) am_f_3_134
    · exact am_FPo hc (by decide) (by decide) am_f_3_154
    · exact am_FPo hc (by decide) (by decide) am_f_3_56
    · exact am_FPo hc (by decide) (by decide) am_f_3_59
    · exact am_FPo hc (by decide) (by decide) am_f_3_102
    · exact am_FPo hc (by decide) (by decide) am_f_3_62
    · exact am_FPo hc (by decide) (by decide) am_f_3_65
    · exact am_FPo hc (by decide) (by decide) am_f_3_68
    · exact am_FPo hc (by decide) (by decide) am_f_3_71
    · exact am_FPo hc (by decide) (by decide) am_f_3_74
    · exact am_FPo hc (by decide) (by decide) am_f_3_77
    · exact am_FPo hc (by decide) (by decide) am_f_3_80
end
section
/-- what is known of a callee -/
def am_CP (cal : Nat) : Prop := plainFor (am_y cal) = true ∧ am_mL cal ≤ 45 ∧ Cond.initialized (am_y cal).cls ∈ am_ws ∧ ((am_y cal).cls ≠ "java/lang/invoke/MethodHandle" ∧ (am_y cal).cls ≠ "java/lang/invoke/VarHandle") ∧ ((am_hh cal = [] ∧ Cond.code (am_y cal) (am_b cal) (am_mL cal) (am_rt cal) ∈ am_ws) ∨ Cond.codeWith (am_y cal) (am_b cal) (am_mL cal) (am_rt cal) (am_hh cal) ∈ am_ws)
/-- what a call's own words say -/
def am_LP (m idx cal k kind : Nat) : Prop := am_CP cal ∧ Cond.methodLink (am_y m).cls idx (am_y cal) ∈ am_ws ∧ ((kind = 0 ∧ Cond.static (am_y cal) ∈ am_ws ∧ (parseMethodDescriptor (am_y cal).desc).map (fun d => d.parameters.length) = some k) ∨ (kind = 1 ∧ Cond.instanceMethod (am_y cal) ∈ am_ws ∧ Cond.selects (am_y cal).cls (am_y cal) (am_y cal) ∈ am_ws ∧ (∃ T N, am_cl[am_rc cal]? = some ((am_y cal).cls, T, N)) ∧ (parseMethodDescriptor (am_y cal).desc).map (fun d => d.parameters.length + 1) = some k))
theorem am_i_0 : Cond.initialized (am_cn 0) ∈ am_ws := am_in1 11 (by decide +kernel) (by decide +kernel)
theorem am_i_1 : Cond.initialized (am_cn 1) ∈ am_ws := am_in1 10 (by decide +kernel) (by decide +kernel)
theorem am_i_2 : Cond.initialized (am_cn 2) ∈ am_ws := am_in1 1 (by decide +kernel) (by decide +kernel)
theorem am_i_3 : Cond.initialized (am_cn 3) ∈ am_ws := am_in1 2 (by decide +kernel) (by decide +kernel)
theorem am_i_4 : Cond.initialized (am_cn 4) ∈ am_ws := am_in1 0 (by decide +kernel) (by decide +kernel)
theorem am_i_5 : Cond.initialized (am_cn 5) ∈ am_ws := am_in1 3 (by decide +kernel) (by decide +kernel)
theorem am_c_0 : am_CP 0 := ⟨by decide +kernel, by decide +kernel, am_i_0, ⟨by decide +kernel, by decide +kernel⟩, Or.inl ⟨rfl, am_in1 85 (by decide +kernel) (by decide +kernel)⟩⟩
theorem am_c_1 : am_CP 1 := ⟨by decide +kernel, by decide +kernel, am_i_0, ⟨by decide +kernel, by decide +kernel⟩, Or.inl ⟨rfl, am_in1 101 (by decide +kernel) (by decide +kernel)⟩⟩
theorem am_c_2 : am_CP 2 := ⟨by decide +kernel, by decide +kernel, am_i_1, ⟨by decide +kernel, by decide +kernel⟩, Or.inl ⟨rfl, am_in1 61 (by decide +kernel) (by decide +kernel)⟩⟩
theorem am_c_3 : am_CP 3 := ⟨by decide +kernel, by decide +kernel, am_i_1, ⟨by decide +kernel, by decide +kernel⟩, Or.inl ⟨rfl, am_in1 65 (by decide +kernel) (by decide +kernel)⟩⟩
theorem am_c_4 : am_CP 4 := ⟨by decide +kernel, by decide +kernel, am_i_1, ⟨by decide +kernel, by decide +kernel⟩, Or.inl ⟨rfl, am_in1 69 (by decide +kernel) (by decide +kernel)⟩⟩
theorem am_c_5 : am_CP 5 := ⟨by decide +kernel, by decide +kernel, am_i_1, ⟨by decide +kernel, by decide +kernel⟩, Or.inl ⟨rfl, am_in1 73 (by decide +kernel) (by decide +kernel)⟩⟩
theorem am_c_6 : am_CP 6 := ⟨by decide +kernel, by decide +kernel, am_i_1, ⟨by decide +kernel, by decide +kernel⟩, Or.inl ⟨rfl, am_in1 81 (by decide +kernel) (by decide +kernel)⟩⟩
theorem am_c_7 : am_CP 7 := ⟨by decide +kernel, by decide +kernel, am_i_1, ⟨by decide +kernel, by decide +kernel⟩, Or.inl ⟨rfl, am_in1 358 (by decide +kernel) (by decide +kernel)⟩⟩
theorem am_c_8 : am_CP 8 := ⟨by decide +kernel, by decide +kernel, am_i_1, ⟨by decide +kernel, by decide +kernel⟩, Or.inl ⟨rfl, am_in1 363 (by decide +kernel) (by decide +kernel)⟩⟩
theorem am_c_9 : am_CP 9 := ⟨by decide +kernel, by decide +kernel, am_i_1, ⟨by decide +kernel, by decide +kernel⟩, Or.inl ⟨rfl, am_in1 367 (by decide +kernel) (by decide +kernel)⟩⟩
theorem am_c_10 : am_CP 10 := ⟨by decide +kernel, by decide +kernel, am_i_1, ⟨by decide +kernel, by decide +kernel⟩, Or.inl ⟨rfl, am_in1 371 (by decide +kernel) (by decide +kernel)⟩⟩
theorem am_c_11 : am_CP 11 := ⟨by decide +kernel, by decide +kernel, am_i_1, ⟨by decide +kernel, by decide +kernel⟩, Or.inl ⟨rfl, am_in1 375 (by decide +kernel) (by decide +kernel)⟩⟩
theorem am_c_12 : am_CP 12 := ⟨by decide +kernel, by decide +kernel, am_i_1, ⟨by decide +kernel, by decide +kernel⟩, Or.inl ⟨rfl, am_in1 379 (by decide +kernel) (by decide +kernel)⟩⟩
theorem am_c_13 : am_CP 13 := ⟨by decide +kernel, by decide +kernel, am_i_1, ⟨by decide +kernel, by decide +kernel⟩, Or.inl ⟨rfl, am_in1 419 (by decide +kernel) (by decide +kernel)⟩⟩
theorem am_c_14 : am_CP 14 := ⟨by decide +kernel, by decide +kernel, am_i_1, ⟨by decide +kernel, by decide +kernel⟩, Or.inl ⟨rfl, am_in1 423 (by decide +kernel) (by decide +kernel)⟩⟩
theorem am_c_15 : am_CP 15 := ⟨by decide +kernel, by decide +kernel, am_i_1, ⟨by decide +kernel, by decide +kernel⟩, Or.inl ⟨rfl, am_in1 539 (by decide +kernel) (by decide +kernel)⟩⟩
theorem am_c_16 : am_CP 16 := ⟨by decide +kernel, by decide +kernel, am_i_1, ⟨by decide +kernel, by decide +kernel⟩, Or.inl ⟨rfl, am_in1 543 (by decide +kernel) (by decide +kernel)⟩⟩
theorem am_c_17 : am_CP 17 := ⟨by decide +kernel, by decide +kernel, am_i_2, ⟨by decide +kernel, by decide +kernel⟩, Or.inl ⟨rfl, am_in1 53 (by decide +kernel) (by decide +kernel)⟩⟩
theorem am_c_18 : am_CP 18 := ⟨by decide +kernel, by decide +kernel, am_i_2, ⟨by decide +kernel, by decide +kernel⟩, Or.inl ⟨rfl, am_in1 57 (by decide +kernel) (by decide +kernel)⟩⟩
theorem am_c_19 : am_CP 19 := ⟨by decide +kernel, by decide +kernel, am_i_2, ⟨by decide +kernel, by decide +kernel⟩, Or.inl ⟨rfl, am_in1 77 (by decide +kernel) (by decide +kernel)⟩⟩
theorem am_c_20 : am_CP 20 := ⟨by decide +kernel, by decide +kernel, am_i_2, ⟨by decide +kernel, by decide +kernel⟩, Or.inl ⟨rfl, am_in1 89 (by decide +kernel) (by decide +kernel)⟩⟩
theorem am_c_21 : am_CP 21 := ⟨by decide +kernel, by decide +kernel, am_i_2, ⟨by decide +kernel, by decide +kernel⟩, Or.inl ⟨rfl, am_in1 93 (by decide +kernel) (by decide +kernel)⟩⟩
theorem am_c_22 : am_CP 22 := ⟨by decide +kernel, by decide +kernel, am_i_2, ⟨by decide +kernel, by decide +kernel⟩, Or.inl ⟨rfl, am_in1 97 (by decide +kernel) (by decide +kernel)⟩⟩
theorem am_c_23 : am_CP 23 := ⟨by decide +kernel, by decide +kernel, am_i_2, ⟨by decide +kernel, by decide +kernel⟩, Or.inl ⟨rfl, am_in1 105 (by decide +kernel) (by decide +kernel)⟩⟩
theorem am_c_24 : am_CP 24 := ⟨by decide +kernel, by decide +kernel, am_i_2, ⟨by decide +kernel, by decide +kernel⟩, Or.inl ⟨rfl, am_in1 109 (by decide +kernel) (by decide +kernel)⟩⟩
theorem am_c_25 : am_CP 25 := ⟨by decide +kernel, by decide +kernel, am_i_2, ⟨by decide +kernel, by decide +kernel⟩, Or.inl ⟨rfl, am_in1 120 (by decide +kernel) (by decide +kernel)⟩⟩
theorem am_c_26 : am_CP 26 := ⟨by decide +kernel, by decide +kernel, am_i_2, ⟨by decide +kernel, by decide +kernel⟩, Or.inl ⟨rfl, am_in1 123 (by decide +kernel) (by decide +kernel)⟩⟩
theorem am_c_27 : am_CP 27 := ⟨by decide +kernel, by decide +kernel, am_i_2, ⟨by decide +kernel, by decide +kernel⟩, Or.inl ⟨rfl, am_in1 312 (by decide +kernel) (by decide +kernel)⟩⟩
theorem am_c_28 : am_CP 28 := ⟨by decide +kernel, by decide +kernel, am_i_2, ⟨by decide +kernel, by decide +kernel⟩, Or.inl ⟨rfl, am_in1 315 (by decide +kernel) (by decide +kernel)⟩⟩
theorem am_c_29 : am_CP 29 := ⟨by decide +kernel, by decide +kernel, am_i_2, ⟨by decide +kernel, by decide +kernel⟩, Or.inl ⟨rfl, am_in1 335 (by decide +kernel) (by decide +kernel)⟩⟩
theorem am_c_30 : am_CP 30 := ⟨by decide +kernel, by decide +kernel, am_i_2, ⟨by decide +kernel, by decide +kernel⟩, Or.inl ⟨rfl, am_in1 338 (by decide +kernel) (by decide +kernel)⟩⟩
theorem am_c_31 : am_CP 31 := ⟨by decide +kernel, by decide +kernel, am_i_2, ⟨by decide +kernel, by decide +kernel⟩, Or.inl ⟨rfl, am_in1 342 (by decide +kernel) (by decide +kernel)⟩⟩
theorem am_c_32 : am_CP 32 := ⟨by decide +kernel, by decide +kernel, am_i_2, ⟨by decide +kernel, by decide +kernel⟩, Or.inl ⟨rfl, am_in1 349 (by decide +kernel) (by decide +kernel)⟩⟩
theorem am_c_33 : am_CP 33 := ⟨by decide +kernel, by decide +kernel, am_i_2, ⟨by decide +kernel, by decide +kernel⟩, Or.inl ⟨rfl, am_in1 353 (by decide +kernel) (by decide +kernel)⟩⟩
theorem am_c_34 : am_CP 34 := ⟨by decide +kernel, by decide +kernel, am_i_2, ⟨by decide +kernel, by decide +kernel⟩, Or.inl ⟨rfl, am_in1 383 (by decide +kernel) (by decide +kernel)⟩⟩
theorem am_c_35 : am_CP 35 := ⟨by decide +kernel, by decide +kernel, am_i_2, ⟨by decide +kernel, by decide +kernel⟩, Or.inl ⟨rfl, am_in1 387 (by decide +kernel) (by decide +kernel)⟩⟩
theorem am_c_36 : am_CP 36 := ⟨by decide +kernel, by decide +kernel, am_i_2, ⟨by decide +kernel, by decide +kernel⟩, Or.inl ⟨rfl, am_in1 390 (by decide +kernel) (by decide +kernel)⟩⟩
theorem am_c_37 : am_CP 37 := ⟨by decide +kernel, by decide +kernel, am_i_2, ⟨by decide +kernel, by decide +kernel⟩, Or.inl ⟨rfl, am_in1 395 (by decide +kernel) (by decide +kernel)⟩⟩
theorem am_c_38 : am_CP 38 := ⟨by decide +kernel, by decide +kernel, am_i_2, ⟨by decide +kernel, by decide +kernel⟩, Or.inl ⟨rfl, am_in1 399 (by decide +kernel) (by decide +kernel)⟩⟩
theorem am_c_39 : am_CP 39 := ⟨by decide +kernel, by decide +kernel, am_i_2, ⟨by decide +kernel, by decide +kernel⟩, Or.inl ⟨rfl, am_in1 403 (by decide +kernel) (by decide +kernel)⟩⟩
theorem am_c_40 : am_CP 40 := ⟨by decide +kernel, by decide +kernel, am_i_2, ⟨by decide +kernel, by decide +kernel⟩, Or.inl ⟨rfl, am_in1 407 (by decide +kernel) (by decide +kernel)⟩⟩
theorem am_c_41 : am_CP 41 := ⟨by decide +kernel, by decide +kernel, am_i_2, ⟨by decide +kernel, by decide +kernel⟩, Or.inl ⟨rfl, am_in1 411 (by decide +kernel) (by decide +kernel)⟩⟩
theorem am_c_42 : am_CP 42 := ⟨by decide +kernel, by decide +kernel, am_i_2, ⟨by decide +kernel, by decide +kernel⟩, Or.inl ⟨rfl, am_in1 415 (by decide +kernel) (by decide +kernel)⟩⟩
theorem am_c_43 : am_CP 43 := ⟨by decide +kernel, by decide +kernel, am_i_2, ⟨by decide +kernel, by decide +kernel⟩, Or.inl ⟨rfl, am_in1 431 (by decide +kernel) (by decide +kernel)⟩⟩
theorem am_c_44 : am_CP 44 := ⟨by decide +kernel, by decide +kernel, am_i_2, ⟨by decide +kernel, by decide +kernel⟩, Or.inl ⟨rfl, am_in1 435 (by decide +kernel) (by decide +kernel)⟩⟩
theorem am_c_45 : am_CP 45 := ⟨by decide +kernel, by decide +kernel, am_i_2, ⟨by decide +kernel, by decide +kernel⟩, Or.inl ⟨rfl, am_in1 442 (by decide +kernel) (by decide +kernel)⟩⟩
theorem am_c_46 : am_CP 46 := ⟨by decide +kernel, by decide +kernel, am_i_2, ⟨by decide +kernel, by decide +kernel⟩, Or.inl ⟨rfl, am_in1 451 (by decide +kernel) (by decide +kernel)⟩⟩
theorem am_c_47 : am_CP 47 := ⟨by decide +kernel, by decide +kernel, am_i_2, ⟨by decide +kernel, by decide +kernel⟩, Or.inl ⟨rfl, am_in1 461 (by decide +kernel) (by decide +kernel)⟩⟩
theorem am_c_48 : am_CP 48 := ⟨by decide +kernel, by decide +kernel, am_i_2, ⟨by decide +kernel, by decide +kernel⟩, Or.inl ⟨rfl, am_in1 468 (by decide +kernel) (by decide +kernel)⟩⟩
theorem am_c_49 : am_CP 49 := ⟨by decide +kernel, by decide +kernel, am_i_2, ⟨by decide +kernel, by decide +kernel⟩, Or.inl ⟨rfl, am_in1 475 (by decide +kernel) (by decide +kernel)⟩⟩
theorem am_c_50 : am_CP 50 := ⟨by decide +kernel, by decide +kernel, am_i_2, ⟨by decide +kernel, by decide +kernel⟩, Or.inl ⟨rfl, am_in1 479 (by decide +kernel) (by decide +kernel)⟩⟩
theorem am_c_51 : am_CP 51 := ⟨by decide +kernel, by decide +kernel, am_i_2, ⟨by decide +kernel, by decide +kernel⟩, Or.inl ⟨rfl, am_in1 487 (by decide +kernel) (by decide +kernel)⟩⟩
theorem am_c_52 : am_CP 52 := ⟨by decide +kernel, by decide +kernel, am_i_2, ⟨by decide +kernel, by decide +kernel⟩, Or.inl ⟨rfl, am_in1 494 (by decide +kernel) (by decide +kernel)⟩⟩
theorem am_c_53 : am_CP 53 := ⟨by decide +kernel, by decide +kernel, am_i_2, ⟨by decide +kernel, by decide +kernel⟩, Or.inl ⟨rfl, am_in1 502 (by decide +kernel) (by decide +kernel)⟩⟩
theorem am_c_54 : am_CP 54 := ⟨by decide +kernel, by decide +kernel, am_i_2, ⟨by decide +kernel, by decide +kernel⟩, Or.inl ⟨rfl, am_in1 506 (by decide +kernel) (by decide +kernel)⟩⟩
theorem am_c_55 : am_CP 55 := ⟨by decide +kernel, by decide +kernel, am_i_2, ⟨by decide +kernel, by decide +kernel⟩, Or.inl ⟨rfl, am_in1 516 (by decide +kernel) (by decide +kernel)⟩⟩
theorem am_c_56 : am_CP 56 := ⟨by decide +kernel, by decide +kernel, am_i_2, ⟨by decide +kernel, by decide +kernel⟩, Or.inl ⟨rfl, am_in1 520 (by decide +kernel) (by decide +kernel)⟩⟩
theorem am_c_57 : am_CP 57 := ⟨by decide +kernel, by decide +kernel, am_i_2, ⟨by decide +kernel, by decide +kernel⟩, Or.inl ⟨rfl, am_in1 528 (by decide +kernel) (by decide +kernel)⟩⟩
theorem am_c_58 : am_CP 58 := ⟨by decide +kernel, by decide +kernel, am_i_2, ⟨by decide +kernel, by decide +kernel⟩, Or.inl ⟨rfl, am_in1 535 (by decide +kernel) (by decide +kernel)⟩⟩
theorem am_c_59 : am_CP 59 := ⟨by decide +kernel, by decide +kernel, am_i_5, ⟨by decide +kernel, by decide +kernel⟩, Or.inl ⟨rfl, am_in1 126 (by decide +kernel) (by decide +kernel)⟩⟩
theorem am_c_60 : am_CP 60 := ⟨by decide +kernel, by decide +kernel, am_i_3, ⟨by decide +kernel, by decide +kernel⟩, Or.inl ⟨rfl, am_in1 648 (by decide +kernel) (by decide +kernel)⟩⟩
theorem am_c_61 : am_CP 61 := ⟨by decide +kernel, by decide +kernel, am_i_3, ⟨by decide +kernel, by decide +kernel⟩, Or.inl ⟨rfl, am_in1 652 (by decide +kernel) (by decide +kernel)⟩⟩
theorem am_c_62 : am_CP 62 := ⟨by decide +kernel, by decide +kernel, am_i_3, ⟨by decide +kernel, by decide +kernel⟩, Or.inl ⟨rfl, am_in1 655 (by decide +kernel) (by decide +kernel)⟩⟩
theorem am_c_63 : am_CP 63 := ⟨by decide +kernel, by decide +kernel, am_i_3, ⟨by decide +kernel, by decide +kernel⟩, Or.inl ⟨rfl, am_in1 659 (by decide +kernel) (by decide +kernel)⟩⟩
theorem am_c_64 : am_CP 64 := ⟨by decide +kernel, by decide +kernel, am_i_3, ⟨by decide +kernel, by decide +kernel⟩, Or.inl ⟨rfl, am_in1 663 (by decide +kernel) (by decide +kernel)⟩⟩
theorem am_c_65 : am_CP 65 := ⟨by decide +kernel, by decide +kernel, am_i_3, ⟨by decide +kernel, by decide +kernel⟩, Or.inl ⟨rfl, am_in1 667 (by decide +kernel) (by decide +kernel)⟩⟩
theorem am_c_66 : am_CP 66 := ⟨by decide +kernel, by decide +kernel, am_i_3, ⟨by decide +kernel, by decide +kernel⟩, Or.inl ⟨rfl, am_in1 671 (by decide +kernel) (by decide +kernel)⟩⟩
theorem am_c_67 : am_CP 67 := ⟨by decide +kernel, by decide +kernel, am_i_3, ⟨by decide +kernel, by decide +kernel⟩, Or.inl ⟨rfl, am_in1 675 (by decide +kernel) (by decide +kernel)⟩⟩
theorem am_c_68 : am_CP 68 := ⟨by decide +kernel, by decide +kernel, am_i_3, ⟨by decide +kernel, by decide +kernel⟩, Or.inl ⟨rfl, am_in1 679 (by decide +kernel) (by decide +kernel)⟩⟩
theorem am_c_69 : am_CP 69 := ⟨by decide +kernel, by decide +kernel, am_i_3, ⟨by decide +kernel, by decide +kernel⟩, Or.inl ⟨rfl, am_in1 683 (by decide +kernel) (by decide +kernel)⟩⟩
theorem am_c_70 : am_CP 70 := ⟨by decide +kernel, by decide +kernel, am_i_3, ⟨by decide +kernel, by decide +kernel⟩, Or.inl ⟨rfl, am_in1 687 (by decide +kernel) (by decide +kernel)⟩⟩
theorem am_c_71 : am_CP 71 := ⟨by decide +kernel, by decide +kernel, am_i_3, ⟨by decide +kernel, by decide +kernel⟩, Or.inl ⟨rfl, am_in1 691 (by decide +kernel) (by decide +kernel)⟩⟩
theorem am_c_72 : am_CP 72 := ⟨by decide +kernel, by decide +kernel, am_i_3, ⟨by decide +kernel, by decide +kernel⟩, Or.inl ⟨rfl, am_in1 695 (by decide +kernel) (by decide +kernel)⟩⟩
theorem am_c_73 : am_CP 73 := ⟨by decide +kernel, by decide +kernel, am_i_3, ⟨by decide +kernel, by decide +kernel⟩, Or.inl ⟨rfl, am_in1 699 (by decide +kernel) (by decide +kernel)⟩⟩
theorem am_c_74 : am_CP 74 := ⟨by decide +kernel, by decide +kernel, am_i_3, ⟨by decide +kernel, by decide +kernel⟩, Or.inl ⟨rfl, am_in1 703 (by decide +kernel) (by decide +kernel)⟩⟩
theorem am_c_75 : am_CP 75 := ⟨by decide +kernel, by decide +kernel, am_i_3, ⟨by decide +kernel, by decide +kernel⟩, Or.inl ⟨rfl, am_in1 707 (by decide +kernel) (by decide +kernel)⟩⟩
theorem am_c_76 : am_CP 76 := ⟨by decide +kernel, by decide +kernel, am_i_3, ⟨by decide +kernel, by decide +kernel⟩, Or.inl ⟨rfl, am_in1 711 (by decide +kernel) (by decide +kernel)⟩⟩
theorem am_c_77 : am_CP 77 := ⟨by decide +kernel, by decide +kernel, am_i_3, ⟨by decide +kernel, by decide +kernel⟩, Or.inl ⟨rfl, am_in1 715 (by decide +kernel) (by decide +kernel)⟩⟩
theorem am_c_78 : am_CP 78 := ⟨by decide +kernel, by decide +kernel, am_i_3, ⟨by decide +kernel, by decide +kernel⟩, Or.inl ⟨rfl, am_in1 719 (by decide +kernel) (by decide +kernel)⟩⟩
theorem am_c_79 : am_CP 79 := ⟨by decide +kernel, by decide +kernel, am_i_3, ⟨by decide +kernel, by decide +kernel⟩, Or.inl ⟨rfl, am_in1 723 (by decide +kernel) (by decide +kernel)⟩⟩
theorem am_c_80 : am_CP 80 := ⟨by decide +kernel, by decide +kernel, am_i_3, ⟨by decide +kernel, by decide +kernel⟩, Or.inl ⟨rfl, am_in1 727 (by decide +kernel) (by decide +kernel)⟩⟩
theorem am_c_81 : am_CP 81 := ⟨by decide +kernel, by decide +kernel, am_i_3, ⟨by decide +kernel, by decide +kernel⟩, Or.inl ⟨rfl, am_in1 731 (by decide +kernel) (by decide +kernel)⟩⟩
theorem am_c_82 : am_CP 82 := ⟨by decide +kernel, by decide +kernel, am_i_3, ⟨by decide +kernel, by decide +kernel⟩, Or.inl ⟨rfl, am_in1 735 (by decide +kernel) (by decide +kernel)⟩⟩
theorem am_c_83 : am_CP 83 := ⟨by decide +kernel, by decide +kernel, am_i_3, ⟨by decide +kernel, by decide +kernel⟩, Or.inl ⟨rfl, am_in1 739 (by decide +kernel) (by decide +kernel)⟩⟩
theorem am_c_84 : am_CP 84 := ⟨by decide +kernel, by decide +kernel, am_i_3, ⟨by decide +kernel, by decide +kernel⟩, Or.inl ⟨rfl, am_in1 742 (by decide +kernel) (by decide +kernel)⟩⟩
theorem am_c_85 : am_CP 85 := ⟨by decide +kernel, by decide +kernel, am_i_3, ⟨by decide +kernel, by decide +kernel⟩, Or.inl ⟨rfl, am_in1 746 (by decide +kernel) (by decide +kernel)⟩⟩
theorem am_c_86 : am_CP 86 := ⟨by decide +kernel, by decide +kernel, am_i_3, ⟨by decide +kernel, by decide +kernel⟩, Or.inl ⟨rfl, am_in1 750 (by decide +kernel) (by decide +kernel)⟩⟩
theorem am_c_87 : am_CP 87 := ⟨by decide +kernel, by decide +kernel, am_i_3, ⟨by decide +kernel, by decide +kernel⟩, Or.inl ⟨rfl, am_in1 754 (by decide +kernel) (by decide +kernel)⟩⟩
theorem am_c_88 : am_CP 88 := ⟨by decide +kernel, by decide +kernel, am_i_3, ⟨by decide +kernel, by decide +kernel⟩, Or.inl ⟨rfl, am_in1 758 (by decide +kernel) (by decide +kernel)⟩⟩
theorem am_c_89 : am_CP 89 := ⟨by decide +kernel, by decide +kernel, am_i_3, ⟨by decide +kernel, by decide +kernel⟩, Or.inl ⟨rfl, am_in1 762 (by decide +kernel) (by decide +kernel)⟩⟩
theorem am_c_90 : am_CP 90 := ⟨by decide +kernel, by decide +kernel, am_i_3, ⟨by decide +kernel, by decide +kernel⟩, Or.inl ⟨rfl, am_in1 766 (by decide +kernel) (by decide +kernel)⟩⟩
theorem am_c_91 : am_CP 91 := ⟨by decide +kernel, by decide +kernel, am_i_3, ⟨by decide +kernel, by decide +kernel⟩, Or.inl ⟨rfl, am_in1 771 (by decide +kernel) (by decide +kernel)⟩⟩
theorem am_c_92 : am_CP 92 := ⟨by decide +kernel, by decide +kernel, am_i_3, ⟨by decide +kernel, by decide +kernel⟩, Or.inl ⟨rfl, am_in1 775 (by decide +kernel) (by decide +kernel)⟩⟩
theorem am_c_93 : am_CP 93 := ⟨by decide +kernel, by decide +kernel, am_i_3, ⟨by decide +kernel, by decide +kernel⟩, Or.inl ⟨rfl, am_in1 779 (by decide +kernel) (by decide +kernel)⟩⟩
theorem am_c_94 : am_CP 94 := ⟨by decide +kernel, by decide +kernel, am_i_3, ⟨by decide +kernel, by decide +kernel⟩, Or.inl ⟨rfl, am_in1 783 (by decide +kernel) (by decide +kernel)⟩⟩
theorem am_c_95 : am_CP 95 := ⟨by decide +kernel, by decide +kernel, am_i_3, ⟨by decide +kernel, by decide +kernel⟩, Or.inl ⟨rfl, am_in1 787 (by decide +kernel) (by decide +kernel)⟩⟩
theorem am_c_96 : am_CP 96 := ⟨by decide +kernel, by decide +kernel, am_i_3, ⟨by decide +kernel, by decide +kernel⟩, Or.inl ⟨rfl, am_in1 791 (by decide +kernel) (by decide +kernel)⟩⟩
theorem am_c_97 : am_CP 97 := ⟨by decide +kernel, by decide +kernel, am_i_3, ⟨by decide +kernel, by decide +kernel⟩, Or.inl ⟨rfl, am_in1 795 (by decide +kernel) (by decide +kernel)⟩⟩
theorem am_c_98 : am_CP 98 := ⟨by decide +kernel, by decide +kernel, am_i_3, ⟨by decide +kernel, by decide +kernel⟩, Or.inl ⟨rfl, am_in1 799 (by decide +kernel) (by decide +kernel)⟩⟩
theorem am_c_99 : am_CP 99 := ⟨by decide +kernel, by decide +kernel, am_i_3, ⟨by decide +kernel, by decide +kernel⟩, Or.inl ⟨rfl, am_in1 803 (by decide +kernel) (by decide +kernel)⟩⟩
theorem am_c_100 : am_CP 100 := ⟨by decide +kernel, by decide +kernel, am_i_3, ⟨by decide +kernel, by decide +kernel⟩, Or.inl ⟨rfl, am_in1 807 (by decide +kernel) (by decide +kernel)⟩⟩
theorem am_c_101 : am_CP 101 := ⟨by decide +kernel, by decide +kernel, am_i_3, ⟨by decide +kernel, by decide +kernel⟩, Or.inl ⟨rfl, am_in1 811 (by decide +kernel) (by decide +kernel)⟩⟩
theorem am_c_102 : am_CP 102 := ⟨by decide +kernel, by decide +kernel, am_i_3, ⟨by decide +kernel, by decide +kernel⟩, Or.inl ⟨rfl, am_in1 815 (by decide +kernel) (by decide +kernel)⟩⟩
theorem am_c_103 : am_CP 103 := ⟨by decide +kernel, by decide +kernel, am_i_3, ⟨by decide +kernel, by decide +kernel⟩, Or.inl ⟨rfl, am_in1 819 (by decide +kernel) (by decide +kernel)⟩⟩
theorem am_c_104 : am_CP 104 := ⟨by decide +kernel, by decide +kernel, am_i_3, ⟨by decide +kernel, by decide +kernel⟩, Or.inl ⟨rfl, am_in1 823 (by decide +kernel) (by decide +kernel)⟩⟩
theorem am_c_105 : am_CP 105 := ⟨by decide +kernel, by decide +kernel, am_i_3, ⟨by decide +kernel, by decide +kernel⟩, Or.inl ⟨rfl, am_in1 827 (by decide +kernel) (by decide +kernel)⟩⟩
theorem am_c_106 : am_CP 106 := ⟨by decide +kernel, by decide +kernel, am_i_3, ⟨by decide +kernel, by decide +kernel⟩, Or.inl ⟨rfl, am_in1 831 (by decide +kernel) (by decide +kernel)⟩⟩
theorem am_c_107 : am_CP 107 := ⟨by decide +kernel, by decide +kernel, am_i_4, ⟨by decide +kernel, by decide +kernel⟩, Or.inr (am_in1 113 (by decide +kernel) (by decide +kernel))⟩
theorem am_c_108 : am_CP 108 := ⟨by decide +kernel, by decide +kernel, am_i_4, ⟨by decide +kernel, by decide +kernel⟩, Or.inr (am_in1 307 (by decide +kernel) (by decide +kernel))⟩
theorem am_c_109 : am_CP 109 := ⟨by decide +kernel, by decide +kernel, am_i_4, ⟨by decide +kernel, by decide +kernel⟩, Or.inr (am_in1 427 (by decide +kernel) (by decide +kernel))⟩
theorem am_c_110 : am_CP 110 := ⟨by decide +kernel, by decide +kernel, am_i_4, ⟨by decide +kernel, by decide +kernel⟩, Or.inr (am_in1 438 (by decide +kernel) (by decide +kernel))⟩
theorem am_c_111 : am_CP 111 := ⟨by decide +kernel, by decide +kernel, am_i_4, ⟨by decide +kernel, by decide +kernel⟩, Or.inr (am_in1 447 (by decide +kernel) (by decide +kernel))⟩
theorem am_c_112 : am_CP 112 := ⟨by decide +kernel, by decide +kernel, am_i_4, ⟨by decide +kernel, by decide +kernel⟩, Or.inr (am_in1 457 (by decide +kernel) (by decide +kernel))⟩
theorem am_c_113 : am_CP 113 := ⟨by decide +kernel, by decide +kernel, am_i_4, ⟨by decide +kernel, by decide +kernel⟩, Or.inr (am_in1 464 (by decide +kernel) (by decide +kernel))⟩
theorem am_c_114 : am_CP 114 := ⟨by decide +kernel, by decide +kernel, am_i_4, ⟨by decide +kernel, by decide +kernel⟩, Or.inr (am_in1 471 (by decide +kernel) (by decide +kernel))⟩
theorem am_c_115 : am_CP 115 := ⟨by decide +kernel, by decide +kernel, am_i_4, ⟨by decide +kernel, by decide +kernel⟩, Or.inr (am_in1 483 (by decide +kernel) (by decide +kernel))⟩
theorem am_c_116 : am_CP 116 := ⟨by decide +kernel, by decide +kernel, am_i_4, ⟨by decide +kernel, by decide +kernel⟩, Or.inr (am_in1 490 (by decide +kernel) (by decide +kernel))⟩
theorem am_c_117 : am_CP 117 := ⟨by decide +kernel, by decide +kernel, am_i_4, ⟨by decide +kernel, by decide +kernel⟩, Or.inr (am_in1 498 (by decide +kernel) (by decide +kernel))⟩
theorem am_c_118 : am_CP 118 := ⟨by decide +kernel, by decide +kernel, am_i_4, ⟨by decide +kernel, by decide +kernel⟩, Or.inr (am_in1 512 (by decide +kernel) (by decide +kernel))⟩
theorem am_c_119 : am_CP 119 := ⟨by decide +kernel, by decide +kernel, am_i_4, ⟨by decide +kernel, by decide +kernel⟩, Or.inr (am_in1 524 (by decide +kernel) (by decide +kernel))⟩
theorem am_c_120 : am_CP 120 := ⟨by decide +kernel, by decide +kernel, am_i_4, ⟨by decide +kernel, by decide +kernel⟩, Or.inr (am_in1 531 (by decide +kernel) (by decide +kernel))⟩
theorem am_k_0 : Cond.instanceMethod (am_y 0) ∈ am_ws ∧ Cond.selects (am_y 0).cls (am_y 0) (am_y 0) ∈ am_ws ∧ (∃ T N, am_cl[am_rc 0]? = some ((am_y 0).cls, T, N)) ∧ (parseMethodDescriptor (am_y 0).desc).map (fun d => d.parameters.length + 1) = some 1 := ⟨am_in1 83 (by decide +kernel) (by decide +kernel), am_in1 84 (by decide +kernel) (by decide +kernel), ⟨_, _, rfl⟩, by decide +kernel⟩
theorem am_k_1 : Cond.instanceMethod (am_y 1) ∈ am_ws ∧ Cond.selects (am_y 1).cls (am_y 1) (am_y 1) ∈ am_ws ∧ (∃ T N, am_cl[am_rc 1]? = some ((am_y 1).cls, T, N)) ∧ (parseMethodDescriptor (am_y 1).desc).map (fun d => d.parameters.length + 1) = some 1 := ⟨am_in1 99 (by decide +kernel) (by decide +kernel), am_in1 100 (by decide +kernel) (by decide +kernel), ⟨_, _, rfl⟩, by decide +kernel⟩
theorem am_k_2 : Cond.instanceMethod (am_y 2) ∈ am_ws ∧ Cond.selects (am_y 2).cls (am_y 2) (am_y 2) ∈ am_ws ∧ (∃ T N, am_cl[am_rc 2]? = some ((am_y 2).cls, T, N)) ∧ (parseMethodDescriptor (am_y 2).desc).map (fun d => d.parameters.length + 1) = some 2 := ⟨am_in1 59 (by decide +kernel) (by decide +kernel), am_in1 60 (by decide +kernel) (by decide +kernel), ⟨_, _, rfl⟩, by decide +kernel⟩
theorem am_k_3 : Cond.instanceMethod (am_y 3) ∈ am_ws ∧ Cond.selects (am_y 3).cls (am_y 3) (am_y 3) ∈ am_ws ∧ (∃ T N, am_cl[am_rc 3]? = some ((am_y 3).cls, T, N)) ∧ (parseMethodDescriptor (am_y 3).desc).map (fun d => d.parameters.length + 1) = some 2 := ⟨am_in1 63 (by decide +kernel) (by decide +kernel), am_in1 64 (by decide +kernel) (by decide +kernel), ⟨_, _, rfl⟩, by decide +kernel⟩
theorem am_k_4 : Cond.instanceMethod (am_y 4) ∈ am_ws ∧ Cond.selects (am_y 4).cls (am_y 4) (am_y 4) ∈ am_ws ∧ (∃ T N, am_cl[am_rc 4]? = some ((am_y 4).cls, T, N)) ∧ (parseMethodDescriptor (am_y 4).desc).map (fun d => d.parameters.length + 1) = some 2 := ⟨am_in1 67 (by decide +kernel) (by decide +kernel), am_in1 68 (by decide +kernel) (by decide +kernel), ⟨_, _, rfl⟩, by decide +kernel⟩
theorem am_k_5 : Cond.instanceMethod (am_y 5) ∈ am_ws ∧ Cond.selects (am_y 5).cls (am_y 5) (am_y 5) ∈ am_ws ∧ (∃ T N, am_cl[am_rc 5]? = some ((am_y 5).cls, T, N)) ∧ (parseMethodDescriptor (am_y 5).desc).map (fun d => d.parameters.length + 1) = some 3 := ⟨am_in1 71 (by decide +kernel) (by decide +kernel), am_in1 72 (by decide +kernel) (by decide +kernel), ⟨_, _, rfl⟩, by decide +kernel⟩
theorem am_k_6 : Cond.instanceMethod (am_y 6) ∈ am_ws ∧ Cond.selects (am_y 6).cls (am_y 6) (am_y 6) ∈ am_ws ∧ (∃ T N, am_cl[am_rc 6]? = some ((am_y 6).cls, T, N)) ∧ (parseMethodDescriptor (am_y 6).desc).map (fun d => d.parameters.length + 1) = some 1 := ⟨am_in1 79 (by decide +kernel) (by decide +kernel), am_in1 80 (by decide +kernel) (by decide +kernel), ⟨_, _, rfl⟩, by decide +kernel⟩
theorem am_k_7 : Cond.instanceMethod (am_y 7) ∈ am_ws ∧ Cond.selects (am_y 7).cls (am_y 7) (am_y 7) ∈ am_ws ∧ (∃ T N, am_cl[am_rc 7]? = some ((am_y 7).cls, T, N)) ∧ (parseMethodDescriptor (am_y 7).desc).map (fun d => d.parameters.length + 1) = some 2 := ⟨am_in1 356 (by decide +kernel) (by decide +kernel), am_in1 357 (by decide +kernel) (by decide +kernel), ⟨_, _, rfl⟩, by decide +kernel⟩
theorem am_k_8 : Cond.instanceMethod (am_y 8) ∈ am_ws ∧ Cond.selects (am_y 8).cls (am_y 8) (am_y 8) ∈ am_ws ∧ (∃ T N, am_cl[am_rc 8]? = some ((am_y 8).cls, T, N)) ∧ (parseMethodDescriptor (am_y 8).desc).map (fun d => d.parameters.length + 1) = some 2 := ⟨am_in1 361 (by decide +kernel) (by decide +kernel), am_in1 362 (by decide +kernel) (by decide +kernel), ⟨_, _, rfl⟩, by decide +kernel⟩
theorem am_k_9 : Cond.instanceMethod (am_y 9) ∈ am_ws ∧ Cond.selects (am_y 9).cls (am_y 9) (am_y 9) ∈ am_ws ∧ (∃ T N, am_cl[am_rc 9]? = some ((am_y 9).cls, T, N)) ∧ (parseMethodDescriptor (am_y 9).desc).map (fun d => d.parameters.length + 1) = some 2 := ⟨am_in1 366 (by decide +kernel) (by decide +kernel), am_in2 (q := (⟨"CacheLadder$Tier", "turnHand", "(I)LCacheLadder$Line;"⟩, 9)) (List.mem_of_getElem? (i := 9) (by decide +kernel)) rfl (by decide +kernel), ⟨_, _, rfl⟩, by decide +kernel⟩
theorem am_k_10 : Cond.instanceMethod (am_y 10) ∈ am_ws ∧ Cond.selects (am_y 10).cls (am_y 10) (am_y 10) ∈ am_ws ∧ (∃ T N, am_cl[am_rc 10]? = some ((am_y 10).cls, T, N)) ∧ (parseMethodDescriptor (am_y 10).desc).map (fun d => d.parameters.length + 1) = some 2 := ⟨am_in1 370 (by decide +kernel) (by decide +kernel), am_in2 (q := (⟨"CacheLadder$Tier", "wayAfter", "(I)I"⟩, 9)) (List.mem_of_getElem? (i := 10) (by decide +kernel)) rfl (by decide +kernel), ⟨_, _, rfl⟩, by decide +kernel⟩
theorem am_k_11 : Cond.instanceMethod (am_y 11) ∈ am_ws ∧ Cond.selects (am_y 11).cls (am_y 11) (am_y 11) ∈ am_ws ∧ (∃ T N, am_cl[am_rc 11]? = some ((am_y 11).cls, T, N)) ∧ (parseMethodDescriptor (am_y 11).desc).map (fun d => d.parameters.length + 1) = some 2 := ⟨am_in1 374 (by decide +kernel) (by decide +kernel), am_in2 (q := (⟨"CacheLadder$Tier", "firstToGo", "(I)LCacheLadder$Line;"⟩, 9)) (List.mem_of_getElem? (i := 11) (by decide +kernel)) rfl (by decide +kernel), ⟨_, _, rfl⟩, by decide +kernel⟩
theorem am_k_12 : Cond.instanceMethod (am_y 12) ∈ am_ws ∧ Cond.selects (am_y 12).cls (am_y 12) (am_y 12) ∈ am_ws ∧ (∃ T N, am_cl[am_rc 12]? = some ((am_y 12).cls, T, N)) ∧ (parseMethodDescriptor (am_y 12).desc).map (fun d => d.parameters.length + 1) = some 3 := ⟨am_in1 378 (by decide +kernel) (by decide +kernel), am_in2 (q := (⟨"CacheLadder$Tier", "goesBefore", "(LCacheLadder$Line;LCacheLadder$Line;)Z"⟩, 9)) (List.mem_of_getElem? (i := 12) (by decide +kernel)) rfl (by decide +kernel), ⟨_, _, rfl⟩, by decide +kernel⟩
theorem am_k_13 : Cond.instanceMethod (am_y 13) ∈ am_ws ∧ Cond.selects (am_y 13).cls (am_y 13) (am_y 13) ∈ am_ws ∧ (∃ T N, am_cl[am_rc 13]? = some ((am_y 13).cls, T, N)) ∧ (parseMethodDescriptor (am_y 13).desc).map (fun d => d.parameters.length + 1) = some 2 := ⟨am_in1 417 (by decide +kernel) (by decide +kernel), am_in1 418 (by decide +kernel) (by decide +kernel), ⟨_, _, rfl⟩, by decide +kernel⟩
theorem am_k_14 : Cond.instanceMethod (am_y 14) ∈ am_ws ∧ Cond.selects (am_y 14).cls (am_y 14) (am_y 14) ∈ am_ws ∧ (∃ T N, am_cl[am_rc 14]? = some ((am_y 14).cls, T, N)) ∧ (parseMethodDescriptor (am_y 14).desc).map (fun d => d.parameters.length + 1) = some 3 := ⟨am_in1 421 (by decide +kernel) (by decide +kernel), am_in1 422 (by decide +kernel) (by decide +kernel), ⟨_, _, rfl⟩, by decide +kernel⟩
theorem am_k_15 : Cond.instanceMethod (am_y 15) ∈ am_ws ∧ Cond.selects (am_y 15).cls (am_y 15) (am_y 15) ∈ am_ws ∧ (∃ T N, am_cl[am_rc 15]? = some ((am_y 15).cls, T, N)) ∧ (parseMethodDescriptor (am_y 15).desc).map (fun d => d.parameters.length + 1) = some 2 := ⟨am_in1 537 (by decide +kernel) (by decide +kernel), am_in1 538 (by decide +kernel) (by decide +kernel), ⟨_, _, rfl⟩, by decide +kernel⟩
theorem am_k_16 : Cond.instanceMethod (am_y 16) ∈ am_ws ∧ Cond.selects (am_y 16).cls (am_y 16) (am_y 16) ∈ am_ws ∧ (∃ T N, am_cl[am_rc 16]? = some ((am_y 16).cls, T, N)) ∧ (parseMethodDescriptor (am_y 16).desc).map (fun d => d.parameters.length + 1) = some 2 := ⟨am_in1 542 (by decide +kernel) (by decide +kernel), am_in2 (q := (⟨"CacheLadder$Tier", "aheadOfHand", "(I)LCacheLadder$Line;"⟩, 9)) (List.mem_of_getElem? (i := 25) (by decide +kernel)) rfl (by decide +kernel), ⟨_, _, rfl⟩, by decide +kernel⟩
theorem am_k_17 : Cond.instanceMethod (am_y 17) ∈ am_ws ∧ Cond.selects (am_y 17).cls (am_y 17) (am_y 17) ∈ am_ws ∧ (∃ T N, am_cl[am_rc 17]? = some ((am_y 17).cls, T, N)) ∧ (parseMethodDescriptor (am_y 17).desc).map (fun d => d.parameters.length + 1) = some 1 := ⟨am_in1 51 (by decide +kernel) (by decide +kernel), am_in1 52 (by decide +kernel) (by decide +kernel), ⟨_, _, rfl⟩, by decide +kernel⟩
theorem am_k_18 : Cond.instanceMethod (am_y 18) ∈ am_ws ∧ Cond.selects (am_y 18).cls (am_y 18) (am_y 18) ∈ am_ws ∧ (∃ T N, am_cl[am_rc 18]? = some ((am_y 18).cls, T, N)) ∧ (parseMethodDescriptor (am_y 18).desc).map (fun d => d.parameters.length + 1) = some 2 := ⟨am_in1 56 (by decide +kernel) (by decide +kernel), am_in2 (q := (⟨"CacheLadder", "uppermost", "(I)LCacheLadder$Line;"⟩, 8)) (List.mem_of_getElem? (i := 0) (by decide +kernel)) rfl (by decide +kernel), ⟨_, _, rfl⟩, by decide +kernel⟩
theorem am_k_19 : Cond.instanceMethod (am_y 19) ∈ am_ws ∧ Cond.selects (am_y 19).cls (am_y 19) (am_y 19) ∈ am_ws ∧ (∃ T N, am_cl[am_rc 19]? = some ((am_y 19).cls, T, N)) ∧ (parseMethodDescriptor (am_y 19).desc).map (fun d => d.parameters.length + 1) = some 2 := ⟨am_in1 76 (by decide +kernel) (by decide +kernel), am_in2 (q := (⟨"CacheLadder", "wordsUnlikeStore", "(LCacheLadder$Line;)I"⟩, 8)) (List.mem_of_getElem? (i := 1) (by decide +kernel)) rfl (by decide +kernel), ⟨_, _, rfl⟩, by decide +kernel⟩
theorem am_k_20 : Cond.instanceMethod (am_y 20) ∈ am_ws ∧ Cond.selects (am_y 20).cls (am_y 20) (am_y 20) ∈ am_ws ∧ (∃ T N, am_cl[am_rc 20]? = some ((am_y 20).cls, T, N)) ∧ (parseMethodDescriptor (am_y 20).desc).map (fun d => d.parameters.length + 1) = some 2 := ⟨am_in1 87 (by decide +kernel) (by decide +kernel), am_in1 88 (by decide +kernel) (by decide +kernel), ⟨_, _, rfl⟩, by decide +kernel⟩
theorem am_k_21 : Cond.instanceMethod (am_y 21) ∈ am_ws ∧ Cond.selects (am_y 21).cls (am_y 21) (am_y 21) ∈ am_ws ∧ (∃ T N, am_cl[am_rc 21]? = some ((am_y 21).cls, T, N)) ∧ (parseMethodDescriptor (am_y 21).desc).map (fun d => d.parameters.length + 1) = some 1 := ⟨am_in1 91 (by decide +kernel) (by decide +kernel), am_in1 92 (by decide +kernel) (by decide +kernel), ⟨_, _, rfl⟩, by decide +kernel⟩
theorem am_k_22 : Cond.instanceMethod (am_y 22) ∈ am_ws ∧ Cond.selects (am_y 22).cls (am_y 22) (am_y 22) ∈ am_ws ∧ (∃ T N, am_cl[am_rc 22]? = some ((am_y 22).cls, T, N)) ∧ (parseMethodDescriptor (am_y 22).desc).map (fun d => d.parameters.length + 1) = some 1 := ⟨am_in1 95 (by decide +kernel) (by decide +kernel), am_in1 96 (by decide +kernel) (by decide +kernel), ⟨_, _, rfl⟩, by decide +kernel⟩
theorem am_k_23 : Cond.instanceMethod (am_y 23) ∈ am_ws ∧ Cond.selects (am_y 23).cls (am_y 23) (am_y 23) ∈ am_ws ∧ (∃ T N, am_cl[am_rc 23]? = some ((am_y 23).cls, T, N)) ∧ (parseMethodDescriptor (am_y 23).desc).map (fun d => d.parameters.length + 1) = some 3 := ⟨am_in1 104 (by decide +kernel) (by decide +kernel), am_in2 (q := (⟨"CacheLadder", "standsWrong", "(ILCacheLadder$Line;)Z"⟩, 8)) (List.mem_of_getElem? (i := 2) (by decide +kernel)) rfl (by decide +kernel), ⟨_, _, rfl⟩, by decide +kernel⟩
theorem am_k_24 : Cond.instanceMethod (am_y 24) ∈ am_ws ∧ Cond.selects (am_y 24).cls (am_y 24) (am_y 24) ∈ am_ws ∧ (∃ T N, am_cl[am_rc 24]? = some ((am_y 24).cls, T, N)) ∧ (parseMethodDescriptor (am_y 24).desc).map (fun d => d.parameters.length + 1) = some 3 := ⟨am_in1 108 (by decide +kernel) (by decide +kernel), am_in2 (q := (⟨"CacheLadder", "isMissedBelow", "(II)Z"⟩, 8)) (List.mem_of_getElem? (i := 3) (by decide +kernel)) rfl (by decide +kernel), ⟨_, _, rfl⟩, by decide +kernel⟩
theorem am_k_25 : Cond.instanceMethod (am_y 25) ∈ am_ws ∧ Cond.selects (am_y 25).cls (am_y 25) (am_y 25) ∈ am_ws ∧ (∃ T N, am_cl[am_rc 25]? = some ((am_y 25).cls, T, N)) ∧ (parseMethodDescriptor (am_y 25).desc).map (fun d => d.parameters.length + 1) = some 6 := ⟨am_in1 118 (by decide +kernel) (by decide +kernel), am_in1 119 (by decide +kernel) (by decide +kernel), ⟨_, _, rfl⟩, by decide +kernel⟩
theorem am_k_26 : Cond.static (am_y 26) ∈ am_ws ∧ (parseMethodDescriptor (am_y 26).desc).map (fun d => d.parameters.length) = some 1 := ⟨am_in1 122 (by decide +kernel) (by decide +kernel), by decide +kernel⟩
theorem am_k_27 : Cond.instanceMethod (am_y 27) ∈ am_ws ∧ Cond.selects (am_y 27).cls (am_y 27) (am_y 27) ∈ am_ws ∧ (∃ T N, am_cl[am_rc 27]? = some ((am_y 27).cls, T, N)) ∧ (parseMethodDescriptor (am_y 27).desc).map (fun d => d.parameters.length + 1) = some 2 := ⟨am_in1 310 (by decide +kernel) (by decide +kernel), am_in1 311 (by decide +kernel) (by decide +kernel), ⟨_, _, rfl⟩, by decide +kernel⟩
theorem am_k_28 : Cond.static (am_y 28) ∈ am_ws ∧ (parseMethodDescriptor (am_y 28).desc).map (fun d => d.parameters.length) = some 1 := ⟨am_in1 314 (by decide +kernel) (by decide +kernel), by decide +kernel⟩
theorem am_k_29 : Cond.instanceMethod (am_y 29) ∈ am_ws ∧ Cond.selects (am_y 29).cls (am_y 29) (am_y 29) ∈ am_ws ∧ (∃ T N, am_cl[am_rc 29]? = some ((am_y 29).cls, T, N)) ∧ (parseMethodDescriptor (am_y 29).desc).map (fun d => d.parameters.length + 1) = some 2 := ⟨am_in1 334 (by decide +kernel) (by decide +kernel), am_in2 (q := (⟨"CacheLadder", "readWord", "(I)I"⟩, 8)) (List.mem_of_getElem? (i := 5) (by decide +kernel)) rfl (by decide +kernel), ⟨_, _, rfl⟩, by decide +kernel⟩
theorem am_k_30 : Cond.static (am_y 30) ∈ am_ws ∧ (parseMethodDescriptor (am_y 30).desc).map (fun d => d.parameters.length) = some 1 := ⟨am_in1 337 (by decide +kernel) (by decide +kernel), by decide +kernel⟩
theorem am_k_31 : Cond.instanceMethod (am_y 31) ∈ am_ws ∧ Cond.selects (am_y 31).cls (am_y 31) (am_y 31) ∈ am_ws ∧ (∃ T N, am_cl[am_rc 31]? = some ((am_y 31).cls, T, N)) ∧ (parseMethodDescriptor (am_y 31).desc).map (fun d => d.parameters.length + 1) = some 4 := ⟨am_in1 341 (by decide +kernel) (by decide +kernel), am_in2 (q := (⟨"CacheLadder", "readAt", "(II[I)V"⟩, 8)) (List.mem_of_getElem? (i := 6) (by decide +kernel)) rfl (by decide +kernel), ⟨_, _, rfl⟩, by decide +kernel⟩
theorem am_k_32 : Cond.instanceMethod (am_y 32) ∈ am_ws ∧ Cond.selects (am_y 32).cls (am_y 32) (am_y 32) ∈ am_ws ∧ (∃ T N, am_cl[am_rc 32]? = some ((am_y 32).cls, T, N)) ∧ (parseMethodDescriptor (am_y 32).desc).map (fun d => d.parameters.length + 1) = some 4 := ⟨am_in1 348 (by decide +kernel) (by decide +kernel), am_in2 (q := (⟨"CacheLadder", "fetch", "(IIZ)LCacheLadder$Line;"⟩, 8)) (List.mem_of_getElem? (i := 7) (by decide +kernel)) rfl (by decide +kernel), ⟨_, _, rfl⟩, by decide +kernel⟩
theorem am_k_33 : Cond.instanceMethod (am_y 33) ∈ am_ws ∧ Cond.selects (am_y 33).cls (am_y 33) (am_y 33) ∈ am_ws ∧ (∃ T N, am_cl[am_rc 33]? = some ((am_y 33).cls, T, N)) ∧ (parseMethodDescriptor (am_y 33).desc).map (fun d => d.parameters.length + 1) = some 3 := ⟨am_in1 352 (by decide +kernel) (by decide +kernel), am_in2 (q := (⟨"CacheLadder", "makeRoom", "(II)LCacheLadder$Line;"⟩, 8)) (List.mem_of_getElem? (i := 8) (by decide +kernel)) rfl (by decide +kernel), ⟨_, _, rfl⟩, by decide +kernel⟩
theorem am_k_34 : Cond.instanceMethod (am_y 34) ∈ am_ws ∧ Cond.selects (am_y 34).cls (am_y 34) (am_y 34) ∈ am_ws ∧ (∃ T N, am_cl[am_rc 34]? = some ((am_y 34).cls, T, N)) ∧ (parseMethodDescriptor (am_y 34).desc).map (fun d => d.parameters.length + 1) = some 3 := ⟨am_in1 382 (by decide +kernel) (by decide +kernel), am_in2 (q := (⟨"CacheLadder", "leave", "(ILCacheLadder$Line;)V"⟩, 8)) (List.mem_of_getElem? (i := 13) (by decide +kernel)) rfl (by decide +kernel), ⟨_, _, rfl⟩, by decide +kernel⟩
theorem am_k_35 : Cond.instanceMethod (am_y 35) ∈ am_ws ∧ Cond.selects (am_y 35).cls (am_y 35) (am_y 35) ∈ am_ws ∧ (∃ T N, am_cl[am_rc 35]? = some ((am_y 35).cls, T, N)) ∧ (parseMethodDescriptor (am_y 35).desc).map (fun d => d.parameters.length + 1) = some 3 := ⟨am_in1 386 (by decide +kernel) (by decide +kernel), am_in2 (q := (⟨"CacheLadder", "gatherFromAbove", "(ILCacheLadder$Line;)V"⟩, 8)) (List.mem_of_getElem? (i := 14) (by decide +kernel)) rfl (by decide +kernel), ⟨_, _, rfl⟩, by decide +kernel⟩
theorem am_k_36 : Cond.static (am_y 36) ∈ am_ws ∧ (parseMethodDescriptor (am_y 36).desc).map (fun d => d.parameters.length) = some 4 := ⟨am_in1 389 (by decide +kernel) (by decide +kernel), by decide +kernel⟩
theorem am_k_37 : Cond.instanceMethod (am_y 37) ∈ am_ws ∧ Cond.selects (am_y 37).cls (am_y 37) (am_y 37) ∈ am_ws ∧ (∃ T N, am_cl[am_rc 37]? = some ((am_y 37).cls, T, N)) ∧ (parseMethodDescriptor (am_y 37).desc).map (fun d => d.parameters.length + 1) = some 3 := ⟨am_in1 394 (by decide +kernel) (by decide +kernel), am_in2 (q := (⟨"CacheLadder", "writeDirty", "(ILCacheLadder$Line;)I"⟩, 8)) (List.mem_of_getElem? (i := 15) (by decide +kernel)) rfl (by decide +kernel), ⟨_, _, rfl⟩, by decide +kernel⟩
theorem am_k_38 : Cond.instanceMethod (am_y 38) ∈ am_ws ∧ Cond.selects (am_y 38).cls (am_y 38) (am_y 38) ∈ am_ws ∧ (∃ T N, am_cl[am_rc 38]? = some ((am_y 38).cls, T, N)) ∧ (parseMethodDescriptor (am_y 38).desc).map (fun d => d.parameters.length + 1) = some 5 := ⟨am_in1 398 (by decide +kernel) (by decide +kernel), am_in2 (q := (⟨"CacheLadder", "writeBelow", "(III[I)V"⟩, 8)) (List.mem_of_getElem? (i := 16) (by decide +kernel)) rfl (by decide +kernel), ⟨_, _, rfl⟩, by decide +kernel⟩
theorem am_k_39 : Cond.instanceMethod (am_y 39) ∈ am_ws ∧ Cond.selects (am_y 39).cls (am_y 39) (am_y 39) ∈ am_ws ∧ (∃ T N, am_cl[am_rc 39]? = some ((am_y 39).cls, T, N)) ∧ (parseMethodDescriptor (am_y 39).desc).map (fun d => d.parameters.length + 1) = some 5 := ⟨am_in1 402 (by decide +kernel) (by decide +kernel), am_in2 (q := (⟨"CacheLadder", "writeAt", "(III[I)V"⟩, 8)) (List.mem_of_getElem? (i := 17) (by decide +kernel)) rfl (by decide +kernel), ⟨_, _, rfl⟩, by decide +kernel⟩
theorem am_k_40 : Cond.instanceMethod (am_y 40) ∈ am_ws ∧ Cond.selects (am_y 40).cls (am_y 40) (am_y 40) ∈ am_ws ∧ (∃ T N, am_cl[am_rc 40]? = some ((am_y 40).cls, T, N)) ∧ (parseMethodDescriptor (am_y 40).desc).map (fun d => d.parameters.length + 1) = some 5 := ⟨am_in1 406 (by decide +kernel) (by decide +kernel), am_in2 (q := (⟨"CacheLadder", "writeAround", "(III[I)V"⟩, 8)) (List.mem_of_getElem? (i := 18) (by decide +kernel)) rfl (by decide +kernel), ⟨_, _, rfl⟩, by decide +kernel⟩
theorem am_k_41 : Cond.instanceMethod (am_y 41) ∈ am_ws ∧ Cond.selects (am_y 41).cls (am_y 41) (am_y 41) ∈ am_ws ∧ (∃ T N, am_cl[am_rc 41]? = some ((am_y 41).cls, T, N)) ∧ (parseMethodDescriptor (am_y 41).desc).map (fun d => d.parameters.length + 1) = some 5 := ⟨am_in1 410 (by decide +kernel) (by decide +kernel), am_in2 (q := (⟨"CacheLadder", "writeInLine", "(III[I)V"⟩, 8)) (List.mem_of_getElem? (i := 19) (by decide +kernel)) rfl (by decide +kernel), ⟨_, _, rfl⟩, by decide +kernel⟩
theorem am_k_42 : Cond.instanceMethod (am_y 42) ∈ am_ws ∧ Cond.selects (am_y 42).cls (am_y 42) (am_y 42) ∈ am_ws ∧ (∃ T N, am_cl[am_rc 42]? = some ((am_y 42).cls, T, N)) ∧ (parseMethodDescriptor (am_y 42).desc).map (fun d => d.parameters.length + 1) = some 2 := ⟨am_in1 414 (by decide +kernel) (by decide +kernel), am_in2 (q := (⟨"CacheLadder", "closedBelow", "(I)Z"⟩, 8)) (List.mem_of_getElem? (i := 20) (by decide +kernel)) rfl (by decide +kernel), ⟨_, _, rfl⟩, by decide +kernel⟩
theorem am_k_43 : Cond.instanceMethod (am_y 43) ∈ am_ws ∧ Cond.selects (am_y 43).cls (am_y 43) (am_y 43) ∈ am_ws ∧ (∃ T N, am_cl[am_rc 43]? = some ((am_y 43).cls, T, N)) ∧ (parseMethodDescriptor (am_y 43).desc).map (fun d => d.parameters.length + 1) = some 3 := ⟨am_in1 429 (by decide +kernel) (by decide +kernel), am_in1 430 (by decide +kernel) (by decide +kernel), ⟨_, _, rfl⟩, by decide +kernel⟩
theorem am_k_44 : Cond.instanceMethod (am_y 44) ∈ am_ws ∧ Cond.selects (am_y 44).cls (am_y 44) (am_y 44) ∈ am_ws ∧ (∃ T N, am_cl[am_rc 44]? = some ((am_y 44).cls, T, N)) ∧ (parseMethodDescriptor (am_y 44).desc).map (fun d => d.parameters.length + 1) = some 3 := ⟨am_in1 434 (by decide +kernel) (by decide +kernel), am_in2 (q := (⟨"CacheLadder", "writeWord", "(II)V"⟩, 8)) (List.mem_of_getElem? (i := 21) (by decide +kernel)) rfl (by decide +kernel), ⟨_, _, rfl⟩, by decide +kernel⟩
theorem am_k_45 : Cond.instanceMethod (am_y 45) ∈ am_ws ∧ Cond.selects (am_y 45).cls (am_y 45) (am_y 45) ∈ am_ws ∧ (∃ T N, am_cl[am_rc 45]? = some ((am_y 45).cls, T, N)) ∧ (parseMethodDescriptor (am_y 45).desc).map (fun d => d.parameters.length + 1) = some 5 := ⟨am_in1 440 (by decide +kernel) (by decide +kernel), am_in1 441 (by decide +kernel) (by decide +kernel), ⟨_, _, rfl⟩, by decide +kernel⟩
theorem am_k_46 : Cond.instanceMethod (am_y 46) ∈ am_ws ∧ Cond.selects (am_y 46).cls (am_y 46) (am_y 46) ∈ am_ws ∧ (∃ T N, am_cl[am_rc 46]? = some ((am_y 46).cls, T, N)) ∧ (parseMethodDescriptor (am_y 46).desc).map (fun d => d.parameters.length + 1) = some 4 := ⟨am_in1 449 (by decide +kernel) (by decide +kernel), am_in1 450 (by decide +kernel) (by decide +kernel), ⟨_, _, rfl⟩, by decide +kernel⟩
theorem am_k_47 : Cond.instanceMethod (am_y 47) ∈ am_ws ∧ Cond.selects (am_y 47).cls (am_y 47) (am_y 47) ∈ am_ws ∧ (∃ T N, am_cl[am_rc 47]? = some ((am_y 47).cls, T, N)) ∧ (parseMethodDescriptor (am_y 47).desc).map (fun d => d.parameters.length + 1) = some 2 := ⟨am_in1 459 (by decide +kernel) (by decide +kernel), am_in1 460 (by decide +kernel) (by decide +kernel), ⟨_, _, rfl⟩, by decide +kernel⟩
theorem am_k_48 : Cond.instanceMethod (am_y 48) ∈ am_ws ∧ Cond.selects (am_y 48).cls (am_y 48) (am_y 48) ∈ am_ws ∧ (∃ T N, am_cl[am_rc 48]? = some ((am_y 48).cls, T, N)) ∧ (parseMethodDescriptor (am_y 48).desc).map (fun d => d.parameters.length + 1) = some 2 := ⟨am_in1 466 (by decide +kernel) (by decide +kernel), am_in1 467 (by decide +kernel) (by decide +kernel), ⟨_, _, rfl⟩, by decide +kernel⟩
theorem am_k_49 : Cond.instanceMethod (am_y 49) ∈ am_ws ∧ Cond.selects (am_y 49).cls (am_y 49) (am_y 49) ∈ am_ws ∧ (∃ T N, am_cl[am_rc 49]? = some ((am_y 49).cls, T, N)) ∧ (parseMethodDescriptor (am_y 49).desc).map (fun d => d.parameters.length + 1) = some 2 := ⟨am_in1 473 (by decide +kernel) (by decide +kernel), am_in1 474 (by decide +kernel) (by decide +kernel), ⟨_, _, rfl⟩, by decide +kernel⟩
theorem am_k_50 : Cond.instanceMethod (am_y 50) ∈ am_ws ∧ Cond.selects (am_y 50).cls (am_y 50) (am_y 50) ∈ am_ws ∧ (∃ T N, am_cl[am_rc 50]? = some ((am_y 50).cls, T, N)) ∧ (parseMethodDescriptor (am_y 50).desc).map (fun d => d.parameters.length + 1) = some 2 := ⟨am_in1 478 (by decide +kernel) (by decide +kernel), am_in2 (q := (⟨"CacheLadder", "needTier", "(I)V"⟩, 8)) (List.mem_of_getElem? (i := 22) (by decide +kernel)) rfl (by decide +kernel), ⟨_, _, rfl⟩, by decide +kernel⟩
theorem am_k_51 : Cond.instanceMethod (am_y 51) ∈ am_ws ∧ Cond.selects (am_y 51).cls (am_y 51) (am_y 51) ∈ am_ws ∧ (∃ T N, am_cl[am_rc 51]? = some ((am_y 51).cls, T, N)) ∧ (parseMethodDescriptor (am_y 51).desc).map (fun d => d.parameters.length + 1) = some 2 := ⟨am_in1 485 (by decide +kernel) (by decide +kernel), am_in1 486 (by decide +kernel) (by decide +kernel), ⟨_, _, rfl⟩, by decide +kernel⟩
theorem am_k_52 : Cond.instanceMethod (am_y 52) ∈ am_ws ∧ Cond.selects (am_y 52).cls (am_y 52) (am_y 52) ∈ am_ws ∧ (∃ T N, am_cl[am_rc 52]? = some ((am_y 52).cls, T, N)) ∧ (parseMethodDescriptor (am_y 52).desc).map (fun d => d.parameters.length + 1) = some 3 := ⟨am_in1 492 (by decide +kernel) (by decide +kernel), am_in1 493 (by decide +kernel) (by decide +kernel), ⟨_, _, rfl⟩, by decide +kernel⟩
theorem am_k_53 : Cond.instanceMethod (am_y 53) ∈ am_ws ∧ Cond.selects (am_y 53).cls (am_y 53) (am_y 53) ∈ am_ws ∧ (∃ T N, am_cl[am_rc 53]? = some ((am_y 53).cls, T, N)) ∧ (parseMethodDescriptor (am_y 53).desc).map (fun d => d.parameters.length + 1) = some 4 := ⟨am_in1 500 (by decide +kernel) (by decide +kernel), am_in1 501 (by decide +kernel) (by decide +kernel), ⟨_, _, rfl⟩, by decide +kernel⟩
theorem am_k_54 : Cond.instanceMethod (am_y 54) ∈ am_ws ∧ Cond.selects (am_y 54).cls (am_y 54) (am_y 54) ∈ am_ws ∧ (∃ T N, am_cl[am_rc 54]? = some ((am_y 54).cls, T, N)) ∧ (parseMethodDescriptor (am_y 54).desc).map (fun d => d.parameters.length + 1) = some 3 := ⟨am_in1 505 (by decide +kernel) (by decide +kernel), am_in2 (q := (⟨"CacheLadder", "needSet", "(II)V"⟩, 8)) (List.mem_of_getElem? (i := 23) (by decide +kernel)) rfl (by decide +kernel), ⟨_, _, rfl⟩, by decide +kernel⟩
theorem am_k_55 : Cond.instanceMethod (am_y 55) ∈ am_ws ∧ Cond.selects (am_y 55).cls (am_y 55) (am_y 55) ∈ am_ws ∧ (∃ T N, am_cl[am_rc 55]? = some ((am_y 55).cls, T, N)) ∧ (parseMethodDescriptor (am_y 55).desc).map (fun d => d.parameters.length + 1) = some 3 := ⟨am_in1 514 (by decide +kernel) (by decide +kernel), am_in1 515 (by decide +kernel) (by decide +kernel), ⟨_, _, rfl⟩, by decide +kernel⟩
theorem am_k_56 : Cond.instanceMethod (am_y 56) ∈ am_ws ∧ Cond.selects (am_y 56).cls (am_y 56) (am_y 56) ∈ am_ws ∧ (∃ T N, am_cl[am_rc 56]? = some ((am_y 56).cls, T, N)) ∧ (parseMethodDescriptor (am_y 56).desc).map (fun d => d.parameters.length + 1) = some 3 := ⟨am_in1 519 (by decide +kernel) (by decide +kernel), am_in2 (q := (⟨"CacheLadder", "needBlock", "(II)V"⟩, 8)) (List.mem_of_getElem? (i := 24) (by decide +kernel)) rfl (by decide +kernel), ⟨_, _, rfl⟩, by decide +kernel⟩
theorem am_k_57 : Cond.instanceMethod (am_y 57) ∈ am_ws ∧ Cond.selects (am_y 57).cls (am_y 57) (am_y 57) ∈ am_ws ∧ (∃ T N, am_cl[am_rc 57]? = some ((am_y 57).cls, T, N)) ∧ (parseMethodDescriptor (am_y 57).desc).map (fun d => d.parameters.length + 1) = some 3 := ⟨am_in1 526 (by decide +kernel) (by decide +kernel), am_in1 527 (by decide +kernel) (by decide +kernel), ⟨_, _, rfl⟩, by decide +kernel⟩
theorem am_k_58 : Cond.instanceMethod (am_y 58) ∈ am_ws ∧ Cond.selects (am_y 58).cls (am_y 58) (am_y 58) ∈ am_ws ∧ (∃ T N, am_cl[am_rc 58]? = some ((am_y 58).cls, T, N)) ∧ (parseMethodDescriptor (am_y 58).desc).map (fun d => d.parameters.length + 1) = some 3 := ⟨am_in1 533 (by decide +kernel) (by decide +kernel), am_in1 534 (by decide +kernel) (by decide +kernel), ⟨_, _, rfl⟩, by decide +kernel⟩
theorem am_k_59 : Cond.static (am_y 59) ∈ am_ws ∧ (parseMethodDescriptor (am_y 59).desc).map (fun d => d.parameters.length) = some 1 := ⟨am_in1 125 (by decide +kernel) (by decide +kernel), by decide +kernel⟩
theorem am_k_60 : Cond.instanceMethod (am_y 60) ∈ am_ws ∧ Cond.selects (am_y 60).cls (am_y 60) (am_y 60) ∈ am_ws ∧ (∃ T N, am_cl[am_rc 60]? = some ((am_y 60).cls, T, N)) ∧ (parseMethodDescriptor (am_y 60).desc).map (fun d => d.parameters.length + 1) = some 1 := ⟨am_in1 646 (by decide +kernel) (by decide +kernel), am_in1 647 (by decide +kernel) (by decide +kernel), ⟨_, _, rfl⟩, by decide +kernel⟩
theorem am_k_61 : Cond.instanceMethod (am_y 61) ∈ am_ws ∧ Cond.selects (am_y 61).cls (am_y 61) (am_y 61) ∈ am_ws ∧ (∃ T N, am_cl[am_rc 61]? = some ((am_y 61).cls, T, N)) ∧ (parseMethodDescriptor (am_y 61).desc).map (fun d => d.parameters.length + 1) = some 6 := ⟨am_in1 650 (by decide +kernel) (by decide +kernel), am_in1 651 (by decide +kernel) (by decide +kernel), ⟨_, _, rfl⟩, by decide +kernel⟩
theorem am_k_62 : Cond.static (am_y 62) ∈ am_ws ∧ (parseMethodDescriptor (am_y 62).desc).map (fun d => d.parameters.length) = some 3 := ⟨am_in1 654 (by decide +kernel) (by decide +kernel), by decide +kernel⟩
theorem am_k_63 : Cond.instanceMethod (am_y 63) ∈ am_ws ∧ Cond.selects (am_y 63).cls (am_y 63) (am_y 63) ∈ am_ws ∧ (∃ T N, am_cl[am_rc 63]? = some ((am_y 63).cls, T, N)) ∧ (parseMethodDescriptor (am_y 63).desc).map (fun d => d.parameters.length + 1) = some 2 := ⟨am_in1 657 (by decide +kernel) (by decide +kernel), am_in1 658 (by decide +kernel) (by decide +kernel), ⟨_, _, rfl⟩, by decide +kernel⟩
theorem am_k_64 : Cond.instanceMethod (am_y 64) ∈ am_ws ∧ Cond.selects (am_y 64).cls (am_y 64) (am_y 64) ∈ am_ws ∧ (∃ T N, am_cl[am_rc 64]? = some ((am_y 64).cls, T, N)) ∧ (parseMethodDescriptor (am_y 64).desc).map (fun d => d.parameters.length + 1) = some 2 := ⟨am_in1 662 (by decide +kernel) (by decide +kernel), am_in2 (q := (⟨"CacheLadderModel", "readWord", "(I)I"⟩, 31)) (List.mem_of_getElem? (i := 26) (by decide +kernel)) rfl (by decide +kernel), ⟨_, _, rfl⟩, by decide +kernel⟩
theorem am_k_65 : Cond.instanceMethod (am_y 65) ∈ am_ws ∧ Cond.selects (am_y 65).cls (am_y 65) (am_y 65) ∈ am_ws ∧ (∃ T N, am_cl[am_rc 65]? = some ((am_y 65).cls, T, N)) ∧ (parseMethodDescriptor (am_y 65).desc).map (fun d => d.parameters.length + 1) = some 6 := ⟨am_in1 666 (by decide +kernel) (by decide +kernel), am_in2 (q := (⟨"CacheLadderModel", "push", "(IIIII)V"⟩, 31)) (List.mem_of_getElem? (i := 27) (by decide +kernel)) rfl (by decide +kernel), ⟨_, _, rfl⟩, by decide +kernel⟩
theorem am_k_66 : Cond.instanceMethod (am_y 66) ∈ am_ws ∧ Cond.selects (am_y 66).cls (am_y 66) (am_y 66) ∈ am_ws ∧ (∃ T N, am_cl[am_rc 66]? = some ((am_y 66).cls, T, N)) ∧ (parseMethodDescriptor (am_y 66).desc).map (fun d => d.parameters.length + 1) = some 1 := ⟨am_in1 670 (by decide +kernel) (by decide +kernel), am_in2 (q := (⟨"CacheLadderModel", "workOff", "()V"⟩, 31)) (List.mem_of_getElem? (i := 28) (by decide +kernel)) rfl (by decide +kernel), ⟨_, _, rfl⟩, by decide +kernel⟩
theorem am_k_67 : Cond.instanceMethod (am_y 67) ∈ am_ws ∧ Cond.selects (am_y 67).cls (am_y 67) (am_y 67) ∈ am_ws ∧ (∃ T N, am_cl[am_rc 67]? = some ((am_y 67).cls, T, N)) ∧ (parseMethodDescriptor (am_y 67).desc).map (fun d => d.parameters.length + 1) = some 2 := ⟨am_in1 674 (by decide +kernel) (by decide +kernel), am_in2 (q := (⟨"CacheLadderModel", "stepRead", "(I)V"⟩, 31)) (List.mem_of_getElem? (i := 29) (by decide +kernel)) rfl (by decide +kernel), ⟨_, _, rfl⟩, by decide +kernel⟩
theorem am_k_68 : Cond.instanceMethod (am_y 68) ∈ am_ws ∧ Cond.selects (am_y 68).cls (am_y 68) (am_y 68) ∈ am_ws ∧ (∃ T N, am_cl[am_rc 68]? = some ((am_y 68).cls, T, N)) ∧ (parseMethodDescriptor (am_y 68).desc).map (fun d => d.parameters.length + 1) = some 3 := ⟨am_in1 678 (by decide +kernel) (by decide +kernel), am_in2 (q := (⟨"CacheLadderModel", "find", "(II)I"⟩, 31)) (List.mem_of_getElem? (i := 30) (by decide +kernel)) rfl (by decide +kernel), ⟨_, _, rfl⟩, by decide +kernel⟩
theorem am_k_69 : Cond.instanceMethod (am_y 69) ∈ am_ws ∧ Cond.selects (am_y 69).cls (am_y 69) (am_y 69) ∈ am_ws ∧ (∃ T N, am_cl[am_rc 69]? = some ((am_y 69).cls, T, N)) ∧ (parseMethodDescriptor (am_y 69).desc).map (fun d => d.parameters.length + 1) = some 3 := ⟨am_in1 682 (by decide +kernel) (by decide +kernel), am_in2 (q := (⟨"CacheLadderModel", "firstOf", "(II)I"⟩, 31)) (List.mem_of_getElem? (i := 31) (by decide +kernel)) rfl (by decide +kernel), ⟨_, _, rfl⟩, by decide +kernel⟩
theorem am_k_70 : Cond.instanceMethod (am_y 70) ∈ am_ws ∧ Cond.selects (am_y 70).cls (am_y 70) (am_y 70) ∈ am_ws ∧ (∃ T N, am_cl[am_rc 70]? = some ((am_y 70).cls, T, N)) ∧ (parseMethodDescriptor (am_y 70).desc).map (fun d => d.parameters.length + 1) = some 2 := ⟨am_in1 686 (by decide +kernel) (by decide +kernel), am_in2 (q := (⟨"CacheLadderModel", "makeRoom", "(I)V"⟩, 31)) (List.mem_of_getElem? (i := 32) (by decide +kernel)) rfl (by decide +kernel), ⟨_, _, rfl⟩, by decide +kernel⟩
theorem am_k_71 : Cond.instanceMethod (am_y 71) ∈ am_ws ∧ Cond.selects (am_y 71).cls (am_y 71) (am_y 71) ∈ am_ws ∧ (∃ T N, am_cl[am_rc 71]? = some ((am_y 71).cls, T, N)) ∧ (parseMethodDescriptor (am_y 71).desc).map (fun d => d.parameters.length + 1) = some 3 := ⟨am_in1 690 (by decide +kernel) (by decide +kernel), am_in2 (q := (⟨"CacheLadderModel", "freeIn", "(II)I"⟩, 31)) (List.mem_of_getElem? (i := 33) (by decide +kernel)) rfl (by decide +kernel), ⟨_, _, rfl⟩, by decide +kernel⟩
theorem am_k_72 : Cond.instanceMethod (am_y 72) ∈ am_ws ∧ Cond.selects (am_y 72).cls (am_y 72) (am_y 72) ∈ am_ws ∧ (∃ T N, am_cl[am_rc 72]? = some ((am_y 72).cls, T, N)) ∧ (parseMethodDescriptor (am_y 72).desc).map (fun d => d.parameters.length + 1) = some 3 := ⟨am_in1 694 (by decide +kernel) (by decide +kernel), am_in2 (q := (⟨"CacheLadderModel", "choice", "(II)I"⟩, 31)) (List.mem_of_getElem? (i := 34) (by decide +kernel)) rfl (by decide +kernel), ⟨_, _, rfl⟩, by decide +kernel⟩
theorem am_k_73 : Cond.instanceMethod (am_y 73) ∈ am_ws ∧ Cond.selects (am_y 73).cls (am_y 73) (am_y 73) ∈ am_ws ∧ (∃ T N, am_cl[am_rc 73]? = some ((am_y 73).cls, T, N)) ∧ (parseMethodDescriptor (am_y 73).desc).map (fun d => d.parameters.length + 1) = some 4 := ⟨am_in1 698 (by decide +kernel) (by decide +kernel), am_in2 (q := (⟨"CacheLadderModel", "goesBefore", "(III)Z"⟩, 31)) (List.mem_of_getElem? (i := 35) (by decide +kernel)) rfl (by decide +kernel), ⟨_, _, rfl⟩, by decide +kernel⟩
theorem am_k_74 : Cond.instanceMethod (am_y 74) ∈ am_ws ∧ Cond.selects (am_y 74).cls (am_y 74) (am_y 74) ∈ am_ws ∧ (∃ T N, am_cl[am_rc 74]? = some ((am_y 74).cls, T, N)) ∧ (parseMethodDescriptor (am_y 74).desc).map (fun d => d.parameters.length + 1) = some 3 := ⟨am_in1 702 (by decide +kernel) (by decide +kernel), am_in2 (q := (⟨"CacheLadderModel", "moveHand", "(II)V"⟩, 31)) (List.mem_of_getElem? (i := 36) (by decide +kernel)) rfl (by decide +kernel), ⟨_, _, rfl⟩, by decide +kernel⟩
theorem am_k_75 : Cond.instanceMethod (am_y 75) ∈ am_ws ∧ Cond.selects (am_y 75).cls (am_y 75) (am_y 75) ∈ am_ws ∧ (∃ T N, am_cl[am_rc 75]? = some ((am_y 75).cls, T, N)) ∧ (parseMethodDescriptor (am_y 75).desc).map (fun d => d.parameters.length + 1) = some 2 := ⟨am_in1 706 (by decide +kernel) (by decide +kernel), am_in2 (q := (⟨"CacheLadderModel", "use", "(I)V"⟩, 31)) (List.mem_of_getElem? (i := 37) (by decide +kernel)) rfl (by decide +kernel), ⟨_, _, rfl⟩, by decide +kernel⟩
theorem am_k_76 : Cond.instanceMethod (am_y 76) ∈ am_ws ∧ Cond.selects (am_y 76).cls (am_y 76) (am_y 76) ∈ am_ws ∧ (∃ T N, am_cl[am_rc 76]? = some ((am_y 76).cls, T, N)) ∧ (parseMethodDescriptor (am_y 76).desc).map (fun d => d.parameters.length + 1) = some 3 := ⟨am_in1 710 (by decide +kernel) (by decide +kernel), am_in2 (q := (⟨"CacheLadderModel", "answerLine", "(II)V"⟩, 31)) (List.mem_of_getElem? (i := 38) (by decide +kernel)) rfl (by decide +kernel), ⟨_, _, rfl⟩, by decide +kernel⟩
theorem am_k_77 : Cond.instanceMethod (am_y 77) ∈ am_ws ∧ Cond.selects (am_y 77).cls (am_y 77) (am_y 77) ∈ am_ws ∧ (∃ T N, am_cl[am_rc 77]? = some ((am_y 77).cls, T, N)) ∧ (parseMethodDescriptor (am_y 77).desc).map (fun d => d.parameters.length + 1) = some 3 := ⟨am_in1 714 (by decide +kernel) (by decide +kernel), am_in2 (q := (⟨"CacheLadderModel", "fillLine", "(IZ)V"⟩, 31)) (List.mem_of_getElem? (i := 39) (by decide +kernel)) rfl (by decide +kernel), ⟨_, _, rfl⟩, by decide +kernel⟩
theorem am_k_78 : Cond.instanceMethod (am_y 78) ∈ am_ws ∧ Cond.selects (am_y 78).cls (am_y 78) (am_y 78) ∈ am_ws ∧ (∃ T N, am_cl[am_rc 78]? = some ((am_y 78).cls, T, N)) ∧ (parseMethodDescriptor (am_y 78).desc).map (fun d => d.parameters.length + 1) = some 3 := ⟨am_in1 718 (by decide +kernel) (by decide +kernel), am_in2 (q := (⟨"CacheLadderModel", "place", "(II)V"⟩, 31)) (List.mem_of_getElem? (i := 40) (by decide +kernel)) rfl (by decide +kernel), ⟨_, _, rfl⟩, by decide +kernel⟩
theorem am_k_79 : Cond.instanceMethod (am_y 79) ∈ am_ws ∧ Cond.selects (am_y 79).cls (am_y 79) (am_y 79) ∈ am_ws ∧ (∃ T N, am_cl[am_rc 79]? = some ((am_y 79).cls, T, N)) ∧ (parseMethodDescriptor (am_y 79).desc).map (fun d => d.parameters.length + 1) = some 2 := ⟨am_in1 722 (by decide +kernel) (by decide +kernel), am_in2 (q := (⟨"CacheLadderModel", "stepWrite", "(I)V"⟩, 31)) (List.mem_of_getElem? (i := 41) (by decide +kernel)) rfl (by decide +kernel), ⟨_, _, rfl⟩, by decide +kernel⟩
theorem am_k_80 : Cond.instanceMethod (am_y 80) ∈ am_ws ∧ Cond.selects (am_y 80).cls (am_y 80) (am_y 80) ∈ am_ws ∧ (∃ T N, am_cl[am_rc 80]? = some ((am_y 80).cls, T, N)) ∧ (parseMethodDescriptor (am_y 80).desc).map (fun d => d.parameters.length + 1) = some 3 := ⟨am_in1 726 (by decide +kernel) (by decide +kernel), am_in2 (q := (⟨"CacheLadderModel", "storeWords", "(II)V"⟩, 31)) (List.mem_of_getElem? (i := 42) (by decide +kernel)) rfl (by decide +kernel), ⟨_, _, rfl⟩, by decide +kernel⟩
theorem am_k_81 : Cond.instanceMethod (am_y 81) ∈ am_ws ∧ Cond.selects (am_y 81).cls (am_y 81) (am_y 81) ∈ am_ws ∧ (∃ T N, am_cl[am_rc 81]? = some ((am_y 81).cls, T, N)) ∧ (parseMethodDescriptor (am_y 81).desc).map (fun d => d.parameters.length + 1) = some 2 := ⟨am_in1 730 (by decide +kernel) (by decide +kernel), am_in2 (q := (⟨"CacheLadderModel", "beginWrite", "(I)V"⟩, 31)) (List.mem_of_getElem? (i := 43) (by decide +kernel)) rfl (by decide +kernel), ⟨_, _, rfl⟩, by decide +kernel⟩
theorem am_k_82 : Cond.instanceMethod (am_y 82) ∈ am_ws ∧ Cond.selects (am_y 82).cls (am_y 82) (am_y 82) ∈ am_ws ∧ (∃ T N, am_cl[am_rc 82]? = some ((am_y 82).cls, T, N)) ∧ (parseMethodDescriptor (am_y 82).desc).map (fun d => d.parameters.length + 1) = some 2 := ⟨am_in1 734 (by decide +kernel) (by decide +kernel), am_in2 (q := (⟨"CacheLadderModel", "isWatched", "(I)Z"⟩, 31)) (List.mem_of_getElem? (i := 44) (by decide +kernel)) rfl (by decide +kernel), ⟨_, _, rfl⟩, by decide +kernel⟩
theorem am_k_83 : Cond.instanceMethod (am_y 83) ∈ am_ws ∧ Cond.selects (am_y 83).cls (am_y 83) (am_y 83) ∈ am_ws ∧ (∃ T N, am_cl[am_rc 83]? = some ((am_y 83).cls, T, N)) ∧ (parseMethodDescriptor (am_y 83).desc).map (fun d => d.parameters.length + 1) = some 6 := ⟨am_in1 738 (by decide +kernel) (by decide +kernel), am_in2 (q := (⟨"CacheLadderModel", "goDown", "(III[II)V"⟩, 31)) (List.mem_of_getElem? (i := 45) (by decide +kernel)) rfl (by decide +kernel), ⟨_, _, rfl⟩, by decide +kernel⟩
theorem am_k_84 : Cond.static (am_y 84) ∈ am_ws ∧ (parseMethodDescriptor (am_y 84).desc).map (fun d => d.parameters.length) = some 1 := ⟨am_in1 741 (by decide +kernel) (by decide +kernel), by decide +kernel⟩
theorem am_k_85 : Cond.instanceMethod (am_y 85) ∈ am_ws ∧ Cond.selects (am_y 85).cls (am_y 85) (am_y 85) ∈ am_ws ∧ (∃ T N, am_cl[am_rc 85]? = some ((am_y 85).cls, T, N)) ∧ (parseMethodDescriptor (am_y 85).desc).map (fun d => d.parameters.length + 1) = some 2 := ⟨am_in1 745 (by decide +kernel) (by decide +kernel), am_in2 (q := (⟨"CacheLadderModel", "stepLeave", "(I)V"⟩, 31)) (List.mem_of_getElem? (i := 46) (by decide +kernel)) rfl (by decide +kernel), ⟨_, _, rfl⟩, by decide +kernel⟩
theorem am_k_86 : Cond.instanceMethod (am_y 86) ∈ am_ws ∧ Cond.selects (am_y 86).cls (am_y 86) (am_y 86) ∈ am_ws ∧ (∃ T N, am_cl[am_rc 86]? = some ((am_y 86).cls, T, N)) ∧ (parseMethodDescriptor (am_y 86).desc).map (fun d => d.parameters.length + 1) = some 3 := ⟨am_in1 749 (by decide +kernel) (by decide +kernel), am_in2 (q := (⟨"CacheLadderModel", "gather", "(II)V"⟩, 31)) (List.mem_of_getElem? (i := 47) (by decide +kernel)) rfl (by decide +kernel), ⟨_, _, rfl⟩, by decide +kernel⟩
theorem am_k_87 : Cond.instanceMethod (am_y 87) ∈ am_ws ∧ Cond.selects (am_y 87).cls (am_y 87) (am_y 87) ∈ am_ws ∧ (∃ T N, am_cl[am_rc 87]? = some ((am_y 87).cls, T, N)) ∧ (parseMethodDescriptor (am_y 87).desc).map (fun d => d.parameters.length + 1) = some 3 := ⟨am_in1 752 (by decide +kernel) (by decide +kernel), am_in1 753 (by decide +kernel) (by decide +kernel), ⟨_, _, rfl⟩, by decide +kernel⟩
theorem am_k_88 : Cond.instanceMethod (am_y 88) ∈ am_ws ∧ Cond.selects (am_y 88).cls (am_y 88) (am_y 88) ∈ am_ws ∧ (∃ T N, am_cl[am_rc 88]? = some ((am_y 88).cls, T, N)) ∧ (parseMethodDescriptor (am_y 88).desc).map (fun d => d.parameters.length + 1) = some 3 := ⟨am_in1 757 (by decide +kernel) (by decide +kernel), am_in2 (q := (⟨"CacheLadderModel", "writeWord", "(II)V"⟩, 31)) (List.mem_of_getElem? (i := 48) (by decide +kernel)) rfl (by decide +kernel), ⟨_, _, rfl⟩, by decide +kernel⟩
theorem am_k_89 : Cond.instanceMethod (am_y 89) ∈ am_ws ∧ Cond.selects (am_y 89).cls (am_y 89) (am_y 89) ∈ am_ws ∧ (∃ T N, am_cl[am_rc 89]? = some ((am_y 89).cls, T, N)) ∧ (parseMethodDescriptor (am_y 89).desc).map (fun d => d.parameters.length + 1) = some 5 := ⟨am_in1 760 (by decide +kernel) (by decide +kernel), am_in1 761 (by decide +kernel) (by decide +kernel), ⟨_, _, rfl⟩, by decide +kernel⟩
theorem am_k_90 : Cond.instanceMethod (am_y 90) ∈ am_ws ∧ Cond.selects (am_y 90).cls (am_y 90) (am_y 90) ∈ am_ws ∧ (∃ T N, am_cl[am_rc 90]? = some ((am_y 90).cls, T, N)) ∧ (parseMethodDescriptor (am_y 90).desc).map (fun d => d.parameters.length + 1) = some 4 := ⟨am_in1 764 (by decide +kernel) (by decide +kernel), am_in1 765 (by decide +kernel) (by decide +kernel), ⟨_, _, rfl⟩, by decide +kernel⟩
theorem am_k_91 : Cond.instanceMethod (am_y 91) ∈ am_ws ∧ Cond.selects (am_y 91).cls (am_y 91) (am_y 91) ∈ am_ws ∧ (∃ T N, am_cl[am_rc 91]? = some ((am_y 91).cls, T, N)) ∧ (parseMethodDescriptor (am_y 91).desc).map (fun d => d.parameters.length + 1) = some 2 := ⟨am_in1 769 (by decide +kernel) (by decide +kernel), am_in1 770 (by decide +kernel) (by decide +kernel), ⟨_, _, rfl⟩, by decide +kernel⟩
theorem am_k_92 : Cond.instanceMethod (am_y 92) ∈ am_ws ∧ Cond.selects (am_y 92).cls (am_y 92) (am_y 92) ∈ am_ws ∧ (∃ T N, am_cl[am_rc 92]? = some ((am_y 92).cls, T, N)) ∧ (parseMethodDescriptor (am_y 92).desc).map (fun d => d.parameters.length + 1) = some 2 := ⟨am_in1 774 (by decide +kernel) (by decide +kernel), am_in2 (q := (⟨"CacheLadderModel", "newest", "(I)I"⟩, 31)) (List.mem_of_getElem? (i := 49) (by decide +kernel)) rfl (by decide +kernel), ⟨_, _, rfl⟩, by decide +kernel⟩
theorem am_k_93 : Cond.instanceMethod (am_y 93) ∈ am_ws ∧ Cond.selects (am_y 93).cls (am_y 93) (am_y 93) ∈ am_ws ∧ (∃ T N, am_cl[am_rc 93]? = some ((am_y 93).cls, T, N)) ∧ (parseMethodDescriptor (am_y 93).desc).map (fun d => d.parameters.length + 1) = some 2 := ⟨am_in1 777 (by decide +kernel) (by decide +kernel), am_in1 778 (by decide +kernel) (by decide +kernel), ⟨_, _, rfl⟩, by decide +kernel⟩
theorem am_k_94 : Cond.instanceMethod (am_y 94) ∈ am_ws ∧ Cond.selects (am_y 94).cls (am_y 94) (am_y 94) ∈ am_ws ∧ (∃ T N, am_cl[am_rc 94]? = some ((am_y 94).cls, T, N)) ∧ (parseMethodDescriptor (am_y 94).desc).map (fun d => d.parameters.length + 1) = some 2 := ⟨am_in1 781 (by decide +kernel) (by decide +kernel), am_in1 782 (by decide +kernel) (by decide +kernel), ⟨_, _, rfl⟩, by decide +kernel⟩
theorem am_k_95 : Cond.instanceMethod (am_y 95) ∈ am_ws ∧ Cond.selects (am_y 95).cls (am_y 95) (am_y 95) ∈ am_ws ∧ (∃ T N, am_cl[am_rc 95]? = some ((am_y 95).cls, T, N)) ∧ (parseMethodDescriptor (am_y 95).desc).map (fun d => d.parameters.length + 1) = some 2 := ⟨am_in1 786 (by decide +kernel) (by decide +kernel), am_in2 (q := (⟨"CacheLadderModel", "isTier", "(I)Z"⟩, 31)) (List.mem_of_getElem? (i := 50) (by decide +kernel)) rfl (by decide +kernel), ⟨_, _, rfl⟩, by decide +kernel⟩
theorem am_k_96 : Cond.instanceMethod (am_y 96) ∈ am_ws ∧ Cond.selects (am_y 96).cls (am_y 96) (am_y 96) ∈ am_ws ∧ (∃ T N, am_cl[am_rc 96]? = some ((am_y 96).cls, T, N)) ∧ (parseMethodDescriptor (am_y 96).desc).map (fun d => d.parameters.length + 1) = some 3 := ⟨am_in1 790 (by decide +kernel) (by decide +kernel), am_in2 (q := (⟨"CacheLadderModel", "each", "(II)I"⟩, 31)) (List.mem_of_getElem? (i := 51) (by decide +kernel)) rfl (by decide +kernel), ⟨_, _, rfl⟩, by decide +kernel⟩
theorem am_k_97 : Cond.instanceMethod (am_y 97) ∈ am_ws ∧ Cond.selects (am_y 97).cls (am_y 97) (am_y 97) ∈ am_ws ∧ (∃ T N, am_cl[am_rc 97]? = some ((am_y 97).cls, T, N)) ∧ (parseMethodDescriptor (am_y 97).desc).map (fun d => d.parameters.length + 1) = some 2 := ⟨am_in1 793 (by decide +kernel) (by decide +kernel), am_in1 794 (by decide +kernel) (by decide +kernel), ⟨_, _, rfl⟩, by decide +kernel⟩
theorem am_k_98 : Cond.instanceMethod (am_y 98) ∈ am_ws ∧ Cond.selects (am_y 98).cls (am_y 98) (am_y 98) ∈ am_ws ∧ (∃ T N, am_cl[am_rc 98]? = some ((am_y 98).cls, T, N)) ∧ (parseMethodDescriptor (am_y 98).desc).map (fun d => d.parameters.length + 1) = some 1 := ⟨am_in1 797 (by decide +kernel) (by decide +kernel), am_in1 798 (by decide +kernel) (by decide +kernel), ⟨_, _, rfl⟩, by decide +kernel⟩
theorem am_k_99 : Cond.instanceMethod (am_y 99) ∈ am_ws ∧ Cond.selects (am_y 99).cls (am_y 99) (am_y 99) ∈ am_ws ∧ (∃ T N, am_cl[am_rc 99]? = some ((am_y 99).cls, T, N)) ∧ (parseMethodDescriptor (am_y 99).desc).map (fun d => d.parameters.length + 1) = some 3 := ⟨am_in1 801 (by decide +kernel) (by decide +kernel), am_in1 802 (by decide +kernel) (by decide +kernel), ⟨_, _, rfl⟩, by decide +kernel⟩
theorem am_k_100 : Cond.instanceMethod (am_y 100) ∈ am_ws ∧ Cond.selects (am_y 100).cls (am_y 100) (am_y 100) ∈ am_ws ∧ (∃ T N, am_cl[am_rc 100]? = some ((am_y 100).cls, T, N)) ∧ (parseMethodDescriptor (am_y 100).desc).map (fun d => d.parameters.length + 1) = some 2 := ⟨am_in1 805 (by decide +kernel) (by decide +kernel), am_in1 806 (by decide +kernel) (by decide +kernel), ⟨_, _, rfl⟩, by decide +kernel⟩
theorem am_k_101 : Cond.instanceMethod (am_y 101) ∈ am_ws ∧ Cond.selects (am_y 101).cls (am_y 101) (am_y 101) ∈ am_ws ∧ (∃ T N, am_cl[am_rc 101]? = some ((am_y 101).cls, T, N)) ∧ (parseMethodDescriptor (am_y 101).desc).map (fun d => d.parameters.length + 1) = some 4 := ⟨am_in1 809 (by decide +kernel) (by decide +kernel), am_in1 810 (by decide +kernel) (by decide +kernel), ⟨_, _, rfl⟩, by decide +kernel⟩
theorem am_k_102 : Cond.instanceMethod (am_y 102) ∈ am_ws ∧ Cond.selects (am_y 102).cls (am_y 102) (am_y 102) ∈ am_ws ∧ (∃ T N, am_cl[am_rc 102]? = some ((am_y 102).cls, T, N)) ∧ (parseMethodDescriptor (am_y 102).desc).map (fun d => d.parameters.length + 1) = some 3 := ⟨am_in1 813 (by decide +kernel) (by decide +kernel), am_in1 814 (by decide +kernel) (by decide +kernel), ⟨_, _, rfl⟩, by decide +kernel⟩
theorem am_k_103 : Cond.instanceMethod (am_y 103) ∈ am_ws ∧ Cond.selects (am_y 103).cls (am_y 103) (am_y 103) ∈ am_ws ∧ (∃ T N, am_cl[am_rc 103]? = some ((am_y 103).cls, T, N)) ∧ (parseMethodDescriptor (am_y 103).desc).map (fun d => d.parameters.length + 1) = some 3 := ⟨am_in1 817 (by decide +kernel) (by decide +kernel), am_in1 818 (by decide +kernel) (by decide +kernel), ⟨_, _, rfl⟩, by decide +kernel⟩
theorem am_k_104 : Cond.instanceMethod (am_y 104) ∈ am_ws ∧ Cond.selects (am_y 104).cls (am_y 104) (am_y 104) ∈ am_ws ∧ (∃ T N, am_cl[am_rc 104]? = some ((am_y 104).cls, T, N)) ∧ (parseMethodDescriptor (am_y 104).desc).map (fun d => d.parameters.length + 1) = some 3 := ⟨am_in1 821 (by decide +kernel) (by decide +kernel), am_in1 822 (by decide +kernel) (by decide +kernel), ⟨_, _, rfl⟩, by decide +kernel⟩
theorem am_k_105 : Cond.instanceMethod (am_y 105) ∈ am_ws ∧ Cond.selects (am_y 105).cls (am_y 105) (am_y 105) ∈ am_ws ∧ (∃ T N, am_cl[am_rc 105]? = some ((am_y 105).cls, T, N)) ∧ (parseMethodDescriptor (am_y 105).desc).map (fun d => d.parameters.length + 1) = some 1 := ⟨am_in1 825 (by decide +kernel) (by decide +kernel), am_in1 826 (by decide +kernel) (by decide +kernel), ⟨_, _, rfl⟩, by decide +kernel⟩
theorem am_k_106 : Cond.instanceMethod (am_y 106) ∈ am_ws ∧ Cond.selects (am_y 106).cls (am_y 106) (am_y 106) ∈ am_ws ∧ (∃ T N, am_cl[am_rc 106]? = some ((am_y 106).cls, T, N)) ∧ (parseMethodDescriptor (am_y 106).desc).map (fun d => d.parameters.length + 1) = some 1 := ⟨am_in1 829 (by decide +kernel) (by decide +kernel), am_in1 830 (by decide +kernel) (by decide +kernel), ⟨_, _, rfl⟩, by decide +kernel⟩
theorem am_k_107 : Cond.static (am_y 107) ∈ am_ws ∧ (parseMethodDescriptor (am_y 107).desc).map (fun d => d.parameters.length) = some 7 := ⟨am_in1 112 (by decide +kernel) (by decide +kernel), by decide +kernel⟩
theorem am_k_108 : Cond.static (am_y 108) ∈ am_ws ∧ (parseMethodDescriptor (am_y 108).desc).map (fun d => d.parameters.length) = some 3 := ⟨am_in1 306 (by decide +kernel) (by decide +kernel), by decide +kernel⟩
theorem am_k_109 : Cond.static (am_y 109) ∈ am_ws ∧ (parseMethodDescriptor (am_y 109).desc).map (fun d => d.parameters.length) = some 3 := ⟨am_in1 426 (by decide +kernel) (by decide +kernel), by decide +kernel⟩
theorem am_k_110 : Cond.static (am_y 110) ∈ am_ws ∧ (parseMethodDescriptor (am_y 110).desc).map (fun d => d.parameters.length) = some 5 := ⟨am_in1 437 (by decide +kernel) (by decide +kernel), by decide +kernel⟩
theorem am_k_111 : Cond.static (am_y 111) ∈ am_ws ∧ (parseMethodDescriptor (am_y 111).desc).map (fun d => d.parameters.length) = some 5 := ⟨am_in1 446 (by decide +kernel) (by decide +kernel), by decide +kernel⟩
theorem am_k_112 : Cond.static (am_y 112) ∈ am_ws ∧ (parseMethodDescriptor (am_y 112).desc).map (fun d => d.parameters.length) = some 3 := ⟨am_in1 456 (by decide +kernel) (by decide +kernel), by decide +kernel⟩
theorem am_k_113 : Cond.static (am_y 113) ∈ am_ws ∧ (parseMethodDescriptor (am_y 113).desc).map (fun d => d.parameters.length) = some 3 := ⟨am_in1 463 (by decide +kernel) (by decide +kernel), by decide +kernel⟩
theorem am_k_114 : Cond.static (am_y 114) ∈ am_ws ∧ (parseMethodDescriptor (am_y 114).desc).map (fun d => d.parameters.length) = some 3 := ⟨am_in1 470 (by decide +kernel) (by decide +kernel), by decide +kernel⟩
theorem am_k_115 : Cond.static (am_y 115) ∈ am_ws ∧ (parseMethodDescriptor (am_y 115).desc).map (fun d => d.parameters.length) = some 3 := ⟨am_in1 482 (by decide +kernel) (by decide +kernel), by decide +kernel⟩
theorem am_k_116 : Cond.static (am_y 116) ∈ am_ws ∧ (parseMethodDescriptor (am_y 116).desc).map (fun d => d.parameters.length) = some 4 := ⟨am_in1 489 (by decide +kernel) (by decide +kernel), by decide +kernel⟩
theorem am_k_117 : Cond.static (am_y 117) ∈ am_ws ∧ (parseMethodDescriptor (am_y 117).desc).map (fun d => d.parameters.length) = some 5 := ⟨am_in1 497 (by decide +kernel) (by decide +kernel), by decide +kernel⟩
theorem am_k_118 : Cond.static (am_y 118) ∈ am_ws ∧ (parseMethodDescriptor (am_y 118).desc).map (fun d => d.parameters.length) = some 4 := ⟨am_in1 511 (by decide +kernel) (by decide +kernel), by decide +kernel⟩
theorem am_k_119 : Cond.static (am_y 119) ∈ am_ws ∧ (parseMethodDescriptor (am_y 119).desc).map (fun d => d.parameters.length) = some 4 := ⟨am_in1 523 (by decide +kernel) (by decide +kernel), by decide +kernel⟩
theorem am_k_120 : Cond.static (am_y 120) ∈ am_ws ∧ (parseMethodDescriptor (am_y 120).desc).map (fun d => d.parameters.length) = some 4 := ⟨am_in1 530 (by decide +kernel) (by decide +kernel), by decide +kernel⟩
theorem am_q_4_107 : Cond.methodLink (am_cn 4) 107 (am_y 17) ∈ am_ws := am_in1 50 (by decide +kernel) (by decide +kernel)
theorem am_q_2_90 : Cond.methodLink (am_cn 2) 90 (am_y 18) ∈ am_ws := am_in1 54 (by decide +kernel) (by decide +kernel)
theorem am_q_2_157 : Cond.methodLink (am_cn 2) 157 (am_y 2) ∈ am_ws := am_in1 58 (by decide +kernel) (by decide +kernel)
theorem am_q_1_53 : Cond.methodLink (am_cn 1) 53 (am_y 3) ∈ am_ws := am_in1 62 (by decide +kernel) (by decide +kernel)
theorem am_q_1_42 : Cond.methodLink (am_cn 1) 42 (am_y 4) ∈ am_ws := am_in1 66 (by decide +kernel) (by decide +kernel)
theorem am_q_1_46 : Cond.methodLink (am_cn 1) 46 (am_y 5) ∈ am_ws := am_in1 70 (by decide +kernel) (by decide +kernel)
theorem am_q_2_118 : Cond.methodLink (am_cn 2) 118 (am_y 19) ∈ am_ws := am_in1 74 (by decide +kernel) (by decide +kernel)
theorem am_q_2_122 : Cond.methodLink (am_cn 2) 122 (am_y 6) ∈ am_ws := am_in1 78 (by decide +kernel) (by decide +kernel)
theorem am_q_1_99 : Cond.methodLink (am_cn 1) 99 (am_y 0) ∈ am_ws := am_in1 82 (by decide +kernel) (by decide +kernel)
theorem am_q_4_115 : Cond.methodLink (am_cn 4) 115 (am_y 20) ∈ am_ws := am_in1 86 (by decide +kernel) (by decide +kernel)
theorem am_q_4_132 : Cond.methodLink (am_cn 4) 132 (am_y 21) ∈ am_ws := am_in1 90 (by decide +kernel) (by decide +kernel)
theorem am_q_4_136 : Cond.methodLink (am_cn 4) 136 (am_y 22) ∈ am_ws := am_in1 94 (by decide +kernel) (by decide +kernel)
theorem am_q_2_106 : Cond.methodLink (am_cn 2) 106 (am_y 1) ∈ am_ws := am_in1 98 (by decide +kernel) (by decide +kernel)
theorem am_q_2_169 : Cond.methodLink (am_cn 2) 169 (am_y 23) ∈ am_ws := am_in1 102 (by decide +kernel) (by decide +kernel)
theorem am_q_2_248 : Cond.methodLink (am_cn 2) 248 (am_y 24) ∈ am_ws := am_in1 106 (by decide +kernel) (by decide +kernel)
theorem am_q_2_154 : Cond.methodLink (am_cn 2) 154 (am_y 3) ∈ am_ws := am_in1 110 (by decide +kernel) (by decide +kernel)
theorem am_q_4_69 : Cond.methodLink (am_cn 4) 69 (am_y 107) ∈ am_ws := am_in1 111 (by decide +kernel) (by decide +kernel)
theorem am_q_4_7 : Cond.methodLink (am_cn 4) 7 (am_y 25) ∈ am_ws := am_in1 117 (by decide +kernel) (by decide +kernel)
theorem am_q_2_25 : Cond.methodLink (am_cn 2) 25 (am_y 26) ∈ am_ws := am_in1 121 (by decide +kernel) (by decide +kernel)
theorem am_q_2_173 : Cond.methodLink (am_cn 2) 173 (am_y 59) ∈ am_ws := am_in1 124 (by decide +kernel) (by decide +kernel)
theorem am_q_4_79 : Cond.methodLink (am_cn 4) 79 (am_y 108) ∈ am_ws := am_in1 305 (by decide +kernel) (by decide +kernel)
theorem am_q_4_19 : Cond.methodLink (am_cn 4) 19 (am_y 27) ∈ am_ws := am_in1 309 (by decide +kernel) (by decide +kernel)
theorem am_q_2_59 : Cond.methodLink (am_cn 2) 59 (am_y 28) ∈ am_ws := am_in1 313 (by decide +kernel) (by decide +kernel)
theorem am_q_2_63 : Cond.methodLink (am_cn 2) 63 (am_y 29) ∈ am_ws := am_in1 332 (by decide +kernel) (by decide +kernel)
theorem am_q_2_78 : Cond.methodLink (am_cn 2) 78 (am_y 30) ∈ am_ws := am_in1 336 (by decide +kernel) (by decide +kernel)
theorem am_q_2_189 : Cond.methodLink (am_cn 2) 189 (am_y 31) ∈ am_ws := am_in1 339 (by decide +kernel) (by decide +kernel)
theorem am_q_2_199 : Cond.methodLink (am_cn 2) 199 (am_y 32) ∈ am_ws := am_in1 346 (by decide +kernel) (by decide +kernel)
theorem am_q_2_207 : Cond.methodLink (am_cn 2) 207 (am_y 33) ∈ am_ws := am_in1 350 (by decide +kernel) (by decide +kernel)
theorem am_q_2_214 : Cond.methodLink (am_cn 2) 214 (am_y 4) ∈ am_ws := am_in1 354 (by decide +kernel) (by decide +kernel)
theorem am_q_2_163 : Cond.methodLink (am_cn 2) 163 (am_y 7) ∈ am_ws := am_in1 355 (by decide +kernel) (by decide +kernel)
theorem am_q_1_56 : Cond.methodLink (am_cn 1) 56 (am_y 1) ∈ am_ws := am_in1 359 (by decide +kernel) (by decide +kernel)
theorem am_q_2_217 : Cond.methodLink (am_cn 2) 217 (am_y 8) ∈ am_ws := am_in1 360 (by decide +kernel) (by decide +kernel)
theorem am_q_1_60 : Cond.methodLink (am_cn 1) 60 (am_y 9) ∈ am_ws := am_in1 364 (by decide +kernel) (by decide +kernel)
theorem am_q_1_83 : Cond.methodLink (am_cn 1) 83 (am_y 10) ∈ am_ws := am_in1 368 (by decide +kernel) (by decide +kernel)
theorem am_q_1_64 : Cond.methodLink (am_cn 1) 64 (am_y 11) ∈ am_ws := am_in1 372 (by decide +kernel) (by decide +kernel)
theorem am_q_1_70 : Cond.methodLink (am_cn 1) 70 (am_y 12) ∈ am_ws := am_in1 376 (by decide +kernel) (by decide +kernel)
theorem am_q_2_114 : Cond.methodLink (am_cn 2) 114 (am_y 34) ∈ am_ws := am_in1 380 (by decide +kernel) (by decide +kernel)
theorem am_q_2_223 : Cond.methodLink (am_cn 2) 223 (am_y 35) ∈ am_ws := am_in1 384 (by decide +kernel) (by decide +kernel)
theorem am_q_2_229 : Cond.methodLink (am_cn 2) 229 (am_y 36) ∈ am_ws := am_in1 388 (by decide +kernel) (by decide +kernel)
theorem am_q_2_226 : Cond.methodLink (am_cn 2) 226 (am_y 0) ∈ am_ws := am_in1 391 (by decide +kernel) (by decide +kernel)
theorem am_q_2_110 : Cond.methodLink (am_cn 2) 110 (am_y 37) ∈ am_ws := am_in1 392 (by decide +kernel) (by decide +kernel)
theorem am_q_2_233 : Cond.methodLink (am_cn 2) 233 (am_y 38) ∈ am_ws := am_in1 396 (by decide +kernel) (by decide +kernel)
theorem am_q_2_81 : Cond.methodLink (am_cn 2) 81 (am_y 39) ∈ am_ws := am_in1 400 (by decide +kernel) (by decide +kernel)
theorem am_q_2_239 : Cond.methodLink (am_cn 2) 239 (am_y 40) ∈ am_ws := am_in1 404 (by decide +kernel) (by decide +kernel)
theorem am_q_2_242 : Cond.methodLink (am_cn 2) 242 (am_y 41) ∈ am_ws := am_in1 408 (by decide +kernel) (by decide +kernel)
theorem am_q_2_245 : Cond.methodLink (am_cn 2) 245 (am_y 42) ∈ am_ws := am_in1 412 (by decide +kernel) (by decide +kernel)
theorem am_q_2_203 : Cond.methodLink (am_cn 2) 203 (am_y 13) ∈ am_ws := am_in1 416 (by decide +kernel) (by decide +kernel)
theorem am_q_2_210 : Cond.methodLink (am_cn 2) 210 (am_y 14) ∈ am_ws := am_in1 420 (by decide +kernel) (by decide +kernel)
theorem am_q_1_92 : Cond.methodLink (am_cn 1) 92 (am_y 13) ∈ am_ws := am_in1 424 (by decide +kernel) (by decide +kernel)
theorem am_q_4_83 : Cond.methodLink (am_cn 4) 83 (am_y 109) ∈ am_ws := am_in1 425 (by decide +kernel) (by decide +kernel)
theorem am_q_4_25 : Cond.methodLink (am_cn 4) 25 (am_y 43) ∈ am_ws := am_in1 428 (by decide +kernel) (by decide +kernel)
theorem am_q_2_67 : Cond.methodLink (am_cn 2) 67 (am_y 44) ∈ am_ws := am_in1 432 (by decide +kernel) (by decide +kernel)
theorem am_q_4_87 : Cond.methodLink (am_cn 4) 87 (am_y 110) ∈ am_ws := am_in1 436 (by decide +kernel) (by decide +kernel)
theorem am_q_4_29 : Cond.methodLink (am_cn 4) 29 (am_y 45) ∈ am_ws := am_in1 439 (by decide +kernel) (by decide +kernel)
theorem am_q_4_91 : Cond.methodLink (am_cn 4) 91 (am_y 111) ∈ am_ws := am_in1 445 (by decide +kernel) (by decide +kernel)
theorem am_q_4_33 : Cond.methodLink (am_cn 4) 33 (am_y 46) ∈ am_ws := am_in1 448 (by decide +kernel) (by decide +kernel)
theorem am_q_4_95 : Cond.methodLink (am_cn 4) 95 (am_y 112) ∈ am_ws := am_in1 455 (by decide +kernel) (by decide +kernel)
theorem am_q_4_37 : Cond.methodLink (am_cn 4) 37 (am_y 47) ∈ am_ws := am_in1 458 (by decide +kernel) (by decide +kernel)
theorem am_q_4_98 : Cond.methodLink (am_cn 4) 98 (am_y 113) ∈ am_ws := am_in1 462 (by decide +kernel) (by decide +kernel)
theorem am_q_4_40 : Cond.methodLink (am_cn 4) 40 (am_y 48) ∈ am_ws := am_in1 465 (by decide +kernel) (by decide +kernel)
theorem am_q_4_101 : Cond.methodLink (am_cn 4) 101 (am_y 114) ∈ am_ws := am_in1 469 (by decide +kernel) (by decide +kernel)
theorem am_q_4_43 : Cond.methodLink (am_cn 4) 43 (am_y 49) ∈ am_ws := am_in1 472 (by decide +kernel) (by decide +kernel)
theorem am_q_2_99 : Cond.methodLink (am_cn 2) 99 (am_y 50) ∈ am_ws := am_in1 476 (by decide +kernel) (by decide +kernel)
theorem am_q_4_104 : Cond.methodLink (am_cn 4) 104 (am_y 115) ∈ am_ws := am_in1 481 (by decide +kernel) (by decide +kernel)
theorem am_q_4_46 : Cond.methodLink (am_cn 4) 46 (am_y 51) ∈ am_ws := am_in1 484 (by decide +kernel) (by decide +kernel)
theorem am_q_4_111 : Cond.methodLink (am_cn 4) 111 (am_y 116) ∈ am_ws := am_in1 488 (by decide +kernel) (by decide +kernel)
theorem am_q_4_49 : Cond.methodLink (am_cn 4) 49 (am_y 52) ∈ am_ws := am_in1 491 (by decide +kernel) (by decide +kernel)
theorem am_q_4_120 : Cond.methodLink (am_cn 4) 120 (am_y 117) ∈ am_ws := am_in1 496 (by decide +kernel) (by decide +kernel)
theorem am_q_4_53 : Cond.methodLink (am_cn 4) 53 (am_y 53) ∈ am_ws := am_in1 499 (by decide +kernel) (by decide +kernel)
theorem am_q_2_136 : Cond.methodLink (am_cn 2) 136 (am_y 54) ∈ am_ws := am_in1 503 (by decide +kernel) (by decide +kernel)
theorem am_q_2_144 : Cond.methodLink (am_cn 2) 144 (am_y 5) ∈ am_ws := am_in1 509 (by decide +kernel) (by decide +kernel)
theorem am_q_4_123 : Cond.methodLink (am_cn 4) 123 (am_y 118) ∈ am_ws := am_in1 510 (by decide +kernel) (by decide +kernel)
theorem am_q_4_56 : Cond.methodLink (am_cn 4) 56 (am_y 55) ∈ am_ws := am_in1 513 (by decide +kernel) (by decide +kernel)
theorem am_q_2_151 : Cond.methodLink (am_cn 2) 151 (am_y 56) ∈ am_ws := am_in1 517 (by decide +kernel) (by decide +kernel)
theorem am_q_4_126 : Cond.methodLink (am_cn 4) 126 (am_y 119) ∈ am_ws := am_in1 522 (by decide +kernel) (by decide +kernel)
theorem am_q_4_59 : Cond.methodLink (am_cn 4) 59 (am_y 57) ∈ am_ws := am_in1 525 (by decide +kernel) (by decide +kernel)
theorem am_q_4_129 : Cond.methodLink (am_cn 4) 129 (am_y 120) ∈ am_ws := am_in1 529 (by decide +kernel) (by decide +kernel)
theorem am_q_4_62 : Cond.methodLink (am_cn 4) 62 (am_y 58) ∈ am_ws := am_in1 532 (by decide +kernel) (by decide +kernel)
theorem am_q_2_166 : Cond.methodLink (am_cn 2) 166 (am_y 15) ∈ am_ws := am_in1 536 (by decide +kernel) (by decide +kernel)
theorem am_q_1_67 : Cond.methodLink (am_cn 1) 67 (am_y 16) ∈ am_ws := am_in1 540 (by decide +kernel) (by decide +kernel)
theorem am_q_4_75 : Cond.methodLink (am_cn 4) 75 (am_y 60) ∈ am_ws := am_in1 645 (by decide +kernel) (by decide +kernel)
theorem am_q_4_74 : Cond.methodLink (am_cn 4) 74 (am_y 61) ∈ am_ws := am_in1 649 (by decide +kernel) (by decide +kernel)
theorem am_q_3_174 : Cond.methodLink (am_cn 3) 174 (am_y 62) ∈ am_ws := am_in1 653 (by decide +kernel) (by decide +kernel)
theorem am_q_4_82 : Cond.methodLink (am_cn 4) 82 (am_y 63) ∈ am_ws := am_in1 656 (by decide +kernel) (by decide +kernel)
theorem am_q_3_184 : Cond.methodLink (am_cn 3) 184 (am_y 64) ∈ am_ws := am_in1 660 (by decide +kernel) (by decide +kernel)
theorem am_q_3_124 : Cond.methodLink (am_cn 3) 124 (am_y 65) ∈ am_ws := am_in1 664 (by decide +kernel) (by decide +kernel)
theorem am_q_3_181 : Cond.methodLink (am_cn 3) 181 (am_y 66) ∈ am_ws := am_in1 668 (by decide +kernel) (by decide +kernel)
theorem am_q_3_105 : Cond.methodLink (am_cn 3) 105 (am_y 67) ∈ am_ws := am_in1 672 (by decide +kernel) (by decide +kernel)
theorem am_q_3_137 : Cond.methodLink (am_cn 3) 137 (am_y 68) ∈ am_ws := am_in1 676 (by decide +kernel) (by decide +kernel)
theorem am_q_3_87 : Cond.methodLink (am_cn 3) 87 (am_y 69) ∈ am_ws := am_in1 680 (by decide +kernel) (by decide +kernel)
theorem am_q_3_140 : Cond.methodLink (am_cn 3) 140 (am_y 70) ∈ am_ws := am_in1 684 (by decide +kernel) (by decide +kernel)
theorem am_q_3_114 : Cond.methodLink (am_cn 3) 114 (am_y 71) ∈ am_ws := am_in1 688 (by decide +kernel) (by decide +kernel)
theorem am_q_3_117 : Cond.methodLink (am_cn 3) 117 (am_y 72) ∈ am_ws := am_in1 692 (by decide +kernel) (by decide +kernel)
theorem am_q_3_98 : Cond.methodLink (am_cn 3) 98 (am_y 73) ∈ am_ws := am_in1 696 (by decide +kernel) (by decide +kernel)
theorem am_q_3_120 : Cond.methodLink (am_cn 3) 120 (am_y 74) ∈ am_ws := am_in1 700 (by decide +kernel) (by decide +kernel)
theorem am_q_3_94 : Cond.methodLink (am_cn 3) 94 (am_y 75) ∈ am_ws := am_in1 704 (by decide +kernel) (by decide +kernel)
theorem am_q_3_143 : Cond.methodLink (am_cn 3) 143 (am_y 76) ∈ am_ws := am_in1 708 (by decide +kernel) (by decide +kernel)
theorem am_q_3_146 : Cond.methodLink (am_cn 3) 146 (am_y 77) ∈ am_ws := am_in1 712 (by decide +kernel) (by decide +kernel)
theorem am_q_3_128 : Cond.methodLink (am_cn 3) 128 (am_y 78) ∈ am_ws := am_in1 716 (by decide +kernel) (by decide +kernel)
theorem am_q_3_108 : Cond.methodLink (am_cn 3) 108 (am_y 79) ∈ am_ws := am_in1 720 (by decide +kernel) (by decide +kernel)
theorem am_q_3_157 : Cond.methodLink (am_cn 3) 157 (am_y 80) ∈ am_ws := am_in1 724 (by decide +kernel) (by decide +kernel)
theorem am_q_3_160 : Cond.methodLink (am_cn 3) 160 (am_y 81) ∈ am_ws := am_in1 728 (by decide +kernel) (by decide +kernel)
theorem am_q_3_163 : Cond.methodLink (am_cn 3) 163 (am_y 82) ∈ am_ws := am_in1 732 (by decide +kernel) (by decide +kernel)
theorem am_q_3_167 : Cond.methodLink (am_cn 3) 167 (am_y 83) ∈ am_ws := am_in1 736 (by decide +kernel) (by decide +kernel)
theorem am_q_3_150 : Cond.methodLink (am_cn 3) 150 (am_y 84) ∈ am_ws := am_in1 740 (by decide +kernel) (by decide +kernel)
theorem am_q_3_111 : Cond.methodLink (am_cn 3) 111 (am_y 85) ∈ am_ws := am_in1 743 (by decide +kernel) (by decide +kernel)
theorem am_q_3_171 : Cond.methodLink (am_cn 3) 171 (am_y 86) ∈ am_ws := am_in1 747 (by decide +kernel) (by decide +kernel)
theorem am_q_4_86 : Cond.methodLink (am_cn 4) 86 (am_y 87) ∈ am_ws := am_in1 751 (by decide +kernel) (by decide +kernel)
theorem am_q_3_187 : Cond.methodLink (am_cn 3) 187 (am_y 88) ∈ am_ws := am_in1 755 (by decide +kernel) (by decide +kernel)
theorem am_q_4_90 : Cond.methodLink (am_cn 4) 90 (am_y 89) ∈ am_ws := am_in1 759 (by decide +kernel) (by decide +kernel)
theorem am_q_4_94 : Cond.methodLink (am_cn 4) 94 (am_y 90) ∈ am_ws := am_in1 763 (by decide +kernel) (by decide +kernel)
theorem am_q_4_97 : Cond.methodLink (am_cn 4) 97 (am_y 91) ∈ am_ws := am_in1 768 (by decide +kernel) (by decide +kernel)
theorem am_q_3_191 : Cond.methodLink (am_cn 3) 191 (am_y 92) ∈ am_ws := am_in1 772 (by decide +kernel) (by decide +kernel)
theorem am_q_4_100 : Cond.methodLink (am_cn 4) 100 (am_y 93) ∈ am_ws := am_in1 776 (by decide +kernel) (by decide +kernel)
theorem am_q_4_103 : Cond.methodLink (am_cn 4) 103 (am_y 94) ∈ am_ws := am_in1 780 (by decide +kernel) (by decide +kernel)
theorem am_q_3_194 : Cond.methodLink (am_cn 3) 194 (am_y 95) ∈ am_ws := am_in1 784 (by decide +kernel) (by decide +kernel)
theorem am_q_3_197 : Cond.methodLink (am_cn 3) 197 (am_y 96) ∈ am_ws := am_in1 788 (by decide +kernel) (by decide +kernel)
theorem am_q_4_106 : Cond.methodLink (am_cn 4) 106 (am_y 97) ∈ am_ws := am_in1 792 (by decide +kernel) (by decide +kernel)
theorem am_q_4_110 : Cond.methodLink (am_cn 4) 110 (am_y 98) ∈ am_ws := am_in1 796 (by decide +kernel) (by decide +kernel)
theorem am_q_4_114 : Cond.methodLink (am_cn 4) 114 (am_y 99) ∈ am_ws := am_in1 800 (by decide +kernel) (by decide +kernel)
theorem am_q_4_119 : Cond.methodLink (am_cn 4) 119 (am_y 100) ∈ am_ws := am_in1 804 (by decide +kernel) (by decide +kernel)
theorem am_q_4_122 : Cond.methodLink (am_cn 4) 122 (am_y 101) ∈ am_ws := am_in1 808 (by decide +kernel) (by decide +kernel)
theorem am_q_4_125 : Cond.methodLink (am_cn 4) 125 (am_y 102) ∈ am_ws := am_in1 812 (by decide +kernel) (by decide +kernel)
theorem am_q_4_128 : Cond.methodLink (am_cn 4) 128 (am_y 103) ∈ am_ws := am_in1 816 (by decide +kernel) (by decide +kernel)
theorem am_q_4_131 : Cond.methodLink (am_cn 4) 131 (am_y 104) ∈ am_ws := am_in1 820 (by decide +kernel) (by decide +kernel)
theorem am_q_4_135 : Cond.methodLink (am_cn 4) 135 (am_y 105) ∈ am_ws := am_in1 824 (by decide +kernel) (by decide +kernel)
theorem am_q_4_139 : Cond.methodLink (am_cn 4) 139 (am_y 106) ∈ am_ws := am_in1 828 (by decide +kernel) (by decide +kernel)
end
section
def am_np : List (Nat × Nat) := [(1, 0), (2, 0), (2, 1), (3, 0), (0, 3)]
theorem am_LPs {m oc idx cal k : Nat} (hm : (am_y m).cls = am_cn oc) (h1 : am_CP cal) (h2 : Cond.methodLink (am_cn oc) idx (am_y cal) ∈ am_ws) (h3 : Cond.static (am_y cal) ∈ am_ws ∧ (parseMethodDescriptor (am_y cal).desc).map (fun d => d.parameters.length) = some k) : am_LP m idx cal k 0 := ⟨h1, by rw [hm]; exact h2, Or.inl ⟨rfl, h3⟩⟩
theorem am_LPv {m oc idx cal k : Nat} (hm : (am_y m).cls = am_cn oc) (h1 : am_CP cal) (h2 : Cond.methodLink (am_cn oc) idx (am_y cal) ∈ am_ws) (h3 : Cond.instanceMethod (am_y cal) ∈ am_ws ∧ Cond.selects (am_y cal).cls (am_y cal) (am_y cal) ∈ am_ws ∧ (∃ T N, am_cl[am_rc cal]? = some ((am_y cal).cls, T, N)) ∧ (parseMethodDescriptor (am_y cal).desc).map (fun d => d.parameters.length + 1) = some k) : am_LP m idx cal k 1 := ⟨h1, by rw [hm]; exact h2, Or.inr ⟨rfl, h3⟩⟩
theorem am_fm_1 {m idx cal k kd : Nat} (hc : (am_y m).cls = am_cn 1) (h1 : (idx, cal, k, kd) ∈ am_mt 1) : am_LP m idx cal k kd := by
  simp only [am_mt, List.mem_cons, List.not_mem_nil, or_false, Prod.mk.injEq] at h1
  rcases h1 with ⟨rfl, rfl, rfl, rfl⟩ | ⟨rfl, rfl, rfl, rfl⟩ | ⟨rfl, rfl, rfl, rfl⟩ | ⟨rfl, rfl, rfl, rfl⟩ | ⟨rfl, rfl, rfl, rfl⟩ | ⟨rfl, rfl, rfl, rfl⟩ | ⟨rfl, rfl, rfl, rfl⟩ | ⟨rfl, rfl, rfl, rfl⟩ | ⟨rfl, rfl, rfl, rfl⟩ | ⟨rfl, rfl, rfl, rfl⟩ | ⟨rfl, rfl, rfl, rfl⟩
  · exact am_LPv hc am_c_3 am_q_1_53 am_k_3
  · exact am_LPv hc am_c_4 am_q_1_42 am_k_4
  · exact am_LPv hc am_c_5 am_q_1_46 am_k_5
  · exact am_LPv hc am_c_0 am_q_1_99 am_k_0
  · exact am_LPv hc am_c_1 am_q_1_56 am_k_1
  · exact am_LPv hc am_c_9 am_q_1_60 am_k_9
  · exact am_LPv hc am_c_10 am_q_1_83 am_k_10
  · exact am_LPv hc am_c_11 am_q_1_64 am_k_11
  · exact am_LPv hc am_c_12 am_q_1_70 am_k_12
  · exact am_LPv hc am_c_13 am_q_1_92 am_k_13
  · exact am_LPv hc am_c_16 am_q_1_67 am_k_16
theorem am_fm_2 {m idx cal k kd : Nat} (hc : (am_y m).cls = am_cn 2) (h1 : (idx, cal, k, kd) ∈ am_mt 2) : am_LP m idx cal k kd := by
  simp only [am_mt, List.mem_cons, List.not_mem_nil, or_false, Prod.mk.injEq] at h1
  rcases h1 with ⟨rfl, rfl, rfl, rfl⟩ | ⟨rfl, rfl, rfl, rfl⟩ | ⟨rfl, rfl, rfl, rfl⟩ | ⟨rfl, rfl, rfl, rfl⟩ | ⟨rfl, rfl, rfl, rfl⟩ | ⟨rfl, rfl, rfl, rfl⟩ | ⟨rfl, rfl, rfl, rfl⟩ | ⟨rfl, rfl, rfl, rfl⟩ | ⟨rfl, rfl, rfl, rfl⟩ | ⟨rfl, rfl, rfl, rfl⟩ | ⟨rfl, rfl, rfl, rfl⟩ | ⟨rfl, rfl, rfl, rfl⟩ | ⟨rfl, rfl, rfl, rfl⟩ | ⟨rfl, rfl, rfl, rfl⟩ | ⟨rfl, rfl, rfl, rfl⟩ | ⟨rfl, rfl, rfl, rfl⟩ | ⟨rfl, rfl, rfl, rfl⟩ | ⟨rfl, rfl, rfl, rfl⟩ | ⟨rfl, rfl, rfl, rfl⟩ | ⟨rfl, rfl, rfl, rfl⟩ | ⟨rfl, rfl, rfl, rfl⟩ | ⟨rfl, rfl, rfl, rfl⟩ | ⟨rfl, rfl, rfl, rfl⟩ | ⟨rfl, rfl, rfl, rfl⟩ | ⟨rfl, rfl, rfl, rfl⟩ | ⟨rfl, rfl, rfl, rfl⟩ | ⟨rfl, rfl, rfl, rfl⟩ | ⟨rfl, rfl, rfl, rfl⟩ | ⟨rfl, rfl, rfl, rfl⟩ | ⟨rfl, rfl, rfl, rfl⟩ | ⟨rfl, rfl, rfl, rfl⟩ | ⟨rfl, rfl, rfl, rfl⟩ | ⟨rfl, rfl, rfl, rfl⟩ | ⟨rfl, rfl, rfl, rfl⟩ | ⟨rfl, rfl, rfl, rfl⟩ | ⟨rfl, rfl, rfl, rfl⟩ | ⟨rfl, rfl, rfl, rfl⟩
  · exact am_LPv hc am_c_18 am_q_2_90 am_k_18
  · exact am_LPv hc am_c_2 am_q_2_157 am_k_2
  · exact am_LPv hc am_c_19 am_q_2_118 am_k_19
  · exact am_LPv hc am_c_6 am_q_2_122 am_k_6
  · exact am_LPv hc am_c_1 am_q_2_106 am_k_1
  · exact am_LPv hc am_c_23 am_q_2_169 am_k_23
  · exact am_LPv hc am_c_24 am_q_2_248 am_k_24
  · exact am_LPv hc am_c_3 am_q_2_154 am_k_3
  · exact am_LPs hc am_c_26 am_q_2_25 am_k_26
  · exact am_LPs hc am_c_59 am_q_2_173 am_k_59
  · exact am_LPs hc am_c_28 am_q_2_59 am_k_28
  · exact am_LPv hc am_c_29 am_q_2_63 am_k_29
  · exact am_LPs hc am_c_30 am_q_2_78 am_k_30
  · exact am_LPv hc am_c_31 am_q_2_189 am_k_31
  · exact am_LPv hc am_c_32 am_q_2_199 am_k_32
  · exact am_LPv hc am_c_33 am_q_2_207 am_k_33
  · exact am_LPv hc am_c_4 am_q_2_214 am_k_4
  · exact am_LPv hc am_c_7 am_q_2_163 am_k_7
  · exact am_LPv hc am_c_8 am_q_2_217 am_k_8
  · exact am_LPv hc am_c_34 am_q_2_114 am_k_34
  · exact am_LPv hc am_c_35 am_q_2_223 am_k_35
  · exact am_LPs hc am_c_36 am_q_2_229 am_k_36
  · exact am_LPv hc am_c_0 am_q_2_226 am_k_0
  · exact am_LPv hc am_c_37 am_q_2_110 am_k_37
  · exact am_LPv hc am_c_38 am_q_2_233 am_k_38
  · exact am_LPv hc am_c_39 am_q_2_81 am_k_39
  · exact am_LPv hc am_c_40 am_q_2_239 am_k_40
  · exact am_LPv hc am_c_41 am_q_2_242 am_k_41
  · exact am_LPv hc am_c_42 am_q_2_245 am_k_42
  · exact am_LPv hc am_c_13 am_q_2_203 am_k_13
  · exact am_LPv hc am_c_14 am_q_2_210 am_k_14
  · exact am_LPv hc am_c_44 am_q_2_67 am_k_44
  · exact am_LPv hc am_c_50 am_q_2_99 am_k_50
  · exact am_LPv hc am_c_54 am_q_2_136 am_k_54
  · exact am_LPv hc am_c_5 am_q_2_144 am_k_5
  · exact am_LPv hc am_c_56 am_q_2_151 am_k_56
  · exact am_LPv hc am_c_15 am_q_2_166 am_k_15
theorem am_fm_3 {m idx cal k kd : Nat} (hc : (am_y m).cls = am_cn 3) (h1 : (idx, cal, k, kd) ∈ am_mt 3) : am_LP m idx cal k kd := by
  simp only [am_mt, List.mem_cons, List.not_mem_nil, or_false, Prod.mk.injEq] at h1
  rcases h1 with ⟨rfl, rfl, rfl, rfl⟩ | ⟨rfl, rfl, rfl, rfl⟩ | ⟨rfl, rfl, rfl, rfl⟩ | ⟨rfl, rfl, rfl, rfl⟩ | ⟨rfl, rfl, rfl, rfl⟩ | ⟨rfl, rfl, rfl, rfl⟩ | ⟨rfl, rfl, rfl, rfl⟩ | ⟨rfl, rfl, rfl, rfl⟩ | ⟨rfl, rfl, rfl, rfl⟩ | ⟨rfl, rfl, rfl, rfl⟩ | ⟨rfl, rfl, rfl, rfl⟩ | ⟨rfl, rfl, rfl, rfl⟩ | ⟨rfl, rfl, rfl, rfl⟩ | ⟨rfl, rfl, rfl, rfl⟩ | ⟨rfl, rfl, rfl, rfl⟩ | ⟨rfl, rfl, rfl, rfl⟩ | ⟨rfl, rfl, rfl, rfl⟩ | ⟨rfl, rfl, rfl, rfl⟩ | ⟨rfl, rfl, rfl, rfl⟩ | ⟨rfl, rfl, rfl, rfl⟩ | ⟨rfl, rfl, rfl, rfl⟩ | ⟨rfl, rfl, rfl, rfl⟩ | ⟨rfl, rfl, rfl, rfl⟩ | ⟨rfl, rfl, rfl, rfl⟩ | ⟨rfl, rfl, rfl, rfl⟩ | ⟨rfl, rfl, rfl, rfl⟩ | ⟨rfl, rfl, rfl, rfl⟩ | ⟨rfl, rfl, rfl, rfl⟩
  · exact am_LPs hc am_c_62 am_q_3_174 am_k_62
  · exact am_LPv hc am_c_64 am_q_3_184 am_k_64
  · exact am_LPv hc am_c_65 am_q_3_124 am_k_65
  · exact am_LPv hc am_c_66 am_q_3_181 am_k_66
  · exact am_LPv hc am_c_67 am_q_3_105 am_k_67
  · exact am_LPv hc am_c_68 am_q_3_137 am_k_68
  · exact am_LPv hc am_c_69 am_q_3_87 am_k_69
  · exact am_LPv hc am_c_70 am_q_3_140 am_k_70
  · exact am_LPv hc am_c_71 am_q_3_114 am_k_71
  · exact am_LPv hc am_c_72 am_q_3_117 am_k_72
  · exact am_LPv hc am_c_73 am_q_3_98 am_k_73
  · exact am_LPv hc am_c_74 am_q_3_120 am_k_74
  · exact am_LPv hc am_c_75 am_q_3_94 am_k_75
  · exact am_LPv hc am_c_76 am_q_3_143 am_k_76
  · exact am_LPv hc am_c_77 am_q_3_146 am_k_77
  · exact am_LPv hc am_c_78 am_q_3_128 am_k_78
  · exact am_LPv hc am_c_79 am_q_3_108 am_k_79
  · exact am_LPv hc am_c_80 am_q_3_157 am_k_80
  · exact am_LPv hc am_c_81 am_q_3_160 am_k_81
  · exact am_LPv hc am_c_82 am_q_3_163 am_k_82
  · exact am_LPv hc am_c_83 am_q_3_167 am_k_83
  · exact am_LPs hc am_c_84 am_q_3_150 am_k_84
  · exact am_LPv hc am_c_85 am_q_3_111 am_k_85
  · exact am_LPv hc am_c_86 am_q_3_171 am_k_86
  · exact am_LPv hc am_c_88 am_q_3_187 am_k_88
  · exact am_LPv hc am_c_92 am_q_3_191 am_k_92
  · exact am_LPv hc am_c_95 am_q_3_194 am_k_95
  · exact am_LPv hc am_c_96 am_q_3_197 am_k_96
theorem am_fm_4 {m idx cal k kd : Nat} (hc : (am_y m).cls = am_cn 4) (h1 : (idx, cal, k, kd) ∈ am_mt 4) : am_LP m idx cal k kd := by
  simp only [am_mt, List.mem_cons, List.not_mem_nil, or_false, Prod.mk.injEq] at h1
  rcases h1 with ⟨rfl, rfl, rfl, rfl⟩ | ⟨rfl, rfl, rfl, rfl⟩ | ⟨rfl, rfl, rfl, rfl⟩ | ⟨rfl, rfl, rfl, rfl⟩ | ⟨rfl, rfl, rfl, rfl⟩ | ⟨rfl, rfl, rfl, rfl⟩ | ⟨rfl, rfl, rfl, rfl⟩ | ⟨rfl, rfl, rfl, rfl⟩ | ⟨rfl, rfl, rfl, rfl⟩ | ⟨rfl, rfl, rfl, rfl⟩ | ⟨rfl, rfl, rfl, rfl⟩ | ⟨rfl, rfl, rfl, rfl⟩ | ⟨rfl, rfl, rfl, rfl⟩ | ⟨rfl, rfl, rfl, rfl⟩ | ⟨rfl, rfl, rfl, rfl⟩ | ⟨rfl, rfl, rfl, rfl⟩ | ⟨rfl, rfl, rfl, rfl⟩ | ⟨rfl, rfl, rfl, rfl⟩ | ⟨rfl, rfl, rfl, rfl⟩ | ⟨rfl, rfl, rfl, rfl⟩ | ⟨rfl, rfl, rfl, rfl⟩ | ⟨rfl, rfl, rfl, rfl⟩ | ⟨rfl, rfl, rfl, rfl⟩ | ⟨rfl, rfl, rfl, rfl⟩ | ⟨rfl, rfl, rfl, rfl⟩ | ⟨rfl, rfl, rfl, rfl⟩ | ⟨rfl, rfl, rfl, rfl⟩ | ⟨rfl, rfl, rfl, rfl⟩ | ⟨rfl, rfl, rfl, rfl⟩ | ⟨rfl, rfl, rfl, rfl⟩ | ⟨rfl, rfl, rfl, rfl⟩ | ⟨rfl, rfl, rfl, rfl⟩ | ⟨rfl, rfl, rfl, rfl⟩ | ⟨rfl, rfl, rfl, rfl⟩ | ⟨rfl, rfl, rfl, rfl⟩ | ⟨rfl, rfl, rfl, rfl⟩ | ⟨rfl, rfl, rfl, rfl⟩ | ⟨rfl, rfl, rfl, rfl⟩ | ⟨rfl, rfl, rfl, rfl⟩ | ⟨rfl, rfl, rfl, rfl⟩ | ⟨rfl, rfl, rfl, rfl⟩ | ⟨rfl, rfl, rfl, rfl⟩ | ⟨rfl, rfl, rfl, rfl⟩ | ⟨rfl, rfl, rfl, rfl⟩ | ⟨rfl, rfl, rfl, rfl⟩ | ⟨rfl, rfl, rfl, rfl⟩ | ⟨rfl, rfl, rfl, rfl⟩ | ⟨rfl, rfl, rfl, rfl⟩ | ⟨rfl, rfl, rfl, rfl⟩ | ⟨rfl, rfl, rfl, rfl⟩ | ⟨rfl, rfl, rfl, rfl⟩
  · exact am_LPv hc am_c_17 am_q_4_107 am_k_17
  · exact am_LPv hc am_c_20 am_q_4_115 am_k_20
  · exact am_LPv hc am_c_21 am_q_4_132 am_k_21
  · exact am_LPv hc am_c_22 am_q_4_136 am_k_22
  · exact am_LPs hc am_c_107 am_q_4_69 am_k_107
  · exact am_LPv hc am_c_25 am_q_4_7 am_k_25
  · exact am_LPs hc am_c_108 am_q_4_79 am_k_108
  · exact am_LPv hc am_c_27 am_q_4_19 am_k_27
  · exact am_LPs hc am_c_109 am_q_4_83 am_k_109
  · exact am_LPv hc am_c_43 am_q_4_25 am_k_43
  · exact am_LPs hc am_c_110 am_q_4_87 am_k_110
  · exact am_LPv hc am_c_45 am_q_4_29 am_k_45
  · exact am_LPs hc am_c_111 am_q_4_91 am_k_111
  · exact am_LPv hc am_c_46 am_q_4_33 am_k_46
  · exact am_LPs hc am_c_112 am_q_4_95 am_k_112
  · exact am_LPv hc am_c_47 am_q_4_37 am_k_47
  · exact am_LPs hc am_c_113 am_q_4_98 am_k_113
  · exact am_LPv hc am_c_48 am_q_4_40 am_k_48
  · exact am_LPs hc am_c_114 am_q_4_101 am_k_114
  · exact am_LPv hc am_c_49 am_q_4_43 am_k_49
  · exact am_LPs hc am_c_115 am_q_4_104 am_k_115
  · exact am_LPv hc am_c_51 am_q_4_46 am_k_51
  · exact am_LPs hc am_c_116 am_q_4_111 am_k_116
  · exact am_LPv hc am_c_52 am_q_4_49 am_k_52
  · exact am_LPs hc am_c_117 am_q_4_120 am_k_117
  · exact am_LPv hc am_c_53 am_q_4_53 am_k_53
  · exact am_LPs hc am_c_118 am_q_4_123 am_k_118
  · exact am_LPv hc am_c_55 am_q_4_56 am_k_55
  · exact am_LPs hc am_c_119 am_q_4_126 am_k_119
  · exact am_LPv hc am_c_57 am_q_4_59 am_k_57
  · exact am_LPs hc am_c_120 am_q_4_129 am_k_120
  · exact am_LPv hc am_c_58 am_q_4_62 am_k_58
  · exact am_LPv hc am_c_60 am_q_4_75 am_k_60
  · exact am_LPv hc am_c_61 am_q_4_74 am_k_61
  · exact am_LPv hc am_c_63 am_q_4_82 am_k_63
  · exact am_LPv hc am_c_87 am_q_4_86 am_k_87
  · exact am_LPv hc am_c_89 am_q_4_90 am_k_89
  · exact am_LPv hc am_c_90 am_q_4_94 am_k_90
  · exact am_LPv hc am_c_91 am_q_4_97 am_k_91
  · exact am_LPv hc am_c_93 am_q_4_100 am_k_93
  · exact am_LPv hc am_c_94 am_q_4_103 am_k_94
  · exact am_LPv hc am_c_97 am_q_4_106 am_k_97
  · exact am_LPv hc am_c_98 am_q_4_110 am_k_98
  · exact am_LPv hc am_c_99 am_q_4_114 am_k_99
  · exact am_LPv hc am_c_100 am_q_4_119 am_k_100
  · exact am_LPv hc am_c_101 am_q_4_122 am_k_101
  · exact am_LPv hc am_c_102 am_q_4_125 am_k_102
  · exact am_LPv hc am_c_103 am_q_4_128 am_k_103
  · exact am_LPv hc am_c_104 am_q_4_131 am_k_104
  · exact am_LPv hc am_c_105 am_q_4_135 am_k_105
  · exact am_LPv hc am_c_106 am_q_4_139 am_k_106
theorem am_fact_m {m idx cal k kd : Nat} (h : am_ml m idx = some (cal, k, kd)) : am_LP m idx cal k kd := by
  have hm : m < 122 := by
    rcases Nat.lt_or_ge m 122 with hm | hm
    · exact hm
    · have : am_oc m = 99 := by unfold am_oc; rw [am_row_out hm]
      unfold am_ml at h
      rw [this] at h
      cases h
  have hc := am_oc_ok m hm
  have h1 := am_find_mem h
  revert hc h1
  generalize am_oc m = oc
  intro hc h1
  match oc, hc, h1 with
  | 1, hc, h1 => exact am_fm_1 hc h1
  | 2, hc, h1 => exact am_fm_2 hc h1
  | 3, hc, h1 => exact am_fm_3 hc h1
  | 4, hc, h1 => exact am_fm_4 hc h1
theorem am_k_c_5_265 : Cond.constant (am_cn 5) 265 1431655765 ∈ am_ws := am_in1 127 (by decide +kernel) (by decide +kernel)
theorem am_k_c_5_266 : Cond.constant (am_cn 5) 266 858993459 ∈ am_ws := am_in1 128 (by decide +kernel) (by decide +kernel)
theorem am_k_c_5_267 : Cond.constant (am_cn 5) 267 252645135 ∈ am_ws := am_in1 129 (by decide +kernel) (by decide +kernel)
theorem am_k_c_2_89 : Cond.constant (am_cn 2) 89 1103515245 ∈ am_ws := am_in1 454 (by decide +kernel) (by decide +kernel)
theorem am_k_c_3_190 : Cond.constant (am_cn 3) 190 1103515245 ∈ am_ws := am_in1 767 (by decide +kernel) (by decide +kernel)
theorem am_fact_k {m idx : Nat} {v : Int32} (h : am_kc m idx = some v) : Cond.constant (am_y m).cls idx v ∈ am_ws := by
  have hm : m < 122 := by
    rcases Nat.lt_or_ge m 122 with hm | hm
    · exact hm
    · have : am_oc m = 99 := by unfold am_oc; rw [am_row_out hm]
      unfold am_kc at h
      rw [this] at h
      cases h
  have hc := am_oc_ok m hm
  have h1 := am_find_mem h
  rw [hc]
  revert h1
  generalize am_oc m = oc
  intro h1
  match oc, h1 with
  | 2, h1 =>
    simp only [am_kt, List.mem_cons, List.not_mem_nil, or_false, Prod.mk.injEq] at h1
    rcases h1 with ⟨rfl, rfl⟩
    · exact am_k_c_2_89
  | 3, h1 =>
    simp only [am_kt, List.mem_cons, List.not_mem_nil, or_false, Prod.mk.injEq] at h1
    rcases h1 with ⟨rfl, rfl⟩
    · exact am_k_c_3_190
  | 5, h1 =>
    simp only [am_kt, List.mem_cons, List.not_mem_nil, or_false, Prod.mk.injEq] at h1
    rcases h1 with ⟨rfl, rfl⟩ | ⟨rfl, rfl⟩ | ⟨rfl, rfl⟩
    · exact am_k_c_5_265
    · exact am_k_c_5_266
    · exact am_k_c_5_267
theorem am_fact_ac {m idx : Nat} (h : am_ac m idx = true) : Cond.methodLink (am_y m).cls idx arraycopyName ∈ am_ws ∧ Cond.native arraycopyName ∈ am_ws ∧ Cond.static arraycopyName ∈ am_ws ∧ Cond.initialized "java/lang/System" ∈ am_ws := by
  simp only [am_ac, Bool.and_eq_true, beq_iff_eq] at h
  obtain ⟨h1, rfl⟩ := h
  have hm : m < 122 := by
    rcases Nat.lt_or_ge m 122 with hm | hm
    · exact hm
    · have : am_oc m = 99 := by unfold am_oc; rw [am_row_out hm]
      rw [this] at h1
      cases h1
  rw [am_oc_ok m hm, h1]
  exact ⟨am_in1 343 (by decide +kernel) (by decide +kernel), am_in1 345 (by decide +kernel) (by decide +kernel), am_in1 344 (by decide +kernel) (by decide +kernel), am_in1 13 (by decide +kernel) (by decide +kernel)⟩
theorem am_fact_ra {m : Nat} (h : am_ra m = true) : ∃ nm, am_rt m = some (.object nm) := by
  unfold am_ra at h
  split at h
  · rename_i nm hn; exact ⟨nm, hn⟩
  · cases h
theorem am_fact_h0 {m pc x : Nat} (h : am_hd m pc x = some none) : am_hh m = [] := by
  unfold am_hd at h
  split at h
  · assumption
  · cases hf : am_ht.find? (fun e => e.1 == m && e.2.1 == pc && e.2.2.1 == x) with
    | none => rw [hf] at h; cases h
    | some e => rw [hf] at h; cases h
theorem am_mk_u {j : Nat} {u N : Nat} (h : am_mk j = some (Sum.inr (u, N))) : u ≤ 1 := by
  unfold am_mk at h
  split at h <;> cases h <;> decide
theorem am_fact_u {sh : am_Sh} {k : am_K} {u N : Nat} (h : am_ct sh k = some (Sum.inr (u, N))) : u ≤ 5 := by
  unfold am_ct at h
  split at h <;> first
    | (split at h <;> first | (cases h; decide) | cases h)
    | cases h
    | (split at h
       · exact Nat.le_trans (am_mk_u h) (by decide)
       · cases h)
/-- where an exception is caught: its row in the table, the rows ahead of it -/
def am_HP (m pc x h : Nat) : Prop := ∃ (pre post : List (Nat × Nat × Nat × Nat)) (a b ct : Nat), am_hh m = pre ++ (a, b, h, ct) :: post ∧ a ≤ pc ∧ pc < b ∧ ct ≠ 0 ∧ Cond.classLink (am_y m).cls ct (am_xn x) ∈ am_ws ∧ x < 4 ∧ ∀ z ∈ pre, z.1 ≤ pc ∧ pc < z.2.1 ∧ z.2.2.2 ≠ 0 ∧ ∃ x', (x, x') ∈ am_np ∧ Cond.classLink (am_y m).cls z.2.2.2 (am_xn x') ∈ am_ws
theorem am_cl_13 : Cond.classLink (am_cn 4) 13 (am_xn 0) ∈ am_ws := am_in1 114 (by decide +kernel) (by decide +kernel)
theorem am_cl_15 : Cond.classLink (am_cn 4) 15 (am_xn 1) ∈ am_ws := am_in1 115 (by decide +kernel) (by decide +kernel)
theorem am_cl_17 : Cond.classLink (am_cn 4) 17 (am_xn 2) ∈ am_ws := am_in1 116 (by decide +kernel) (by decide +kernel)
theorem am_cl_23 : Cond.classLink (am_cn 4) 23 (am_xn 3) ∈ am_ws := am_in1 308 (by decide +kernel) (by decide +kernel)
theorem am_h_107_11_0 : am_HP 107 11 0 19 := by
  refine ⟨[], [(0, 16, 23, 15), (0, 16, 27, 17)], 0, 16, 13, rfl, by decide, by decide, by decide, am_cl_13, by decide, fun z hz => by cases hz⟩
theorem am_h_107_11_1 : am_HP 107 11 1 23 := by
  refine ⟨[(0, 16, 19, 13)], [(0, 16, 27, 17)], 0, 16, 15, rfl, by decide, by decide, by decide, am_cl_15, by decide, ?_⟩
  intro z hz
  simp only [List.mem_cons, List.not_mem_nil, or_false] at hz
  rcases hz with rfl
  · exact ⟨by decide, by decide, by decide, 0, by decide, am_cl_13⟩
theorem am_h_107_11_2 : am_HP 107 11 2 27 := by
  refine ⟨[(0, 16, 19, 13), (0, 16, 23, 15)], [], 0, 16, 17, rfl, by decide, by decide, by decide, am_cl_17, by decide, ?_⟩
  intro z hz
  simp only [List.mem_cons, List.not_mem_nil, or_false] at hz
  rcases hz with rfl | rfl
  · exact ⟨by decide, by decide, by decide, 0, by decide, am_cl_13⟩
  · exact ⟨by decide, by decide, by decide, 1, by decide, am_cl_15⟩
theorem am_h_108_4_3 : am_HP 108 4 3 12 := by
  refine ⟨[], [], 0, 9, 23, rfl, by decide, by decide, by decide, am_cl_23, by decide, fun z hz => by cases hz⟩
theorem am_h_109_3_3 : am_HP 109 3 3 9 := by
  refine ⟨[], [], 0, 6, 23, rfl, by decide, by decide, by decide, am_cl_23, by decide, fun z hz => by cases hz⟩
theorem am_h_110_6_0 : am_HP 110 6 0 12 := by
  refine ⟨[], [(0, 9, 16, 23)], 0, 9, 13, rfl, by decide, by decide, by decide, am_cl_13, by decide, fun z hz => by cases hz⟩
theorem am_h_110_6_3 : am_HP 110 6 3 16 := by
  refine ⟨[(0, 9, 12, 13)], [], 0, 9, 23, rfl, by decide, by decide, by decide, am_cl_23, by decide, ?_⟩
  intro z hz
  simp only [List.mem_cons, List.not_mem_nil, or_false] at hz
  rcases hz with rfl
  · exact ⟨by decide, by decide, by decide, 0, by decide, am_cl_13⟩
theorem am_h_111_7_0 : am_HP 111 7 0 15 := by
  refine ⟨[], [], 0, 12, 13, rfl, by decide, by decide, by decide, am_cl_13, by decide, fun z hz => by cases hz⟩
theorem am_h_112_4_3 : am_HP 112 4 3 12 := by
  refine ⟨[], [], 0, 9, 23, rfl, by decide, by decide, by decide, am_cl_23, by decide, fun z hz => by cases hz⟩
theorem am_h_113_4_3 : am_HP 113 4 3 12 := by
  refine ⟨[], [], 0, 9, 23, rfl, by decide, by decide, by decide, am_cl_23, by decide, fun z hz => by cases hz⟩
theorem am_h_114_4_3 : am_HP 114 4 3 12 := by
  refine ⟨[], [], 0, 9, 23, rfl, by decide, by decide, by decide, am_cl_23, by decide, fun z hz => by cases hz⟩
theorem am_h_115_4_3 : am_HP 115 4 3 12 := by
  refine ⟨[], [], 0, 9, 23, rfl, by decide, by decide, by decide, am_cl_23, by decide, fun z hz => by cases hz⟩
theorem am_h_116_5_3 : am_HP 116 5 3 13 := by
  refine ⟨[], [(0, 10, 17, 13)], 0, 10, 23, rfl, by decide, by decide, by decide, am_cl_23, by decide, fun z hz => by cases hz⟩
theorem am_h_116_5_0 : am_HP 116 5 0 17 := by
  refine ⟨[(0, 10, 13, 23)], [], 0, 10, 13, rfl, by decide, by decide, by decide, am_cl_13, by decide, ?_⟩
  intro z hz
  simp only [List.mem_cons, List.not_mem_nil, or_false] at hz
  rcases hz with rfl
  · exact ⟨by decide, by decide, by decide, 3, by decide, am_cl_23⟩
theorem am_h_117_7_3 : am_HP 117 7 3 15 := by
  refine ⟨[], [], 0, 12, 23, rfl, by decide, by decide, by decide, am_cl_23, by decide, fun z hz => by cases hz⟩
theorem am_h_118_5_3 : am_HP 118 5 3 13 := by
  refine ⟨[], [], 0, 10, 23, rfl, by decide, by decide, by decide, am_cl_23, by decide, fun z hz => by cases hz⟩
theorem am_h_119_5_3 : am_HP 119 5 3 13 := by
  refine ⟨[], [], 0, 10, 23, rfl, by decide, by decide, by decide, am_cl_23, by decide, fun z hz => by cases hz⟩
theorem am_h_120_5_3 : am_HP 120 5 3 13 := by
  refine ⟨[], [], 0, 10, 23, rfl, by decide, by decide, by decide, am_cl_23, by decide, fun z hz => by cases hz⟩
theorem am_fact_h {m pc x h : Nat} (hh : am_hd m pc x = some (some h)) : am_HP m pc x h := by
  unfold am_hd at hh
  split at hh
  · cases hh
  · cases hf : am_ht.find? (fun e => e.1 == m && e.2.1 == pc && e.2.2.1 == x) with
    | none => rw [hf] at hh; cases hh
    | some q =>
      rw [hf] at hh
      have h1 := List.find?_some hf
      have h2 := List.mem_of_find?_eq_some hf
      obtain ⟨q1, q2, q3, q4⟩ := q
      simp only [Bool.and_eq_true, beq_iff_eq] at h1
      obtain ⟨⟨rfl, rfl⟩, rfl⟩ := h1
      have h3 : q4 = h := by simpa using hh
      subst h3
      simp only [am_ht, List.mem_cons, List.not_mem_nil, or_false, Prod.mk.injEq] at h2
      rcases h2 with ⟨rfl, rfl, rfl, rfl⟩ | ⟨rfl, rfl, rfl, rfl⟩ | ⟨rfl, rfl, rfl, rfl⟩ | ⟨rfl, rfl, rfl, rfl⟩ | ⟨rfl, rfl, rfl, rfl⟩ | ⟨rfl, rfl, rfl, rfl⟩ | ⟨rfl, rfl, rfl, rfl⟩ | ⟨rfl, rfl, rfl, rfl⟩ | ⟨rfl, rfl, rfl, rfl⟩ | ⟨rfl, rfl, rfl, rfl⟩ | ⟨rfl, rfl, rfl, rfl⟩ | ⟨rfl, rfl, rfl, rfl⟩ | ⟨rfl, rfl, rfl, rfl⟩ | ⟨rfl, rfl, rfl, rfl⟩ | ⟨rfl, rfl, rfl, rfl⟩ | ⟨rfl, rfl, rfl, rfl⟩ | ⟨rfl, rfl, rfl, rfl⟩ | ⟨rfl, rfl, rfl, rfl⟩
      · exact am_h_107_11_0
      · exact am_h_107_11_1
      · exact am_h_107_11_2
      · exact am_h_108_4_3
      · exact am_h_109_3_3
      · exact am_h_110_6_0
      · exact am_h_110_6_3
      · exact am_h_111_7_0
      · exact am_h_112_4_3
      · exact am_h_113_4_3
      · exact am_h_114_4_3
      · exact am_h_115_4_3
      · exact am_h_116_5_3
      · exact am_h_116_5_0
      · exact am_h_117_7_3
      · exact am_h_118_5_3
      · exact am_h_119_5_3
      · exact am_h_120_5_3
/-- where an exception is made: five instructions -/
def am_TP (m pc x : Nat) : Prop := ∃ ik is ic : Nat, (m, pc, x, ik, is, ic) ∈ am_tt ∧ (am_y m).cls = am_cn 2 ∧ am_hh m = [] ∧ decode (am_b m) pc = .ok (.new ik, 3) ∧ decode (am_b m) (pc + 3) = .ok (.dup, 1) ∧ decode (am_b m) (pc + 4) = .ok (.ldc is, 2) ∧ decode (am_b m) (pc + 6) = .ok (.invokespecial ic, 3) ∧ decode (am_b m) (pc + 9) = .ok (.athrow, 1) ∧ Cond.classLink (am_cn 2) ik (am_xn x) ∈ am_ws ∧ Cond.initialized (am_xn x) ∈ am_ws ∧ Bundle.fit (am_xn x) = true ∧ ((x = 0 ∧ ic = 33) ∨ (x = 1 ∧ ic = 46) ∨ (x = 2 ∧ ic = 55) ∨ (x = 3 ∧ ic = 77))
theorem am_t_25_17 : am_TP 25 17 0 := ⟨29, 31, 33, by decide, by decide +kernel, by decide +kernel, by decide +kernel, by decide +kernel, by decide +kernel, by decide +kernel, by decide +kernel, am_in1 130 (by decide +kernel) (by decide +kernel), am_in1 7 (by decide +kernel) (by decide +kernel), by decide +kernel, by decide⟩
theorem am_t_25_47 : am_TP 25 47 0 := ⟨29, 36, 33, by decide, by decide +kernel, by decide +kernel, by decide +kernel, by decide +kernel, by decide +kernel, by decide +kernel, by decide +kernel, am_in1 130 (by decide +kernel) (by decide +kernel), am_in1 7 (by decide +kernel) (by decide +kernel), by decide +kernel, by decide⟩
theorem am_t_25_65 : am_TP 25 65 1 := ⟨42, 44, 46, by decide, by decide +kernel, by decide +kernel, by decide +kernel, by decide +kernel, by decide +kernel, by decide +kernel, by decide +kernel, am_in1 200 (by decide +kernel) (by decide +kernel), am_in1 8 (by decide +kernel) (by decide +kernel), by decide +kernel, by decide⟩
theorem am_t_25_82 : am_TP 25 82 2 := ⟨51, 53, 55, by decide, by decide +kernel, by decide +kernel, by decide +kernel, by decide +kernel, by decide +kernel, by decide +kernel, by decide +kernel, am_in1 216 (by decide +kernel) (by decide +kernel), am_in1 9 (by decide +kernel) (by decide +kernel), by decide +kernel, by decide⟩
theorem am_t_28_11 : am_TP 28 11 3 := ⟨73, 178, 77, by decide, by decide +kernel, by decide +kernel, by decide +kernel, by decide +kernel, by decide +kernel, by decide +kernel, by decide +kernel, am_in1 316 (by decide +kernel) (by decide +kernel), am_in1 12 (by decide +kernel) (by decide +kernel), by decide +kernel, by decide⟩
theorem am_t_45_5 : am_TP 45 5 0 := ⟨29, 71, 33, by decide, by decide +kernel, by decide +kernel, by decide +kernel, by decide +kernel, by decide +kernel, by decide +kernel, by decide +kernel, am_in1 130 (by decide +kernel) (by decide +kernel), am_in1 7 (by decide +kernel) (by decide +kernel), by decide +kernel, by decide⟩
theorem am_t_45_28 : am_TP 45 28 3 := ⟨73, 75, 77, by decide, by decide +kernel, by decide +kernel, by decide +kernel, by decide +kernel, by decide +kernel, by decide +kernel, by decide +kernel, am_in1 316 (by decide +kernel) (by decide +kernel), am_in1 12 (by decide +kernel) (by decide +kernel), by decide +kernel, by decide⟩
theorem am_t_46_11 : am_TP 46 11 0 := ⟨29, 85, 33, by decide, by decide +kernel, by decide +kernel, by decide +kernel, by decide +kernel, by decide +kernel, by decide +kernel, by decide +kernel, am_in1 130 (by decide +kernel) (by decide +kernel), am_in1 7 (by decide +kernel) (by decide +kernel), by decide +kernel, by decide⟩
theorem am_t_46_33 : am_TP 46 33 0 := ⟨29, 87, 33, by decide, by decide +kernel, by decide +kernel, by decide +kernel, by decide +kernel, by decide +kernel, by decide +kernel, by decide +kernel, am_in1 130 (by decide +kernel) (by decide +kernel), am_in1 7 (by decide +kernel) (by decide +kernel), by decide +kernel, by decide⟩
theorem am_t_50_12 : am_TP 50 12 3 := ⟨73, 180, 77, by decide, by decide +kernel, by decide +kernel, by decide +kernel, by decide +kernel, by decide +kernel, by decide +kernel, by decide +kernel, am_in1 316 (by decide +kernel) (by decide +kernel), am_in1 12 (by decide +kernel) (by decide +kernel), by decide +kernel, by decide⟩
theorem am_t_52_15 : am_TP 52 15 0 := ⟨29, 125, 33, by decide, by decide +kernel, by decide +kernel, by decide +kernel, by decide +kernel, by decide +kernel, by decide +kernel, by decide +kernel, am_in1 130 (by decide +kernel) (by decide +kernel), am_in1 7 (by decide +kernel) (by decide +kernel), by decide +kernel, by decide⟩
theorem am_t_53_23 : am_TP 53 23 3 := ⟨73, 142, 77, by decide, by decide +kernel, by decide +kernel, by decide +kernel, by decide +kernel, by decide +kernel, by decide +kernel, by decide +kernel, am_in1 316 (by decide +kernel) (by decide +kernel), am_in1 12 (by decide +kernel) (by decide +kernel), by decide +kernel, by decide⟩
theorem am_t_54_22 : am_TP 54 22 3 := ⟨73, 185, 77, by decide, by decide +kernel, by decide +kernel, by decide +kernel, by decide +kernel, by decide +kernel, by decide +kernel, by decide +kernel, am_in1 316 (by decide +kernel) (by decide +kernel), am_in1 12 (by decide +kernel) (by decide +kernel), by decide +kernel, by decide⟩
theorem am_t_56_16 : am_TP 56 16 3 := ⟨73, 187, 77, by decide, by decide +kernel, by decide +kernel, by decide +kernel, by decide +kernel, by decide +kernel, by decide +kernel, by decide +kernel, am_in1 316 (by decide +kernel) (by decide +kernel), am_in1 12 (by decide +kernel) (by decide +kernel), by decide +kernel, by decide⟩
theorem am_fact_t {m pc x : Nat} (h : am_th m pc = some x) : am_TP m pc x := by
  unfold am_th at h
  cases hf : am_tt.find? (fun e => e.1 == m && e.2.1 == pc) with
  | none => rw [hf] at h; cases h
  | some q =>
    rw [hf] at h
    have h1 := List.find?_some hf
    have h2 := List.mem_of_find?_eq_some hf
    obtain ⟨q1, q2, q3, q4, q5, q6⟩ := q
    simp only [Bool.and_eq_true, beq_iff_eq] at h1
    obtain ⟨rfl, rfl⟩ := h1
    have h3 : q3 = x := by simpa using h
    subst h3
    simp only [am_tt, List.mem_cons, List.not_mem_nil, or_false, Prod.mk.injEq] at h2
    rcases h2 with ⟨rfl, rfl, rfl, rfl, rfl, rfl⟩ | ⟨rfl, rfl, rfl, rfl, rfl, rfl⟩ | ⟨rfl, rfl, rfl, rfl, rfl, rfl⟩ | ⟨rfl, rfl, rfl, rfl, rfl, rfl⟩ | ⟨rfl, rfl, rfl, rfl, rfl, rfl⟩ | ⟨rfl, rfl, rfl, rfl, rfl, rfl⟩ | ⟨rfl, rfl, rfl, rfl, rfl, rfl⟩ | ⟨rfl, rfl, rfl, rfl, rfl, rfl⟩ | ⟨rfl, rfl, rfl, rfl, rfl, rfl⟩ | ⟨rfl, rfl, rfl, rfl, rfl, rfl⟩ | ⟨rfl, rfl, rfl, rfl, rfl, rfl⟩ | ⟨rfl, rfl, rfl, rfl, rfl, rfl⟩ | ⟨rfl, rfl, rfl, rfl, rfl, rfl⟩ | ⟨rfl, rfl, rfl, rfl, rfl, rfl⟩
    · exact am_t_25_17
    · exact am_t_25_47
    · exact am_t_25_65
    · exact am_t_25_82
    · exact am_t_28_11
    · exact am_t_45_5
    · exact am_t_45_28
    · exact am_t_46_11
    · exact am_t_46_33
    · exact am_t_50_12
    · exact am_t_52_15
    · exact am_t_53_23
    · exact am_t_54_22
    · exact am_t_56_16
end
section
/-! An abstract machine over keys: the cells of the class and of the reference, each named by a key (a kind and two numbers); memory holds the ints, the references are read off the keys. It decodes the very bytes of the methods. -/
abbrev am_I (x : Int32) : am_V := Sum.inl x
abbrev am_L (x : Int32) : am_V := Sum.inr (Sum.inl x)
abbrev am_R (o : Option am_K) : am_V := Sum.inr (Sum.inr (Sum.inl o))
abbrev am_X (a : Nat) : am_V := Sum.inr (Sum.inr (Sum.inr a))
abbrev am_Ls : Type := List (Option am_V)
abbrev am_S : Type := Nat × am_Ls × List am_V × am_M × Nat
abbrev am_O : Type := am_M × (Option am_V ⊕ Nat)
abbrev am_C : Type := Nat × List am_V × am_S
abbrev am_St : Type := Option (am_S ⊕ (am_O ⊕ am_C))
def am_up (M : am_M) (k : am_K) (j : Nat) (v : Int32) : am_M := fun k' j' => if k' = k ∧ j' = j then v else M k' j'
def am_cp (M : am_M) (k0 k1 : am_K) (sp dp n : Nat) : am_M := fun k' j' => if k' = k1 then va_cpy (M k0) (M k1) sp dp n j' else M k' j'
abbrev am_go (pc : Nat) (L : am_Ls) (S : List am_V) (M : am_M) (n : Nat) : Option am_S := some (pc, L, S, M, n)
def am_jmp (off : Int) (pc : Nat) (L : am_Ls) (S : List am_V) (M : am_M) (n : Nat) : Option am_S :=
  if 0 ≤ (pc : Int) + off then am_go ((pc : Int) + off).toNat L S M n else none
def am_br (c : Bool) (off : Int) (len pc : Nat) (L : am_Ls) (S : List am_V) (M : am_M) (n : Nat) : Option am_S :=
  if len = 3 ∧ 0 ≤ (pc : Int) + off then (if c = true then am_go ((pc : Int) + off).toNat L S M n else am_go (pc + 3) L S M n) else none
def am_cnd (c : Jvm.ClassFile.Cond) (x y : Int32) : Bool := match c with
  | .eq => decide (x = y)
  | .ne => decide (¬ x = y)
  | .lt => decide (x < y)
  | .ge => decide (y ≤ x)
  | .gt => decide (y < x)
  | .le => decide (x ≤ y)
def am_acn (c : Jvm.ClassFile.ACond) (x y : Option am_K) : Bool := match c with
  | .eq => decide (x = y)
  | .ne => decide (¬ x = y)
def am_ps (k len : Nat) (v : am_V) (pc : Nat) (L : am_Ls) (S : List am_V) (M : am_M) (n : Nat) : Option am_S :=
  if len = k then am_go (pc + k) L (v :: S) M n else none
def am_ldi (w len k pc : Nat) (L : am_Ls) (S : List am_V) (M : am_M) (n : Nat) : Option am_S :=
  if len = w then (match L[k]? with
    | some (some (.inl x)) => am_go (pc + w) L (am_I x :: S) M n
    | _ => none) else none
def am_lda (w len k pc : Nat) (L : am_Ls) (S : List am_V) (M : am_M) (n : Nat) : Option am_S :=
  if len = w then (match L[k]? with
    | some (some (.inr (.inr v))) => am_go (pc + w) L (Sum.inr (Sum.inr v) :: S) M n
    | _ => none) else none
def am_sti (w len k pc : Nat) (L : am_Ls) (S : List am_V) (M : am_M) (n : Nat) : Option am_S := match S with
  | .inl x :: S' => if len = w ∧ k < L.length then am_go (pc + w) (L.set k (some (am_I x))) S' M n else none
  | _ => none
def am_sta (w len k pc : Nat) (L : am_Ls) (S : List am_V) (M : am_M) (n : Nat) : Option am_S := match S with
  | .inr (.inr v) :: S' => if len = w ∧ k < L.length then am_go (pc + w) (L.set k (some (Sum.inr (Sum.inr v)))) S' M n else none
  | _ => none
def am_inc (k : Nat) (c : Int) (len pc : Nat) (L : am_Ls) (S : List am_V) (M : am_M) (n : Nat) : Option am_S :=
  if len = 3 then (match L[k]? with
    | some (some (.inl x)) => am_go (pc + 3) (L.set k (some (am_I (x + Int32.ofInt c)))) S M n
    | _ => none) else none
def am_bin (f : Int32 → Int32 → Int32) (len pc : Nat) (L : am_Ls) (S : List am_V) (M : am_M) (n : Nat) : Option am_S := match S with
  | .inl y :: .inl x :: S' => if len = 1 then am_go (pc + 1) L (am_I (f x y) :: S') M n else none
  | _ => none
def am_div (f : Int32 → Int32 → Int32) (len pc : Nat) (L : am_Ls) (S : List am_V) (M : am_M) (n : Nat) : Option am_S := match S with
  | .inl y :: .inl x :: S' => if len = 1 ∧ ¬ y = 0 then am_go (pc + 1) L (am_I (f x y) :: S') M n else none
  | _ => none
def am_un (f : Int32 → am_V) (len pc : Nat) (L : am_Ls) (S : List am_V) (M : am_M) (n : Nat) : Option am_S := match S with
  | .inl x :: S' => if len = 1 then am_go (pc + 1) L (f x :: S') M n else none
  | _ => none
def am_lc (len pc : Nat) (L : am_Ls) (S : List am_V) (M : am_M) (n : Nat) : Option am_S := match S with
  | .inr (.inl y) :: .inr (.inl x) :: S' => if len = 1 then am_go (pc + 1) L (am_I (lg_cmp x.toInt64 y.toInt64) :: S') M n else none
  | _ => none
def am_isL (v : am_V) : Bool := match v with
  | .inr (.inl _) => true
  | _ => false
def am_dup (len pc : Nat) (L : am_Ls) (S : List am_V) (M : am_M) (n : Nat) : Option am_S := match S with
  | v :: S' => if len = 1 ∧ am_isL v = false then am_go (pc + 1) L (v :: v :: S') M n else none
  | _ => none
def am_dx1 (len pc : Nat) (L : am_Ls) (S : List am_V) (M : am_M) (n : Nat) : Option am_S := match S with
  | v :: w :: S' => if len = 1 ∧ am_isL v = false ∧ am_isL w = false then am_go (pc + 1) L (v :: w :: v :: S') M n else none
  | _ => none
def am_dx2 (len pc : Nat) (L : am_Ls) (S : List am_V) (M : am_M) (n : Nat) : Option am_S := match S with
  | v :: w :: u :: S' => if len = 1 ∧ am_isL v = false ∧ am_isL w = false ∧ am_isL u = false then am_go (pc + 1) L (v :: w :: u :: v :: S') M n else none
  | _ => none
def am_d2 (len pc : Nat) (L : am_Ls) (S : List am_V) (M : am_M) (n : Nat) : Option am_S := match S with
  | v :: w :: S' => if len = 1 ∧ am_isL v = false ∧ am_isL w = false then am_go (pc + 1) L (v :: w :: v :: w :: S') M n else none
  | _ => none
def am_pop (len pc : Nat) (L : am_Ls) (S : List am_V) (M : am_M) (n : Nat) : Option am_S := match S with
  | v :: S' => if len = 1 ∧ am_isL v = false then am_go (pc + 1) L S' M n else none
  | _ => none
def am_if1 (c : Jvm.ClassFile.Cond) (off : Int) (len pc : Nat) (L : am_Ls) (S : List am_V) (M : am_M) (n : Nat) : Option am_S := match S with
  | .inl x :: S' => am_br (am_cnd c x 0) off len pc L S' M n
  | _ => none
def am_if2 (c : Jvm.ClassFile.Cond) (off : Int) (len pc : Nat) (L : am_Ls) (S : List am_V) (M : am_M) (n : Nat) : Option am_S := match S with
  | .inl y :: .inl x :: S' => am_br (am_cnd c x y) off len pc L S' M n
  | _ => none
def am_has (sh : am_Sh) (o : Option am_K) : Bool := match o with
  | none => true
  | some k => (am_ct sh k).isSome
def am_ifa (sh : am_Sh) (c : Jvm.ClassFile.ACond) (off : Int) (len pc : Nat) (L : am_Ls) (S : List am_V) (M : am_M) (n : Nat) : Option am_S := match S with
  | .inr (.inr (.inl y)) :: .inr (.inr (.inl x)) :: S' => if am_has sh x = true ∧ am_has sh y = true then am_br (am_acn c x y) off len pc L S' M n else none
  | _ => none
def am_ifn (b : Bool) (off : Int) (len pc : Nat) (L : am_Ls) (S : List am_V) (M : am_M) (n : Nat) : Option am_S := match S with
  | .inr (.inr (.inl o)) :: S' => am_br (o.isNone == b) off len pc L S' M n
  | _ => none
def am_tsw (d lo hi : Int) (offs : Array Int) (pc : Nat) (L : am_Ls) (S : List am_V) (M : am_M) (n : Nat) : Option am_S := match S with
  | .inl x :: S' => if x.toInt < lo ∨ hi < x.toInt then am_jmp d pc L S' M n else (match offs[(x.toInt - lo).toNat]? with
    | some off => am_jmp off pc L S' M n
    | none => none)
  | _ => none
/-- the value of a field, of an array's place -/
def am_fv (sh : am_Sh) (M : am_M) (ci j : Nat) (k : am_K) : am_V := if am_fk ci j = 2 then am_R (am_rf sh k j) else am_I (M k j)
def am_gf (sh : am_Sh) (m idx len pc : Nat) (L : am_Ls) (S : List am_V) (M : am_M) (n : Nat) : Option am_S := match S, am_fl m idx with
  | .inr (.inr (.inl (some k))) :: S', some (ci, j) => if len = 3 ∧ am_ct sh k = some (Sum.inl ci) then am_go (pc + 3) L (am_fv sh M ci j k :: S') M n else none
  | _, _ => none
def am_pf (sh : am_Sh) (m idx len pc : Nat) (L : am_Ls) (S : List am_V) (M : am_M) (n : Nat) : Option am_S := match S, am_fl m idx with
  | .inl v :: .inr (.inr (.inl (some k))) :: S', some (ci, j) => if len = 3 ∧ am_ct sh k = some (Sum.inl ci) ∧ am_wr ci j = true ∧ (am_fk ci j = 0 ∨ (am_fk ci j = 1 ∧ (v = 0 ∨ v = 1))) then am_go (pc + 3) L S' (am_up M k j v) n else none
  | _, _ => none
def am_ix (i : Int32) (N : Nat) : Bool := decide (¬ (i < 0 ∨ N ≤ i.toNatClampNeg))
def am_ald (sh : am_Sh) (t len pc : Nat) (L : am_Ls) (S : List am_V) (M : am_M) (n : Nat) : Option am_S := match S with
  | .inl i :: .inr (.inr (.inl (some k))) :: S' => (match am_ct sh k with
    | some (.inr (u, N)) => if len = 1 ∧ am_ix i N = true ∧ (u = t ∨ (u = 5 ∧ t = 0)) then am_go (pc + 1) L (am_I (M k i.toNatClampNeg) :: S') M n else none
    | _ => none)
  | _ => none
def am_lld (sh : am_Sh) (len pc : Nat) (L : am_Ls) (S : List am_V) (M : am_M) (n : Nat) : Option am_S := match S with
  | .inl i :: .inr (.inr (.inl (some k))) :: S' => (match am_ct sh k with
    | some (.inr (u, N)) => if len = 1 ∧ am_ix i N = true ∧ u = 3 then am_go (pc + 1) L (am_L (M k i.toNatClampNeg) :: S') M n else none
    | _ => none)
  | _ => none
def am_rld (sh : am_Sh) (len pc : Nat) (L : am_Ls) (S : List am_V) (M : am_M) (n : Nat) : Option am_S := match S with
  | .inl i :: .inr (.inr (.inl (some k))) :: S' => (match am_ct sh k with
    | some (.inr (u, N)) => if len = 1 ∧ am_ix i N = true ∧ (u = 2 ∨ u = 4) then am_go (pc + 1) L (am_R (am_rf sh k i.toNatClampNeg) :: S') M n else none
    | _ => none)
  | _ => none
def am_ist (sh : am_Sh) (len pc : Nat) (L : am_Ls) (S : List am_V) (M : am_M) (n : Nat) : Option am_S := match S with
  | .inl x :: .inl i :: .inr (.inr (.inl (some k))) :: S' => (match am_ct sh k with
    | some (.inr (u, N)) => if len = 1 ∧ am_ix i N = true ∧ u = 0 then am_go (pc + 1) L S' (am_up M k i.toNatClampNeg x) n else none
    | _ => none)
  | _ => none
def am_zst (sh : am_Sh) (len pc : Nat) (L : am_Ls) (S : List am_V) (M : am_M) (n : Nat) : Option am_S := match S with
  | .inl x :: .inl i :: .inr (.inr (.inl (some k))) :: S' => (match am_ct sh k with
    | some (.inr (u, N)) => if len = 1 ∧ am_ix i N = true ∧ u = 1 ∧ (x = 0 ∨ x = 1) then am_go (pc + 1) L S' (am_up M k i.toNatClampNeg x) n else none
    | _ => none)
  | _ => none
def am_lst (sh : am_Sh) (len pc : Nat) (L : am_Ls) (S : List am_V) (M : am_M) (n : Nat) : Option am_S := match S with
  | .inr (.inl x) :: .inl i :: .inr (.inr (.inl (some k))) :: S' => (match am_ct sh k with
    | some (.inr (u, N)) => if len = 1 ∧ am_ix i N = true ∧ u = 3 then am_go (pc + 1) L S' (am_up M k i.toNatClampNeg x) n else none
    | _ => none)
  | _ => none
def am_len (sh : am_Sh) (len pc : Nat) (L : am_Ls) (S : List am_V) (M : am_M) (n : Nat) : Option am_S := match S with
  | .inr (.inr (.inl (some k))) :: S' => (match am_ct sh k with
    | some (.inr (_, N)) => if len = 1 then am_go (pc + 1) L (am_I (Int32.ofNat N) :: S') M n else none
    | _ => none)
  | _ => none
/-- a call: callee, its arguments; kind 0: static; 1: on an object of the callee's class -/
def am_rcv (sh : am_Sh) (c : Nat) (as : List am_V) : Bool := match as with
  | .inr (.inr (.inl (some k))) :: _ => decide (am_ct sh k = some (Sum.inl (am_rc c)))
  | _ => false
def am_inv (sh : am_Sh) (kind m idx len pc : Nat) (L : am_Ls) (S : List am_V) (M : am_M) (n : Nat) : am_St := match am_ml m idx with
  | some (c, k, kd) => if len = 3 ∧ kd = kind ∧ k ≤ S.length ∧ S.length ≤ k + 4 ∧ n + am_bud c ≤ am_bud m ∧ (kind = 0 ∨ am_rcv sh c (S.take k).reverse = true) then some (Sum.inr (Sum.inr (c, (S.take k).reverse, (pc, L, S.drop k, M, n)))) else none
  | none => none
def am_cpy (sh : am_Sh) (len pc : Nat) (L : am_Ls) (S : List am_V) (M : am_M) (n : Nat) : Option am_S := match S with
  | .inl c :: .inl dp :: .inr (.inr (.inl (some k1))) :: .inl sp :: .inr (.inr (.inl (some k0))) :: S' => (match am_ct sh k0, am_ct sh k1 with
    | some (.inr (0, N0)), some (.inr (0, N1)) => if len = 3 ∧ S'.length ≤ 4 ∧ ¬ sp < 0 ∧ ¬ dp < 0 ∧ ¬ c < 0 ∧ sp.toNatClampNeg + c.toNatClampNeg ≤ N0 ∧ dp.toNatClampNeg + c.toNatClampNeg ≤ N1 then am_go (pc + 3) L S' (am_cp M k0 k1 sp.toNatClampNeg dp.toNatClampNeg c.toNatClampNeg) n else none
    | _, _ => none)
  | _ => none
def am_iret (m len : Nat) (S : List am_V) (M : am_M) (n : Nat) : am_St := match S with
  | [.inl v] => if len = 1 ∧ n ≤ am_bud m ∧ (am_rt m = some .int ∨ (am_rt m = some .boolean ∧ (v = 0 ∨ v = 1))) then some (Sum.inr (Sum.inl (M, Sum.inl (some (am_I v))))) else none
  | _ => none
def am_aret (m len : Nat) (S : List am_V) (M : am_M) (n : Nat) : am_St := match S with
  | [.inr (.inr (.inl o))] => if len = 1 ∧ n ≤ am_bud m ∧ am_ra m = true then some (Sum.inr (Sum.inl (M, Sum.inl (some (am_R o))))) else none
  | _ => none
def am_vret (m len : Nat) (S : List am_V) (M : am_M) (n : Nat) : am_St :=
  if len = 1 ∧ S = [] ∧ n ≤ am_bud m ∧ am_rt m = none then some (Sum.inr (Sum.inl (M, Sum.inl none))) else none
/-- 'throw new X("..")': five instructions from pc on -/
def am_thr (m pc : Nat) (S : List am_V) (M : am_M) (n : Nat) : am_St := match am_th m pc with
  | some x => if S = [] ∧ n + 1 ≤ am_bud m then some (Sum.inr (Sum.inl (M, Sum.inr x))) else none
  | none => none
def am_co (sh : am_Sh) (m : Nat) (i : Instr) (len pc : Nat) (L : am_Ls) (S : List am_V) (M : am_M) (n : Nat) : Option am_S := match i with
  | .iconst k => am_ps 1 len (am_I (Int32.ofInt k)) pc L S M n
  | .bipush k => am_ps 2 len (am_I (Int8.ofInt k).toInt32) pc L S M n
  | .sipush k => am_ps 3 len (am_I (Int16.ofInt k).toInt32) pc L S M n
  | .ldc idx => (match am_kc m idx with
    | some v => am_ps 2 len (am_I v) pc L S M n
    | none => none)
  | .aconst_null => am_ps 1 len (am_R none) pc L S M n
  | .iload_n k => am_ldi 1 len k.val pc L S M n
  | .iload k => am_ldi 2 len k pc L S M n
  | .aload_n k => am_lda 1 len k.val pc L S M n
  | .aload k => am_lda 2 len k pc L S M n
  | .istore_n k => am_sti 1 len k.val pc L S M n
  | .istore k => am_sti 2 len k pc L S M n
  | .astore_n k => am_sta 1 len k.val pc L S M n
  | .astore k => am_sta 2 len k pc L S M n
  | .iinc k c => am_inc k c len pc L S M n
  | .iadd => am_bin (fun x y => x + y) len pc L S M n
  | .isub => am_bin (fun x y => x - y) len pc L S M n
  | .imul => am_bin (fun x y => x * y) len pc L S M n
  | .iand => am_bin (fun x y => x &&& y) len pc L S M n
  | .ior => am_bin (fun x y => x ||| y) len pc L S M n
  | .ixor => am_bin (fun x y => x ^^^ y) len pc L S M n
  | .ishl => am_bin (fun x y => x <<< (y &&& 31)) len pc L S M n
  | .ishr => am_bin (fun x y => x >>> (y &&& 31)) len pc L S M n
  | .iushr => am_bin (fun x y => (x.toUInt32 >>> (y.toUInt32 &&& Int32.toUInt32 31)).toInt32) len pc L S M n
  | .idiv => am_div (fun x y => x / y) len pc L S M n
  | .irem => am_div (fun x y => x - x / y * y) len pc L S M n
  | .ineg => am_un (fun x => am_I (-x)) len pc L S M n
  | .i2l => am_un (fun x => am_L x) len pc L S M n
  | .lcmp => am_lc len pc L S M n
  | .dup => am_dup len pc L S M n
  | .dup_x1 => am_dx1 len pc L S M n
  | .dup_x2 => am_dx2 len pc L S M n
  | .dup2 => am_d2 len pc L S M n
  | .pop => am_pop len pc L S M n
  | .goto off => if len = 3 then am_jmp off pc L S M n else none
  | .ifCond c off => am_if1 c off len pc L S M n
  | .if_icmp c off => am_if2 c off len pc L S M n
  | .if_acmp c off => am_ifa sh c off len pc L S M n
  | .ifnull off => am_ifn true off len pc L S M n
  | .ifnonnull off => am_ifn false off len pc L S M n
  | .tableswitch d lo hi offs => am_tsw d lo hi offs pc L S M n
  | .getfield idx => am_gf sh m idx len pc L S M n
  | .putfield idx => am_pf sh m idx len pc L S M n
  | .iaload => am_ald sh 0 len pc L S M n
  | .baload => am_ald sh 1 len pc L S M n
  | .laload => am_lld sh len pc L S M n
  | .aaload => am_rld sh len pc L S M n
  | .iastore => am_ist sh len pc L S M n
  | .bastore => am_zst sh len pc L S M n
  | .lastore => am_lst sh len pc L S M n
  | .arraylength => am_len sh len pc L S M n
  | _ => none
def am_st (sh : am_Sh) (m : Nat) (i : Instr) (len pc : Nat) (L : am_Ls) (S : List am_V) (M : am_M) (n : Nat) : am_St := match i with
  | .invokevirtual idx => am_inv sh 1 m idx len pc L S M n
  | .invokestatic idx => if am_ac m idx = true then (am_cpy sh len pc L S M n).map Sum.inl else am_inv sh 0 m idx len pc L S M n
  | .ireturn => am_iret m len S M n
  | .areturn => am_aret m len S M n
  | .return_ => am_vret m len S M n
  | .new _ => am_thr m pc S M n
  | i => (am_co sh m i len pc L S M n).map Sum.inl
def am_at (sh : am_Sh) (m : Nat) (σ : am_S) : am_St := match decode (am_b m) σ.1 with
  | .ok (i, len) => am_st sh m i len σ.1 σ.2.1 σ.2.2.1 σ.2.2.2.1 σ.2.2.2.2
  | .error _ => none
/-- from σ, with so much fuel, the method comes to what P says: at a state (fuel gone), or at an end -/
def am_wp (sh : am_Sh) (C : Nat → am_M → List am_V → am_O → Prop) (m : Nat) : Nat → am_S → (am_S ⊕ am_O → Prop) → Prop
  | 0, σ, P => P (Sum.inl σ)
  | f + 1, σ, P => match am_at sh m σ with
    | none => False
    | some (.inl σ') => am_wp sh C m f σ' P
    | some (.inr (.inl o)) => P (Sum.inr o)
    | some (.inr (.inr (c, as, σ'))) => ∃ o, C c σ'.2.2.2.1 as o ∧ (match o.2 with
      | .inl v => am_wp sh C m f (σ'.1 + 3, σ'.2.1, v.toList ++ σ'.2.2.1, o.1, σ'.2.2.2.2 + am_bud c) P
      | .inr x => (match am_hd m σ'.1 x with
        | none => False
        | some none => P (Sum.inr (o.1, Sum.inr x))
        | some (some h) => ∀ a, am_wp sh C m f (h, σ'.2.1, [am_X a], o.1, σ'.2.2.2.2 + am_bud c) P))
def am_ent (m : Nat) (as : List am_V) : am_Ls := as.map some ++ List.replicate (am_mL m - as.length) none
/-- a call that nests at most d deep: from memory M with arguments as it ends as o says -/
def am_cr (sh : am_Sh) : Nat → Nat → am_M → List am_V → am_O → Prop
  | 0 => fun _ _ _ _ => False
  | d + 1 => fun m M as o => as.length ≤ am_mL m ∧ (∀ v ∈ as, am_isL v = false) ∧ ∃ f, am_wp sh (am_cr sh d) m f (0, am_ent m as, [], M, 0) (fun r => r = Sum.inr o)
end
section
-- what a step says, read backwards
theorem am_jmp_inv {off : Int} {pc : Nat} {L : am_Ls} {S : List am_V} {M : am_M} {n : Nat} {r : am_S} (h : am_jmp off pc L S M n = some r) : ∃ tgt : Nat, (pc : Int) + off = (tgt : Int) ∧ r = (tgt, L, S, M, n) := by
  unfold am_jmp at h
  split at h
  · rename_i h0
    exact ⟨((pc : Int) + off).toNat, (Int.toNat_of_nonneg h0).symm, (Option.some.inj h).symm⟩
  · cases h
theorem am_br_inv {c : Bool} {off : Int} {len pc : Nat} {L : am_Ls} {S : List am_V} {M : am_M} {n : Nat} {r : am_S} (h : am_br c off len pc L S M n = some r) : ∃ tgt : Nat, len = 3 ∧ (pc : Int) + off = (tgt : Int) ∧ ((c = true ∧ r = (tgt, L, S, M, n)) ∨ (c = false ∧ r = (pc + 3, L, S, M, n))) := by
  unfold am_br at h
  split at h
  · rename_i hl
    refine ⟨((pc : Int) + off).toNat, hl.1, (Int.toNat_of_nonneg hl.2).symm, ?_⟩
    split at h
    · rename_i hc
      exact Or.inl ⟨hc, (Option.some.inj h).symm⟩
    · rename_i hc
      exact Or.inr ⟨by simpa using hc, (Option.some.inj h).symm⟩
  · cases h
theorem am_ps_inv {k len : Nat} {v : am_V} {pc : Nat} {L : am_Ls} {S : List am_V} {M : am_M} {n : Nat} {r : am_S} (h : am_ps k len v pc L S M n = some r) : len = k ∧ r = (pc + k, L, v :: S, M, n) := by
  unfold am_ps at h
  split at h
  · rename_i hl; exact ⟨hl, (Option.some.inj h).symm⟩
  · cases h
theorem am_ldi_inv {w len k pc : Nat} {L : am_Ls} {S : List am_V} {M : am_M} {n : Nat} {r : am_S} (h : am_ldi w len k pc L S M n = some r) : ∃ x, len = w ∧ L[k]? = some (some (am_I x)) ∧ r = (pc + w, L, am_I x :: S, M, n) := by
  unfold am_ldi at h
  split at h
  · rename_i hl
    split at h
    · rename_i x hx; exact ⟨x, hl, hx, (Option.some.inj h).symm⟩
    · cases h
  · cases h
theorem am_lda_inv {w len k pc : Nat} {L : am_Ls} {S : List am_V} {M : am_M} {n : Nat} {r : am_S} (h : am_lda w len k pc L S M n = some r) : ∃ x, len = w ∧ L[k]? = some (some (Sum.inr (Sum.inr x))) ∧ r = (pc + w, L, Sum.inr (Sum.inr x) :: S, M, n) := by
  unfold am_lda at h
  split at h
  · rename_i hl
    split at h
    · rename_i x hx; exact ⟨x, hl, hx, (Option.some.inj h).symm⟩
    · cases h
  · cases h
theorem am_sti_inv {w len k pc : Nat} {L : am_Ls} {S : List am_V} {M : am_M} {n : Nat} {r : am_S} (h : am_sti w len k pc L S M n = some r) : ∃ x S', S = am_I x :: S' ∧ len = w ∧ k < L.length ∧ r = (pc + w, L.set k (some (am_I x)), S', M, n) := by
  unfold am_sti at h
  split at h
  · split at h
    · rename_i hl; exact ⟨_, _, rfl, hl.1, hl.2, (Option.some.inj h).symm⟩
    · cases h
  · cases h
theorem am_sta_inv {w len k pc : Nat} {L : am_Ls} {S : List am_V} {M : am_M} {n : Nat} {r : am_S} (h : am_sta w len k pc L S M n = some r) : ∃ x S', S = Sum.inr (Sum.inr x) :: S' ∧ len = w ∧ k < L.length ∧ r = (pc + w, L.set k (some (Sum.inr (Sum.inr x))), S', M, n) := by
  unfold am_sta at h
  split at h
  · split at h
    · rename_i hl; exact ⟨_, _, rfl, hl.1, hl.2, (Option.some.inj h).symm⟩
    · cases h
  · cases h
theorem am_inc_inv {k : Nat} {c : Int} {len pc : Nat} {L : am_Ls} {S : List am_V} {M : am_M} {n : Nat} {r : am_S} (h : am_inc k c len pc L S M n = some r) : ∃ x, len = 3 ∧ L[k]? = some (some (am_I x)) ∧ r = (pc + 3, L.set k (some (am_I (x + Int32.ofInt c))), S, M, n) := by
  unfold am_inc at h
  split at h
  · rename_i hl
    split at h
    · rename_i x hx; exact ⟨x, hl, hx, (Option.some.inj h).symm⟩
    · cases h
  · cases h
theorem am_bin_inv {f : Int32 → Int32 → Int32} {len pc : Nat} {L : am_Ls} {S : List am_V} {M : am_M} {n : Nat} {r : am_S} (h : am_bin f len pc L S M n = some r) : ∃ x y S', S = am_I y :: am_I x :: S' ∧ len = 1 ∧ r = (pc + 1, L, am_I (f x y) :: S', M, n) := by
  unfold am_bin at h
  split at h
  · split at h
    · rename_i hl; exact ⟨_, _, _, rfl, hl, (Option.some.inj h).symm⟩
    · cases h
  · cases h
theorem am_div_inv {f : Int32 → Int32 → Int32} {len pc : Nat} {L : am_Ls} {S : List am_V} {M : am_M} {n : Nat} {r : am_S} (h : am_div f len pc L S M n = some r) : ∃ x y S', S = am_I y :: am_I x :: S' ∧ len = 1 ∧ ¬ y = 0 ∧ r = (pc + 1, L, am_I (f x y) :: S', M, n) := by
  unfold am_div at h
  split at h
  · split at h
    · rename_i hl; exact ⟨_, _, _, rfl, hl.1, hl.2, (Option.some.inj h).symm⟩
    · cases h
  · cases h
theorem am_un_inv {f : Int32 → am_V} {len pc : Nat} {L : am_Ls} {S : List am_V} {M : am_M} {n : Nat} {r : am_S} (h : am_un f len pc L S M n = some r) : ∃ x S', S = am_I x :: S' ∧ len = 1 ∧ r = (pc + 1, L, f x :: S', M, n) := by
  unfold am_un at h
  split at h
  · split at h
    · rename_i hl; exact ⟨_, _, rfl, hl, (Option.some.inj h).symm⟩
    · cases h
  · cases h
theorem am_lc_inv {len pc : Nat} {L : am_Ls} {S : List am_V} {M : am_M} {n : Nat} {r : am_S} (h : am_lc len pc L S M n = some r) : ∃ x y S', S = am_L y :: am_L x :: S' ∧ len = 1 ∧ r = (pc + 1, L, am_I (lg_cmp x.toInt64 y.toInt64) :: S', M, n) := by
  unfold am_lc at h
  split at h
  · split at h
    · rename_i hl; exact ⟨_, _, _, rfl, hl, (Option.some.inj h).symm⟩
    · cases h
  · cases h
theorem am_dup_inv {len pc : Nat} {L : am_Ls} {S : List am_V} {M : am_M} {n : Nat} {r : am_S} (h : am_dup len pc L S M n = some r) : ∃ v S', S = v :: S' ∧ len = 1 ∧ am_isL v = false ∧ r = (pc + 1, L, v :: v :: S', M, n) := by
  unfold am_dup at h
  split at h
  · split at h
    · rename_i hl; exact ⟨_, _, rfl, hl.1, hl.2, (Option.some.inj h).symm⟩
    · cases h
  · cases h
theorem am_pop_inv {len pc : Nat} {L : am_Ls} {S : List am_V} {M : am_M} {n : Nat} {r : am_S} (h : am_pop len pc L S M n = some r) : ∃ v S', S = v :: S' ∧ len = 1 ∧ am_isL v = false ∧ r = (pc + 1, L, S', M, n) := by
  unfold am_pop at h
  split at h
  · split at h
    · rename_i hl; exact ⟨_, _, rfl, hl.1, hl.2, (Option.some.inj h).symm⟩
    · cases h
  · cases h
theorem am_dx1_inv {len pc : Nat} {L : am_Ls} {S : List am_V} {M : am_M} {n : Nat} {r : am_S} (h : am_dx1 len pc L S M n = some r) : ∃ v w S', S = v :: w :: S' ∧ len = 1 ∧ am_isL v = false ∧ am_isL w = false ∧ r = (pc + 1, L, v :: w :: v :: S', M, n) := by
  unfold am_dx1 at h
  split at h
  · split at h
    · rename_i hl; exact ⟨_, _, _, rfl, hl.1, hl.2.1, hl.2.2, (Option.some.inj h).symm⟩
    · cases h
  · cases h
theorem am_dx2_inv {len pc : Nat} {L : am_Ls} {S : List am_V} {M : am_M} {n : Nat} {r : am_S} (h : am_dx2 len pc L S M n = some r) : ∃ v w u S', S = v :: w :: u :: S' ∧ len = 1 ∧ am_isL v = false ∧ am_isL w = false ∧ am_isL u = false ∧ r = (pc + 1, L, v :: w :: u :: v :: S', M, n) := by
  unfold am_dx2 at h
  split at h
  · split at h
    · rename_i hl; exact ⟨_, _, _, _, rfl, hl.1, hl.2.1, hl.2.2.1, hl.2.2.2, (Option.some.inj h).symm⟩
    · cases h
  · cases h
theorem am_d2_inv {len pc : Nat} {L : am_Ls} {S : List am_V} {M : am_M} {n : Nat} {r : am_S} (h : am_d2 len pc L S M n = some r) : ∃ v w S', S = v :: w :: S' ∧ len = 1 ∧ am_isL v = false ∧ am_isL w = false ∧ r = (pc + 1, L, v :: w :: v :: w :: S', M, n) := by
  unfold am_d2 at h
  split at h
  · split at h
    · rename_i hl; exact ⟨_, _, _, rfl, hl.1, hl.2.1, hl.2.2, (Option.some.inj h).symm⟩
    · cases h
  · cases h
theorem am_if1_inv {c : Jvm.ClassFile.Cond} {off : Int} {len pc : Nat} {L : am_Ls} {S : List am_V} {M : am_M} {n : Nat} {r : am_S} (h : am_if1 c off len pc L S M n = some r) : ∃ x S', S = am_I x :: S' ∧ am_br (am_cnd c x 0) off len pc L S' M n = some r := by
  unfold am_if1 at h
  split at h
  · exact ⟨_, _, rfl, h⟩
  · cases h
theorem am_if2_inv {c : Jvm.ClassFile.Cond} {off : Int} {len pc : Nat} {L : am_Ls} {S : List am_V} {M : am_M} {n : Nat} {r : am_S} (h : am_if2 c off len pc L S M n = some r) : ∃ x y S', S = am_I y :: am_I x :: S' ∧ am_br (am_cnd c x y) off len pc L S' M n = some r := by
  unfold am_if2 at h
  split at h
  · exact ⟨_, _, _, rfl, h⟩
  · cases h
theorem am_ifa_inv {sh : am_Sh} {c : Jvm.ClassFile.ACond} {off : Int} {len pc : Nat} {L : am_Ls} {S : List am_V} {M : am_M} {n : Nat} {r : am_S} (h : am_ifa sh c off len pc L S M n = some r) : ∃ x y S', S = am_R y :: am_R x :: S' ∧ am_has sh x = true ∧ am_has sh y = true ∧ am_br (am_acn c x y) off len pc L S' M n = some r := by
  unfold am_ifa at h
  split at h
  · split at h
    · rename_i hl; exact ⟨_, _, _, rfl, hl.1, hl.2, h⟩
    · cases h
  · cases h
theorem am_ifn_inv {b : Bool} {off : Int} {len pc : Nat} {L : am_Ls} {S : List am_V} {M : am_M} {n : Nat} {r : am_S} (h : am_ifn b off len pc L S M n = some r) : ∃ o S', S = am_R o :: S' ∧ am_br (o.isNone == b) off len pc L S' M n = some r := by
  unfold am_ifn at h
  split at h
  · exact ⟨_, _, rfl, h⟩
  · cases h
theorem am_tsw_inv {d lo hi : Int} {offs : Array Int} {pc : Nat} {L : am_Ls} {S : List am_V} {M : am_M} {n : Nat} {r : am_S} (h : am_tsw d lo hi offs pc L S M n = some r) : ∃ x S', S = am_I x :: S' ∧ (((x.toInt < lo ∨ hi < x.toInt) ∧ am_jmp d pc L S' M n = some r) ∨ (¬ (x.toInt < lo ∨ hi < x.toInt) ∧ ∃ off, offs[(x.toInt - lo).toNat]? = some off ∧ am_jmp off pc L S' M n = some r)) := by
  unfold am_tsw at h
  split at h
  · split at h
    · rename_i hl; exact ⟨_, _, rfl, Or.inl ⟨hl, h⟩⟩
    · rename_i hl
      split at h
      · rename_i off ho; exact ⟨_, _, rfl, Or.inr ⟨hl, off, ho, h⟩⟩
      · cases h
  · cases h
theorem am_gf_inv {sh : am_Sh} {m idx len pc : Nat} {L : am_Ls} {S : List am_V} {M : am_M} {n : Nat} {r : am_S} (h : am_gf sh m idx len pc L S M n = some r) : ∃ k S' ci j, S = am_R (some k) :: S' ∧ am_fl m idx = some (ci, j) ∧ len = 3 ∧ am_ct sh k = some (Sum.inl ci) ∧ r = (pc + 3, L, am_fv sh M ci j k :: S', M, n) := by
  unfold am_gf at h
  split at h
  · rename_i hf
    split at h
    · rename_i hl; exact ⟨_, _, _, _, rfl, hf, hl.1, hl.2, (Option.some.inj h).symm⟩
    · cases h
  · cases h
theorem am_pf_inv {sh : am_Sh} {m idx len pc : Nat} {L : am_Ls} {S : List am_V} {M : am_M} {n : Nat} {r : am_S} (h : am_pf sh m idx len pc L S M n = some r) : ∃ v k S' ci j, S = am_I v :: am_R (some k) :: S' ∧ am_fl m idx = some (ci, j) ∧ len = 3 ∧ am_ct sh k = some (Sum.inl ci) ∧ am_wr ci j = true ∧ (am_fk ci j = 0 ∨ (am_fk ci j = 1 ∧ (v = 0 ∨ v = 1))) ∧ r = (pc + 3, L, S', am_up M k j v, n) := by
  unfold am_pf at h
  split at h
  · rename_i hf
    split at h
    · rename_i hl; exact ⟨_, _, _, _, _, rfl, hf, hl.1, hl.2.1, hl.2.2.1, hl.2.2.2, (Option.some.inj h).symm⟩
    · cases h
  · cases h
theorem am_ald_inv {sh : am_Sh} {t len pc : Nat} {L : am_Ls} {S : List am_V} {M : am_M} {n : Nat} {r : am_S} (h : am_ald sh t len pc L S M n = some r) : ∃ i k S' u N, S = am_I i :: am_R (some k) :: S' ∧ am_ct sh k = some (Sum.inr (u, N)) ∧ len = 1 ∧ am_ix i N = true ∧ (u = t ∨ (u = 5 ∧ t = 0)) ∧ r = (pc + 1, L, am_I (M k i.toNatClampNeg) :: S', M, n) := by
  unfold am_ald at h
  split at h
  · split at h
    · rename_i hc
      split at h
      · rename_i hl; exact ⟨_, _, _, _, _, rfl, hc, hl.1, hl.2.1, hl.2.2, (Option.some.inj h).symm⟩
      · cases h
    · cases h
  · cases h
theorem am_lld_inv {sh : am_Sh} {len pc : Nat} {L : am_Ls} {S : List am_V} {M : am_M} {n : Nat} {r : am_S} (h : am_lld sh len pc L S M n = some r) : ∃ i k S' N, S = am_I i :: am_R (some k) :: S' ∧ am_ct sh k = some (Sum.inr (3, N)) ∧ len = 1 ∧ am_ix i N = true ∧ r = (pc + 1, L, am_L (M k i.toNatClampNeg) :: S', M, n) := by
  unfold am_lld at h
  split at h
  · split at h
    · rename_i hc
      split at h
      · rename_i hl
        obtain ⟨h1, h2, rfl⟩ := hl
        exact ⟨_, _, _, _, rfl, hc, h1, h2, (Option.some.inj h).symm⟩
      · cases h
    · cases h
  · cases h
theorem am_rld_inv {sh : am_Sh} {len pc : Nat} {L : am_Ls} {S : List am_V} {M : am_M} {n : Nat} {r : am_S} (h : am_rld sh len pc L S M n = some r) : ∃ i k S' u N, S = am_I i :: am_R (some k) :: S' ∧ am_ct sh k = some (Sum.inr (u, N)) ∧ len = 1 ∧ am_ix i N = true ∧ (u = 2 ∨ u = 4) ∧ r = (pc + 1, L, am_R (am_rf sh k i.toNatClampNeg) :: S', M, n) := by
  unfold am_rld at h
  split at h
  · split at h
    · rename_i hc
      split at h
      · rename_i hl; exact ⟨_, _, _, _, _, rfl, hc, hl.1, hl.2.1, hl.2.2, (Option.some.inj h).symm⟩
      · cases h
    · cases h
  · cases h
theorem am_ist_inv {sh : am_Sh} {len pc : Nat} {L : am_Ls} {S : List am_V} {M : am_M} {n : Nat} {r : am_S} (h : am_ist sh len pc L S M n = some r) : ∃ x i k S' N, S = am_I x :: am_I i :: am_R (some k) :: S' ∧ am_ct sh k = some (Sum.inr (0, N)) ∧ len = 1 ∧ am_ix i N = true ∧ r = (pc + 1, L, S', am_up M k i.toNatClampNeg x, n) := by
  unfold am_ist at h
  split at h
  · split at h
    · rename_i hc
      split at h
      · rename_i hl
        obtain ⟨h1, h2, rfl⟩ := hl
        exact ⟨_, _, _, _, _, rfl, hc, h1, h2, (Option.some.inj h).symm⟩
      · cases h
    · cases h
  · cases h
theorem am_zst_inv {sh : am_Sh} {len pc : Nat} {L : am_Ls} {S : List am_V} {M : am_M} {n : Nat} {r : am_S} (h : am_zst sh len pc L S M n = some r) : ∃ x i k S' N, S = am_I x :: am_I i :: am_R (some k) :: S' ∧ am_ct sh k = some (Sum.inr (1, N)) ∧ len = 1 ∧ am_ix i N = true ∧ (x = 0 ∨ x = 1) ∧ r = (pc + 1, L, S', am_up M k i.toNatClampNeg x, n) := by
  unfold am_zst at h
  split at h
  · split at h
    · rename_i hc
      split at h
      · rename_i hl
        obtain ⟨h1, h2, rfl, h3⟩ := hl
        exact ⟨_, _, _, _, _, rfl, hc, h1, h2, h3, (Option.some.inj h).symm⟩
      · cases h
    · cases h
  · cases h
theorem am_lst_inv {sh : am_Sh} {len pc : Nat} {L : am_Ls} {S : List am_V} {M : am_M} {n : Nat} {r : am_S} (h : am_lst sh len pc L S M n = some r) : ∃ x i k S' N, S = am_L x :: am_I i :: am_R (some k) :: S' ∧ am_ct sh k = some (Sum.inr (3, N)) ∧ len = 1 ∧ am_ix i N = true ∧ r = (pc + 1, L, S', am_up M k i.toNatClampNeg x, n) := by
  unfold am_lst at h
  split at h
  · split at h
    · rename_i hc
      split at h
      · rename_i hl
        obtain ⟨h1, h2, rfl⟩ := hl
        exact ⟨_, _, _, _, _, rfl, hc, h1, h2, (Option.some.inj h).symm⟩
      · cases h
    · cases h
  · cases h
theorem am_len_inv {sh : am_Sh} {len pc : Nat} {L : am_Ls} {S : List am_V} {M : am_M} {n : Nat} {r : am_S} (h : am_len sh len pc L S M n = some r) : ∃ k S' u N, S = am_R (some k) :: S' ∧ am_ct sh k = some (Sum.inr (u, N)) ∧ len = 1 ∧ r = (pc + 1, L, am_I (Int32.ofNat N) :: S', M, n) := by
  unfold am_len at h
  split at h
  · split at h
    · rename_i hc
      split at h
      · rename_i hl; exact ⟨_, _, _, _, rfl, hc, hl, (Option.some.inj h).symm⟩
      · cases h
    · cases h
  · cases h
theorem am_cpy_inv {sh : am_Sh} {len pc : Nat} {L : am_Ls} {S : List am_V} {M : am_M} {n : Nat} {r : am_S} (h : am_cpy sh len pc L S M n = some r) : ∃ c dp k1 sp k0 S' N0 N1, S = am_I c :: am_I dp :: am_R (some k1) :: am_I sp :: am_R (some k0) :: S' ∧ am_ct sh k0 = some (Sum.inr (0, N0)) ∧ am_ct sh k1 = some (Sum.inr (0, N1)) ∧ len = 3 ∧ S'.length ≤ 4 ∧ ¬ sp < 0 ∧ ¬ dp < 0 ∧ ¬ c < 0 ∧ sp.toNatClampNeg + c.toNatClampNeg ≤ N0 ∧ dp.toNatClampNeg + c.toNatClampNeg ≤ N1 ∧ r = (pc + 3, L, S', am_cp M k0 k1 sp.toNatClampNeg dp.toNatClampNeg c.toNatClampNeg, n) := by
  unfold am_cpy at h
  split at h
  · split at h
    · rename_i h0 h1
      split at h
      · rename_i hl
        obtain ⟨a1, a2, a3, a4, a5, a6, a7⟩ := hl
        exact ⟨_, _, _, _, _, _, _, _, rfl, h0, h1, a1, a2, a3, a4, a5, a6, a7, (Option.some.inj h).symm⟩
      · cases h
    · cases h
  · cases h
theorem am_inv_inv {sh : am_Sh} {kind m idx len pc : Nat} {L : am_Ls} {S : List am_V} {M : am_M} {n : Nat} {r : am_S ⊕ (am_O ⊕ am_C)} (h : am_inv sh kind m idx len pc L S M n = some r) : ∃ c k, am_ml m idx = some (c, k, kind) ∧ len = 3 ∧ k ≤ S.length ∧ S.length ≤ k + 4 ∧ n + am_bud c ≤ am_bud m ∧ (kind = 0 ∨ am_rcv sh c (S.take k).reverse = true) ∧ r = Sum.inr (Sum.inr (c, (S.take k).reverse, (pc, L, S.drop k, M, n))) := by
  unfold am_inv at h
  split at h
  · rename_i c k kd hm
    split at h
    · rename_i hl
      obtain ⟨a1, rfl, a3, a4, a5, a6⟩ := hl
      exact ⟨c, k, hm, a1, a3, a4, a5, a6, (Option.some.inj h).symm⟩
    · cases h
  · cases h
theorem am_iret_inv {m len : Nat} {S : List am_V} {M : am_M} {n : Nat} {r : am_S ⊕ (am_O ⊕ am_C)} (h : am_iret m len S M n = some r) : ∃ v, S = [am_I v] ∧ len = 1 ∧ n ≤ am_bud m ∧ (am_rt m = some .int ∨ (am_rt m = some .boolean ∧ (v = 0 ∨ v = 1))) ∧ r = Sum.inr (Sum.inl (M, Sum.inl (some (am_I v)))) := by
  unfold am_iret at h
  split at h
  · split at h
    · rename_i hl; exact ⟨_, rfl, hl.1, hl.2.1, hl.2.2, (Option.some.inj h).symm⟩
    · cases h
  · cases h
theorem am_aret_inv {m len : Nat} {S : List am_V} {M : am_M} {n : Nat} {r : am_S ⊕ (am_O ⊕ am_C)} (h : am_aret m len S M n = some r) : ∃ o, S = [am_R o] ∧ len = 1 ∧ n ≤ am_bud m ∧ am_ra m = true ∧ r = Sum.inr (Sum.inl (M, Sum.inl (some (am_R o)))) := by
  unfold am_aret at h
  split at h
  · split at h
    · rename_i hl; exact ⟨_, rfl, hl.1, hl.2.1, hl.2.2, (Option.some.inj h).symm⟩
    · cases h
  · cases h
theorem am_vret_inv {m len : Nat} {S : List am_V} {M : am_M} {n : Nat} {r : am_S ⊕ (am_O ⊕ am_C)} (h : am_vret m len S M n = some r) : S = [] ∧ len = 1 ∧ n ≤ am_bud m ∧ am_rt m = none ∧ r = Sum.inr (Sum.inl (M, Sum.inl none)) := by
  unfold am_vret at h
  split at h
  · rename_i hl; exact ⟨hl.2.1, hl.1, hl.2.2.1, hl.2.2.2, (Option.some.inj h).symm⟩
  · cases h
theorem am_thr_inv {m pc : Nat} {S : List am_V} {M : am_M} {n : Nat} {r : am_S ⊕ (am_O ⊕ am_C)} (h : am_thr m pc S M n = some r) : ∃ x, am_th m pc = some x ∧ S = [] ∧ n + 1 ≤ am_bud m ∧ r = Sum.inr (Sum.inl (M, Sum.inr x)) := by
  unfold am_thr at h
  split at h
  · rename_i x hx
    split at h
    · rename_i hl; exact ⟨x, hx, hl.1, hl.2, (Option.some.inj h).symm⟩
    · cases h
  · cases h
end
section
-- the worlds: which cells the keys stand for
abbrev am_Ω : Type := am_Sh × List am_K × (am_K → Nat) × va_G × (Nat → ClassId)
abbrev am_sh (Ω : am_Ω) : am_Sh := Ω.1
abbrev am_dom (Ω : am_Ω) : List am_K := Ω.2.1
abbrev am_ad (Ω : am_Ω) : am_K → Nat := Ω.2.2.1
abbrev am_D (Ω : am_Ω) : va_G := Ω.2.2.2.1
abbrev am_ca (Ω : am_Ω) : Nat → ClassId := Ω.2.2.2.2
def am_c (ad : am_K → Nat) (v : am_V) : Value := match v with
  | .inl x => .int x
  | .inr (.inl x) => .long x.toInt64
  | .inr (.inr (.inl o)) => va_rf (o.map ad)
  | .inr (.inr (.inr a)) => .ref a
abbrev am_tys (Ω : am_Ω) : List (ClassId × FieldType) := [(am_ca Ω 0, .int), (am_ca Ω 1, .boolean), (am_ca Ω 2, .object am_nT), (am_ca Ω 3, .long), (am_ca Ω 4, .object am_nL)]
def am_av (Ω : am_Ω) (M : am_M) (t : Nat) (k : am_K) : (Nat → Int32) ⊕ (Nat → Int64) ⊕ (Nat → UInt32) ⊕ (Nat → UInt64) ⊕ (Nat → Option Nat) := match t with
  | 0 => .inl (M k)
  | 1 => .inl (M k)
  | 3 => .inr (.inl (fun j => (M k j).toInt64))
  | _ => .inr (.inr (.inr (.inr (fun j => (am_rf (am_sh Ω) k j).map (am_ad Ω)))))
def am_fs (Ω : am_Ω) (M : am_M) (ci : Nat) (k : am_K) : List Value := (List.range (am_nf ci)).map (fun j => am_c (am_ad Ω) (am_fv (am_sh Ω) M ci j k))
def am_e (Ω : am_Ω) (M : am_M) (k : am_K) : va_E := match am_ct (am_sh Ω) k with
  | some (.inl ci) => .inr (ci, am_fs Ω M ci k)
  | some (.inr (t, N)) => .inl (am_ca Ω t, N, am_av Ω M t k)
  | none => .inr (0, [])
def am_w (Ω : am_Ω) (M : am_M) : va_W := (am_dom Ω).map (fun k => (am_ad Ω k, am_e Ω M k))
/-- dom lists the keys that there are, but the script's; addresses are apart -/
def am_in (Ω : am_Ω) : Prop := (∀ k c, am_ct (am_sh Ω) k = some c → (∀ N, c ≠ Sum.inr (5, N)) → k ∈ am_dom Ω) ∧ (∀ k ∈ am_dom Ω, ∃ c, am_ct (am_sh Ω) k = some c ∧ ∀ N, c ≠ Sum.inr (5, N)) ∧ (am_dom Ω).Nodup ∧ (∀ k1 k2 c1 c2, am_ct (am_sh Ω) k1 = some c1 → am_ct (am_sh Ω) k2 = some c2 → am_ad Ω k1 = am_ad Ω k2 → k1 = k2)
def am_A (Ω : am_Ω) (z : Nat) : Nat → Prop := fun q => (∃ k ∈ am_dom Ω, am_ad Ω k = q) ∨ z ≤ q
def am_sc (Ω : am_Ω) (M : am_M) (s : State) : Prop := ∀ k N, am_ct (am_sh Ω) k = some (Sum.inr (5, N)) → va_X (am_ad Ω k) N (M k) s s.heap ∧ am_ad Ω k < s.heap.size ∧ ¬ am_A Ω s.heap.size (am_ad Ω k)
theorem am_w_get {Ω : am_Ω} (M : am_M) {k : am_K} (h : k ∈ am_dom Ω) : ∃ q0 : Nat, (am_dom Ω)[q0]? = some k ∧ (am_w Ω M)[q0]? = some (am_ad Ω k, am_e Ω M k) := by
  obtain ⟨q0, hq⟩ := List.getElem?_of_mem h
  exact ⟨q0, hq, by simp [am_w, hq]⟩
theorem am_w_set {Ω : am_Ω} {M M' : am_M} {k : am_K} {q0 : Nat} {e' : va_E} (hin : am_in Ω) (hq : (am_dom Ω)[q0]? = some k) (he : am_e Ω M' k = e') (hne : ∀ k', k' ≠ k → am_e Ω M' k' = am_e Ω M k') : (am_w Ω M).set q0 (am_ad Ω k, e') = am_w Ω M' := by
  have hlt : q0 < (am_dom Ω).length := (List.getElem?_eq_some_iff.mp hq).1
  apply List.ext_getElem?
  intro i
  by_cases hi : i = q0
  · subst hi
    rw [List.getElem?_set_self (by simpa [am_w] using hlt)]
    simp [am_w, hq, he]
  · rw [List.getElem?_set_ne (Ne.symm hi)]
    simp only [am_w, List.getElem?_map]
    cases hk : (am_dom Ω)[i]? with
    | none => rfl
    | some k' =>
      have hne' : k' ≠ k := fun h => by
        subst h
        exact hi ((List.getElem?_inj (List.getElem?_eq_some_iff.mp hk).1 hin.2.2.1).mp (hk.trans hq.symm))
      simp [hne k' hne']
theorem am_w_D {Ω : am_Ω} (M : am_M) (z : Nat) (hin : am_in Ω) : va_D (am_A Ω z) (am_w Ω M) := by
  have key : ∀ (i : Nat) (q : Nat × va_E), (am_w Ω M)[i]? = some q → ∃ k, (am_dom Ω)[i]? = some k ∧ q.1 = am_ad Ω k := by
    intro i q h
    simp only [am_w, List.getElem?_map] at h
    cases hk : (am_dom Ω)[i]? with
    | none => rw [hk] at h; cases h
    | some k => rw [hk] at h; cases h; exact ⟨k, rfl, rfl⟩
  refine ⟨fun i j p q hi hj hpq => ?_, fun i q h => ?_⟩
  · obtain ⟨k1, h1, e1⟩ := key i p hi
    obtain ⟨k2, h2, e2⟩ := key j q hj
    obtain ⟨c1, g1, -⟩ := hin.2.1 k1 (List.mem_of_getElem? h1)
    obtain ⟨c2, g2, -⟩ := hin.2.1 k2 (List.mem_of_getElem? h2)
    have hk : k1 = k2 := hin.2.2.2 k1 k2 c1 c2 g1 g2 (by rw [← e1, ← e2]; exact hpq)
    subst hk
    exact (List.getElem?_inj (List.getElem?_eq_some_iff.mp h1).1 hin.2.2.1).mp (h1.trans h2.symm)
  · obtain ⟨k, h1, e1⟩ := key i q h
    exact Or.inl ⟨k, List.mem_of_getElem? h1, e1.symm⟩
theorem am_up_self (M : am_M) (k : am_K) (j : Nat) (v : Int32) : am_up M k j v k = upd (M k) j v := by
  funext i
  simp [am_up, upd]
theorem am_up_ne (M : am_M) {k k' : am_K} (j : Nat) (v : Int32) (h : k' ≠ k) : am_up M k j v k' = M k' := by
  funext i
  simp [am_up, h]
theorem am_cp_self (M : am_M) (k0 k1 : am_K) (sp dp n : Nat) : am_cp M k0 k1 sp dp n k1 = va_cpy (M k0) (M k1) sp dp n := by
  funext i
  simp [am_cp]
theorem am_cp_ne (M : am_M) {k0 k1 k' : am_K} (sp dp n : Nat) (h : k' ≠ k1) : am_cp M k0 k1 sp dp n k' = M k' := by
  funext i
  simp [am_cp, h]
theorem am_e_ne {Ω : am_Ω} {M M' : am_M} {k' : am_K} (h : M' k' = M k') : am_e Ω M' k' = am_e Ω M k' := by
  unfold am_e
  cases hc : am_ct (am_sh Ω) k' with
  | none => rfl
  | some c =>
    cases c with
    | inl ci => simp only [am_fs, am_fv, h]
    | inr tN => simp only [am_av, h]
theorem am_e_obj {Ω : am_Ω} {M : am_M} {k : am_K} {ci : Nat} (hc : am_ct (am_sh Ω) k = some (Sum.inl ci)) : am_e Ω M k = .inr (ci, am_fs Ω M ci k) := by
  simp only [am_e, hc]
theorem am_e_arr {Ω : am_Ω} {M : am_M} {k : am_K} {t N : Nat} (hc : am_ct (am_sh Ω) k = some (Sum.inr (t, N))) : am_e Ω M k = .inl (am_ca Ω t, N, am_av Ω M t k) := by
  simp only [am_e, hc]
theorem am_fs_get {Ω : am_Ω} {M : am_M} {ci j : Nat} {k : am_K} (h : j < am_nf ci) : (am_fs Ω M ci k)[j]? = some (am_c (am_ad Ω) (am_fv (am_sh Ω) M ci j k)) := by
  simp [am_fs, List.getElem?_range h]
theorem am_fs_set {Ω : am_Ω} {M : am_M} {ci j : Nat} {k : am_K} {v : Int32} (h : j < am_nf ci) (hf : am_fk ci j ≠ 2) : am_fs Ω (am_up M k j v) ci k = (am_fs Ω M ci k).set j (.int v) := by
  apply List.ext_getElem?
  intro i
  by_cases hi : i = j
  · subst hi
    rw [List.getElem?_set_self (by simpa [am_fs] using h), am_fs_get h]
    simp [am_fv, hf, am_up, am_c]
  · rw [List.getElem?_set_ne (Ne.symm hi)]
    by_cases hl : i < am_nf ci
    · rw [am_fs_get hl, am_fs_get hl]
      simp [am_fv, am_up, hi]
    · rw [List.getElem?_eq_none (by simp [am_fs]; omega), List.getElem?_eq_none (by simp [am_fs]; omega)]
theorem am_c_cat {ad : am_K → Nat} {v : am_V} (h : am_isL v = false) : (am_c ad v).category = 1 := by
  match v, h with
  | .inl x, _ => rfl
  | .inr (.inr (.inl none)), _ => rfl
  | .inr (.inr (.inl (some k))), _ => rfl
  | .inr (.inr (.inr a)), _ => rfl
-- locals
def am_lv (Ω : am_Ω) (nL : Nat) (ls : Array Slot) (L : am_Ls) : Prop := ls.size = nL ∧ L.length = nL ∧ lv_wf ls ∧ (∀ (i : Nat) (v : am_V), L[i]? = some (some v) → am_isL v = false) ∧ ∀ (i : Nat) (v : am_V), L[i]? = some (some v) → ls[i]? = some (.val (am_c (am_ad Ω) v))
def am_as (Ω : am_Ω) (L : am_Ls) : List (Nat × Value) := (List.range L.length).filterMap (fun i => match L[i]? with
  | some (some v) => some (i, am_c (am_ad Ω) v)
  | _ => none)
theorem am_as_mem {Ω : am_Ω} {L : am_Ls} {i : Nat} {x : Value} : (i, x) ∈ am_as Ω L ↔ ∃ v, L[i]? = some (some v) ∧ x = am_c (am_ad Ω) v := by
  simp only [am_as, List.mem_filterMap, List.mem_range]
  constructor
  · rintro ⟨j, hj, h⟩
    split at h
    · rename_i v hv
      simp only [Option.some.injEq, Prod.mk.injEq] at h
      obtain ⟨rfl, rfl⟩ := h
      exact ⟨v, hv, rfl⟩
    · cases h
  · rintro ⟨v, hv, rfl⟩
    exact ⟨i, (List.getElem?_eq_some_iff.mp hv).1, by simp [hv]⟩
theorem am_lv_has {Ω : am_Ω} {nL : Nat} {ls : Array Slot} {L : am_Ls} (h : am_lv Ω nL ls L) : lv_has ls nL (am_as Ω L) := by
  refine ⟨h.1, h.2.2.1, fun q hq => ?_⟩
  obtain ⟨i, x⟩ := q
  obtain ⟨v, hv, rfl⟩ := am_as_mem.mp hq
  exact h.2.2.2.2 i v hv
theorem am_lv_set {Ω : am_Ω} {nL : Nat} {ls ls' : Array Slot} {L : am_Ls} {i : Nat} {v : am_V} (h : am_lv Ω nL ls L) (hi : i < L.length) (hv : am_isL v = false) (h' : lv_has ls' nL ((i, am_c (am_ad Ω) v) :: (am_as Ω L).filter (fun q => !(q.1 == i) && !(q.1 + 1 == i && q.2.category == 2)))) : am_lv Ω nL ls' (L.set i (some v)) := by
  have key : ∀ (j : Nat) (w : am_V), (L.set i (some v))[j]? = some (some w) → (j = i ∧ w = v) ∨ (j ≠ i ∧ L[j]? = some (some w)) := by
    intro j w hw
    by_cases hj : j = i
    · subst hj
      rw [List.getElem?_set_self hi] at hw
      exact Or.inl ⟨rfl, by simpa using hw.symm⟩
    · rw [List.getElem?_set_ne (Ne.symm hj)] at hw
      exact Or.inr ⟨hj, hw⟩
  refine ⟨h'.1, by rw [List.length_set]; exact h.2.1, h'.2.1, fun j w hw => ?_, fun j w hw => ?_⟩
  · rcases key j w hw with ⟨-, rfl⟩ | ⟨-, hw⟩
    · exact hv
    · exact h.2.2.2.1 j w hw
  · rcases key j w hw with ⟨rfl, rfl⟩ | ⟨hj, hw⟩
    · exact h'.2.2 (j, _) List.mem_cons_self
    · refine h'.2.2 (j, _) (List.mem_cons_of_mem _ (List.mem_filter.mpr ⟨am_as_mem.mpr ⟨w, hw, rfl⟩, ?_⟩))
      have hc := am_c_cat (ad := am_ad Ω) (h.2.2.2.1 j w hw)
      have hc2 : ((am_c (am_ad Ω) w).category == 2) = false := by rw [hc]; rfl
      have hj2 : (j == i) = false := by simpa using hj
      show (!(j == i) && !(j + 1 == i && (am_c (am_ad Ω) w).category == 2)) = true
      rw [hc2, hj2]
      simp
end
section
-- out of the claim's printed names (claim/NAMES.whole.lean.txt), the Bundle's names spelt out: what a throw needs of the heap, and a walk taken as begun anew
section VXP
variable {p : Program} {l : Launch} {e : Env} {R : Room} {s : State} {m : MethodId} {args : Array Value} {below : List Frame} {meth : Method} {c : Code} {H : Heap} {locs : List Loc} {cells slots : Nat} {Q : State → Prop}
theorem vx_frame {U : State} {k n : Nat} (h : s.sameButNew ({ U with vm := s.vm } : State) locs k n) : s.heap.size ≤ U.heap.size ∧ ∀ q : Nat, q < s.heap.size → (∀ z ∈ locs, z.base ≠ q) → U.heap[q]? = s.heap[q]? := by
  obtain ⟨-, h2, -, -, -, h6⟩ := h
  refine ⟨h2, fun q hq hz => ?_⟩
  obtain ⟨c9, e1, e2, e3, e4⟩ := h6 q _ (Array.getElem?_eq_getElem hq)
  have hs : c9.slots = (s.heap[q]).slots := Array.ext_getElem? fun i => e4 i fun hm => hz _ hm rfl
  have h9 : c9 = s.heap[q] := by
    rw [hs] at e2
    exact e2
  have e5 : U.heap[q]? = some c9 := e1
  rw [e5, h9, Array.getElem?_eq_getElem hq]
/-- the words of a throw but the four that speak of the heap -/
def vx_no (w : Cond) : Bool := decide (w ≠ .isRef (.static Bundle.tN "UNASSIGNED_STACK" Bundle.steD)) && decide (w ≠ .isRef (.static Bundle.tN "SUPPRESSED_SENTINEL" Bundle.listD)) && decide (w ≠ .laysStatic Bundle.tN "UNASSIGNED_STACK" Bundle.steD) && decide (w ≠ .laysStatic Bundle.tN "SUPPRESSED_SENTINEL" Bundle.listD)
def vx_atS (own : String) (ic : Nat) (X : String) (names : List String) : List Cond := (Bundle.ownAtoms own ic X names).filter vx_no
/-- a word that the tables alone decide, or a good one -/
def vx_ot (w : Cond) : Bool := w.onTables || goodWord w
theorem vx_ot_at {args a' : Array Value} {s U : State} {w : Cond} (hW : s.WarmedH U.vm) (hvm : s.vm = U.vm) (hg : vx_ot w = true) (h : w.before args s = true) : w.before a' U = true := by
  simp only [vx_ot, Bool.or_eq_true] at hg
  rcases hg with hg | hg
  · exact va_tabs hg hvm h
  · exact word_at hW (good_of_word hg) h
/-- a list's words: the good ones out of the method's own list, the others by premises of their own -/
theorem vx_hat {args : Array Value} {s : State} {L B : List Cond} (h1 : ∀ w ∈ L.filter goodWord, w.before args s = true) (h2 : ∀ w ∈ L.filter (fun w => !goodWord w), w ∈ B) (h3 : ∀ w ∈ B, w.before args s = true) : ∀ w ∈ L, w.before args s = true := by
  intro w hw
  by_cases g : goodWord w = true
  · exact h1 w (List.mem_filter.mpr ⟨hw, g⟩)
  · refine h3 w (h2 w (List.mem_filter.mpr ⟨hw, ?_⟩))
    show (!goodWord w) = true
    cases hgw : goodWord w
    · rfl
    · exact absurd hgw g
theorem vx_c {args : Array Value} {s : State} {w : Cond} {B : List Cond} (h : w.before args s = true) (t : ∀ w ∈ B, w.before args s = true) : ∀ w' ∈ w :: B, w'.before args s = true := fun w' h' => (List.mem_cons.mp h').elim (fun e => by rw [e]; exact h) (t w')
theorem vx_n {args : Array Value} {s : State} : ∀ w ∈ ([] : List Cond), w.before args s = true := fun _ h => nomatch h
theorem vx_own {args : Array Value} {s : State} {L : List Cond} (h1 : ∀ w ∈ L.filter vx_no, w.before args s = true)
    (hU : (Cond.isRef (.static Bundle.tN "UNASSIGNED_STACK" Bundle.steD)).before args s = true) (hN : (Cond.isRef (.static Bundle.tN "SUPPRESSED_SENTINEL" Bundle.listD)).before args s = true)
    (lU : (Cond.laysStatic Bundle.tN "UNASSIGNED_STACK" Bundle.steD).before args s = true) (lN : (Cond.laysStatic Bundle.tN "SUPPRESSED_SENTINEL" Bundle.listD).before args s = true) : ∀ w ∈ L, w.before args s = true := by
  intro w hw
  by_cases e1 : w = .isRef (.static Bundle.tN "UNASSIGNED_STACK" Bundle.steD)
  · rw [e1]; exact hU
  · by_cases e2 : w = .isRef (.static Bundle.tN "SUPPRESSED_SENTINEL" Bundle.listD)
    · rw [e2]; exact hN
    · by_cases e3 : w = .laysStatic Bundle.tN "UNASSIGNED_STACK" Bundle.steD
      · rw [e3]; exact lU
      · by_cases e4 : w = .laysStatic Bundle.tN "SUPPRESSED_SENTINEL" Bundle.listD
        · rw [e4]; exact lN
        · exact h1 w (List.mem_filter.mpr ⟨hw, by unfold vx_no; rw [decide_eq_true e1, decide_eq_true e2, decide_eq_true e3, decide_eq_true e4]; rfl⟩)
/-- where a static field lies, its class's statics cell in H -/
def vx_L (C n d : String) (A : Nat → Prop) (U : State) (H : Heap) : Prop := ∃ (c : ClassId) (k : Class) (i : Nat) (f : Field) (a : Nat) (cell : Cell), U.vm.findClass C = some c ∧ U.fieldFound? C n d = some (c, k, i, f) ∧ f.isStatic = true ∧ k.statics = some a ∧ H[a]? = some cell ∧ cell.vm.isStatics = true ∧ cell.cls = c ∧ f.slot < cell.slots.size ∧ k.staticTypes[f.slot]? = some f.type ∧ ¬ A a
theorem vx_L.moved {C n d : String} {A : Nat → Prop} {u U : State} {H : Heap} (hvm : u.vm.Alike U.vm) (h : vx_L C n d A u H) : vx_L C n d A U H := by
  obtain ⟨c, k, i, f, a, cell, h1, h2, h3, h4, h5, h6, h7, h8, h9, h10⟩ := h
  obtain ⟨k', hi', he⟩ := State.fieldFound?_setVm hvm h2
  exact ⟨c, k', i, f, a, cell, by rw [hvm.findClass]; exact h1, hi', h3, by rw [he]; exact h4, h5, h6, h7, h8, by rw [he]; exact h9, h10⟩
theorem vx_L.kept {C n d : String} {A : Nat → Prop} {U : State} {H H1 : Heap} (h : vx_L C n d A U H) (hq : ∀ a : Nat, a < H.size → ¬ A a → H1[a]? = H[a]?) : vx_L C n d A U H1 := by
  obtain ⟨c, k, i, f, a, cell, h1, h2, h3, h4, h5, h6, h7, h8, h9, h10⟩ := h
  exact ⟨c, k, i, f, a, cell, h1, h2, h3, h4, by rw [hq a (Array.getElem?_eq_some_iff.mp h5).1 h10]; exact h5, h6, h7, h8, h9, h10⟩
theorem vx_L.narrow {C n d : String} {A B : Nat → Prop} {U : State} {H : Heap} (h : vx_L C n d A U H) (hAB : ∀ q, B q → A q) : vx_L C n d B U H := by
  obtain ⟨c, k, i, f, a, cell, h1, h2, h3, h4, h5, h6, h7, h8, h9, h10⟩ := h
  exact ⟨c, k, i, f, a, cell, h1, h2, h3, h4, h5, h6, h7, h8, h9, fun z => h10 (hAB _ z)⟩
theorem vx_L.word {C n d : String} {A : Nat → Prop} {s : State} {args : Array Value} (h : vx_L C n d A s s.heap) : (Cond.laysStatic C n d).before args s = true := by
  obtain ⟨c, k, i, f, a, cell, h1, h2, h3, h4, h5, h6, h7, h8, h9, -⟩ := h
  show (Cond.laysStatic C n d).holds args s none s [] = true
  exact Cond.laysStatic_of h1 h2 h3 h4 h5 h6 h7 h8 h9
/-- .. and what it holds: null or some reference -/
def vx_Zq (C n d : String) (A : Nat → Prop) (U : State) (H : Heap) : Prop := va_Zq C n d A U H ∧ vx_L C n d A U H
theorem vx_Zq.moved {C n d : String} {A : Nat → Prop} {u U : State} {H : Heap} (hvm : u.vm.Alike U.vm) (h : vx_Zq C n d A u H) : vx_Zq C n d A U H := ⟨va_Zq.moved hvm h.1, vx_L.moved hvm h.2⟩
theorem vx_Zq.kept {C n d : String} {A : Nat → Prop} {U : State} {H H1 : Heap} (h : vx_Zq C n d A U H) (hq : ∀ a : Nat, a < H.size → ¬ A a → H1[a]? = H[a]?) : vx_Zq C n d A U H1 := ⟨va_Zq.kept h.1 hq, vx_L.kept h.2 hq⟩
theorem vx_Zq.narrow {C n d : String} {A B : Nat → Prop} {U : State} {H : Heap} (h : vx_Zq C n d A U H) (hAB : ∀ q, B q → A q) : vx_Zq C n d B U H := ⟨va_Zq.narrow h.1 hAB, vx_L.narrow h.2 hAB⟩
theorem vx_Zqof {args : Array Value} {s : State} {C n d : String} {A : Nat → Prop} (hl : (Cond.laysStatic C n d).before args s = true) (hini : (Cond.initialized C).before args s = true) (h : (Cond.isRef (.static C n d)).before args s = true) (hA : ∀ a : Nat, a < s.heap.size → ¬ A a) : vx_Zq C n d A s s.heap := by
  refine ⟨va_Zqof hl hini h hA, ?_⟩
  obtain ⟨c, k, i, f, a, cell, h1, h2, h3, h4, h5, h6, h7, h8, h9⟩ := Cond.laysStatic_spec hl
  exact ⟨c, k, i, f, a, cell, h1, h2, h3, h4, h5, h6, h7, h8, h9, hA a (Array.getElem?_eq_some_iff.mp h5).1⟩
theorem vx_isRef {C n d : String} {v : Value} {A : Nat → Prop} {s : State} {args : Array Value} (h : va_Z C n d v A s s.heap) (hv : v.isRef = true) : (Cond.isRef (.static C n d)).before args s = true := by
  obtain ⟨cf, kf, fi, f, a, cell, h1, h2, h3, h4, h5, h6, h7, -⟩ := h
  have he : (Term.static C n d).eval args s none [] s = some v := by
    simp [Term.eval, State.fieldNamed?, h1, h2, h4, h5, h6, h7]
  simp only [Cond.before, Cond.holds, Cond.value, he]
  cases v <;> simp_all [Value.isRef]
theorem vx_isRefq {C n d : String} {A : Nat → Prop} {s : State} {args : Array Value} (h : va_Zq C n d A s s.heap) : (Cond.isRef (.static C n d)).before args s = true := by
  rcases h with h | ⟨t, h⟩
  · exact vx_isRef h rfl
  · exact vx_isRef h rfl
/-- the same frame, seen from here: as if the method were called anew in this heap -/
theorem vx_rebase {T : State} (X : Stand p l e R s m args below meth c T locs cells slots) {R' : Room} (hf : R'.frames ≤ R.frames) (hl : R'.locals ≤ R.locals) (hc : cells + R'.cells ≤ R.cells) (hs : slots + R'.slots ≤ R.slots) :
    Stand p l e R' ((T.setVm s.vm).setFrames (.invoking m args :: below)) m args below meth c T [] 0 0 := by
  have htop : (T.setVm s.vm).topJava?.isSome := X.here.top
  have hF : ((T.setVm s.vm).setFrames (.invoking m args :: below)).frames = .invoking m args :: below := State.frames_setFrames _ (State.cur_lt_of_top htop)
  obtain ⟨g₀, hg0⟩ := Option.isSome_iff_exists.mp htop
  obtain ⟨r, hr⟩ := State.topJava?_eq_some.mp hg0
  have hl9 : e.platform.stackLimits (T.setVm s.vm).me = e.platform.stackLimits s.me := X.limits
  have hb9 : (T.setVm s.vm).me.stackBytes = s.me.stackBytes := X.bytes
  refine ⟨X.admits, X.cas, X.clock, hF, ?_, X.hears, X.method, X.code, X.here, X.tail, X.warmed, ?_, ?_, ?_⟩
  · have h := X.room
    have hU : ((T.setVm s.vm).setFrames (.invoking m args :: below)).localsInUse = s.localsInUse := by
      rw [State.localsInUse_invoking hF (meth := meth) (c := c) X.method X.code, State.localsInUse_invoking X.frames X.method X.code]
    simp only [State.hasRoom, Bool.and_eq_true, decide_eq_true_eq] at h ⊢
    obtain ⟨⟨⟨⟨h1, h2, h3, h4, h5, h6⟩, h7⟩, h8⟩, h9⟩ := h
    rw [X.frames, List.length_cons] at h2 h3
    have q1 := X.heapSize
    have q2 := X.used
    simp only [hF, hU, List.length_cons, State.stackLimits_setFrames, State.stackBytes_setFrames, hl9, hb9]
    refine ⟨⟨⟨⟨by omega, by omega, by omega, by omega, by omega, h6⟩, ?_⟩, ?_⟩, X.book⟩
    · show T.heap.size + R'.cells ≤ e.platform.maxCells
      omega
    · show T.slotsUsed + R'.slots ≤ e.platform.maxSlots
      omega
  · rw [State.stackLimits_setFrames]; rfl
  · rw [State.stackBytes_setFrames]; rfl
  · refine ⟨?_, Nat.le_refl _, Nat.le_refl _, ?_, ?_, fun a c9 h9 => ⟨c9, h9, rfl, rfl, fun _ _ => rfl⟩⟩
    · obtain ⟨t, ht, -⟩ := State.frames_cons hr
      show T.setVm s.vm = { ((T.setVm s.vm).setFrames (.invoking m args :: below)).setFrames (T.setVm s.vm).frames with heap := T.heap, slotsUsed := T.slotsUsed }
      rw [State.setFrames_setFrames, State.setFrames_self ht]
      rfl
    · show T.slotsUsed = T.slotsUsed + ((T.heap.toList.drop T.heap.size).map (·.slots.size)).sum
      rw [List.drop_eq_nil_of_le (Nat.le_of_eq Array.length_toList)]
      rfl
    · show ((T.heap.toList.drop T.heap.size).map (·.slots.size)).sum ≤ 0
      rw [List.drop_eq_nil_of_le (Nat.le_of_eq Array.length_toList)]
      exact Nat.le_refl _
end VXP
end
section
-- what the start says beyond the tables: which exceptions aren't which, two statics, the texts
def am_od : List MethodName := [⟨"java/lang/RuntimeException", "<init>", "(Ljava/lang/String;)V"⟩, ⟨"java/lang/Exception", "<init>", "(Ljava/lang/String;)V"⟩, ⟨"java/lang/Throwable", "<init>", "(Ljava/lang/String;)V"⟩]
def am_tx (is : Nat) : String := match is with
  | 31 => "no such sets or ways"
  | 36 => "no such choosing or writing"
  | 44 => "there are four tiers"
  | 53 => "a word was read or written before"
  | 71 => "fewer than one word"
  | 75 => "no such last word"
  | 85 => "no such number of accesses"
  | 87 => "no such span"
  | 125 => "no such count"
  | 142 => "no such way"
  | 178 => "no such word"
  | 180 => "no such tier"
  | 185 => "no such set"
  | 187 => "no such block"
  | _ => ""
def am_env (Ω : am_Ω) (s : State) : Prop := (∀ q ∈ am_np, va_Nc (am_xn q.1) (am_xn q.2) s) ∧ vx_Zq Bundle.tN "UNASSIGNED_STACK" Bundle.steD (am_A Ω s.heap.size) s s.heap ∧ vx_Zq Bundle.tN "SUPPRESSED_SENTINEL" Bundle.listD (am_A Ω s.heap.size) s s.heap ∧ (∀ t ∈ am_tt, ∃ a, vk_R (am_cn 2) t.2.2.2.2.1 (am_tx t.2.2.2.2.1) a s) ∧ (∀ x, x < 4 → va_Nw (.castable (am_xn x) (am_xn x)) s) ∧ (∀ y ∈ am_od, va_Nw (.declares y) s)
theorem am_A_mono {Ω : am_Ω} {z z' : Nat} (h : z ≤ z') {q : Nat} (hq : am_A Ω z' q) : am_A Ω z q := by
  rcases hq with h1 | h1
  · exact Or.inl h1
  · exact Or.inr (Nat.le_trans h h1)
theorem am_env_moved {Ω : am_Ω} {s U : State} {locs : List Loc} (h : am_env Ω s) (hS : va_S (am_A Ω s.heap.size) s.heap U.heap locs) (hW : s.WarmedH U.vm) : am_env Ω U := by
  obtain ⟨h1, h2, h3, h4, h5, h6⟩ := h
  refine ⟨fun q hq => (h1 q hq).moved hW.alike, ?_, ?_, fun t ht => ?_, fun x hx => ?_, fun y hy => (h6 y hy).warmD hW⟩
  · exact ((h2.kept hS.2.1).moved hW.alike).narrow (fun q hq => am_A_mono hS.1 hq)
  · exact ((h3.kept hS.2.1).moved hW.alike).narrow (fun q hq => am_A_mono hS.1 hq)
  · obtain ⟨a, ha⟩ := h4 t ht
    exact ⟨a, ha.warm hW⟩
  · exact va_tabs rfl (rfl : (s.setVm U.vm).vm = U.vm) (by rw [Cond.castable_setVm hW.alike]; exact h5 x hx)
def am_up2 : List String := ["java/lang/RuntimeException", "java/lang/Exception"]
/-- the words of a throw: good ones of the tables, or 'castable', or 'declares' -/
def am_tw (w : Cond) : Bool := ((tables_1.take 340).contains w && goodWord w) || ((List.range 4).any fun x => decide (w = .castable (am_xn x) (am_xn x))) || (am_od.any fun y => decide (w = .declares y))
theorem am_tw_0 : (vx_atS (am_cn 2) 33 (am_xn 0) am_up2).all am_tw = true := by decide +kernel
theorem am_tw_1 : (vx_atS (am_cn 2) 46 (am_xn 1) am_up2).all am_tw = true := by decide +kernel
theorem am_tw_2 : (vx_atS (am_cn 2) 55 (am_xn 2) am_up2).all am_tw = true := by decide +kernel
theorem am_tw_3 : (vx_atS (am_cn 2) 77 (am_xn 3) am_up2).all am_tw = true := by decide +kernel
end
section
-- one step of the abstract machine is a step of the machine
def am_Cx (Ω : am_Ω) (d m : Nat) (p : Program) (e : Env) (R : Room) (s : State) (mid : MethodId) (args : Array Value) (meth : Method) (c : Code) : Prop :=
  CallFix p mid c (am_b m) (am_mL m) s args am_ws (am_y m).cls ∧ va_K (am_D Ω) am_cl (am_tys Ω) s ∧ meth.sig.returnType = am_rt m ∧ meth.locks = false ∧ c.exceptionTable.toList.map (fun h => (h.startPc, h.endPc, h.handlerPc, h.catchType)) = am_hh m ∧ am_in Ω ∧ (d + 8 ≤ R.frames ∧ 64 * d + 300 ≤ R.locals ∧ am_bud m ≤ R.cells ∧ 6 * am_bud m ≤ R.slots) ∧ e.platform.stackTraces = false ∧ am_env Ω s
def am_nx (Ω : am_Ω) (m : Nat) (p : Program) (l : Launch) (e : Env) (R : Room) (s : State) (mid : MethodId) (args : Array Value) (below : List Frame) (meth : Method) (c : Code) (Q : State → Prop) (σ : am_S) : Prop :=
  ∀ (H : Heap) (locs : List Loc) (ls : Array Slot), am_lv Ω (am_mL m) ls σ.2.1 → va_P (am_D Ω) am_cl (am_w Ω σ.2.2.2.1) H → va_S (am_A Ω s.heap.size) s.heap H locs → am_sc Ω σ.2.2.2.1 s → W p l e R s mid args below meth c H locs σ.2.2.2.2 (6 * σ.2.2.2.2) Q (F0 mid σ.1 ls (σ.2.2.1.map (am_c (am_ad Ω))))
theorem am_sc_up {Ω : am_Ω} {M : am_M} {s : State} {k : am_K} {c : Nat ⊕ (Nat × Nat)} (h : am_sc Ω M s) (hk : am_ct (am_sh Ω) k = some c) (hc : ∀ N, c ≠ Sum.inr (5, N)) (j : Nat) (v : Int32) : am_sc Ω (am_up M k j v) s := by
  intro k' N hk'
  have hne : k' ≠ k := fun q => by
    subst q
    rw [hk] at hk'
    exact hc N (Option.some.inj hk')
  rw [am_up_ne M j v hne]
  exact h k' N hk'
theorem am_sc_cp {Ω : am_Ω} {M : am_M} {s : State} {k0 k : am_K} {N : Nat} (h : am_sc Ω M s) (hk : am_ct (am_sh Ω) k = some (Sum.inr (0, N))) (a b n : Nat) : am_sc Ω (am_cp M k0 k a b n) s := by
  intro k' N' hk'
  have hne : k' ≠ k := fun q => by
    subst q
    rw [hk] at hk'
    cases hk'
  rw [am_cp_ne M a b n hne]
  exact h k' N' hk'
section STP
variable {Ω : am_Ω} {d m : Nat} {p : Program} {l : Launch} {e : Env} {R : Room} {s : State} {mid : MethodId} {args : Array Value} {below : List Frame} {meth : Method} {c : Code} {Q : State → Prop} {pc len n : Nat} {L : am_Ls} {S : List am_V} {M : am_M} {σ : am_S}
theorem am_s_ps (hC : am_Cx Ω d m p e R s mid args meth c) {w : Nat} {v : am_V} (row : ∀ (H : Heap) (locs : List Loc) (ls : Array Slot) (rest : List Value), W p l e R s mid args below meth c H locs n (6 * n) Q (F0 mid (pc + w) ls (am_c (am_ad Ω) v :: rest)) → W p l e R s mid args below meth c H locs n (6 * n) Q (F0 mid pc ls rest)) (h : am_ps w len v pc L S M n = some σ) (kk : am_nx Ω m p l e R s mid args below meth c Q σ) : am_nx Ω m p l e R s mid args below meth c Q (pc, L, S, M, n) := by
  obtain ⟨rfl, hr⟩ := am_ps_inv h
  cases hr
  intro H locs ls hl hP hS hs
  exact row H locs ls _ (kk H locs ls hl hP hS hs)
theorem am_s_ldi (hC : am_Cx Ω d m p e R s mid args meth c) {w k : Nat} (row : ∀ (H : Heap) (locs : List Loc) (ls : Array Slot) (rest : List Value) (x : Int32), ls[k]? = some (.val (.int x)) → W p l e R s mid args below meth c H locs n (6 * n) Q (F0 mid (pc + w) ls (.int x :: rest)) → W p l e R s mid args below meth c H locs n (6 * n) Q (F0 mid pc ls rest)) (h : am_ldi w len k pc L S M n = some σ) (kk : am_nx Ω m p l e R s mid args below meth c Q σ) : am_nx Ω m p l e R s mid args below meth c Q (pc, L, S, M, n) := by
  obtain ⟨x, rfl, hx, hr⟩ := am_ldi_inv h
  cases hr
  intro H locs ls hl hP hS hs
  exact row H locs ls _ x (hl.2.2.2.2 k _ hx) (kk H locs ls hl hP hS hs)
theorem am_s_lda (hC : am_Cx Ω d m p e R s mid args meth c) {w k : Nat} (row : ∀ (H : Heap) (locs : List Loc) (ls : Array Slot) (rest : List Value) (x : Nat), ls[k]? = some (.val (.ref x)) → W p l e R s mid args below meth c H locs n (6 * n) Q (F0 mid (pc + w) ls (.ref x :: rest)) → W p l e R s mid args below meth c H locs n (6 * n) Q (F0 mid pc ls rest)) (rowN : ∀ (H : Heap) (locs : List Loc) (ls : Array Slot) (rest : List Value), ls[k]? = some (.val .null) → W p l e R s mid args below meth c H locs n (6 * n) Q (F0 mid (pc + w) ls (.null :: rest)) → W p l e R s mid args below meth c H locs n (6 * n) Q (F0 mid pc ls rest)) (h : am_lda w len k pc L S M n = some σ) (kk : am_nx Ω m p l e R s mid args below meth c Q σ) : am_nx Ω m p l e R s mid args below meth c Q (pc, L, S, M, n) := by
  obtain ⟨x, rfl, hx, hr⟩ := am_lda_inv h
  cases hr
  intro H locs ls hl hP hS hs
  have h1 := hl.2.2.2.2 k _ hx
  have h2 := kk H locs ls hl hP hS hs
  match x, h1, h2 with
  | .inl none, h1, h2 => exact rowN H locs ls _ h1 h2
  | .inl (some y), h1, h2 => exact row H locs ls _ _ h1 h2
  | .inr a, h1, h2 => exact row H locs ls _ _ h1 h2
theorem am_s_sti (hC : am_Cx Ω d m p e R s mid args meth c) {w k : Nat} (row : ∀ (H : Heap) (locs : List Loc) (ls : Array Slot) (rest : List Value) (x : Int32) (lv : List (Nat × Value)), lv_has ls (am_mL m) lv → k < am_mL m → (∀ ls' : Array Slot, lv_has ls' (am_mL m) ((k, Value.int x) :: lv.filter (fun q => !(q.1 == k) && !(q.1 + 1 == k && q.2.category == 2))) → W p l e R s mid args below meth c H locs n (6 * n) Q (F0 mid (pc + w) ls' rest)) → W p l e R s mid args below meth c H locs n (6 * n) Q (F0 mid pc ls (.int x :: rest))) (h : am_sti w len k pc L S M n = some σ) (kk : am_nx Ω m p l e R s mid args below meth c Q σ) : am_nx Ω m p l e R s mid args below meth c Q (pc, L, S, M, n) := by
  obtain ⟨x, S', rfl, rfl, hk, hr⟩ := am_sti_inv h
  cases hr
  intro H locs ls hl hP hS hs
  exact row H locs ls _ x _ (am_lv_has hl) (by rw [← hl.2.1]; exact hk) (fun ls' h' => kk H locs ls' (am_lv_set (v := am_I x) hl hk rfl h') hP hS hs)
theorem am_s_sta (hC : am_Cx Ω d m p e R s mid args meth c) {w k : Nat} (row : ∀ (H : Heap) (locs : List Loc) (ls : Array Slot) (rest : List Value) (x : Nat) (lv : List (Nat × Value)), lv_has ls (am_mL m) lv → k < am_mL m → (∀ ls' : Array Slot, lv_has ls' (am_mL m) ((k, Value.ref x) :: lv.filter (fun q => !(q.1 == k) && !(q.1 + 1 == k && q.2.category == 2))) → W p l e R s mid args below meth c H locs n (6 * n) Q (F0 mid (pc + w) ls' rest)) → W p l e R s mid args below meth c H locs n (6 * n) Q (F0 mid pc ls (.ref x :: rest))) (rowN : ∀ (H : Heap) (locs : List Loc) (ls : Array Slot) (rest : List Value) (lv : List (Nat × Value)), lv_has ls (am_mL m) lv → k < am_mL m → (∀ ls' : Array Slot, lv_has ls' (am_mL m) ((k, Value.null) :: lv.filter (fun q => !(q.1 == k) && !(q.1 + 1 == k && q.2.category == 2))) → W p l e R s mid args below meth c H locs n (6 * n) Q (F0 mid (pc + w) ls' rest)) → W p l e R s mid args below meth c H locs n (6 * n) Q (F0 mid pc ls (.null :: rest))) (h : am_sta w len k pc L S M n = some σ) (kk : am_nx Ω m p l e R s mid args below meth c Q σ) : am_nx Ω m p l e R s mid args below meth c Q (pc, L, S, M, n) := by
  obtain ⟨x, S', rfl, rfl, hk, hr⟩ := am_sta_inv h
  cases hr
  intro H locs ls hl hP hS hs
  have hk' : k < am_mL m := by rw [← hl.2.1]; exact hk
  match x, kk with
  | .inl none, kk => exact rowN H locs ls _ _ (am_lv_has hl) hk' (fun ls' h' => kk H locs ls' (am_lv_set (v := am_R none) hl hk rfl h') hP hS hs)
  | .inl (some y), kk => exact row H locs ls _ _ _ (am_lv_has hl) hk' (fun ls' h' => kk H locs ls' (am_lv_set (v := am_R (some y)) hl hk rfl h') hP hS hs)
  | .inr a, kk => exact row H locs ls _ _ _ (am_lv_has hl) hk' (fun ls' h' => kk H locs ls' (am_lv_set (v := am_X a) hl hk rfl h') hP hS hs)
theorem am_s_inc (hC : am_Cx Ω d m p e R s mid args meth c) {k : Nat} {i : Int} (hd : decode (am_b m) pc = .ok (.iinc k i, len)) (h : am_inc k i len pc L S M n = some σ) (kk : am_nx Ω m p l e R s mid args below meth c Q σ) : am_nx Ω m p l e R s mid args below meth c Q (pc, L, S, M, n) := by
  obtain ⟨x, rfl, hx, hr⟩ := am_inc_inv h
  cases hr
  intro H locs ls hl hP hS hs
  have hk : k < L.length := (List.getElem?_eq_some_iff.mp hx).1
  obtain ⟨q, hq⟩ := List.getElem?_of_mem (am_as_mem (Ω := Ω).mpr ⟨am_I x, hx, rfl⟩)
  exact lv_iinc hC.1.1 hC.1.2.1 hd (am_lv_has hl) hq rfl (by rw [← hl.2.1]; exact hk) rfl (fun ls' h' => kk H locs ls' (am_lv_set (v := am_I (x + Int32.ofInt i)) hl hk rfl h') hP hS hs)
theorem am_s_bin (hC : am_Cx Ω d m p e R s mid args meth c) {f : Int32 → Int32 → Int32} (row : ∀ (H : Heap) (locs : List Loc) (ls : Array Slot) (rest : List Value) (x y : Int32), len = 1 → W p l e R s mid args below meth c H locs n (6 * n) Q (F0 mid (pc + 1) ls (.int (f x y) :: rest)) → W p l e R s mid args below meth c H locs n (6 * n) Q (F0 mid pc ls (.int y :: .int x :: rest))) (h : am_bin f len pc L S M n = some σ) (kk : am_nx Ω m p l e R s mid args below meth c Q σ) : am_nx Ω m p l e R s mid args below meth c Q (pc, L, S, M, n) := by
  obtain ⟨x, y, S', rfl, hl1, hr⟩ := am_bin_inv h
  cases hr
  intro H locs ls hl hP hS hs
  exact row H locs ls _ x y hl1 (kk H locs ls hl hP hS hs)
theorem am_s_div (hC : am_Cx Ω d m p e R s mid args meth c) {f : Int32 → Int32 → Int32} (row : ∀ (H : Heap) (locs : List Loc) (ls : Array Slot) (rest : List Value) (x y : Int32), len = 1 → ¬ y = 0 → W p l e R s mid args below meth c H locs n (6 * n) Q (F0 mid (pc + 1) ls (.int (f x y) :: rest)) → W p l e R s mid args below meth c H locs n (6 * n) Q (F0 mid pc ls (.int y :: .int x :: rest))) (h : am_div f len pc L S M n = some σ) (kk : am_nx Ω m p l e R s mid args below meth c Q σ) : am_nx Ω m p l e R s mid args below meth c Q (pc, L, S, M, n) := by
  obtain ⟨x, y, S', rfl, hl1, hy, hr⟩ := am_div_inv h
  cases hr
  intro H locs ls hl hP hS hs
  exact row H locs ls _ x y hl1 hy (kk H locs ls hl hP hS hs)
theorem am_s_un (hC : am_Cx Ω d m p e R s mid args meth c) {f : Int32 → am_V} (row : ∀ (H : Heap) (locs : List Loc) (ls : Array Slot) (rest : List Value) (x : Int32), len = 1 → W p l e R s mid args below meth c H locs n (6 * n) Q (F0 mid (pc + 1) ls (am_c (am_ad Ω) (f x) :: rest)) → W p l e R s mid args below meth c H locs n (6 * n) Q (F0 mid pc ls (.int x :: rest))) (h : am_un f len pc L S M n = some σ) (kk : am_nx Ω m p l e R s mid args below meth c Q σ) : am_nx Ω m p l e R s mid args below meth c Q (pc, L, S, M, n) := by
  obtain ⟨x, S', rfl, hl1, hr⟩ := am_un_inv h
  cases hr
  intro H locs ls hl hP hS hs
  exact row H locs ls _ x hl1 (kk H locs ls hl hP hS hs)
theorem am_s_lc (hC : am_Cx Ω d m p e R s mid args meth c) (hd : decode (am_b m) pc = .ok (.lcmp, len)) (h : am_lc len pc L S M n = some σ) (kk : am_nx Ω m p l e R s mid args below meth c Q σ) : am_nx Ω m p l e R s mid args below meth c Q (pc, L, S, M, n) := by
  obtain ⟨x, y, S', rfl, rfl, hr⟩ := am_lc_inv h
  cases hr
  intro H locs ls hl hP hS hs
  exact W.lcmp hC.1.1 hC.1.2.1 hd (kk H locs ls hl hP hS hs)
theorem am_s_dup (hC : am_Cx Ω d m p e R s mid args meth c) (hd : decode (am_b m) pc = .ok (.dup, len)) (h : am_dup len pc L S M n = some σ) (kk : am_nx Ω m p l e R s mid args below meth c Q σ) : am_nx Ω m p l e R s mid args below meth c Q (pc, L, S, M, n) := by
  obtain ⟨v, S', rfl, rfl, hv, hr⟩ := am_dup_inv h
  cases hr
  intro H locs ls hl hP hS hs
  exact lv_dup hC.1.1 hC.1.2.1 hd (am_c_cat hv) (kk H locs ls hl hP hS hs)
theorem am_s_pop (hC : am_Cx Ω d m p e R s mid args meth c) (hd : decode (am_b m) pc = .ok (.pop, len)) (h : am_pop len pc L S M n = some σ) (kk : am_nx Ω m p l e R s mid args below meth c Q σ) : am_nx Ω m p l e R s mid args below meth c Q (pc, L, S, M, n) := by
  obtain ⟨v, S', rfl, rfl, hv, hr⟩ := am_pop_inv h
  cases hr
  intro H locs ls hl hP hS hs
  exact lv_pop hC.1.1 hC.1.2.1 hd (am_c_cat hv) (kk H locs ls hl hP hS hs)
theorem am_s_dx1 (hC : am_Cx Ω d m p e R s mid args meth c) (hd : decode (am_b m) pc = .ok (.dup_x1, len)) (h : am_dx1 len pc L S M n = some σ) (kk : am_nx Ω m p l e R s mid args below meth c Q σ) : am_nx Ω m p l e R s mid args below meth c Q (pc, L, S, M, n) := by
  obtain ⟨v, w, S', rfl, rfl, hv, hw, hr⟩ := am_dx1_inv h
  cases hr
  intro H locs ls hl hP hS hs
  exact lv_dup_x1 hC.1.1 hC.1.2.1 hd (am_c_cat hv) (am_c_cat hw) (kk H locs ls hl hP hS hs)
theorem am_s_dx2 (hC : am_Cx Ω d m p e R s mid args meth c) (hd : decode (am_b m) pc = .ok (.dup_x2, len)) (h : am_dx2 len pc L S M n = some σ) (kk : am_nx Ω m p l e R s mid args below meth c Q σ) : am_nx Ω m p l e R s mid args below meth c Q (pc, L, S, M, n) := by
  obtain ⟨v, w, u, S', rfl, rfl, hv, hw, hu, hr⟩ := am_dx2_inv h
  cases hr
  intro H locs ls hl hP hS hs
  exact lv_dup_x2 hC.1.1 hC.1.2.1 hd (am_c_cat hv) (am_c_cat hw) (am_c_cat hu) (kk H locs ls hl hP hS hs)
theorem am_s_d2 (hC : am_Cx Ω d m p e R s mid args meth c) (hd : decode (am_b m) pc = .ok (.dup2, len)) (h : am_d2 len pc L S M n = some σ) (kk : am_nx Ω m p l e R s mid args below meth c Q σ) : am_nx Ω m p l e R s mid args below meth c Q (pc, L, S, M, n) := by
  obtain ⟨v, w, S', rfl, rfl, hv, hw, hr⟩ := am_d2_inv h
  cases hr
  intro H locs ls hl hP hS hs
  exact lv_dup2_11 hC.1.1 hC.1.2.1 hd (am_c_cat hv) (am_c_cat hw) (kk H locs ls hl hP hS hs)
theorem am_s_goto (hC : am_Cx Ω d m p e R s mid args meth c) {off : Int} (hd : decode (am_b m) pc = .ok (.goto off, len)) (h : (if len = 3 then am_jmp off pc L S M n else none) = some σ) (kk : am_nx Ω m p l e R s mid args below meth c Q σ) : am_nx Ω m p l e R s mid args below meth c Q (pc, L, S, M, n) := by
  split at h
  · rename_i hl3
    subst hl3
    obtain ⟨tgt, ht, hr⟩ := am_jmp_inv h
    cases hr
    intro H locs ls hl hP hS hs
    exact lv_goto hC.1.1 hC.1.2.1 hd ht (kk H locs ls hl hP hS hs)
  · cases h
theorem am_s_br {b : Bool} {off : Int} {S' : List am_V} (row : ∀ (H : Heap) (locs : List Loc) (ls : Array Slot) (tgt : Nat), len = 3 → (pc : Int) + off = (tgt : Int) → (b = true → W p l e R s mid args below meth c H locs n (6 * n) Q (F0 mid tgt ls (S'.map (am_c (am_ad Ω))))) → (b = false → W p l e R s mid args below meth c H locs n (6 * n) Q (F0 mid (pc + 3) ls (S'.map (am_c (am_ad Ω))))) → W p l e R s mid args below meth c H locs n (6 * n) Q (F0 mid pc ls (S.map (am_c (am_ad Ω))))) (h : am_br b off len pc L S' M n = some σ) (kk : am_nx Ω m p l e R s mid args below meth c Q σ) : am_nx Ω m p l e R s mid args below meth c Q (pc, L, S, M, n) := by
  obtain ⟨tgt, hl3, ht, hr⟩ := am_br_inv h
  intro H locs ls hl hP hS hs
  refine row H locs ls tgt hl3 ht (fun hb => ?_) (fun hb => ?_)
  · rcases hr with ⟨-, hr⟩ | ⟨hb', -⟩
    · cases hr
      exact kk H locs ls hl hP hS hs
    · rw [hb] at hb'; cases hb'
  · rcases hr with ⟨hb', -⟩ | ⟨-, hr⟩
    · rw [hb] at hb'; cases hb'
    · cases hr
      exact kk H locs ls hl hP hS hs
theorem am_s_if1 (hC : am_Cx Ω d m p e R s mid args meth c) {cn : Jvm.ClassFile.Cond} {off : Int} (hd : decode (am_b m) pc = .ok (.ifCond cn off, len)) (h : am_if1 cn off len pc L S M n = some σ) (kk : am_nx Ω m p l e R s mid args below meth c Q σ) : am_nx Ω m p l e R s mid args below meth c Q (pc, L, S, M, n) := by
  obtain ⟨x, S', rfl, hb⟩ := am_if1_inv h
  refine am_s_br (fun H locs ls tgt hl3 ht kt kf => ?_) hb kk
  subst hl3
  cases cn with
  | eq => exact lv_if_eq hC.1.1 hC.1.2.1 hd ht (fun q => kt (by simp [am_cnd, q])) (fun q => kf (by simp [am_cnd, q]))
  | ne => exact lv_if_ne hC.1.1 hC.1.2.1 hd ht (fun q => kt (by simp [am_cnd, q])) (fun q => kf (by simp [am_cnd, q]))
  | lt => exact lv_if_lt hC.1.1 hC.1.2.1 hd ht (fun q => kt (decide_eq_true q)) (fun q => kf (decide_eq_false q))
  | ge => exact lv_if_ge hC.1.1 hC.1.2.1 hd ht (fun q => kt (decide_eq_true q)) (fun q => kf (decide_eq_false q))
  | gt => exact lv_if_gt hC.1.1 hC.1.2.1 hd ht (fun q => kt (decide_eq_true q)) (fun q => kf (decide_eq_false q))
  | le => exact lv_if_le hC.1.1 hC.1.2.1 hd ht (fun q => kt (decide_eq_true q)) (fun q => kf (decide_eq_false q))
theorem am_s_if2 (hC : am_Cx Ω d m p e R s mid args meth c) {cn : Jvm.ClassFile.Cond} {off : Int} (hd : decode (am_b m) pc = .ok (.if_icmp cn off, len)) (h : am_if2 cn off len pc L S M n = some σ) (kk : am_nx Ω m p l e R s mid args below meth c Q σ) : am_nx Ω m p l e R s mid args below meth c Q (pc, L, S, M, n) := by
  obtain ⟨x, y, S', rfl, hb⟩ := am_if2_inv h
  refine am_s_br (fun H locs ls tgt hl3 ht kt kf => ?_) hb kk
  subst hl3
  cases cn with
  | eq => exact lv_icmp_eq hC.1.1 hC.1.2.1 hd ht (fun q => kt (by simp [am_cnd, q])) (fun q => kf (by simp [am_cnd, q]))
  | ne => exact lv_icmp_ne hC.1.1 hC.1.2.1 hd ht (fun q => kt (by simp [am_cnd, q])) (fun q => kf (by simp [am_cnd, q]))
  | lt => exact lv_icmp_lt hC.1.1 hC.1.2.1 hd ht (fun q => kt (decide_eq_true q)) (fun q => kf (decide_eq_false q))
  | ge => exact lv_icmp_ge hC.1.1 hC.1.2.1 hd ht (fun q => kt (decide_eq_true q)) (fun q => kf (decide_eq_false q))
  | gt => exact lv_icmp_gt hC.1.1 hC.1.2.1 hd ht (fun q => kt (decide_eq_true q)) (fun q => kf (decide_eq_false q))
  | le => exact lv_icmp_le hC.1.1 hC.1.2.1 hd ht (fun q => kt (decide_eq_true q)) (fun q => kf (decide_eq_false q))
theorem am_has_inj {x y : Option am_K} (hin : am_in Ω) (hx : am_has (am_sh Ω) x = true) (hy : am_has (am_sh Ω) y = true) (h : x.map (am_ad Ω) = y.map (am_ad Ω)) : x = y := by
  cases x with
  | none => cases y with
    | none => rfl
    | some b => cases h
  | some a => cases y with
    | none => cases h
    | some b =>
      have ha : (am_ct (am_sh Ω) a).isSome = true := hx
      have hb : (am_ct (am_sh Ω) b).isSome = true := hy
      obtain ⟨c1, h1⟩ := Option.isSome_iff_exists.mp ha
      obtain ⟨c2, h2⟩ := Option.isSome_iff_exists.mp hb
      rw [hin.2.2.2 a b c1 c2 h1 h2 (Option.some.inj h)]
theorem am_s_ifa (hC : am_Cx Ω d m p e R s mid args meth c) {cn : Jvm.ClassFile.ACond} {off : Int} (hd : decode (am_b m) pc = .ok (.if_acmp cn off, len)) (h : am_ifa (am_sh Ω) cn off len pc L S M n = some σ) (kk : am_nx Ω m p l e R s mid args below meth c Q σ) : am_nx Ω m p l e R s mid args below meth c Q (pc, L, S, M, n) := by
  obtain ⟨x, y, S', rfl, hx, hy, hb⟩ := am_ifa_inv h
  have hin : am_in Ω := hC.2.2.2.2.2.1
  refine am_s_br (fun H locs ls tgt hl3 ht kt kf => ?_) hb kk
  subst hl3
  cases cn with
  | eq => exact lv_acmp_eq (rx := x.map (am_ad Ω)) (ry := y.map (am_ad Ω)) hC.1.1 hC.1.2.1 hd ht (fun q => kt (decide_eq_true (am_has_inj hin hx hy q))) (fun q => kf (decide_eq_false (fun z => q (by rw [z]))))
  | ne => exact lv_acmp_ne (rx := x.map (am_ad Ω)) (ry := y.map (am_ad Ω)) hC.1.1 hC.1.2.1 hd ht (fun q => kt (decide_eq_true (fun z => q (by rw [z])))) (fun q => kf (decide_eq_false (fun z => z (am_has_inj hin hx hy q))))
theorem am_s_ifnull (hC : am_Cx Ω d m p e R s mid args meth c) {off : Int} (hd : decode (am_b m) pc = .ok (.ifnull off, len)) (h : am_ifn true off len pc L S M n = some σ) (kk : am_nx Ω m p l e R s mid args below meth c Q σ) : am_nx Ω m p l e R s mid args below meth c Q (pc, L, S, M, n) := by
  obtain ⟨o, S', rfl, hb⟩ := am_ifn_inv h
  refine am_s_br (fun H locs ls tgt hl3 ht kt kf => ?_) hb kk
  subst hl3
  cases o with
  | none => exact lv_ifnullN hC.1.1 hC.1.2.1 hd ht (kt rfl)
  | some k => exact lv_ifnull hC.1.1 hC.1.2.1 hd (kf rfl)
theorem am_s_ifnonnull (hC : am_Cx Ω d m p e R s mid args meth c) {off : Int} (hd : decode (am_b m) pc = .ok (.ifnonnull off, len)) (h : am_ifn false off len pc L S M n = some σ) (kk : am_nx Ω m p l e R s mid args below meth c Q σ) : am_nx Ω m p l e R s mid args below meth c Q (pc, L, S, M, n) := by
  obtain ⟨o, S', rfl, hb⟩ := am_ifn_inv h
  refine am_s_br (fun H locs ls tgt hl3 ht kt kf => ?_) hb kk
  subst hl3
  cases o with
  | none => exact lv_ifnonnullN hC.1.1 hC.1.2.1 hd (kf rfl)
  | some k => exact lv_ifnonnull hC.1.1 hC.1.2.1 hd ht (kt rfl)
theorem am_s_tsw (hC : am_Cx Ω d m p e R s mid args meth c) {df lo hi : Int} {offs : Array Int} (hd : decode (am_b m) pc = .ok (.tableswitch df lo hi offs, len)) (h : am_tsw df lo hi offs pc L S M n = some σ) (kk : am_nx Ω m p l e R s mid args below meth c Q σ) : am_nx Ω m p l e R s mid args below meth c Q (pc, L, S, M, n) := by
  obtain ⟨x, S', rfl, ⟨hx, hj⟩ | ⟨hx, off, ho, hj⟩⟩ := am_tsw_inv h
  · obtain ⟨tgt, ht, hr⟩ := am_jmp_inv hj
    cases hr
    intro H locs ls hl hP hS hs
    exact lv_tableOut hC.1.1 hC.1.2.1 hd hx ht (kk H locs ls hl hP hS hs)
  · obtain ⟨tgt, ht, hr⟩ := am_jmp_inv hj
    cases hr
    intro H locs ls hl hP hS hs
    exact lv_tableIn hC.1.1 hC.1.2.1 hd (fun q => hx (Or.inl q)) (fun q => hx (Or.inr q)) ho ht (kk H locs ls hl hP hS hs)
theorem am_s_gf (hC : am_Cx Ω d m p e R s mid args meth c) {idx : Nat} (hd : decode (am_b m) pc = .ok (.getfield idx, len)) (h : am_gf (am_sh Ω) m idx len pc L S M n = some σ) (kk : am_nx Ω m p l e R s mid args below meth c Q σ) : am_nx Ω m p l e R s mid args below meth c Q (pc, L, S, M, n) := by
  obtain ⟨k, S', ci, j, rfl, hf, rfl, hct, hr⟩ := am_gf_inv h
  cases hr
  obtain ⟨⟨hx, hb, hml, hown, hts⟩, hK, -, -, -, hin, -⟩ := hC
  obtain ⟨C, T, N, ty0, hcl, hN, hj, hw, hlk, -⟩ := am_fact_f hf
  intro H locs ls hl hP hS hs
  obtain ⟨q0, hq, hw0⟩ := am_w_get M (hin.1 k _ hct (fun N h => by cases h))
  rw [am_e_obj hct] at hw0
  exact va_get (D := am_D Ω) (ci := ci) (C := C) (T := T) (N := N) hx hb hts hw hown hK hP q0 hw0 hcl j hj (hts _ hlk) (fun _ h => h) (am_fs_get (by rw [← hN]; exact hj)) hd (kk H locs ls hl hP hS hs)
theorem am_s_pf (hC : am_Cx Ω d m p e R s mid args meth c) {idx : Nat} (hd : decode (am_b m) pc = .ok (.putfield idx, len)) (h : am_pf (am_sh Ω) m idx len pc L S M n = some σ) (kk : am_nx Ω m p l e R s mid args below meth c Q σ) : am_nx Ω m p l e R s mid args below meth c Q (pc, L, S, M, n) := by
  obtain ⟨v, k, S', ci, j, rfl, hf, rfl, hct, hwr, hv, hr⟩ := am_pf_inv h
  cases hr
  obtain ⟨⟨hx, hb, hml, hown, hts⟩, hK, -, -, -, hin, -⟩ := hC
  obtain ⟨C, T, N, ty0, hcl, hN, hj, hw, hlk, hty, hnm, hfin, h0, h1⟩ := am_fact_f hf
  intro H locs ls hl hP hS hs
  have hkd := hin.1 k _ hct (fun N h => by cases h)
  obtain ⟨q0, hq, hw0⟩ := am_w_get M hkd
  rw [am_e_obj hct] at hw0
  have hf2 : am_fk ci j ≠ 2 := by rcases hv with h | ⟨h, -⟩ <;> omega
  have hnf : narrow (ty0 j) (.int v) = .int v ∧ fits (ty0 j) (.int v) = true := by
    rcases hv with hq | ⟨hq, rfl | rfl⟩
    · rw [h0 hq]; exact ⟨rfl, rfl⟩
    · rw [h1 hq]; exact ⟨rfl, rfl⟩
    · rw [h1 hq]; exact ⟨rfl, rfl⟩
  refine va_put (D := am_D Ω) (ci := ci) (v := .int v) (ty := ty0 j) (C := C) (T := T) (N := N) hx hb hts hw ty0 hty hnm hown hK hP (am_w_D M _ hin) hS q0 hw0 hcl j hj (hts _ hlk) (fun _ h => h) (hfin hwr) (hty j hj) hnf.1 hnf.2 (by simp [am_fs, ← hN, hj]) hd (fun H1 locs1 hP1 _ hS1 => ?_)
  rw [am_w_set (M' := am_up M k j v) hin hq (by rw [am_e_obj hct, am_fs_set (by rw [← hN]; exact hj) hf2]) (fun k' hk' => am_e_ne (am_up_ne M j v hk'))] at hP1
  exact kk H1 locs1 ls hl hP1 hS1 (am_sc_up hs hct (fun N h => by cases h) j v)
theorem am_ix_in {i : Int32} {N : Nat} (h : am_ix i N = true) : vp_in i N :=
  (of_decide_eq_true h : ¬ (i < 0 ∨ N ≤ i.toNatClampNeg))
theorem am_s_ald (hC : am_Cx Ω d m p e R s mid args meth c) (hd : decode (am_b m) pc = .ok (.iaload, len)) (h : am_ald (am_sh Ω) 0 len pc L S M n = some σ) (kk : am_nx Ω m p l e R s mid args below meth c Q σ) : am_nx Ω m p l e R s mid args below meth c Q (pc, L, S, M, n) := by
  obtain ⟨i, k, S', u, N, rfl, hct, rfl, hix, hu, hr⟩ := am_ald_inv h
  cases hr
  obtain ⟨⟨hx, hb, hml, hown, hts⟩, hK, -, -, -, hin, -⟩ := hC
  intro H locs ls hl hP hS hs
  rcases hu with rfl | ⟨rfl, -⟩
  · obtain ⟨q0, hq, hw0⟩ := am_w_get M (hin.1 k _ hct (fun N h => by cases h))
    rw [am_e_arr hct] at hw0
    exact va_iald hx hb hK hP q0 0 hw0 rfl (am_ix_in hix) hd (kk H locs ls hl hP hS hs)
  · obtain ⟨h1, h2, h3⟩ := hs k N hct
    exact va_sld hx hb h1 h2 h3 hS (am_ix_in hix) hd (kk H locs ls hl hP hS hs)
theorem am_s_zld (hC : am_Cx Ω d m p e R s mid args meth c) (hd : decode (am_b m) pc = .ok (.baload, len)) (h : am_ald (am_sh Ω) 1 len pc L S M n = some σ) (kk : am_nx Ω m p l e R s mid args below meth c Q σ) : am_nx Ω m p l e R s mid args below meth c Q (pc, L, S, M, n) := by
  obtain ⟨i, k, S', u, N, rfl, hct, rfl, hix, hu, hr⟩ := am_ald_inv h
  cases hr
  obtain ⟨⟨hx, hb, hml, hown, hts⟩, hK, -, -, -, hin, -⟩ := hC
  intro H locs ls hl hP hS hs
  rcases hu with rfl | ⟨-, h0⟩
  · obtain ⟨q0, hq, hw0⟩ := am_w_get M (hin.1 k _ hct (fun N h => by cases h))
    rw [am_e_arr hct] at hw0
    exact va_zald hx hb hK hP q0 1 hw0 rfl (am_ix_in hix) hd (kk H locs ls hl hP hS hs)
  · cases h0
theorem am_s_lld (hC : am_Cx Ω d m p e R s mid args meth c) (hd : decode (am_b m) pc = .ok (.laload, len)) (h : am_lld (am_sh Ω) len pc L S M n = some σ) (kk : am_nx Ω m p l e R s mid args below meth c Q σ) : am_nx Ω m p l e R s mid args below meth c Q (pc, L, S, M, n) := by
  obtain ⟨i, k, S', N, rfl, hct, rfl, hix, hr⟩ := am_lld_inv h
  cases hr
  obtain ⟨⟨hx, hb, hml, hown, hts⟩, hK, -, -, -, hin, -⟩ := hC
  intro H locs ls hl hP hS hs
  obtain ⟨q0, hq, hw0⟩ := am_w_get M (hin.1 k _ hct (fun N h => by cases h))
  rw [am_e_arr hct] at hw0
  exact va_lald hx hb hK hP q0 3 hw0 rfl (am_ix_in hix) hd (kk H locs ls hl hP hS hs)
theorem am_s_rld (hC : am_Cx Ω d m p e R s mid args meth c) (hd : decode (am_b m) pc = .ok (.aaload, len)) (h : am_rld (am_sh Ω) len pc L S M n = some σ) (kk : am_nx Ω m p l e R s mid args below meth c Q σ) : am_nx Ω m p l e R s mid args below meth c Q (pc, L, S, M, n) := by
  obtain ⟨i, k, S', u, N, rfl, hct, rfl, hix, hu, hr⟩ := am_rld_inv h
  cases hr
  obtain ⟨⟨hx, hb, hml, hown, hts⟩, hK, -, -, -, hin, -⟩ := hC
  intro H locs ls hl hP hS hs
  rcases hu with rfl | rfl
  · obtain ⟨q0, hq, hw0⟩ := am_w_get M (hin.1 k _ hct (fun N h => by cases h))
    rw [am_e_arr hct] at hw0
    exact va_aldq hx hb hK hP q0 2 hw0 rfl (am_ix_in hix) hd (kk H locs ls hl hP hS hs)
  · obtain ⟨q0, hq, hw0⟩ := am_w_get M (hin.1 k _ hct (fun N h => by cases h))
    rw [am_e_arr hct] at hw0
    exact va_aldq hx hb hK hP q0 4 hw0 rfl (am_ix_in hix) hd (kk H locs ls hl hP hS hs)
theorem am_s_ist (hC : am_Cx Ω d m p e R s mid args meth c) (hd : decode (am_b m) pc = .ok (.iastore, len)) (h : am_ist (am_sh Ω) len pc L S M n = some σ) (kk : am_nx Ω m p l e R s mid args below meth c Q σ) : am_nx Ω m p l e R s mid args below meth c Q (pc, L, S, M, n) := by
  obtain ⟨x, i, k, S', N, rfl, hct, rfl, hix, hr⟩ := am_ist_inv h
  cases hr
  obtain ⟨⟨hx, hb, hml, hown, hts⟩, hK, -, -, -, hin, -⟩ := hC
  intro H locs ls hl hP hS hs
  obtain ⟨q0, hq, hw0⟩ := am_w_get M (hin.1 k _ hct (fun N h => by cases h))
  rw [am_e_arr hct] at hw0
  refine va_iast hx hb hK hP (am_w_D M _ hin) hS q0 0 hw0 rfl (am_ix_in hix) hd (fun H1 locs1 hP1 _ hS1 => ?_)
  rw [am_w_set (M' := am_up M k i.toNatClampNeg x) hin hq (by rw [am_e_arr hct]; simp only [am_av, am_up_self]) (fun k' hk' => am_e_ne (am_up_ne M _ x hk'))] at hP1
  exact kk H1 locs1 ls hl hP1 hS1 (am_sc_up hs hct (fun N h => by cases h) _ x)
theorem am_s_zst (hC : am_Cx Ω d m p e R s mid args meth c) (hd : decode (am_b m) pc = .ok (.bastore, len)) (h : am_zst (am_sh Ω) len pc L S M n = some σ) (kk : am_nx Ω m p l e R s mid args below meth c Q σ) : am_nx Ω m p l e R s mid args below meth c Q (pc, L, S, M, n) := by
  obtain ⟨x, i, k, S', N, rfl, hct, rfl, hix, h01, hr⟩ := am_zst_inv h
  cases hr
  obtain ⟨⟨hx, hb, hml, hown, hts⟩, hK, -, -, -, hin, -⟩ := hC
  intro H locs ls hl hP hS hs
  obtain ⟨q0, hq, hw0⟩ := am_w_get M (hin.1 k _ hct (fun N h => by cases h))
  rw [am_e_arr hct] at hw0
  have hnar : vp_nar .boolean x = x := by rcases h01 with rfl | rfl <;> rfl
  refine va_zast hx hb hK hP (am_w_D M _ hin) hS q0 1 hw0 rfl (am_ix_in hix) hd (fun H1 locs1 hP1 _ hS1 => ?_)
  rw [hnar, am_w_set (M' := am_up M k i.toNatClampNeg x) hin hq (by rw [am_e_arr hct]; simp only [am_av, am_up_self]) (fun k' hk' => am_e_ne (am_up_ne M _ x hk'))] at hP1
  exact kk H1 locs1 ls hl hP1 hS1 (am_sc_up hs hct (fun N h => by cases h) _ x)
theorem am_s_lst (hC : am_Cx Ω d m p e R s mid args meth c) (hd : decode (am_b m) pc = .ok (.lastore, len)) (h : am_lst (am_sh Ω) len pc L S M n = some σ) (kk : am_nx Ω m p l e R s mid args below meth c Q σ) : am_nx Ω m p l e R s mid args below meth c Q (pc, L, S, M, n) := by
  obtain ⟨x, i, k, S', N, rfl, hct, rfl, hix, hr⟩ := am_lst_inv h
  cases hr
  obtain ⟨⟨hx, hb, hml, hown, hts⟩, hK, -, -, -, hin, -⟩ := hC
  intro H locs ls hl hP hS hs
  obtain ⟨q0, hq, hw0⟩ := am_w_get M (hin.1 k _ hct (fun N h => by cases h))
  rw [am_e_arr hct] at hw0
  have he : (fun j => ((am_up M k i.toNatClampNeg x) k j).toInt64) = vp_updL (fun j => (M k j).toInt64) i.toNatClampNeg x.toInt64 := by
    funext j
    rw [am_up_self]
    by_cases hj : j = i.toNatClampNeg <;> simp [upd, vp_updL, hj]
  refine va_last hx hb hK hP (am_w_D M _ hin) hS q0 3 hw0 rfl (am_ix_in hix) hd (fun H1 locs1 hP1 _ hS1 => ?_)
  rw [am_w_set (M' := am_up M k i.toNatClampNeg x) hin hq (by rw [am_e_arr hct]; simp only [am_av, he]) (fun k' hk' => am_e_ne (am_up_ne M _ x hk'))] at hP1
  exact kk H1 locs1 ls hl hP1 hS1 (am_sc_up hs hct (fun N h => by cases h) _ x)
theorem am_s_len (hC : am_Cx Ω d m p e R s mid args meth c) (hd : decode (am_b m) pc = .ok (.arraylength, len)) (h : am_len (am_sh Ω) len pc L S M n = some σ) (kk : am_nx Ω m p l e R s mid args below meth c Q σ) : am_nx Ω m p l e R s mid args below meth c Q (pc, L, S, M, n) := by
  obtain ⟨k, S', u, N, rfl, hct, rfl, hr⟩ := am_len_inv h
  cases hr
  obtain ⟨⟨hx, hb, hml, hown, hts⟩, hK, -, -, -, hin, -⟩ := hC
  intro H locs ls hl hP hS hs
  by_cases h5 : u = 5
  · subst h5
    obtain ⟨h1, h2, h3⟩ := hs k N hct
    exact va_slen hx hb h1 h2 h3 hS hd (kk H locs ls hl hP hS hs)
  · obtain ⟨q0, hq, hw0⟩ := am_w_get M (hin.1 k _ hct (fun N h => by cases h; exact h5 rfl))
    rw [am_e_arr hct] at hw0
    have hu := am_fact_u hct
    rcases (show u = 0 ∨ u = 1 ∨ u = 2 ∨ u = 3 ∨ u = 4 by omega) with rfl | rfl | rfl | rfl | rfl
    · exact va_alen hx hb hK hP q0 0 hw0 (ty := .int) rfl rfl hd (kk H locs ls hl hP hS hs)
    · exact va_alen hx hb hK hP q0 1 hw0 (ty := .boolean) rfl rfl hd (kk H locs ls hl hP hS hs)
    · exact va_alen hx hb hK hP q0 2 hw0 (ty := .object am_nT) rfl rfl hd (kk H locs ls hl hP hS hs)
    · exact va_alen hx hb hK hP q0 3 hw0 (ty := .long) rfl rfl hd (kk H locs ls hl hP hS hs)
    · exact va_alen hx hb hK hP q0 4 hw0 (ty := .object am_nL) rfl rfl hd (kk H locs ls hl hP hS hs)
theorem am_cats {ad : am_K → Nat} (S : List am_V) : ((S.map (am_c ad)).map fun v => v.category).sum ≤ 2 * S.length := by
  induction S with
  | nil => simp
  | cons v S ih =>
    have hv : (am_c ad v).category ≤ 2 := by
      rcases lv_cat (am_c ad v) with h | h <;> omega
    simp only [List.map_cons, List.sum_cons, List.length_cons]
    omega
theorem am_s_cpy (hC : am_Cx Ω d m p e R s mid args meth c) {idx : Nat} (hd : decode (am_b m) pc = .ok (.invokestatic idx, len)) (hac : am_ac m idx = true) (h : am_cpy (am_sh Ω) len pc L S M n = some σ) (kk : am_nx Ω m p l e R s mid args below meth c Q σ) : am_nx Ω m p l e R s mid args below meth c Q (pc, L, S, M, n) := by
  obtain ⟨cn, dp, k1, sp, k0, S', N0, N1, rfl, hc0, hc1, rfl, h4, h5, h6, h7, h8, h9, hr⟩ := am_cpy_inv h
  cases hr
  obtain ⟨⟨hx, hb, hml, hown, hts⟩, hK, -, -, -, hin, ⟨hR1, hR2, -⟩, -⟩ := hC
  obtain ⟨w1, w2, w3, w4⟩ := am_fact_ac hac
  intro H locs ls hl hP hS hs
  obtain ⟨q0, hq0, hw0⟩ := am_w_get M (hin.1 k0 _ hc0 (fun N h => by cases h))
  obtain ⟨q1, hq1, hw1⟩ := am_w_get M (hin.1 k1 _ hc1 (fun N h => by cases h))
  rw [am_e_arr hc0] at hw0
  rw [am_e_arr hc1] at hw1
  have hcat := am_cats (ad := am_ad Ω) S'
  have hnw : nativeFrameWords "java/lang/System" "arraycopy" 5 ≤ 200 := by decide +kernel
  refine va_copyi (ty := .int) hx hb (by rw [hml]; exact hl.1.symm) hown (hts _ w1) (hts _ w2) (hts _ w3) (hts _ w4) hK hP (am_w_D M _ hin) hS q0 q1 0 0 hw0 hw1 rfl rfl rfl h5 h6 h7 h8 h9 (fun _ _ => rfl) (by omega) (by omega) hd (fun H1 locs1 hP1 _ hS1 => ?_)
  rw [am_w_set (M' := am_cp M k0 k1 sp.toNatClampNeg dp.toNatClampNeg cn.toNatClampNeg) hin hq1 (by rw [am_e_arr hc1]; simp only [am_av, am_cp_self]) (fun k' hk' => am_e_ne (am_cp_ne M _ _ _ hk'))] at hP1
  exact kk H1 locs1 ls hl hP1 hS1 (am_sc_cp hs hc1 _ _ _)
theorem am_step1 (hC : am_Cx Ω d m p e R s mid args meth c) {i : Instr} (hd : decode (am_b m) pc = .ok (i, len)) (h : am_co (am_sh Ω) m i len pc L S M n = some σ) (kk : am_nx Ω m p l e R s mid args below meth c Q σ) : am_nx Ω m p l e R s mid args below meth c Q (pc, L, S, M, n) := by
  cases i with
  | iconst k => exact am_s_ps hC (fun H locs ls rest w => by obtain ⟨rfl, -⟩ := am_ps_inv h; exact lv_iconst hC.1.1 hC.1.2.1 hd rfl w) h kk
  | bipush k => exact am_s_ps hC (fun H locs ls rest w => by obtain ⟨rfl, -⟩ := am_ps_inv h; exact lv_bipush hC.1.1 hC.1.2.1 hd rfl w) h kk
  | sipush k => exact am_s_ps hC (fun H locs ls rest w => by obtain ⟨rfl, -⟩ := am_ps_inv h; exact lv_sipush hC.1.1 hC.1.2.1 hd rfl w) h kk
  | ldc idx =>
    have h' : (match am_kc m idx with
      | some v => am_ps 2 len (am_I v) pc L S M n
      | none => none) = some σ := h
    split at h'
    · rename_i v hv
      exact am_s_ps hC (fun H locs ls rest w => by obtain ⟨rfl, -⟩ := am_ps_inv h'; exact lv_ldc hC.1.1 hC.1.2.1 hC.1.2.2.2.1 (hC.1.2.2.2.2 _ (am_fact_k hv)) hd w) h' kk
    · cases h'
  | aconst_null => exact am_s_ps hC (fun H locs ls rest w => by obtain ⟨rfl, -⟩ := am_ps_inv h; exact lv_null hC.1.1 hC.1.2.1 hd w) h kk
  | iload_n k => exact am_s_ldi hC (fun H locs ls rest x hx w => by obtain ⟨_, rfl, -⟩ := am_ldi_inv h; exact lv_iload_n hC.1.1 hC.1.2.1 hd rfl hx w) h kk
  | iload k => exact am_s_ldi hC (fun H locs ls rest x hx w => by obtain ⟨_, rfl, -⟩ := am_ldi_inv h; exact lv_iload hC.1.1 hC.1.2.1 hd hx w) h kk
  | aload_n k => exact am_s_lda hC (fun H locs ls rest x hx w => by obtain ⟨_, rfl, -⟩ := am_lda_inv h; exact lv_aload_n hC.1.1 hC.1.2.1 hd rfl hx w) (fun H locs ls rest hx w => by obtain ⟨_, rfl, -⟩ := am_lda_inv h; exact lv_aload_nN hC.1.1 hC.1.2.1 hd rfl hx w) h kk
  | aload k => exact am_s_lda hC (fun H locs ls rest x hx w => by obtain ⟨_, rfl, -⟩ := am_lda_inv h; exact lv_aload hC.1.1 hC.1.2.1 hd hx w) (fun H locs ls rest hx w => by obtain ⟨_, rfl, -⟩ := am_lda_inv h; exact lv_aloadN hC.1.1 hC.1.2.1 hd hx w) h kk
  | istore_n k => exact am_s_sti hC (fun H locs ls rest x lv hv hk w => by obtain ⟨_, _, -, rfl, -⟩ := am_sti_inv h; exact lv_istore_n hC.1.1 hC.1.2.1 hd rfl hv hk rfl w) h kk
  | istore k => exact am_s_sti hC (fun H locs ls rest x lv hv hk w => by obtain ⟨_, _, -, rfl, -⟩ := am_sti_inv h; exact lv_istore hC.1.1 hC.1.2.1 hd hv hk rfl w) h kk
  | astore_n k => exact am_s_sta hC (fun H locs ls rest x lv hv hk w => by obtain ⟨_, _, -, rfl, -⟩ := am_sta_inv h; exact lv_astore_n hC.1.1 hC.1.2.1 hd rfl hv hk rfl w) (fun H locs ls rest lv hv hk w => by obtain ⟨_, _, -, rfl, -⟩ := am_sta_inv h; exact lv_astore_nN hC.1.1 hC.1.2.1 hd rfl hv hk rfl w) h kk
  | astore k => exact am_s_sta hC (fun H locs ls rest x lv hv hk w => by obtain ⟨_, _, -, rfl, -⟩ := am_sta_inv h; exact lv_astore hC.1.1 hC.1.2.1 hd hv hk rfl w) (fun H locs ls rest lv hv hk w => by obtain ⟨_, _, -, rfl, -⟩ := am_sta_inv h; exact lv_astoreN hC.1.1 hC.1.2.1 hd hv hk rfl w) h kk
  | iinc k i => exact am_s_inc hC hd h kk
  | iadd => exact am_s_bin hC (fun H locs ls rest x y hl w => by subst hl; exact lv_iadd hC.1.1 hC.1.2.1 hd w) h kk
  | isub => exact am_s_bin hC (fun H locs ls rest x y hl w => by subst hl; exact lv_isub hC.1.1 hC.1.2.1 hd w) h kk
  | imul => exact am_s_bin hC (fun H locs ls rest x y hl w => by subst hl; exact lv_imul hC.1.1 hC.1.2.1 hd w) h kk
  | iand => exact am_s_bin hC (fun H locs ls rest x y hl w => by subst hl; exact lv_iand hC.1.1 hC.1.2.1 hd w) h kk
  | ior => exact am_s_bin hC (fun H locs ls rest x y hl w => by subst hl; exact lv_ior hC.1.1 hC.1.2.1 hd w) h kk
  | ixor => exact am_s_bin hC (fun H locs ls rest x y hl w => by subst hl; exact lv_ixor hC.1.1 hC.1.2.1 hd w) h kk
  | ishl => exact am_s_bin hC (fun H locs ls rest x y hl w => by subst hl; exact lv_ishl hC.1.1 hC.1.2.1 hd w) h kk
  | ishr => exact am_s_bin hC (fun H locs ls rest x y hl w => by subst hl; exact lv_ishr hC.1.1 hC.1.2.1 hd w) h kk
  | iushr => exact am_s_bin hC (fun H locs ls rest x y hl w => by subst hl; exact lv_iushr hC.1.1 hC.1.2.1 hd rfl w) h kk
  | idiv => exact am_s_div hC (fun H locs ls rest x y hl hy w => by subst hl; exact lv_idiv hC.1.1 hC.1.2.1 hd hy w) h kk
  | irem => exact am_s_div hC (fun H locs ls rest x y hl hy w => by subst hl; exact lv_irem hC.1.1 hC.1.2.1 hd hy w) h kk
  | ineg => exact am_s_un hC (fun H locs ls rest x hl w => by subst hl; exact lv_ineg hC.1.1 hC.1.2.1 hd w) h kk
  | i2l => exact am_s_un hC (fun H locs ls rest x hl w => by subst hl; exact lv_i2l hC.1.1 hC.1.2.1 hd rfl w) h kk
  | lcmp => exact am_s_lc hC hd h kk
  | dup => exact am_s_dup hC hd h kk
  | dup_x1 => exact am_s_dx1 hC hd h kk
  | dup_x2 => exact am_s_dx2 hC hd h kk
  | dup2 => exact am_s_d2 hC hd h kk
  | pop => exact am_s_pop hC hd h kk
  | goto off => exact am_s_goto hC hd h kk
  | ifCond cn off => exact am_s_if1 hC hd h kk
  | if_icmp cn off => exact am_s_if2 hC hd h kk
  | if_acmp cn off => exact am_s_ifa hC hd h kk
  | ifnull off => exact am_s_ifnull hC hd h kk
  | ifnonnull off => exact am_s_ifnonnull hC hd h kk
  | tableswitch df lo hi offs => exact am_s_tsw hC hd h kk
  | getfield idx => exact am_s_gf hC hd h kk
  | putfield idx => exact am_s_pf hC hd h kk
  | iaload => exact am_s_ald hC hd h kk
  | baload => exact am_s_zld hC hd h kk
  | laload => exact am_s_lld hC hd h kk
  | aaload => exact am_s_rld hC hd h kk
  | iastore => exact am_s_ist hC hd h kk
  | bastore => exact am_s_zst hC hd h kk
  | lastore => exact am_s_lst hC hd h kk
  | arraylength => exact am_s_len hC hd h kk
  | _ => exact absurd (show (none : Option am_S) = some σ from h) (by simp)
end STP
end
section
-- ends and calls
def am_Q (Ω : am_Ω) (o : am_O) (b : Nat) (s : State) (oc : Outcome) (t : State) : Prop :=
  va_P (am_D Ω) am_cl (am_w Ω o.1) t.heap ∧ s.heap.size ≤ t.heap.size ∧ (∀ q : Nat, q < s.heap.size → ¬ am_A Ω s.heap.size q → t.heap[q]? = s.heap[q]?) ∧ s.WarmedH t.vm ∧ (∃ L : List Loc, s.sameButNew ({ t with vm := s.vm } : State) L b (6 * b) ∧ ∀ q ∈ L, am_A Ω s.heap.size q.base) ∧ am_sc Ω o.1 s ∧ (match o.2 with
    | .inl v => oc = .returned (v.map (am_c (am_ad Ω)))
    | .inr x => ∃ (a : Addr) (ce : Cell), oc = .threw a ∧ s.heap.size ≤ a ∧ t.heap[a]? = some ce ∧ ce.vm.isStatics = false ∧ s.vm.findClass (am_xn x) = some ce.cls)
/-- a callee, from its entry to its end -/
def am_Sd (l : Launch) (Ω : am_Ω) (d cal : Nat) (M : am_M) (as : List am_V) (o : am_O) : Prop :=
  ∀ (p : Program) (e : Env) (R : Room) (s : State) (mid : MethodId) (args : Array Value) (below : List Frame) (meth : Method) (c : Code) (T : State), Stand p l e R s mid args below meth c T [] 0 0 → am_Cx Ω d cal p e R s mid args meth c → T.heap = s.heap → args = (as.map (am_c (am_ad Ω))).toArray → va_P (am_D Ω) am_cl (am_w Ω M) s.heap → am_sc Ω M s →
    ∃ (t : State) (oc : Outcome), Steps p.tables e below (T.setTop (entryFrame mid args (am_mL cal))) t ∧ t.status = .running ∧ Ended t below oc ∧ am_Q Ω o (am_bud cal) s oc t
theorem am_sc_in {Ω : am_Ω} {M : am_M} {s s' : State} {H : Heap} {locs : List Loc} (h : am_sc Ω M s) (hS : va_S (am_A Ω s.heap.size) s.heap H locs) (hvm : s.vm.Alike s'.vm) (hH : s'.heap = H) : am_sc Ω M s' := by
  intro k N hk
  obtain ⟨h1, h2, h3⟩ := h k N hk
  refine ⟨?_, by rw [hH]; exact Nat.lt_of_lt_of_le h2 hS.1, fun q => h3 (am_A_mono (by rw [hH]; exact hS.1) q)⟩
  rw [hH]
  exact (h1.moved hvm).kept (hS.2.1 _ h2 h3)
section RUN
variable {Ω : am_Ω} {d m : Nat} {p : Program} {l : Launch} {e : Env} {R : Room} {s : State} {mid : MethodId} {args : Array Value} {below : List Frame} {meth : Method} {c : Code} {Q : State → Prop} {pc len n : Nat} {L : am_Ls} {S : List am_V} {M : am_M} {σ : am_S}
theorem am_s_ret {v : Option am_V} (hn : n ≤ am_bud m) (hfin : ∀ (t : State) (oc : Outcome), t.status = .running → Ended t below oc → am_Q Ω (M, Sum.inl v) (am_bud m) s oc t → Q t)
    (row : ∀ (H : Heap) (locs : List Loc) (ls : Array Slot), (∀ q ∈ locs, am_A Ω s.heap.size q.base) → W p l e R s mid args below meth c H locs n (6 * n) (MQ below (fun _ _ oc t => oc = .returned (v.map (am_c (am_ad Ω))) ∧ t.heap = H) args s n (6 * n) (am_A Ω s.heap.size)) (F0 mid pc ls (S.map (am_c (am_ad Ω))))) : am_nx Ω m p l e R s mid args below meth c Q (pc, L, S, M, n) := by
  intro H locs ls hl hP hS hs T hT X
  obtain ⟨t, st, oc, hrun, hend, ⟨hoc, hh⟩, L', ⟨-, hW, hsame⟩, hL⟩ := row H locs ls hS.2.2 T hT X
  refine ⟨t, st, hfin t oc hrun hend ⟨by rw [hh]; exact hP, by rw [hh]; exact hS.1, by rw [hh]; exact hS.2.1, hW, ⟨L', hsame.mono hn (Nat.mul_le_mul_left 6 hn), hL⟩, hs, hoc⟩⟩
theorem am_fin1 (hC : am_Cx Ω d m p e R s mid args meth c) {i : Instr} (hd : decode (am_b m) pc = .ok (i, len)) {o : am_O} (hno : ∀ idx, i ≠ .new idx) (h : am_st (am_sh Ω) m i len pc L S M n = some (Sum.inr (Sum.inl o))) (hfin : ∀ (t : State) (oc : Outcome), t.status = .running → Ended t below oc → am_Q Ω o (am_bud m) s oc t → Q t) : am_nx Ω m p l e R s mid args below meth c Q (pc, L, S, M, n) := by
  obtain ⟨⟨hx, hb, hml, hown, hts⟩, hK, hrt, hlocks, -, hin, -⟩ := hC
  have hco : (am_co (am_sh Ω) m i len pc L S M n).map (Sum.inl (β := am_O ⊕ am_C)) = some (Sum.inr (Sum.inl o)) → False := fun q => by
    cases hq : am_co (am_sh Ω) m i len pc L S M n with
    | none => rw [hq] at q; cases q
    | some z => rw [hq] at q; cases q
  have hiv : ∀ kind idx, am_inv (am_sh Ω) kind m idx len pc L S M n = some (Sum.inr (Sum.inl o)) → False := fun kind idx q => by
    obtain ⟨c, k, -, -, -, -, -, -, hr⟩ := am_inv_inv q
    cases hr
  cases i with
  | ireturn =>
    obtain ⟨v, rfl, rfl, hn, ht, hr⟩ := am_iret_inv h
    cases hr
    refine am_s_ret hn hfin (fun H locs ls hf => ?_)
    rcases ht with ht | ⟨ht, hv⟩
    · exact W.zret (ty := .int) hx hb (by rw [hrt, ht]) rfl (fun t ht _ => ⟨rfl, ht⟩) hf hd hlocks
    · exact W.zret (ty := .boolean) hx hb (by rw [hrt, ht]) (by rcases hv with rfl | rfl <;> rfl) (fun t ht _ => ⟨rfl, ht⟩) hf hd hlocks
  | areturn =>
    obtain ⟨v, rfl, rfl, hn, ht, hr⟩ := am_aret_inv h
    cases hr
    refine am_s_ret hn hfin (fun H locs ls hf => ?_)
    obtain ⟨nm, hnm⟩ := am_fact_ra ht
    exact W.aret (rt := .object nm) hx hb (by rw [hrt, hnm]) (Or.inl ⟨nm, rfl⟩) (va_rf_or _) (fun t ht _ => ⟨rfl, ht⟩) hf hd hlocks
  | return_ =>
    obtain ⟨rfl, rfl, hn, ht, hr⟩ := am_vret_inv h
    cases hr
    refine am_s_ret hn hfin (fun H locs ls hf => ?_)
    exact W.vret hx hb (by rw [hrt, ht]) (fun t ht _ => ⟨rfl, ht⟩) hf hd hlocks
  | new idx => exact absurd rfl (hno idx)
  | invokevirtual idx => exact (hiv 1 idx h).elim
  | invokestatic idx =>
    have h' : (if am_ac m idx = true then (am_cpy (am_sh Ω) len pc L S M n).map Sum.inl else am_inv (am_sh Ω) 0 m idx len pc L S M n) = some (Sum.inr (Sum.inl o)) := h
    split at h'
    · cases hq : am_cpy (am_sh Ω) len pc L S M n with
      | none => rw [hq] at h'; cases h'
      | some z => rw [hq] at h'; cases h'
    · exact (hiv 0 idx h').elim
  | _ => exact (hco h).elim
theorem am_callee (hts : ∀ w ∈ am_ws, w.before args s = true) {cal : Nat} (hcp : am_CP cal) {mk : MethodId} (hn : s.methodNamed? (am_y cal) = some mk) : ∃ (mt : Method) (ck : Code), s.vm.method? mk = some mt ∧ mt.code = some ck ∧ ck.code = am_b cal ∧ ck.maxLocals = am_mL cal ∧ mt.sig.returnType = am_rt cal ∧ mt.locks = false ∧ ck.exceptionTable.toList.map (fun h => (h.startPc, h.endPc, h.handlerPc, h.catchType)) = am_hh cal ∧ parseMethodDescriptor (am_y cal).desc = some mt.sig := by
  obtain ⟨-, -, -, -, ⟨hh, hw⟩ | hw⟩ := hcp
  · obtain ⟨mt, ck, h1, h2, h3, h4, h5, h6, h7, h8⟩ := Cond.code_spec hn (hts _ hw)
    refine ⟨mt, ck, h1, h2, h3, h4, h5, h6, ?_, h8⟩
    rw [hh]
    have : ck.exceptionTable = #[] := by simpa using h7
    rw [this]
    rfl
  · obtain ⟨m9, mt, ck, hn9, h1, h2, h3, h4, h5, h6, h7, h8⟩ := Cond.codeWith_spec (hts _ hw)
    cases hn.symm.trans hn9
    exact ⟨mt, ck, h1, h2, h3, h4, h6, h7, h5, h8⟩
theorem am_weaken {tb : Tables} {e : Env} {mid below : List Frame} {a b : State} (h : Steps tb e (mid ++ below) a b) : Steps tb e below a b := by
  obtain ⟨n, hn, w⟩ := h
  exact ⟨n, hn, fun k hk => (w k hk).weaken⟩
set_option maxRecDepth 4000 in
theorem am_room1 {st : List Value} {a d R : Nat} (h : (st.map fun v => v.category).sum ≤ 8) (ha : a ≤ 45) (hR : 64 * (d + 1) + 300 ≤ R) : 2 * 0 + (st.map fun v => v.category).sum + (a + 11) + (64 * d + 300) ≤ R := by
  generalize (st.map fun v => v.category).sum = z at h ⊢
  omega
set_option maxHeartbeats 1000000 in
theorem am_core {T : State} {locs : List Loc} (X : Stand p l e R s mid args below meth c T locs n (6 * n)) (hC : am_Cx Ω (d + 1) m p e R s mid args meth c) {cal : Nat} {as : List am_V} {o : am_O} (hSd : am_Sd l Ω d cal M as o) (hP : va_P (am_D Ω) am_cl (am_w Ω M) T.heap) (hS : va_S (am_A Ω s.heap.size) s.heap T.heap locs) (hs : am_sc Ω M s) {mk : MethodId} (hn : s.methodNamed? (am_y cal) = some mk) {rest : List am_V} (hrest : rest.length ≤ 4) (hbud : n + am_bud cal ≤ am_bud m) {ls : Array Slot} (hls : ls.size = am_mL m) {i : Instr} (hd : decode (am_b m) pc = .ok (i, 3)) (hcp : am_CP cal) :
    ∃ (T' : State) (locs' : List Loc), Stand p l e R s mid args below meth c T' locs' (n + am_bud cal) (6 * (n + am_bud cal)) ∧ va_P (am_D Ω) am_cl (am_w Ω o.1) T'.heap ∧ va_S (am_A Ω s.heap.size) s.heap T'.heap locs' ∧ am_sc Ω o.1 s ∧ (match o.2 with
      | .inl v => ∀ (acts : List Action) (target : State), Steps p.tables e below (T'.setTop (F0 mid (pc + 3) ls ((v.map (am_c (am_ad Ω))).toList ++ rest.map (am_c (am_ad Ω))))) target → Steps p.tables e below (doInvoke e (T.setTop (F0 mid pc ls (rest.map (am_c (am_ad Ω))))) acts mk (as.map (am_c (am_ad Ω))).toArray).1 target
      | .inr x => ∃ (a : Addr) (ce : Cell), s.heap.size ≤ a ∧ T'.heap[a]? = some ce ∧ ce.vm.isStatics = false ∧ s.vm.findClass (am_xn x) = some ce.cls ∧ ∀ (acts : List Action) (target : State), Steps p.tables e below ((T'.setTop (F0 mid pc ls (rest.map (am_c (am_ad Ω))))).pushFrame (.throwing a)) target → Steps p.tables e below (doInvoke e (T.setTop (F0 mid pc ls (rest.map (am_c (am_ad Ω))))) acts mk (as.map (am_c (am_ad Ω))).toArray).1 target) := by
  obtain ⟨⟨hx, hb, hml, hown, hts⟩, hK, hrt, hlocks, hhd, hin, ⟨hR1, hR2, hR3, hR4⟩, htr⟩ := hC
  obtain ⟨mt, ck, hm1, hm2, hm3, hm4, hm5, hm6, hm7, hm8⟩ := am_callee hts hcp hn
  have hal := X.warmed.alike
  have hmT : T.vm.method? mk = some mt := by rw [hal.method?]; exact hm1
  have hnT : T.methodNamed? (am_y cal) = some mk := X.named hn
  have hpk : T.plainMethod mk := State.plainMethod.of_named hcp.1 hnT hmT
  have hcat := am_cats (ad := am_ad Ω) rest
  obtain ⟨X2, hinto⟩ := X.into (g := F0 mid pc ls (rest.map (am_c (am_ad Ω)))) rfl (by rw [hml]; exact hls) (by rw [hb]; exact hd) (mk := mk) (methk := mt) (ck := ck) (as.map (am_c (am_ad Ω))).toArray (R' := { frames := d + 8, cells := am_bud cal, slots := 6 * am_bud cal, locals := 64 * d + 300 }) hmT hm2 hm6 hpk (by show d + 8 + 1 ≤ R.frames; omega) (by rw [hm4]; exact am_room1 (by show ((rest.map (am_c (am_ad Ω))).map fun v => v.category).sum ≤ 8; omega) hcp.2.1 hR2) (by show n + am_bud cal ≤ R.cells; omega) (by show 6 * n + 6 * am_bud cal ≤ R.slots; omega)
  obtain ⟨t, oc, hst, hrun, hend, hQ1, hQ2, hQ3, hQ4, ⟨L', hQ5, hQ6⟩, hQ7, hQ8⟩ := hSd p e _ (T.calling (F0 mid pc ls (rest.map (am_c (am_ad Ω)))) mk (as.map (am_c (am_ad Ω))).toArray) mk _ (.java (F0 mid pc ls (rest.map (am_c (am_ad Ω)))) :: below) mt ck _ X2
    ⟨⟨hx, hm3, hm4, findClass_of_methodNamed hnT, fun w hw => word_at (U := T.calling (F0 mid pc ls (rest.map (am_c (am_ad Ω)))) mk (as.map (am_c (am_ad Ω))).toArray) X.warmed (am_good w hw) (hts w hw)⟩, va_K.moved hal hK, hm5, hm6, hm7, hin, ⟨Nat.le_refl _, Nat.le_refl _, Nat.le_refl _, Nat.le_refl _⟩, htr.1, am_env_moved (U := T.calling (F0 mid pc ls (rest.map (am_c (am_ad Ω)))) mk (as.map (am_c (am_ad Ω))).toArray) htr.2 hS X.warmed⟩ rfl rfl hP (am_sc_in hs hS hal rfl)
  rw [← hm4] at hst
  have hz : (T.calling (F0 mid pc ls (rest.map (am_c (am_ad Ω)))) mk (as.map (am_c (am_ad Ω))).toArray).heap = T.heap := rfl
  rw [hz] at hQ2 hQ3 hQ6
  have hS' : va_S (am_A Ω s.heap.size) s.heap t.heap (locs ++ L') := by
    refine ⟨Nat.le_trans hS.1 hQ2, fun q h1 h2 => ?_, fun q hq => ?_⟩
    · rw [hQ3 q (Nat.lt_of_lt_of_le h1 hS.1) (fun z => h2 (am_A_mono hS.1 z))]
      exact hS.2.1 q h1 h2
    · rcases List.mem_append.mp hq with h | h
      · exact hS.2.2 q h
      · exact am_A_mono hS.1 (hQ6 q h)
  have hsc : am_sc Ω o.1 s := by
    intro k N hk
    obtain ⟨g1, g2, g3⟩ := hs k N hk
    obtain ⟨f1, -, -⟩ := hQ7 k N hk
    refine ⟨?_, g2, g3⟩
    have f2 := va_X.moved (U := s) hal.symm f1
    exact va_X.kept f2 (hS.2.1 _ g2 g3).symm
  have hsl : 6 * (n + am_bud cal) = 6 * n + 6 * am_bud cal := Nat.mul_add 6 n (am_bud cal)
  cases ho : o.2 with
  | inl v =>
    rw [ho] at hQ8
    have hoc : oc = .returned (v.map (am_c (am_ad Ω))) := hQ8
    subst hoc
    obtain ⟨T', X', -, -, ht⟩ := X.outOf (g := F0 mid pc ls (rest.map (am_c (am_ad Ω)))) rfl (by rw [hb]; exact hd) hend hQ4 hQ5
    have hh : T'.heap = t.heap := by rw [ht]; rfl
    refine ⟨T', locs ++ L', by rw [hsl]; exact X', by rw [hh]; exact hQ1, by rw [hh]; exact hS', hsc, fun acts target hrest => ?_⟩
    rw [hinto acts]
    exact (am_weaken (mid := [.java (F0 mid pc ls (rest.map (am_c (am_ad Ω))))]) hst).trans (by rw [ht]; exact hrest)
  | inr x =>
    rw [ho] at hQ8
    obtain ⟨a, ce, hoc, ha, hce, hcs, hcl⟩ := (hQ8 : ∃ (a : Addr) (ce : Cell), oc = .threw a ∧ _ ≤ a ∧ t.heap[a]? = some ce ∧ ce.vm.isStatics = false ∧ _ = some ce.cls)
    subst hoc
    obtain ⟨T', X', -, -, ht⟩ := X.outOfThrown (g := F0 mid pc ls (rest.map (am_c (am_ad Ω)))) rfl hend hQ4 hQ5
    have hh : T'.heap = t.heap := by rw [ht]; rfl
    refine ⟨T', locs ++ L', by rw [hsl]; exact X', by rw [hh]; exact hQ1, by rw [hh]; exact hS', hsc, a, ce, Nat.le_trans hS.1 ha, by rw [hh]; exact hce, hcs, ?_, fun acts target hrest => ?_⟩
    · rw [← hal.findClass]; exact hcl
    · rw [hinto acts]
      exact (am_weaken (mid := [.java (F0 mid pc ls (rest.map (am_c (am_ad Ω))))]) hst).trans (by rw [ht]; exact hrest)
/-- what comes behind a call -/
def am_af (Ω : am_Ω) (m : Nat) (p : Program) (l : Launch) (e : Env) (R : Room) (s : State) (mid : MethodId) (args : Array Value) (below : List Frame) (meth : Method) (c : Code) (Q : State → Prop) (cal : Nat) (o : am_O) (pc : Nat) (L : am_Ls) (S : List am_V) (n : Nat) : Prop := match o.2 with
  | .inl v => am_nx Ω m p l e R s mid args below meth c Q (pc + 3, L, v.toList ++ S, o.1, n + am_bud cal)
  | .inr x => (match am_hd m pc x with
    | none => False
    | some none => ∀ (t : State) (oc : Outcome), t.status = .running → Ended t below oc → am_Q Ω (o.1, Sum.inr x) (am_bud m) s oc t → Q t
    | some (some h) => ∀ a, am_nx Ω m p l e R s mid args below meth c Q (h, L, [am_X a], o.1, n + am_bud cal))
end RUN
end
section
-- an exception is caught
section CAT
variable {Ω : am_Ω} {d m : Nat} {p : Program} {l : Launch} {e : Env} {R : Room} {s : State} {mid : MethodId} {args : Array Value} {below : List Frame} {meth : Method} {c : Code} {Q : State → Prop} {pc len n : Nat} {L : am_Ls} {S : List am_V} {M : am_M} {σ : am_S}
theorem am_go1 {Q : Handler → Pre} {E : CtlPost} {b : Bool} {acts : List Action} {u : State} {f : JFrame} {a : Addr} {x : ExceptionTableEntry} {t : List ExceptionTableEntry} {k : ClassId} {cell : Cell} (hx : covers x f.pc = true) (h0 : x.catchType ≠ 0)
    (hl : u.vm.ClassLinks e.platform f.method.cls x.catchType k) (hcell : u.heap[a]? = some cell) (hobj : ∀ k, cell.vm ≠ .statics k) (hk : ∃ k, u.vm.classes[cell.cls]? = some k) (hc : ∃ q, u.vm.classes[k]? = some q) :
    wp (findHandler.go f a (x :: t)) Q E e b acts u ↔ (if u.vm.assignable cell.cls k = true then Q (.found x.handlerPc) b acts (u.setVm (u.vm.noted f.method.cls x.catchType (.cls k))) else wp (findHandler.go f a t) Q E e b acts (u.setVm (u.vm.noted f.method.cls x.catchType (.cls k)))) := by
  simp only [covers] at hx
  obtain ⟨ha, ht⟩ := (resolveClass_links e.toSetting hl).op (op := VmOp.resolveClass f.method.cls x.catchType) rfl
  have hal : u.vm.Alike (u.vm.noted f.method.cls x.catchType (.cls k)) := (Vm.Alike.refl u.vm).noted _ _ _
  obtain ⟨k1, hk1⟩ := hk
  obtain ⟨k2, hk2⟩ := hc
  obtain ⟨k1', hk1', -⟩ := hal.2.2 _ _ hk1
  obtain ⟨k2', hk2', -⟩ := hal.2.2 _ _ hk2
  have has : (u.vm.noted f.method.cls x.catchType (.cls k)).assignable cell.cls k = u.vm.assignable cell.cls k := by rw [hal.assignable]
  cases hfit : u.vm.assignable cell.cls k <;> rw [hfit] at has <;>
    simp [findHandler.go, hx, h0, ha, ht, hcell, hobj, hk1', hk2', has, VmOp.dirties, VmOp.acts]
/-- the search passes rows whose class the exception isn't of, and ends at a row whose class it is of; what it links on its way is a link that the tables have -/
theorem am_goes {own : String} {f : JFrame} {a : Addr} {cell : Cell} {E0 : String} (hown : s.vm.findClass own = some f.method.cls) (hpl : e.platform.magicAccessors = ({} : Platform).magicAccessors) (hobj : ∀ k, cell.vm ≠ .statics k) (hcl : s.vm.findClass E0 = some cell.cls) {x : ExceptionTableEntry} {rest : List ExceptionTableEntry} (hx : covers x f.pc = true) (h0 : x.catchType ≠ 0) {name : String} (hlink : (Cond.classLink own x.catchType name).before args s = true) (hcast : (Cond.castable E0 name).before args s = true) :
    ∀ (pre : List ExceptionTableEntry), (∀ y ∈ pre, covers y f.pc = true ∧ y.catchType ≠ 0 ∧ ∃ nm : String, (Cond.classLink own y.catchType nm).before args s = true ∧ va_Nc E0 nm s) → ∀ vm : Vm, s.WarmedH vm → ∃ vm', s.WarmedH vm' ∧ ∀ (u : State), u.vm = vm → u.heap[a]? = some cell → ∀ (Q : Handler → Pre) (E : CtlPost) (b : Bool) (acts : List Action), wp (findHandler.go f a (pre ++ x :: rest)) Q E e b acts u ↔ Q (.found x.handlerPc) b acts (u.setVm vm') := by
  obtain ⟨k0, hk0, -⟩ := Vm.findClass_spec hcl
  intro pre
  induction pre with
  | nil =>
    intro _ vm hW
    obtain ⟨c5, hc5, hcl5⟩ := Cond.classLink_spec hown hlink e.platform hpl
    obtain ⟨c3, c4, hc3, hc4, hasg⟩ := Cond.castable_spec hcast
    cases Option.some.inj (hc3.symm.trans hcl)
    cases Option.some.inj (hc4.symm.trans hc5)
    obtain ⟨dk, _, _, kt, hd, _, _, _, _, hkt, _, hopen⟩ := hcl5.here
    obtain ⟨kt', hkt', -⟩ := hW.alike.2.2 _ _ hkt
    obtain ⟨k0', hk0', -⟩ := hW.alike.2.2 _ _ hk0
    refine ⟨_, hW.noted hd hopen (State.rightAt_cls hcl5), fun u hu hcell Q E b acts => ?_⟩
    subst hu
    rw [List.nil_append, am_go1 hx h0 (hW.classLinks hcl5) hcell hobj ⟨k0', hk0'⟩ ⟨kt', hkt'⟩, if_pos (by rw [hW.alike.assignable]; exact hasg)]
  | cons y ys ih =>
    intro hp vm hW
    obtain ⟨hy, hy0, nm, hyl, a8, b8, h1, h2, h3⟩ := hp y List.mem_cons_self
    obtain ⟨c5, hc5, hcl5⟩ := Cond.classLink_spec hown hyl e.platform hpl
    cases Option.some.inj (h1.symm.trans hcl)
    cases Option.some.inj (h2.symm.trans hc5)
    obtain ⟨dk, _, _, kt, hd, _, _, _, _, hkt, _, hopen⟩ := hcl5.here
    obtain ⟨kt', hkt', -⟩ := hW.alike.2.2 _ _ hkt
    obtain ⟨k0', hk0', -⟩ := hW.alike.2.2 _ _ hk0
    obtain ⟨vm', hW', hgo⟩ := ih (fun z hz => hp z (List.mem_cons_of_mem _ hz)) _ (hW.noted hd hopen (State.rightAt_cls hcl5))
    refine ⟨vm', hW', fun u hu hcell Q E b acts => ?_⟩
    subst hu
    rw [List.cons_append, am_go1 hy hy0 (hW.classLinks hcl5) hcell hobj ⟨k0', hk0'⟩ ⟨kt', hkt'⟩, if_neg (by rw [hW.alike.assignable, h3]; decide)]
    exact hgo (u.setVm (u.vm.noted f.method.cls y.catchType (.cls b8))) rfl hcell Q E b acts
theorem am_catchTo {s : State} {a : Addr} {f : JFrame} {r : List Frame} {h : Nat} {vm' : Vm} (hfind : ∀ (Q : Handler → Pre) (E : CtlPost) (b : Bool) (acts : List Action), wp (findHandler f a) Q E e b acts s ↔ Q (.found h) b acts (s.setVm vm')) :
    (stepThrowing e s a (.java f :: r)).Is ((s.setVm vm').setFrames (.java { f with pc := h, stack := [.ref a] } :: r)) [] := by
  simp only [stepThrowing, searchFrame, vmDo]
  generalize hr : Sem.go _ e false [] s = res
  obtain ⟨as, rfl, ha⟩ := Sem.eq_ok_of hr (a := Handler.found h) (s' := s.setVm vm') (acts' := []) (by simp [hfind _ _ _ _])
  exact ⟨rfl, ha⟩
theorem am_caughtTo {tb : Tables} {s target : State} {g : JFrame} {a : Addr} (h : At s g.method c below) {hp : Nat} {vm' : Vm} (hfind : ∀ (Q : Handler → Pre) (E : CtlPost) (b : Bool) (acts : List Action), wp (findHandler g a) Q E e b acts ((s.setTop g).pushFrame (.throwing a)) ↔ Q (.found hp) b acts (((s.setTop g).pushFrame (.throwing a)).setVm vm'))
    (hrest : Steps tb e below ((s.setVm vm').setTop { g with pc := hp, stack := [.ref a] }) target) : Steps tb e below ((s.setTop g).pushFrame (.throwing a)) target := by
  obtain ⟨hgo, hw⟩ := h.throwing a
  refine Steps.head hgo hw ?_
  rw [stepThread_throwing (frames_entered h.top _), (am_catchTo (s := (s.setTop g).pushFrame (.throwing a)) hfind).1]
  obtain ⟨g₀, hg⟩ := Option.isSome_iff_exists.mp h.top
  obtain ⟨r, hr⟩ := State.topJava?_eq_some.mp hg
  have hr' : (s.setVm vm').frames = .java g₀ :: r := hr
  have hsw : ∀ (u : State) (F G : List Frame), ((u.setFrames F).setVm vm').setFrames G = (u.setVm vm').setFrames G := fun u F G => by
    have h1 : (u.setFrames F).setVm vm' = (u.setVm vm').setFrames F := rfl
    rw [h1, State.setFrames_setFrames]
  rw [State.setTop_of_frames _ hr'] at hrest
  rw [hr, List.tail_cons, State.pushFrame, hsw, State.setTop_of_frames _ hr, hsw]
  exact hrest
theorem am_caught {T : State} {locs : List Loc} {cells slots : Nat} (X : Stand p l e R s mid args below meth c T locs cells slots) (hC : am_Cx Ω d m p e R s mid args meth c) {x hp : Nat} (hh : am_hd m pc x = some (some hp)) {g : JFrame} (hg : g.method = mid) (hpc : g.pc = pc) {a : Addr} {ce : Cell} (hce : T.heap[a]? = some ce) (hcs : ce.vm.isStatics = false) (hcl : s.vm.findClass (am_xn x) = some ce.cls) :
    ∃ vm', Stand p l e R s mid args below meth c (T.setVm vm') locs cells slots ∧ ∀ target, Steps p.tables e below ((T.setVm vm').setTop { g with pc := hp, stack := [.ref a] }) target → Steps p.tables e below ((T.setTop g).pushFrame (.throwing a)) target := by
  obtain ⟨⟨hx, hb, hml, hown, hts⟩, hK, hrt, hlocks, hhd, hin, hR, htr, henv⟩ := hC
  obtain ⟨pre, post, s0, e0, ct, hsp, hs0, he0, hct, hlk, hx4, hpre⟩ := am_fact_h hh
  rw [hsp] at hhd
  obtain ⟨pre', q1, hq, hpre', hq1⟩ := List.map_eq_append_iff.mp hhd
  obtain ⟨y, post', hq2, hy, hpost'⟩ := List.map_eq_cons_iff.mp hq1
  subst hq2
  cases hy
  have hpl : e.platform.magicAccessors = ({} : Platform).magicAccessors := by rw [X.admits.platform]
  subst hg
  subst hpc
  obtain ⟨vm', hW', hgo⟩ := am_goes (e := e) (s := s) (args := args) (own := (am_y m).cls) (f := g) (a := a) (cell := ce) (E0 := am_xn x) hown hpl (VmData.ne_statics_of hcs) hcl (x := y) (rest := post') (by simp only [covers]; simp [hs0, he0]) hct (hts _ hlk) (va_Nw.use rfl (henv.2.2.2.2.1 x hx4)) pre' (fun z hz => by
    have hz' : (z.startPc, z.endPc, z.handlerPc, z.catchType) ∈ pre := by rw [← hpre']; exact List.mem_map_of_mem hz
    obtain ⟨z1, z2, z3, x', hx', hl'⟩ := hpre _ hz'
    exact ⟨by simp only [covers]; simp [z1, z2], z3, am_xn x', hts _ hl', henv.1 _ hx'⟩) T.vm X.warmed
  refine ⟨vm', X.noted hW', fun target h => am_caughtTo X.here (vm' := vm') (fun Q E b acts => ?_) h⟩
  rw [W.findHandler_eq (s := (T.setTop g).pushFrame (.throwing a)) (meth := meth) (code := c) X.method' X.code, hq]
  exact hgo ((T.setTop g).pushFrame (.throwing a)) rfl hce Q E b acts
end CAT
end
section
section RUNB
variable {Ω : am_Ω} {d m : Nat} {p : Program} {l : Launch} {e : Env} {R : Room} {s : State} {mid : MethodId} {args : Array Value} {below : List Frame} {meth : Method} {c : Code} {Q : State → Prop} {pc len n : Nat} {L : am_Ls} {S : List am_V} {M : am_M} {σ : am_S}
set_option maxHeartbeats 1000000 in
theorem am_behind {T T' : State} {locs' : List Loc} (hC : am_Cx Ω (d + 1) m p e R s mid args meth c) {cal : Nat} {o : am_O} {ls : Array Slot} {rest : List am_V} {G : State → Prop} (hl : am_lv Ω (am_mL m) ls L) (hbud : n + am_bud cal ≤ am_bud m) (X' : Stand p l e R s mid args below meth c T' locs' (n + am_bud cal) (6 * (n + am_bud cal))) (hP' : va_P (am_D Ω) am_cl (am_w Ω o.1) T'.heap) (hS' : va_S (am_A Ω s.heap.size) s.heap T'.heap locs') (hsc : am_sc Ω o.1 s) {A0 : State}
    (hG : match o.2 with
      | .inl v => ∀ (target : State), Steps p.tables e below (T'.setTop (F0 mid (pc + 3) ls ((v.map (am_c (am_ad Ω))).toList ++ rest.map (am_c (am_ad Ω))))) target → Steps p.tables e below A0 target
      | .inr x => ∃ (a : Addr) (ce : Cell), s.heap.size ≤ a ∧ T'.heap[a]? = some ce ∧ ce.vm.isStatics = false ∧ s.vm.findClass (am_xn x) = some ce.cls ∧ ∀ (target : State), Steps p.tables e below ((T'.setTop (F0 mid pc ls (rest.map (am_c (am_ad Ω))))).pushFrame (.throwing a)) target → Steps p.tables e below A0 target)
    (haf : am_af Ω m p l e R s mid args below meth c Q cal o pc L rest n) : ∃ t, Steps p.tables e below A0 t ∧ Q t := by
  unfold am_af at haf
  cases ho : o.2 with
  | inl v =>
    rw [ho] at hG haf
    have h1 := haf T'.heap locs' ls hl hP' hS' hsc T' rfl X'
    obtain ⟨t, st, hq⟩ := h1
    refine ⟨t, hG t ?_, hq⟩
    have he : (v.map (am_c (am_ad Ω))).toList ++ rest.map (am_c (am_ad Ω)) = (v.toList ++ rest).map (am_c (am_ad Ω)) := by cases v <;> simp
    rw [he]
    exact st
  | inr x =>
    rw [ho] at hG haf
    obtain ⟨a, ce, ha, hce, hcs, hcl, hgo⟩ := hG
    obtain ⟨⟨hx, hb, hml, hown, hts⟩, hK, hrt, hlocks, hhd, hin, ⟨hR1, hR2, hR3, hR4⟩, htr⟩ := hC
    dsimp only at haf
    cases hh : am_hd m pc x with
    | none => rw [hh] at haf; exact haf.elim
    | some oh =>
      rw [hh] at haf
      cases oh with
      | none =>
        have hnil : am_hh m = [] := am_fact_h0 hh
        have htab : ∀ y ∈ c.exceptionTable.toList, covers y pc = false := by
          rw [hnil] at hhd
          intro y hy
          have : c.exceptionTable.toList = [] := List.map_eq_nil_iff.mp hhd
          rw [this] at hy
          cases hy
        obtain ⟨hst, hrun, hend, hW, hsame⟩ := X'.leaveThrown a (g := F0 mid pc ls (rest.map (am_c (am_ad Ω)))) rfl rfl rfl htab hlocks
        refine ⟨_, hgo _ hst, haf _ _ hrun hend ⟨hP', hS'.1, hS'.2.1, hW, ⟨locs', hsame.mono hbud (by omega), hS'.2.2⟩, hsc, a, ce, rfl, ha, hce, hcs, hcl⟩⟩
      | some h =>
        obtain ⟨vm', X2, hst⟩ := am_caught X' ⟨⟨hx, hb, hml, hown, hts⟩, hK, hrt, hlocks, hhd, hin, ⟨hR1, hR2, hR3, hR4⟩, htr⟩ hh (g := F0 mid pc ls (rest.map (am_c (am_ad Ω)))) rfl rfl hce hcs hcl
        obtain ⟨t, st, hq⟩ := haf a T'.heap locs' ls hl hP' hS' hsc (T'.setVm vm') rfl X2
        exact ⟨t, hgo t (hst t st), hq⟩
end RUNB
end
section
-- an exception is made and thrown
section THR
variable {Ω : am_Ω} {d m : Nat} {p : Program} {l : Launch} {e : Env} {R : Room} {s : State} {mid : MethodId} {args : Array Value} {below : List Frame} {meth : Method} {c : Code} {Q : State → Prop} {pc len n : Nat} {L : am_Ls} {S : List am_V} {M : am_M} {σ : am_S}
theorem am_tw_at {w : Cond} (h : am_tw w = true) (hts : ∀ w ∈ am_ws, w.before args s = true) (henv : am_env Ω s) : w.before args s = true := by
  simp only [am_tw, Bool.or_eq_true, Bool.and_eq_true, List.any_eq_true, decide_eq_true_eq] at h
  rcases h with (⟨h1, h2⟩ | ⟨x, hx, rfl⟩) | ⟨y, hy, rfl⟩
  · have h3 : w ∈ tables_1.take 340 := by simpa using h1
    exact hts w (List.mem_filter.mpr ⟨List.mem_append_right _ (List.mem_of_mem_take h3), h2⟩)
  · exact va_Nw.use rfl (henv.2.2.2.2.1 x (List.mem_range.mp hx))
  · exact va_Nw.use rfl (henv.2.2.2.2.2 y hy)
theorem am_tw_all {x ic : Nat} (h : (x = 0 ∧ ic = 33) ∨ (x = 1 ∧ ic = 46) ∨ (x = 2 ∧ ic = 55) ∨ (x = 3 ∧ ic = 77)) : ∀ w ∈ vx_atS (am_cn 2) ic (am_xn x) am_up2, am_tw w = true := by
  rcases h with ⟨rfl, rfl⟩ | ⟨rfl, rfl⟩ | ⟨rfl, rfl⟩ | ⟨rfl, rfl⟩
  · exact List.all_eq_true.mp am_tw_0
  · exact List.all_eq_true.mp am_tw_1
  · exact List.all_eq_true.mp am_tw_2
  · exact List.all_eq_true.mp am_tw_3
set_option maxHeartbeats 2000000 in
theorem am_s_thr (hC : am_Cx Ω d m p e R s mid args meth c) {idx : Nat} {o : am_O} (h : am_st (am_sh Ω) m (.new idx) len pc L S M n = some (Sum.inr (Sum.inl o))) (hfin : ∀ (t : State) (oc : Outcome), t.status = .running → Ended t below oc → am_Q Ω o (am_bud m) s oc t → Q t) : am_nx Ω m p l e R s mid args below meth c Q (pc, L, S, M, n) := by
  obtain ⟨x, hx, rfl, hn, ho⟩ := am_thr_inv h
  cases ho
  obtain ⟨ik, is, ic, hmem, hcls, hh0, d0, d3, d4, d6, d9, wk, wi, hfit, hxi⟩ := am_fact_t hx
  intro H locs ls hl hP hS hs T hT X
  subst hT
  obtain ⟨⟨hexec, hb, hml, hown, hts⟩, hK, hrt, hlocks, hhd, hin, ⟨hR1, hR2, hR3, hR4⟩, htr, henv⟩ := hC
  rw [hcls] at hown
  dsimp only at hP hS hs X
  have Y := vx_rebase X (R' := { frames := R.frames, locals := R.locals, cells := 1, slots := 6 }) (Nat.le_refl _) (Nat.le_refl _) (by show n + 1 ≤ R.cells; omega) (by show 6 * n + 6 ≤ R.slots; omega)
  obtain ⟨s', hA⟩ : ∃ z, z = (T.setVm s.vm).setFrames (.invoking mid args :: below) := ⟨_, rfl⟩
  rw [← hA] at Y
  have hvm : s'.vm = s.vm := by rw [hA]; rfl
  have hhp : s'.heap = T.heap := by rw [hA]; rfl
  have hW0 : s.WarmedH s'.vm := by rw [hvm]; exact State.WarmedH.refl s
  have hts' : ∀ w ∈ am_ws, w.before args s' = true := fun w hw => word_at hW0 (am_good w hw) (hts w hw)
  have henv' : am_env Ω s' := am_env_moved henv (locs := locs) (by rw [hhp]; exact hS) hW0
  have hat : ∀ w ∈ vx_atS (am_cn 2) ic (am_xn x) am_up2, w.before args s' = true := fun w hw => am_tw_at (am_tw_all hxi w hw) hts' henv'
  have hall : ∀ w ∈ Bundle.ownAtoms (am_cn 2) ic (am_xn x) am_up2, w.before args s' = true := vx_own hat (vx_isRefq henv'.2.1.1) (vx_isRefq henv'.2.2.1.1) henv'.2.1.2.word henv'.2.2.1.2.word
  have hown' : s'.vm.findClass (am_cn 2) = some mid.cls := by rw [hvm]; exact hown
  have hins : (Cond.instantiable (am_xn x) 6).before args s' = true := hall _ (by simp [Bundle.ownAtoms])
  obtain ⟨sa, hstr⟩ := henv'.2.2.2.1 _ hmem
  have htab : ∀ y ∈ c.exceptionTable.toList, covers y (pc + 9) = false := by
    rw [hh0] at hhd
    intro y hy
    have h9 : c.exceptionTable.toList = [] := List.map_eq_nil_iff.mp hhd
    rw [h9] at hy
    cases hy
  obtain ⟨vm₁, cX, kX, hfX, hkX, -, -, X₁, st1⟩ := Y.newCold hexec (own := am_cn 2) (C := am_xn x) (index := ik) (n := 6) hown' (hts' _ wk) hins (hts' _ wi)
    (g := F0 mid pc ls []) rfl (by rw [hb]; exact d0) (Nat.le_refl _) (Nat.le_refl _)
  generalize hT1 : (T.setVm vm₁).pushCell { cls := cX, slots := kX.instanceTypes.map defaultValue, vm := .none } = T1 at X₁ st1
  have hcat : (Value.ref T.heap.size).category = 1 := rfl
  have hcellA : T1.heap[T.heap.size]? = some (freshCell cX kX) := by rw [← hT1]; exact State.heap_pushCell_size _ _
  have d3' : decode c.code (pc + 3) = .ok (.dup, 1) := by rw [hb]; exact d3
  have d4' : decode c.code (pc + 4) = .ok (.ldc is, 2) := by rw [hb]; exact d4
  obtain ⟨U, hsteps, hrun, hend, hW, hsame, ce, hce, hO⟩ := X₁.ctorThrowS hexec htr (own := am_cn 2) (cls := am_xn x) (names := am_up2) (ic := ic) hown' hfit (by decide +kernel) hall (fun x hx => nomatch hx) hfX hkX hcellA (by rw [hhp]; exact Nat.le_refl _) (msg := .ref sa) rfl
    (g := { method := mid, pc := pc + 6, locals := ls, stack := .ref sa :: .ref T.heap.size :: .ref T.heap.size :: [], locked := none }) rfl (by rw [hml]; exact hl.1) rfl rfl (rest := []) rfl
    (by rw [hb]; exact d6) (by rw [hb]; exact d9) htab (by show 2 + 3 < R.frames; omega) (by simp only [List.map_cons, List.map_nil, List.sum_cons, List.sum_nil, hcat]; show 2 * 0 + _ + (13 * (2 + 1) + 42) ≤ R.locals; omega) hlocks
  obtain ⟨f1, f2⟩ := vx_frame hsame
  rw [hhp] at f1 f2
  have hWs : s.WarmedH U.vm := State.WarmedH.trans hW0 hW
  have hcl : s.vm.findClass (am_xn x) = some ce.cls := by
    have h9 := hO.cls
    rw [hvm] at h9
    exact h9
  have hsb : s.sameButNew ({ U with vm := s.vm } : State) locs (am_bud m) (6 * am_bud m) := by
    subst hA
    obtain ⟨e1, e2⟩ := hsame
    rw [State.setFrames_setFrames] at e1
    have h2 : (T.setVm s.vm).sameButNew ({ U with vm := s.vm } : State) [] (0 + 1) (0 + 6) := ⟨e1, e2⟩
    have h3 := X.same.trans h2
    rw [List.append_nil] at h3
    exact h3.mono (by omega) (by omega)
  have keep : ∀ q : Nat, q < T.heap.size → U.heap[q]? = T.heap[q]? := fun q hq => f2 q hq (fun z hz => nomatch hz)
  refine ⟨U, ?_, hfin U (.threw T.heap.size) hrun hend ⟨hP.kept (fun k q hk => keep q.1 (hP k q hk).lt), Nat.le_trans hS.1 f1, fun q h1 h2 => by rw [keep q (Nat.lt_of_lt_of_le h1 hS.1)]; exact hS.2.1 q h1 h2, hWs, ⟨locs, hsb, hS.2.2⟩, hs, T.heap.size, ce, rfl, hS.1, hce, by rw [hO.vm]; rfl, hcl⟩⟩
  refine st1 _ ?_
  show Steps p.tables e below (T1.setTop { method := mid, pc := pc + 3, locals := ls, stack := .ref T.heap.size :: [], locked := none }) _
  jvm_step X₁.here [X₁.here.top, hexec, d3', Value.category]
  exact X₁.ldcString hexec (own := am_cn 2) (text := am_tx is) (index := is) (a := sa) hown' hstr.1 hstr.2
    (g := { method := mid, pc := pc + 4, locals := ls, stack := .ref T.heap.size :: .ref T.heap.size :: [], locked := none }) rfl d4' _ hsteps
end THR
end
section
section RUN2
variable {Ω : am_Ω} {d m : Nat} {p : Program} {l : Launch} {e : Env} {R : Room} {s : State} {mid : MethodId} {args : Array Value} {below : List Frame} {meth : Method} {c : Code} {Q : State → Prop} {pc len n : Nat} {L : am_Ls} {S : List am_V} {M : am_M} {σ : am_S}
theorem am_rcv_inv {sh : am_Sh} {cal : Nat} {as : List am_V} (h : am_rcv sh cal as = true) : ∃ k as', as = am_R (some k) :: as' ∧ am_ct sh k = some (Sum.inl (am_rc cal)) := by
  unfold am_rcv at h
  split at h
  · exact ⟨_, _, rfl, of_decide_eq_true h⟩
  · cases h
theorem am_len_of {x : Option MethodDescriptor} {f : MethodDescriptor → Nat} {k : Nat} (h : x.map f = some k) {sig : MethodDescriptor} (hs : x = some sig) : f sig = k := by
  subst hs
  exact Option.some.inj h
set_option maxHeartbeats 1000000 in
theorem am_s_callS (hC : am_Cx Ω (d + 1) m p e R s mid args meth c) {idx cal k : Nat} (hd : decode (am_b m) pc = .ok (.invokestatic idx, 3)) (hml : am_ml m idx = some (cal, k, 0)) (hk1 : k ≤ S.length) (hk2 : S.length ≤ k + 4) (hbud : n + am_bud cal ≤ am_bud m) {o : am_O} (hSd : am_Sd l Ω d cal M (S.take k).reverse o) (haf : am_af Ω m p l e R s mid args below meth c Q cal o pc L (S.drop k) n) : am_nx Ω m p l e R s mid args below meth c Q (pc, L, S, M, n) := by
  intro H locs ls hl hP hS hs T hT X
  subst hT
  obtain ⟨hcp, hlk, ⟨-, hst, hpn⟩ | ⟨h01, -⟩⟩ := am_fact_m hml
  · obtain ⟨⟨hx, hb, hmL, hown, hts⟩, hrest⟩ := hC
    obtain ⟨mk, hnamed⟩ : ∃ mk, s.methodNamed? (am_y cal) = some mk := by
      obtain ⟨-, -, -, -, ⟨-, hw⟩ | hw⟩ := hcp
      · exact Cond.code_named (hts _ hw)
      · obtain ⟨mk, -, -, hn, -⟩ := Cond.codeWith_spec (hts _ hw)
        exact ⟨mk, hn⟩
    obtain ⟨mt, ck, hm1, hm2, hm3, hm4, hm5, hm6, hm7, hm8⟩ := am_callee hts hcp hnamed
    have hstatic : mt.isStatic = true := Cond.static_spec hnamed hm1 (hts _ hst)
    obtain ⟨kP, hkP, -⟩ := className_of_methodNamed hnamed
    have hinitP : kP.init = .initialized := Cond.initialized_spec (findClass_of_methodNamed hnamed) hkP (hts _ hcp.2.2.1)
    have hlen : ((S.take k).reverse.map (am_c (am_ad Ω))).length = mt.sig.parameters.length := by
      rw [am_len_of hpn hm8]
      simp [hk1]
    have hstk : S.map (am_c (am_ad Ω)) = ((S.take k).reverse.map (am_c (am_ad Ω))).reverse ++ (S.drop k).map (am_c (am_ad Ω)) := by
      rw [List.map_reverse, List.reverse_reverse, ← List.map_append, List.take_append_drop]
    obtain ⟨vm', X1, hstep⟩ := X.invokestatic hx hown (hts _ hlk) hnamed hm1 hstatic hkP hinitP hcp.2.2.2.1 (g := F0 mid pc ls (S.map (am_c (am_ad Ω)))) rfl (argsL := (S.take k).reverse.map (am_c (am_ad Ω))) (rest := (S.drop k).map (am_c (am_ad Ω))) hlen hstk (by rw [hb]; exact hd)
    obtain ⟨T', locs', X', hP', hS', hsc', hG⟩ := am_core X1 ⟨⟨hx, hb, hmL, hown, hts⟩, hrest⟩ hSd hP hS hs hnamed (rest := S.drop k) (by simp; omega) hbud hl.1 hd hcp
    refine am_behind ⟨⟨hx, hb, hmL, hown, hts⟩, hrest⟩ hl hbud X' hP' hS' hsc' (T := T) (G := Q) (rest := S.drop k) (A0 := T.setTop (F0 mid pc ls (S.map (am_c (am_ad Ω))))) ?_ haf
    cases ho : o.2 with
    | inl v =>
      rw [ho] at hG
      exact fun target h => hstep target (fun acts => hG acts target h)
    | inr x =>
      rw [ho] at hG
      obtain ⟨a, ce, g1, g2, g3, g4, hG⟩ := hG
      exact ⟨a, ce, g1, g2, g3, g4, fun target h => hstep target (fun acts => hG acts target h)⟩
  · cases h01
set_option maxHeartbeats 1000000 in
theorem am_s_callV (hC : am_Cx Ω (d + 1) m p e R s mid args meth c) {idx cal k : Nat} (hd : decode (am_b m) pc = .ok (.invokevirtual idx, 3)) (hml : am_ml m idx = some (cal, k, 1)) (hk1 : k ≤ S.length) (hk2 : S.length ≤ k + 4) (hbud : n + am_bud cal ≤ am_bud m) (hrcv : am_rcv (am_sh Ω) cal (S.take k).reverse = true) {o : am_O} (hSd : am_Sd l Ω d cal M (S.take k).reverse o) (haf : am_af Ω m p l e R s mid args below meth c Q cal o pc L (S.drop k) n) : am_nx Ω m p l e R s mid args below meth c Q (pc, L, S, M, n) := by
  intro H locs ls hl hP hS hs T hT X
  subst hT
  obtain ⟨hcp, hlk, ⟨h01, -⟩ | ⟨-, hin, hsel, ⟨TT, NN, hcl⟩, hpn⟩⟩ := am_fact_m hml
  · cases h01
  · obtain ⟨⟨hx, hb, hmL, hown, hts⟩, hK, hrest⟩ := hC
    obtain ⟨kb, as', has, hct⟩ := am_rcv_inv hrcv
    have hin0 : am_in Ω := hrest.2.2.2.1
    obtain ⟨q0, hq, hw0⟩ := am_w_get M (hin0.1 kb _ hct (fun N h => by cases h))
    rw [am_e_obj hct] at hw0
    obtain ⟨cellB, hcB, hoB, hclB⟩ := va_recv hK hP hcl hw0
    obtain ⟨mk, methM, hnamed, hmethM, hstM, habM⟩ := Cond.instanceMethod_spec (hts _ hin)
    obtain ⟨mt, ck, hm1, hm2, hm3, hm4, hm5, hm6, hm7, hm8⟩ := am_callee hts hcp hnamed
    cases hmethM.symm.trans hm1
    obtain ⟨c2, r2, m2, q1, q2, q3, q4, kP, hkP, hkPi⟩ := Cond.selects_spec (hts _ hsel)
    cases hclB.symm.trans q1
    cases (State.methodFound?_of_named hnamed hcp.2.2.2.1).symm.trans q2
    cases hnamed.symm.trans q3
    have hselP : selectMethod e.platform s.vm cellB.cls mk = .method mk := by rw [Launch.admits_selectMethod X.admits]; exact q4
    have hk : k = as'.length + 1 := by
      have h1 := congrArg List.length has
      simp only [List.length_reverse, List.length_take, List.length_cons] at h1
      omega
    have hlen : (as'.map (am_c (am_ad Ω))).length = methM.sig.parameters.length := by
      have := am_len_of hpn hm8
      rw [List.length_map]
      omega
    have hstk : S.map (am_c (am_ad Ω)) = (as'.map (am_c (am_ad Ω))).reverse ++ Value.ref (am_ad Ω kb) :: (S.drop k).map (am_c (am_ad Ω)) := by
      have h1 : S.take k = as'.reverse ++ [am_R (some kb)] := by
        have h2 := congrArg List.reverse has
        rw [List.reverse_reverse, List.reverse_cons] at h2
        exact h2
      conv => lhs; rw [← List.take_append_drop k S, h1]
      simp only [List.map_append, List.map_reverse, List.map_cons, List.map_nil, List.append_assoc, List.cons_append, List.nil_append]
      rfl
    have harg : ((S.take k).reverse.map (am_c (am_ad Ω))).toArray = (Value.ref (am_ad Ω kb) :: as'.map (am_c (am_ad Ω))).toArray := by
      rw [has]
      rfl
    obtain ⟨vm', X1, hstep⟩ := X.invokevirtual hx hown (hts _ hlk) hnamed hmethM hstM hkP hkPi hcp.2.2.2.1 (a := am_ad Ω kb) (cell := cellB) hcB
      (fun z h => by rw [h] at hoB; cases hoB) hselP hmethM habM hkP hkPi (g := F0 mid pc ls (S.map (am_c (am_ad Ω)))) rfl (argsL := as'.map (am_c (am_ad Ω))) (rest := (S.drop k).map (am_c (am_ad Ω))) hlen hstk (by rw [hb]; exact hd)
    obtain ⟨T', locs', X', hP', hS', hsc', hG⟩ := am_core X1 ⟨⟨hx, hb, hmL, hown, hts⟩, hK, hrest⟩ hSd hP hS hs hnamed (rest := S.drop k) (by simp; omega) hbud hl.1 hd hcp
    refine am_behind ⟨⟨hx, hb, hmL, hown, hts⟩, hK, hrest⟩ hl hbud X' hP' hS' hsc' (T := T) (G := Q) (rest := S.drop k) (A0 := T.setTop (F0 mid pc ls (S.map (am_c (am_ad Ω))))) ?_ haf
    rw [harg] at hG
    cases ho : o.2 with
    | inl v =>
      rw [ho] at hG
      exact fun target h => hstep target (fun acts => hG acts target h)
    | inr x =>
      rw [ho] at hG
      obtain ⟨a, ce, g1, g2, g3, g4, hG⟩ := hG
      exact ⟨a, ce, g1, g2, g3, g4, fun target h => hstep target (fun acts => hG acts target h)⟩
theorem am_call1 (hC : am_Cx Ω (d + 1) m p e R s mid args meth c) {i : Instr} (hd : decode (am_b m) pc = .ok (i, len)) {cal : Nat} {as : List am_V} {σ' : am_S} (h : am_st (am_sh Ω) m i len pc L S M n = some (Sum.inr (Sum.inr (cal, as, σ')))) {o : am_O} (hSd : am_Sd l Ω d cal σ'.2.2.2.1 as o) (haf : am_af Ω m p l e R s mid args below meth c Q cal o σ'.1 σ'.2.1 σ'.2.2.1 σ'.2.2.2.2) : am_nx Ω m p l e R s mid args below meth c Q (pc, L, S, M, n) := by
  have hco : (am_co (am_sh Ω) m i len pc L S M n).map (Sum.inl (β := am_O ⊕ am_C)) = some (Sum.inr (Sum.inr (cal, as, σ'))) → False := fun q => by
    cases hq : am_co (am_sh Ω) m i len pc L S M n with
    | none => rw [hq] at q; cases q
    | some z => rw [hq] at q; cases q
  cases i with
  | invokevirtual idx =>
    obtain ⟨c', k, hml, rfl, hk1, hk2, hbud, hr, he⟩ := am_inv_inv (kind := 1) (idx := idx) h
    cases he
    rcases hr with h01 | hr
    · cases h01
    · exact am_s_callV hC hd hml hk1 hk2 hbud hr hSd haf
  | invokestatic idx =>
    have h' : (if am_ac m idx = true then (am_cpy (am_sh Ω) len pc L S M n).map Sum.inl else am_inv (am_sh Ω) 0 m idx len pc L S M n) = some (Sum.inr (Sum.inr (cal, as, σ'))) := h
    split at h'
    · cases hq : am_cpy (am_sh Ω) len pc L S M n with
      | none => rw [hq] at h'; cases h'
      | some z => rw [hq] at h'; cases h'
    · obtain ⟨c', k, hml, rfl, hk1, hk2, hbud, hr, he⟩ := am_inv_inv h'
      cases he
      exact am_s_callS hC hd hml hk1 hk2 hbud hSd haf
  | ireturn => obtain ⟨v, -, -, -, -, hr⟩ := am_iret_inv (r := Sum.inr (Sum.inr (cal, as, σ'))) h; cases hr
  | areturn => obtain ⟨v, -, -, -, -, hr⟩ := am_aret_inv (r := Sum.inr (Sum.inr (cal, as, σ'))) h; cases hr
  | return_ => obtain ⟨-, -, -, -, hr⟩ := am_vret_inv (r := Sum.inr (Sum.inr (cal, as, σ'))) h; cases hr
  | new idx => obtain ⟨x, -, -, -, hr⟩ := am_thr_inv (r := Sum.inr (Sum.inr (cal, as, σ'))) h; cases hr
  | _ => exact (hco h).elim
/-- THE WALK: what the abstract machine comes to, the machine comes to -/
theorem am_W (hC : am_Cx Ω (d + 1) m p e R s mid args meth c) {Cr : Nat → am_M → List am_V → am_O → Prop} (hCr : ∀ cal M as o, Cr cal M as o → am_Sd l Ω d cal M as o) {P : am_S ⊕ am_O → Prop} (hP : ∀ σ, P (Sum.inl σ) → am_nx Ω m p l e R s mid args below meth c Q σ) (hfin : ∀ o, P (Sum.inr o) → ∀ (t : State) (oc : Outcome), t.status = .running → Ended t below oc → am_Q Ω o (am_bud m) s oc t → Q t) : ∀ (f : Nat) (σ : am_S), am_wp (am_sh Ω) Cr m f σ P → am_nx Ω m p l e R s mid args below meth c Q σ := by
  intro f
  induction f with
  | zero => exact fun σ h => hP σ h
  | succ f ih =>
    intro σ h
    obtain ⟨pc, L, S, M, n⟩ := σ
    unfold am_wp at h
    cases hat : am_at (am_sh Ω) m (pc, L, S, M, n) with
    | none => rw [hat] at h; exact h.elim
    | some r =>
      rw [hat] at h
      unfold am_at at hat
      dsimp only at hat
      cases hd : decode (am_b m) pc with
      | error z => rw [hd] at hat; cases hat
      | ok il =>
        obtain ⟨i, len⟩ := il
        rw [hd] at hat
        dsimp only at hat
        match r, h, hat with
        | .inl σ', h, hat =>
          have hk := ih σ' h
          by_cases hac : ∃ idx, i = .invokestatic idx
          · obtain ⟨idx, rfl⟩ := hac
            have h' : (if am_ac m idx = true then (am_cpy (am_sh Ω) len pc L S M n).map Sum.inl else am_inv (am_sh Ω) 0 m idx len pc L S M n) = some (Sum.inl σ') := hat
            split at h'
            · rename_i hac
              cases hq : am_cpy (am_sh Ω) len pc L S M n with
              | none => rw [hq] at h'; cases h'
              | some z =>
                rw [hq] at h'
                cases h'
                exact am_s_cpy hC hd hac hq hk
            · obtain ⟨c', k, -, -, -, -, -, -, he⟩ := am_inv_inv h'
              cases he
          · have hq : am_co (am_sh Ω) m i len pc L S M n = some σ' := by
              have hmp : (am_co (am_sh Ω) m i len pc L S M n).map (Sum.inl (β := am_O ⊕ am_C)) = some (Sum.inl σ') := by
                cases i with
                | invokestatic idx => exact absurd ⟨idx, rfl⟩ hac
                | invokevirtual idx => obtain ⟨c', k, -, -, -, -, -, -, he⟩ := am_inv_inv (kind := 1) (idx := idx) (r := Sum.inl σ') hat; cases he
                | ireturn => obtain ⟨v, -, -, -, -, hr⟩ := am_iret_inv (r := Sum.inl σ') hat; cases hr
                | areturn => obtain ⟨v, -, -, -, -, hr⟩ := am_aret_inv (r := Sum.inl σ') hat; cases hr
                | return_ => obtain ⟨-, -, -, -, hr⟩ := am_vret_inv (r := Sum.inl σ') hat; cases hr
                | new idx => obtain ⟨x, -, -, -, hr⟩ := am_thr_inv (r := Sum.inl σ') hat; cases hr
                | _ => exact hat
              cases hz : am_co (am_sh Ω) m i len pc L S M n with
              | none => rw [hz] at hmp; cases hmp
              | some z => rw [hz] at hmp; cases hmp; rfl
            exact am_step1 hC hd hq hk
        | .inr (.inl o), h, hat =>
          by_cases hnew : ∃ idx, i = .new idx
          · obtain ⟨idx, rfl⟩ := hnew
            exact am_s_thr hC hat (hfin o h)
          · exact am_fin1 hC hd (fun idx q => hnew ⟨idx, q⟩) hat (hfin o h)
        | .inr (.inr (cal, as, σ')), h, hat =>
          obtain ⟨o, hcr, h⟩ := h
          refine am_call1 hC hd hat (hCr _ _ _ _ hcr) ?_
          unfold am_af
          cases ho : o.2 with
          | inl v =>
            rw [ho] at h
            exact ih _ h
          | inr x =>
            rw [ho] at h
            dsimp only at h ⊢
            cases hh : am_hd m σ'.1 x with
            | none => rw [hh] at h; exact h
            | some oh =>
              rw [hh] at h
              cases oh with
              | none => exact hfin _ h
              | some hp => exact fun a => ih _ (h a)
theorem am_ent_get {ad : am_K → Nat} {as : List am_V} {N i : Nat} {z : Slot} (h : (((as.map (am_c ad)).map Slot.val ++ List.replicate N Slot.unset).toArray)[i]? = some z) : (∃ v, as[i]? = some v ∧ z = .val (am_c ad v)) ∨ z = Slot.unset := by
  rw [List.getElem?_toArray] at h
  by_cases hi : i < as.length
  · rw [List.getElem?_append_left (by simpa using hi)] at h
    simp only [List.getElem?_map] at h
    cases ha : as[i]? with
    | none => rw [ha] at h; cases h
    | some v => rw [ha] at h; cases h; exact Or.inl ⟨v, rfl, rfl⟩
  · rw [List.getElem?_append_right (by simpa using hi)] at h
    exact Or.inr (List.eq_of_mem_replicate (List.mem_of_getElem? h))
theorem am_ent_at {m : Nat} {as : List am_V} {i : Nat} {v : am_V} (h : (am_ent m as)[i]? = some (some v)) : as[i]? = some v := by
  unfold am_ent at h
  by_cases hi : i < as.length
  · rw [List.getElem?_append_left (by simpa using hi), List.getElem?_map] at h
    cases ha : as[i]? with
    | none => rw [ha] at h; cases h
    | some w => rw [ha] at h; cases h; rfl
  · rw [List.getElem?_append_right (by simpa using hi)] at h
    cases List.eq_of_mem_replicate (List.mem_of_getElem? h)
theorem am_ent_lv {m : Nat} {as : List am_V} (hlen : as.length ≤ am_mL m) (hnl : ∀ v ∈ as, am_isL v = false) : am_lv Ω (am_mL m) (((as.map (am_c (am_ad Ω))).map Slot.val ++ List.replicate (am_mL m - (as.map (am_c (am_ad Ω))).length) Slot.unset).toArray) (am_ent m as) := by
  refine ⟨by simp; omega, by simp [am_ent]; omega, ⟨fun i v h hc => ?_, fun i h => ?_⟩, fun i v h => ?_, fun i v h => ?_⟩
  · rcases am_ent_get h with ⟨w, hw, he⟩ | he
    · cases he
      have := am_c_cat (ad := am_ad Ω) (hnl w (List.mem_of_getElem? hw))
      omega
    · cases he
  · rcases am_ent_get h with ⟨w, hw, he⟩ | he <;> cases he
  · exact hnl v (List.mem_of_getElem? (am_ent_at h))
  · have ha := am_ent_at h
    have hi : i < as.length := (List.getElem?_eq_some_iff.mp ha).1
    rw [List.getElem?_toArray, List.getElem?_append_left (by simpa using hi)]
    simp [List.getElem?_map, ha]
theorem am_ent_eq {ad : am_K → Nat} {m : Nat} {mid : MethodId} {as : List am_V} (hnl : ∀ v ∈ as, am_isL v = false) : entryFrame mid (as.map (am_c ad)).toArray (am_mL m) = F0 mid 0 (((as.map (am_c ad)).map Slot.val ++ List.replicate (am_mL m - (as.map (am_c ad)).length) Slot.unset).toArray) [] :=
  entry_eq mid _ (fun v hv => by
    obtain ⟨w, hw, rfl⟩ := List.mem_map.mp hv
    exact am_c_cat (hnl w hw)) _
/-- every call that the abstract machine makes, the machine makes -/
theorem am_sound (l : Launch) (Ω : am_Ω) : ∀ (d cal : Nat) (M : am_M) (as : List am_V) (o : am_O), am_cr (am_sh Ω) d cal M as o → am_Sd l Ω d cal M as o := by
  intro d
  induction d with
  | zero => exact fun _ _ _ _ h => h.elim
  | succ d ih =>
    intro cal M as o h
    obtain ⟨hlen, hnl, f, hf⟩ := h
    intro p e R s mid args below meth c T X hC hT hargs hP hs
    have hw := am_W (Q := fun t => ∃ oc, t.status = .running ∧ Ended t below oc ∧ am_Q Ω o (am_bud cal) s oc t) (l := l) (below := below) hC (fun cal M as o h => ih cal M as o h) (P := fun r => r = Sum.inr o) (fun σ q => by cases q) (fun o' q t oc h1 h2 h3 => ⟨oc, h1, h2, by cases q; exact h3⟩) f _ hf
    have hent := am_ent_lv (Ω := Ω) (m := cal) hlen hnl
    subst hargs
    obtain ⟨t, st, oc, h1, h2, h3⟩ := hw s.heap [] _ hent hP va_S.rf hs T hT X
    refine ⟨t, oc, ?_, h1, h2, h3⟩
    rw [am_ent_eq hnl]
    exact st
end RUN2
end
section
-- the abstract machine, instruction by instruction
def am_ev (sh : am_Sh) (C : Nat → am_M → List am_V → am_O → Prop) (m : Nat) (σ : am_S) (P : am_S ⊕ am_O → Prop) : Prop := ∃ f, am_wp sh C m f σ P
theorem am_ev_stop {sh : am_Sh} {C : Nat → am_M → List am_V → am_O → Prop} {m : Nat} {σ : am_S} {P : am_S ⊕ am_O → Prop} (h : P (Sum.inl σ)) : am_ev sh C m σ P := ⟨0, h⟩
theorem am_ev_step {sh : am_Sh} {C : Nat → am_M → List am_V → am_O → Prop} {m : Nat} {σ σ' : am_S} {P : am_S ⊕ am_O → Prop} (h : am_at sh m σ = some (Sum.inl σ')) (k : am_ev sh C m σ' P) : am_ev sh C m σ P := by
  obtain ⟨f, hf⟩ := k
  exact ⟨f + 1, by unfold am_wp; rw [h]; exact hf⟩
theorem am_ev_end {sh : am_Sh} {C : Nat → am_M → List am_V → am_O → Prop} {m : Nat} {σ : am_S} {o : am_O} {P : am_S ⊕ am_O → Prop} (h : am_at sh m σ = some (Sum.inr (Sum.inl o))) (k : P (Sum.inr o)) : am_ev sh C m σ P :=
  ⟨1, by unfold am_wp; rw [h]; exact k⟩
theorem am_ev_call {sh : am_Sh} {C : Nat → am_M → List am_V → am_O → Prop} {m c pc n : Nat} {as : List am_V} {L : am_Ls} {S : List am_V} {M M' : am_M} {v : Option am_V} {σ : am_S} {P : am_S ⊕ am_O → Prop} (h : am_at sh m σ = some (Sum.inr (Sum.inr (c, as, (pc, L, S, M, n))))) (hc : C c M as (M', Sum.inl v)) (k : am_ev sh C m (pc + 3, L, v.toList ++ S, M', n + am_bud c) P) : am_ev sh C m σ P := by
  obtain ⟨f, hf⟩ := k
  exact ⟨f + 1, by unfold am_wp; rw [h]; exact ⟨_, hc, hf⟩⟩
theorem am_ev_thrown {sh : am_Sh} {C : Nat → am_M → List am_V → am_O → Prop} {m c pc n x : Nat} {as : List am_V} {L : am_Ls} {S : List am_V} {M M' : am_M} {σ : am_S} {P : am_S ⊕ am_O → Prop} (h : am_at sh m σ = some (Sum.inr (Sum.inr (c, as, (pc, L, S, M, n))))) (hc : C c M as (M', Sum.inr x)) (hh : am_hd m pc x = some none) (k : P (Sum.inr (M', Sum.inr x))) : am_ev sh C m σ P :=
  ⟨1, by unfold am_wp; rw [h]; exact ⟨_, hc, by dsimp only; rw [hh]; exact k⟩⟩
theorem am_wp_up {sh : am_Sh} {C : Nat → am_M → List am_V → am_O → Prop} {m : Nat} {P : am_S ⊕ am_O → Prop} (hP : ∀ σ, ¬ P (Sum.inl σ)) : ∀ (f : Nat) (σ : am_S), am_wp sh C m f σ P → ∀ f', f ≤ f' → am_wp sh C m f' σ P := by
  intro f
  induction f with
  | zero => exact fun σ q => absurd q (hP σ)
  | succ f ih =>
    intro σ q f' hf
    obtain ⟨f'', rfl⟩ : ∃ f'', f' = f'' + 1 := ⟨f' - 1, by omega⟩
    unfold am_wp at q ⊢
    cases hat : am_at sh m σ with
    | none => rw [hat] at q; exact q
    | some r =>
      rw [hat] at q
      match r, q with
      | .inl σ', q => exact ih σ' q f'' (by omega)
      | .inr (.inl o), q => exact q
      | .inr (.inr (c, as, σ')), q =>
        obtain ⟨o, hc, q⟩ := q
        refine ⟨o, hc, ?_⟩
        cases ho : o.2 with
        | inl v => rw [ho] at q; exact ih _ q f'' (by omega)
        | inr x =>
          rw [ho] at q
          dsimp only at q ⊢
          cases hh : am_hd m σ'.1 x with
          | none => rw [hh] at q; exact q
          | some oh =>
            rw [hh] at q
            cases oh with
            | none => exact q
            | some hp => exact fun a => ih _ (q a) f'' (by omega)
/-- caught: the same fuel for every address -/
theorem am_ev_caught {sh : am_Sh} {C : Nat → am_M → List am_V → am_O → Prop} {m c pc n x hp : Nat} {as : List am_V} {L : am_Ls} {S : List am_V} {M M' : am_M} {σ : am_S} {P : am_S ⊕ am_O → Prop} (h : am_at sh m σ = some (Sum.inr (Sum.inr (c, as, (pc, L, S, M, n))))) (hc : C c M as (M', Sum.inr x)) (hh : am_hd m pc x = some (some hp)) {f : Nat} (k : ∀ a, am_wp sh C m f (hp, L, [am_X a], M', n + am_bud c) P) : am_ev sh C m σ P :=
  ⟨f + 1, by unfold am_wp; rw [h]; exact ⟨_, hc, by dsimp only; rw [hh]; exact k⟩⟩
theorem am_at_of {sh : am_Sh} {m pc len : Nat} {i : Instr} {L : am_Ls} {S : List am_V} {M : am_M} {n : Nat} (hd : decode (am_b m) pc = .ok (i, len)) : am_at sh m (pc, L, S, M, n) = am_st sh m i len pc L S M n := by
  unfold am_at
  dsimp only
  rw [hd]
theorem am_wp_mono {sh : am_Sh} {C : Nat → am_M → List am_V → am_O → Prop} {m : Nat} {P P' : am_S ⊕ am_O → Prop} (h : ∀ r, P r → P' r) : ∀ (f : Nat) (σ : am_S), am_wp sh C m f σ P → am_wp sh C m f σ P' := by
  intro f
  induction f with
  | zero => exact fun σ q => h _ q
  | succ f ih =>
    intro σ q
    unfold am_wp at q ⊢
    cases hat : am_at sh m σ with
    | none => rw [hat] at q; exact q
    | some r =>
      rw [hat] at q
      match r, q with
      | .inl σ', q => exact ih σ' q
      | .inr (.inl o), q => exact h _ q
      | .inr (.inr (c, as, σ')), q =>
        obtain ⟨o, hc, q⟩ := q
        refine ⟨o, hc, ?_⟩
        cases ho : o.2 with
        | inl v => rw [ho] at q; exact ih _ q
        | inr x =>
          rw [ho] at q
          dsimp only at q ⊢
          cases hh : am_hd m σ'.1 x with
          | none => rw [hh] at q; exact q
          | some oh =>
            rw [hh] at q
            cases oh with
            | none => exact h _ q
            | some hp => exact fun a => ih _ (q a)
section EV
variable {sh : am_Sh} {C : Nat → am_M → List am_V → am_O → Prop} {m pc pc' : Nat} {L : am_Ls} {S : List am_V} {M : am_M} {n : Nat} {P : am_S ⊕ am_O → Prop}
theorem am_e_iconst {k : Int} {v : Int32} (hd : decode (am_b m) pc = .ok (.iconst k, 1)) (hv : Int32.ofInt k = v) (hp : pc + 1 = pc') (kk : am_ev sh C m (pc', L, am_I v :: S, M, n) P) : am_ev sh C m (pc, L, S, M, n) P := by
  subst hv; subst hp
  exact am_ev_step ((am_at_of hd).trans rfl) kk
theorem am_e_bipush {k : Int} {v : Int32} (hd : decode (am_b m) pc = .ok (.bipush k, 2)) (hv : (Int8.ofInt k).toInt32 = v) (hp : pc + 2 = pc') (kk : am_ev sh C m (pc', L, am_I v :: S, M, n) P) : am_ev sh C m (pc, L, S, M, n) P := by
  subst hv; subst hp
  exact am_ev_step ((am_at_of hd).trans rfl) kk
theorem am_e_sipush {k : Int} {v : Int32} (hd : decode (am_b m) pc = .ok (.sipush k, 3)) (hv : (Int16.ofInt k).toInt32 = v) (hp : pc + 3 = pc') (kk : am_ev sh C m (pc', L, am_I v :: S, M, n) P) : am_ev sh C m (pc, L, S, M, n) P := by
  subst hv; subst hp
  exact am_ev_step ((am_at_of hd).trans rfl) kk
theorem am_e_ldc {idx : Nat} {v : Int32} (hd : decode (am_b m) pc = .ok (.ldc idx, 2)) (hv : am_kc m idx = some v) (hp : pc + 2 = pc') (kk : am_ev sh C m (pc', L, am_I v :: S, M, n) P) : am_ev sh C m (pc, L, S, M, n) P := by
  subst hp
  refine am_ev_step ((am_at_of hd).trans ?_) kk
  show (match am_kc m idx with
    | some v => am_ps 2 2 (am_I v) pc L S M n
    | none => none).map Sum.inl = _
  rw [hv]
  rfl
theorem am_e_null (hd : decode (am_b m) pc = .ok (.aconst_null, 1)) (hp : pc + 1 = pc') (kk : am_ev sh C m (pc', L, am_R none :: S, M, n) P) : am_ev sh C m (pc, L, S, M, n) P := by
  subst hp
  exact am_ev_step ((am_at_of hd).trans rfl) kk
theorem am_e_iload_n {k : Fin 4} {x : Int32} (hd : decode (am_b m) pc = .ok (.iload_n k, 1)) (hl : L[k.val]? = some (some (am_I x))) (hp : pc + 1 = pc') (kk : am_ev sh C m (pc', L, am_I x :: S, M, n) P) : am_ev sh C m (pc, L, S, M, n) P := by
  subst hp
  refine am_ev_step ((am_at_of hd).trans ?_) kk
  show (am_ldi 1 1 k.val pc L S M n).map Sum.inl = _
  unfold am_ldi
  rw [if_pos rfl, hl]
  rfl
theorem am_e_iload {k : Nat} {x : Int32} (hd : decode (am_b m) pc = .ok (.iload k, 2)) (hl : L[k]? = some (some (am_I x))) (hp : pc + 2 = pc') (kk : am_ev sh C m (pc', L, am_I x :: S, M, n) P) : am_ev sh C m (pc, L, S, M, n) P := by
  subst hp
  refine am_ev_step ((am_at_of hd).trans ?_) kk
  show (am_ldi 2 2 k pc L S M n).map Sum.inl = _
  unfold am_ldi
  rw [if_pos rfl, hl]
  rfl
theorem am_e_aload_n {k : Fin 4} {x : Option am_K ⊕ Nat} (hd : decode (am_b m) pc = .ok (.aload_n k, 1)) (hl : L[k.val]? = some (some (Sum.inr (Sum.inr x)))) (hp : pc + 1 = pc') (kk : am_ev sh C m (pc', L, Sum.inr (Sum.inr x) :: S, M, n) P) : am_ev sh C m (pc, L, S, M, n) P := by
  subst hp
  refine am_ev_step ((am_at_of hd).trans ?_) kk
  show (am_lda 1 1 k.val pc L S M n).map Sum.inl = _
  unfold am_lda
  rw [if_pos rfl, hl]
  rfl
theorem am_e_aload {k : Nat} {x : Option am_K ⊕ Nat} (hd : decode (am_b m) pc = .ok (.aload k, 2)) (hl : L[k]? = some (some (Sum.inr (Sum.inr x)))) (hp : pc + 2 = pc') (kk : am_ev sh C m (pc', L, Sum.inr (Sum.inr x) :: S, M, n) P) : am_ev sh C m (pc, L, S, M, n) P := by
  subst hp
  refine am_ev_step ((am_at_of hd).trans ?_) kk
  show (am_lda 2 2 k pc L S M n).map Sum.inl = _
  unfold am_lda
  rw [if_pos rfl, hl]
  rfl
theorem am_e_istore_n {k : Fin 4} {x : Int32} {L' : am_Ls} (hd : decode (am_b m) pc = .ok (.istore_n k, 1)) (hk : k.val < L.length) (hl : L.set k.val (some (am_I x)) = L') (hp : pc + 1 = pc') (kk : am_ev sh C m (pc', L', S, M, n) P) : am_ev sh C m (pc, L, am_I x :: S, M, n) P := by
  subst hp; subst hl
  refine am_ev_step ((am_at_of hd).trans ?_) kk
  show (am_sti 1 1 k.val pc L (am_I x :: S) M n).map Sum.inl = _
  unfold am_sti
  dsimp only
  rw [if_pos ⟨rfl, hk⟩]
  rfl
theorem am_e_istore {k : Nat} {x : Int32} {L' : am_Ls} (hd : decode (am_b m) pc = .ok (.istore k, 2)) (hk : k < L.length) (hl : L.set k (some (am_I x)) = L') (hp : pc + 2 = pc') (kk : am_ev sh C m (pc', L', S, M, n) P) : am_ev sh C m (pc, L, am_I x :: S, M, n) P := by
  subst hp; subst hl
  refine am_ev_step ((am_at_of hd).trans ?_) kk
  show (am_sti 2 2 k pc L (am_I x :: S) M n).map Sum.inl = _
  unfold am_sti
  dsimp only
  rw [if_pos ⟨rfl, hk⟩]
  rfl
theorem am_e_astore_n {k : Fin 4} {x : Option am_K ⊕ Nat} {L' : am_Ls} (hd : decode (am_b m) pc = .ok (.astore_n k, 1)) (hk : k.val < L.length) (hl : L.set k.val (some (Sum.inr (Sum.inr x))) = L') (hp : pc + 1 = pc') (kk : am_ev sh C m (pc', L', S, M, n) P) : am_ev sh C m (pc, L, Sum.inr (Sum.inr x) :: S, M, n) P := by
  subst hp; subst hl
  refine am_ev_step ((am_at_of hd).trans ?_) kk
  show (am_sta 1 1 k.val pc L (Sum.inr (Sum.inr x) :: S) M n).map Sum.inl = _
  unfold am_sta
  dsimp only
  rw [if_pos ⟨rfl, hk⟩]
  rfl
theorem am_e_astore {k : Nat} {x : Option am_K ⊕ Nat} {L' : am_Ls} (hd : decode (am_b m) pc = .ok (.astore k, 2)) (hk : k < L.length) (hl : L.set k (some (Sum.inr (Sum.inr x))) = L') (hp : pc + 2 = pc') (kk : am_ev sh C m (pc', L', S, M, n) P) : am_ev sh C m (pc, L, Sum.inr (Sum.inr x) :: S, M, n) P := by
  subst hp; subst hl
  refine am_ev_step ((am_at_of hd).trans ?_) kk
  show (am_sta 2 2 k pc L (Sum.inr (Sum.inr x) :: S) M n).map Sum.inl = _
  unfold am_sta
  dsimp only
  rw [if_pos ⟨rfl, hk⟩]
  rfl
theorem am_e_iinc {k : Nat} {c : Int} {x v : Int32} {L' : am_Ls} (hd : decode (am_b m) pc = .ok (.iinc k c, 3)) (hl : L[k]? = some (some (am_I x))) (hv : x + Int32.ofInt c = v) (hs : L.set k (some (am_I v)) = L') (hp : pc + 3 = pc') (kk : am_ev sh C m (pc', L', S, M, n) P) : am_ev sh C m (pc, L, S, M, n) P := by
  subst hp; subst hs; subst hv
  refine am_ev_step ((am_at_of hd).trans ?_) kk
  show (am_inc k c 3 pc L S M n).map Sum.inl = _
  unfold am_inc
  rw [if_pos rfl, hl]
  rfl
theorem am_e_iadd {x y : Int32} (hd : decode (am_b m) pc = .ok (.iadd, 1)) (hp : pc + 1 = pc') (kk : am_ev sh C m (pc', L, am_I (x + y) :: S, M, n) P) : am_ev sh C m (pc, L, am_I y :: am_I x :: S, M, n) P := by
  subst hp; exact am_ev_step ((am_at_of hd).trans rfl) kk
theorem am_e_isub {x y : Int32} (hd : decode (am_b m) pc = .ok (.isub, 1)) (hp : pc + 1 = pc') (kk : am_ev sh C m (pc', L, am_I (x - y) :: S, M, n) P) : am_ev sh C m (pc, L, am_I y :: am_I x :: S, M, n) P := by
  subst hp; exact am_ev_step ((am_at_of hd).trans rfl) kk
theorem am_e_imul {x y : Int32} (hd : decode (am_b m) pc = .ok (.imul, 1)) (hp : pc + 1 = pc') (kk : am_ev sh C m (pc', L, am_I (x * y) :: S, M, n) P) : am_ev sh C m (pc, L, am_I y :: am_I x :: S, M, n) P := by
  subst hp; exact am_ev_step ((am_at_of hd).trans rfl) kk
theorem am_e_iand {x y : Int32} (hd : decode (am_b m) pc = .ok (.iand, 1)) (hp : pc + 1 = pc') (kk : am_ev sh C m (pc', L, am_I (x &&& y) :: S, M, n) P) : am_ev sh C m (pc, L, am_I y :: am_I x :: S, M, n) P := by
  subst hp; exact am_ev_step ((am_at_of hd).trans rfl) kk
theorem am_e_ior {x y : Int32} (hd : decode (am_b m) pc = .ok (.ior, 1)) (hp : pc + 1 = pc') (kk : am_ev sh C m (pc', L, am_I (x ||| y) :: S, M, n) P) : am_ev sh C m (pc, L, am_I y :: am_I x :: S, M, n) P := by
  subst hp; exact am_ev_step ((am_at_of hd).trans rfl) kk
theorem am_e_ixor {x y : Int32} (hd : decode (am_b m) pc = .ok (.ixor, 1)) (hp : pc + 1 = pc') (kk : am_ev sh C m (pc', L, am_I (x ^^^ y) :: S, M, n) P) : am_ev sh C m (pc, L, am_I y :: am_I x :: S, M, n) P := by
  subst hp; exact am_ev_step ((am_at_of hd).trans rfl) kk
theorem am_e_ishl {x y : Int32} (hd : decode (am_b m) pc = .ok (.ishl, 1)) (hp : pc + 1 = pc') (kk : am_ev sh C m (pc', L, am_I (x <<< (y &&& 31)) :: S, M, n) P) : am_ev sh C m (pc, L, am_I y :: am_I x :: S, M, n) P := by
  subst hp; exact am_ev_step ((am_at_of hd).trans rfl) kk
theorem am_e_ishr {x y : Int32} (hd : decode (am_b m) pc = .ok (.ishr, 1)) (hp : pc + 1 = pc') (kk : am_ev sh C m (pc', L, am_I (x >>> (y &&& 31)) :: S, M, n) P) : am_ev sh C m (pc, L, am_I y :: am_I x :: S, M, n) P := by
  subst hp; exact am_ev_step ((am_at_of hd).trans rfl) kk
theorem am_e_iushr {x y : Int32} (hd : decode (am_b m) pc = .ok (.iushr, 1)) (hp : pc + 1 = pc') (kk : am_ev sh C m (pc', L, am_I ((x.toUInt32 >>> (y.toUInt32 &&& Int32.toUInt32 31)).toInt32) :: S, M, n) P) : am_ev sh C m (pc, L, am_I y :: am_I x :: S, M, n) P := by
  subst hp; exact am_ev_step ((am_at_of hd).trans rfl) kk
theorem am_e_idiv {x y : Int32} (hd : decode (am_b m) pc = .ok (.idiv, 1)) (hy : ¬ y = 0) (hp : pc + 1 = pc') (kk : am_ev sh C m (pc', L, am_I (x / y) :: S, M, n) P) : am_ev sh C m (pc, L, am_I y :: am_I x :: S, M, n) P := by
  subst hp
  refine am_ev_step ((am_at_of hd).trans ?_) kk
  show (am_div (fun x y => x / y) 1 pc L (am_I y :: am_I x :: S) M n).map Sum.inl = _
  unfold am_div
  dsimp only
  rw [if_pos ⟨rfl, hy⟩]
  rfl
theorem am_e_irem {x y : Int32} (hd : decode (am_b m) pc = .ok (.irem, 1)) (hy : ¬ y = 0) (hp : pc + 1 = pc') (kk : am_ev sh C m (pc', L, am_I (x - x / y * y) :: S, M, n) P) : am_ev sh C m (pc, L, am_I y :: am_I x :: S, M, n) P := by
  subst hp
  refine am_ev_step ((am_at_of hd).trans ?_) kk
  show (am_div (fun x y => x - x / y * y) 1 pc L (am_I y :: am_I x :: S) M n).map Sum.inl = _
  unfold am_div
  dsimp only
  rw [if_pos ⟨rfl, hy⟩]
  rfl
theorem am_e_ineg {x : Int32} (hd : decode (am_b m) pc = .ok (.ineg, 1)) (hp : pc + 1 = pc') (kk : am_ev sh C m (pc', L, am_I (-x) :: S, M, n) P) : am_ev sh C m (pc, L, am_I x :: S, M, n) P := by
  subst hp; exact am_ev_step ((am_at_of hd).trans rfl) kk
theorem am_e_i2l {x : Int32} (hd : decode (am_b m) pc = .ok (.i2l, 1)) (hp : pc + 1 = pc') (kk : am_ev sh C m (pc', L, am_L x :: S, M, n) P) : am_ev sh C m (pc, L, am_I x :: S, M, n) P := by
  subst hp; exact am_ev_step ((am_at_of hd).trans rfl) kk
theorem am_e_lcmp {x y : Int32} (hd : decode (am_b m) pc = .ok (.lcmp, 1)) (hp : pc + 1 = pc') (kk : am_ev sh C m (pc', L, am_I (lg_cmp x.toInt64 y.toInt64) :: S, M, n) P) : am_ev sh C m (pc, L, am_L y :: am_L x :: S, M, n) P := by
  subst hp; exact am_ev_step ((am_at_of hd).trans rfl) kk
theorem am_e_dup {v : am_V} (hd : decode (am_b m) pc = .ok (.dup, 1)) (hv : am_isL v = false) (hp : pc + 1 = pc') (kk : am_ev sh C m (pc', L, v :: v :: S, M, n) P) : am_ev sh C m (pc, L, v :: S, M, n) P := by
  subst hp
  refine am_ev_step ((am_at_of hd).trans ?_) kk
  show (am_dup 1 pc L (v :: S) M n).map Sum.inl = _
  unfold am_dup
  dsimp only
  rw [if_pos ⟨rfl, hv⟩]
  rfl
theorem am_e_pop {v : am_V} (hd : decode (am_b m) pc = .ok (.pop, 1)) (hv : am_isL v = false) (hp : pc + 1 = pc') (kk : am_ev sh C m (pc', L, S, M, n) P) : am_ev sh C m (pc, L, v :: S, M, n) P := by
  subst hp
  refine am_ev_step ((am_at_of hd).trans ?_) kk
  show (am_pop 1 pc L (v :: S) M n).map Sum.inl = _
  unfold am_pop
  dsimp only
  rw [if_pos ⟨rfl, hv⟩]
  rfl
theorem am_e_dup_x1 {v w : am_V} (hd : decode (am_b m) pc = .ok (.dup_x1, 1)) (hv : am_isL v = false) (hw : am_isL w = false) (hp : pc + 1 = pc') (kk : am_ev sh C m (pc', L, v :: w :: v :: S, M, n) P) : am_ev sh C m (pc, L, v :: w :: S, M, n) P := by
  subst hp
  refine am_ev_step ((am_at_of hd).trans ?_) kk
  show (am_dx1 1 pc L (v :: w :: S) M n).map Sum.inl = _
  unfold am_dx1
  dsimp only
  rw [if_pos ⟨rfl, hv, hw⟩]
  rfl
theorem am_e_dup_x2 {v w u : am_V} (hd : decode (am_b m) pc = .ok (.dup_x2, 1)) (hv : am_isL v = false) (hw : am_isL w = false) (hu : am_isL u = false) (hp : pc + 1 = pc') (kk : am_ev sh C m (pc', L, v :: w :: u :: v :: S, M, n) P) : am_ev sh C m (pc, L, v :: w :: u :: S, M, n) P := by
  subst hp
  refine am_ev_step ((am_at_of hd).trans ?_) kk
  show (am_dx2 1 pc L (v :: w :: u :: S) M n).map Sum.inl = _
  unfold am_dx2
  dsimp only
  rw [if_pos ⟨rfl, hv, hw, hu⟩]
  rfl
theorem am_e_dup2 {v w : am_V} (hd : decode (am_b m) pc = .ok (.dup2, 1)) (hv : am_isL v = false) (hw : am_isL w = false) (hp : pc + 1 = pc') (kk : am_ev sh C m (pc', L, v :: w :: v :: w :: S, M, n) P) : am_ev sh C m (pc, L, v :: w :: S, M, n) P := by
  subst hp
  refine am_ev_step ((am_at_of hd).trans ?_) kk
  show (am_d2 1 pc L (v :: w :: S) M n).map Sum.inl = _
  unfold am_d2
  dsimp only
  rw [if_pos ⟨rfl, hv, hw⟩]
  rfl
theorem am_jmp_eq {off : Int} {tgt : Nat} (ht : (pc : Int) + off = (tgt : Int)) : am_jmp off pc L S M n = some (tgt, L, S, M, n) := by
  unfold am_jmp
  rw [ht, if_pos (Int.natCast_nonneg tgt)]
  rfl
theorem am_e_goto {off : Int} (hd : decode (am_b m) pc = .ok (.goto off, 3)) (ht : (pc : Int) + off = (pc' : Int)) (kk : am_ev sh C m (pc', L, S, M, n) P) : am_ev sh C m (pc, L, S, M, n) P := by
  refine am_ev_step ((am_at_of hd).trans ?_) kk
  show (if 3 = 3 then am_jmp off pc L S M n else none).map Sum.inl = _
  rw [if_pos rfl, am_jmp_eq ht]
  rfl
theorem am_br_eq {c : Bool} {off : Int} {tgt : Nat} (ht : (pc : Int) + off = (tgt : Int)) : am_br c off 3 pc L S M n = (if c = true then some (tgt, L, S, M, n) else some (pc + 3, L, S, M, n)) := by
  unfold am_br
  rw [ht, if_pos ⟨rfl, Int.natCast_nonneg tgt⟩]
  rfl
theorem am_ev_br {c : Bool} {off : Int} {tgt : Nat} {S' : List am_V} (hs : am_at sh m (pc, L, S, M, n) = (am_br c off 3 pc L S' M n).map Sum.inl) (ht : (pc : Int) + off = (tgt : Int)) (hp : pc + 3 = pc') (k1 : c = true → am_ev sh C m (tgt, L, S', M, n) P) (k2 : c = false → am_ev sh C m (pc', L, S', M, n) P) : am_ev sh C m (pc, L, S, M, n) P := by
  subst hp
  rw [am_br_eq ht] at hs
  cases c with
  | true => exact am_ev_step hs (k1 rfl)
  | false => exact am_ev_step hs (k2 rfl)
theorem am_e_if {cn : Jvm.ClassFile.Cond} {x : Int32} {off : Int} {tgt : Nat} (hd : decode (am_b m) pc = .ok (.ifCond cn off, 3)) (ht : (pc : Int) + off = (tgt : Int)) (hp : pc + 3 = pc') (k1 : am_cnd cn x 0 = true → am_ev sh C m (tgt, L, S, M, n) P) (k2 : am_cnd cn x 0 = false → am_ev sh C m (pc', L, S, M, n) P) : am_ev sh C m (pc, L, am_I x :: S, M, n) P :=
  am_ev_br ((am_at_of hd).trans rfl) ht hp k1 k2
theorem am_e_icmp {cn : Jvm.ClassFile.Cond} {x y : Int32} {off : Int} {tgt : Nat} (hd : decode (am_b m) pc = .ok (.if_icmp cn off, 3)) (ht : (pc : Int) + off = (tgt : Int)) (hp : pc + 3 = pc') (k1 : am_cnd cn x y = true → am_ev sh C m (tgt, L, S, M, n) P) (k2 : am_cnd cn x y = false → am_ev sh C m (pc', L, S, M, n) P) : am_ev sh C m (pc, L, am_I y :: am_I x :: S, M, n) P :=
  am_ev_br ((am_at_of hd).trans rfl) ht hp k1 k2
theorem am_e_acmp {cn : Jvm.ClassFile.ACond} {x y : Option am_K} {off : Int} {tgt : Nat} (hd : decode (am_b m) pc = .ok (.if_acmp cn off, 3)) (hx : am_has sh x = true) (hy : am_has sh y = true) (ht : (pc : Int) + off = (tgt : Int)) (hp : pc + 3 = pc') (k1 : am_acn cn x y = true → am_ev sh C m (tgt, L, S, M, n) P) (k2 : am_acn cn x y = false → am_ev sh C m (pc', L, S, M, n) P) : am_ev sh C m (pc, L, am_R y :: am_R x :: S, M, n) P := by
  refine am_ev_br (c := am_acn cn x y) (off := off) (S' := S) ((am_at_of hd).trans ?_) ht hp k1 k2
  show (am_ifa sh cn off 3 pc L (am_R y :: am_R x :: S) M n).map Sum.inl = _
  unfold am_ifa
  dsimp only
  rw [if_pos ⟨hx, hy⟩]
theorem am_e_ifnull {o : Option am_K} {off : Int} {tgt : Nat} (hd : decode (am_b m) pc = .ok (.ifnull off, 3)) (ht : (pc : Int) + off = (tgt : Int)) (hp : pc + 3 = pc') (k1 : o = none → am_ev sh C m (tgt, L, S, M, n) P) (k2 : ∀ k, o = some k → am_ev sh C m (pc', L, S, M, n) P) : am_ev sh C m (pc, L, am_R o :: S, M, n) P := by
  refine am_ev_br (c := o.isNone == true) (off := off) (S' := S) ((am_at_of hd).trans rfl) ht hp (fun h => ?_) (fun h => ?_)
  · cases o with
    | none => exact k1 rfl
    | some k => cases h
  · cases o with
    | none => cases h
    | some k => exact k2 k rfl
theorem am_e_ifnonnull {o : Option am_K} {off : Int} {tgt : Nat} (hd : decode (am_b m) pc = .ok (.ifnonnull off, 3)) (ht : (pc : Int) + off = (tgt : Int)) (hp : pc + 3 = pc') (k1 : ∀ k, o = some k → am_ev sh C m (tgt, L, S, M, n) P) (k2 : o = none → am_ev sh C m (pc', L, S, M, n) P) : am_ev sh C m (pc, L, am_R o :: S, M, n) P := by
  refine am_ev_br (c := o.isNone == false) (off := off) (S' := S) ((am_at_of hd).trans rfl) ht hp (fun h => ?_) (fun h => ?_)
  · cases o with
    | none => cases h
    | some k => exact k1 k rfl
  · cases o with
    | none => exact k2 rfl
    | some k => cases h
theorem am_e_gf {idx ci j : Nat} {k : am_K} {v : am_V} (hd : decode (am_b m) pc = .ok (.getfield idx, 3)) (hf : am_fl m idx = some (ci, j)) (hc : am_ct sh k = some (Sum.inl ci)) (hv : am_fv sh M ci j k = v) (hp : pc + 3 = pc') (kk : am_ev sh C m (pc', L, v :: S, M, n) P) : am_ev sh C m (pc, L, am_R (some k) :: S, M, n) P := by
  subst hp; subst hv
  refine am_ev_step ((am_at_of hd).trans ?_) kk
  show (am_gf sh m idx 3 pc L (am_R (some k) :: S) M n).map Sum.inl = _
  unfold am_gf
  rw [hf]
  dsimp only
  rw [if_pos ⟨rfl, hc⟩]
  rfl
theorem am_e_pf {idx ci j : Nat} {k : am_K} {v : Int32} (hd : decode (am_b m) pc = .ok (.putfield idx, 3)) (hf : am_fl m idx = some (ci, j)) (hc : am_ct sh k = some (Sum.inl ci)) (hw : am_wr ci j = true) (hv : am_fk ci j = 0 ∨ (am_fk ci j = 1 ∧ (v = 0 ∨ v = 1))) (hp : pc + 3 = pc') (kk : am_ev sh C m (pc', L, S, am_up M k j v, n) P) : am_ev sh C m (pc, L, am_I v :: am_R (some k) :: S, M, n) P := by
  subst hp
  refine am_ev_step ((am_at_of hd).trans ?_) kk
  show (am_pf sh m idx 3 pc L (am_I v :: am_R (some k) :: S) M n).map Sum.inl = _
  unfold am_pf
  rw [hf]
  dsimp only
  rw [if_pos ⟨rfl, hc, hw, hv⟩]
  rfl
theorem am_ix_of {i : Int32} {N : Nat} (h : vp_in i N) : am_ix i N = true := decide_eq_true h
theorem am_e_iald {k : am_K} {i : Int32} {N j : Nat} (hd : decode (am_b m) pc = .ok (.iaload, 1)) (hc : am_ct sh k = some (Sum.inr (0, N))) (hi : vp_in i N) (hj : i.toNatClampNeg = j) (hp : pc + 1 = pc') (kk : am_ev sh C m (pc', L, am_I (M k j) :: S, M, n) P) : am_ev sh C m (pc, L, am_I i :: am_R (some k) :: S, M, n) P := by
  subst hp; subst hj
  refine am_ev_step ((am_at_of hd).trans ?_) kk
  show (am_ald sh 0 1 pc L (am_I i :: am_R (some k) :: S) M n).map Sum.inl = _
  unfold am_ald
  dsimp only
  rw [hc]
  dsimp only
  rw [if_pos ⟨rfl, am_ix_of hi, Or.inl rfl⟩]
  rfl
theorem am_e_sald {k : am_K} {i : Int32} {N j : Nat} (hd : decode (am_b m) pc = .ok (.iaload, 1)) (hc : am_ct sh k = some (Sum.inr (5, N))) (hi : vp_in i N) (hj : i.toNatClampNeg = j) (hp : pc + 1 = pc') (kk : am_ev sh C m (pc', L, am_I (M k j) :: S, M, n) P) : am_ev sh C m (pc, L, am_I i :: am_R (some k) :: S, M, n) P := by
  subst hp; subst hj
  refine am_ev_step ((am_at_of hd).trans ?_) kk
  show (am_ald sh 0 1 pc L (am_I i :: am_R (some k) :: S) M n).map Sum.inl = _
  unfold am_ald
  dsimp only
  rw [hc]
  dsimp only
  rw [if_pos ⟨rfl, am_ix_of hi, Or.inr ⟨rfl, rfl⟩⟩]
  rfl
theorem am_e_zald {k : am_K} {i : Int32} {N j : Nat} (hd : decode (am_b m) pc = .ok (.baload, 1)) (hc : am_ct sh k = some (Sum.inr (1, N))) (hi : vp_in i N) (hj : i.toNatClampNeg = j) (hp : pc + 1 = pc') (kk : am_ev sh C m (pc', L, am_I (M k j) :: S, M, n) P) : am_ev sh C m (pc, L, am_I i :: am_R (some k) :: S, M, n) P := by
  subst hp; subst hj
  refine am_ev_step ((am_at_of hd).trans ?_) kk
  show (am_ald sh 1 1 pc L (am_I i :: am_R (some k) :: S) M n).map Sum.inl = _
  unfold am_ald
  dsimp only
  rw [hc]
  dsimp only
  rw [if_pos ⟨rfl, am_ix_of hi, Or.inl rfl⟩]
  rfl
theorem am_e_lald {k : am_K} {i : Int32} {N j : Nat} (hd : decode (am_b m) pc = .ok (.laload, 1)) (hc : am_ct sh k = some (Sum.inr (3, N))) (hi : vp_in i N) (hj : i.toNatClampNeg = j) (hp : pc + 1 = pc') (kk : am_ev sh C m (pc', L, am_L (M k j) :: S, M, n) P) : am_ev sh C m (pc, L, am_I i :: am_R (some k) :: S, M, n) P := by
  subst hp; subst hj
  refine am_ev_step ((am_at_of hd).trans ?_) kk
  show (am_lld sh 1 pc L (am_I i :: am_R (some k) :: S) M n).map Sum.inl = _
  unfold am_lld
  dsimp only
  rw [hc]
  dsimp only
  rw [if_pos ⟨rfl, am_ix_of hi, rfl⟩]
  rfl
theorem am_e_rald {k : am_K} {i : Int32} {N j u : Nat} (hd : decode (am_b m) pc = .ok (.aaload, 1)) (hc : am_ct sh k = some (Sum.inr (u, N))) (hu : u = 2 ∨ u = 4) (hi : vp_in i N) (hj : i.toNatClampNeg = j) {o : Option am_K} (ho : am_rf sh k j = o) (hp : pc + 1 = pc') (kk : am_ev sh C m (pc', L, am_R o :: S, M, n) P) : am_ev sh C m (pc, L, am_I i :: am_R (some k) :: S, M, n) P := by
  subst hp; subst hj; subst ho
  refine am_ev_step ((am_at_of hd).trans ?_) kk
  show (am_rld sh 1 pc L (am_I i :: am_R (some k) :: S) M n).map Sum.inl = _
  unfold am_rld
  dsimp only
  rw [hc]
  dsimp only
  rw [if_pos ⟨rfl, am_ix_of hi, hu⟩]
  rfl
theorem am_e_iast {k : am_K} {i x : Int32} {N j : Nat} (hd : decode (am_b m) pc = .ok (.iastore, 1)) (hc : am_ct sh k = some (Sum.inr (0, N))) (hi : vp_in i N) (hj : i.toNatClampNeg = j) (hp : pc + 1 = pc') (kk : am_ev sh C m (pc', L, S, am_up M k j x, n) P) : am_ev sh C m (pc, L, am_I x :: am_I i :: am_R (some k) :: S, M, n) P := by
  subst hp; subst hj
  refine am_ev_step ((am_at_of hd).trans ?_) kk
  show (am_ist sh 1 pc L (am_I x :: am_I i :: am_R (some k) :: S) M n).map Sum.inl = _
  unfold am_ist
  dsimp only
  rw [hc]
  dsimp only
  rw [if_pos ⟨rfl, am_ix_of hi, rfl⟩]
  rfl
theorem am_e_zast {k : am_K} {i x : Int32} {N j : Nat} (hd : decode (am_b m) pc = .ok (.bastore, 1)) (hc : am_ct sh k = some (Sum.inr (1, N))) (hx : x = 0 ∨ x = 1) (hi : vp_in i N) (hj : i.toNatClampNeg = j) (hp : pc + 1 = pc') (kk : am_ev sh C m (pc', L, S, am_up M k j x, n) P) : am_ev sh C m (pc, L, am_I x :: am_I i :: am_R (some k) :: S, M, n) P := by
  subst hp; subst hj
  refine am_ev_step ((am_at_of hd).trans ?_) kk
  show (am_zst sh 1 pc L (am_I x :: am_I i :: am_R (some k) :: S) M n).map Sum.inl = _
  unfold am_zst
  dsimp only
  rw [hc]
  dsimp only
  rw [if_pos ⟨rfl, am_ix_of hi, rfl, hx⟩]
  rfl
theorem am_e_last {k : am_K} {i x : Int32} {N j : Nat} (hd : decode (am_b m) pc = .ok (.lastore, 1)) (hc : am_ct sh k = some (Sum.inr (3, N))) (hi : vp_in i N) (hj : i.toNatClampNeg = j) (hp : pc + 1 = pc') (kk : am_ev sh C m (pc', L, S, am_up M k j x, n) P) : am_ev sh C m (pc, L, am_L x :: am_I i :: am_R (some k) :: S, M, n) P := by
  subst hp; subst hj
  refine am_ev_step ((am_at_of hd).trans ?_) kk
  show (am_lst sh 1 pc L (am_L x :: am_I i :: am_R (some k) :: S) M n).map Sum.inl = _
  unfold am_lst
  dsimp only
  rw [hc]
  dsimp only
  rw [if_pos ⟨rfl, am_ix_of hi, rfl⟩]
  rfl
theorem am_e_len {k : am_K} {u N : Nat} (hd : decode (am_b m) pc = .ok (.arraylength, 1)) (hc : am_ct sh k = some (Sum.inr (u, N))) (hp : pc + 1 = pc') (kk : am_ev sh C m (pc', L, am_I (nI N) :: S, M, n) P) : am_ev sh C m (pc, L, am_R (some k) :: S, M, n) P := by
  subst hp
  refine am_ev_step ((am_at_of hd).trans ?_) kk
  show (am_len sh 1 pc L (am_R (some k) :: S) M n).map Sum.inl = _
  unfold am_len
  dsimp only
  rw [hc]
  rfl
theorem am_e_copy {idx : Nat} {k0 k1 : am_K} {c sp dp : Int32} {N0 N1 a b q : Nat} (hd : decode (am_b m) pc = .ok (.invokestatic idx, 3)) (hac : am_ac m idx = true) (h0 : am_ct sh k0 = some (Sum.inr (0, N0))) (h1 : am_ct sh k1 = some (Sum.inr (0, N1))) (hs : S.length ≤ 4) (hsp : ¬ sp < 0) (hdp : ¬ dp < 0) (hcn : ¬ c < 0) (ha : sp.toNatClampNeg = a) (hb : dp.toNatClampNeg = b) (hq : c.toNatClampNeg = q) (hN0 : a + q ≤ N0) (hN1 : b + q ≤ N1) (hp : pc + 3 = pc') (kk : am_ev sh C m (pc', L, S, am_cp M k0 k1 a b q, n) P) : am_ev sh C m (pc, L, am_I c :: am_I dp :: am_R (some k1) :: am_I sp :: am_R (some k0) :: S, M, n) P := by
  subst hp; subst ha; subst hb; subst hq
  refine am_ev_step ((am_at_of hd).trans ?_) kk
  show (if am_ac m idx = true then (am_cpy sh 3 pc L (am_I c :: am_I dp :: am_R (some k1) :: am_I sp :: am_R (some k0) :: S) M n).map Sum.inl else _) = _
  rw [if_pos hac]
  unfold am_cpy
  dsimp only
  rw [h0, h1]
  show Option.map Sum.inl (if 3 = 3 ∧ S.length ≤ 4 ∧ ¬ sp < 0 ∧ ¬ dp < 0 ∧ ¬ c < 0 ∧ sp.toNatClampNeg + c.toNatClampNeg ≤ N0 ∧ dp.toNatClampNeg + c.toNatClampNeg ≤ N1 then am_go (pc + 3) L S (am_cp M k0 k1 sp.toNatClampNeg dp.toNatClampNeg c.toNatClampNeg) n else none) = _
  rw [if_pos ⟨rfl, hs, hsp, hdp, hcn, hN0, hN1⟩]
  rfl
theorem am_inv_eq {kind idx c k : Nat} (hml : am_ml m idx = some (c, k, kind)) (h : k ≤ S.length ∧ S.length ≤ k + 4 ∧ n + am_bud c ≤ am_bud m ∧ (kind = 0 ∨ am_rcv sh c (S.take k).reverse = true)) : am_inv sh kind m idx 3 pc L S M n = some (Sum.inr (Sum.inr (c, (S.take k).reverse, (pc, L, S.drop k, M, n)))) := by
  unfold am_inv
  rw [hml]
  dsimp only
  rw [if_pos ⟨rfl, rfl, h⟩]
theorem am_e_callV {idx c k : Nat} {as S' : List am_V} {v : Option am_V} {M' : am_M} {n' : Nat} (hd : decode (am_b m) pc = .ok (.invokevirtual idx, 3)) (hml : am_ml m idx = some (c, k, 1)) (h : k ≤ S.length ∧ S.length ≤ k + 4 ∧ n + am_bud c ≤ am_bud m ∧ (1 = 0 ∨ am_rcv sh c (S.take k).reverse = true)) (has : (S.take k).reverse = as) (hS' : v.toList ++ S.drop k = S') (hn : n + am_bud c = n') (hc : C c M as (M', Sum.inl v)) (hp : pc + 3 = pc') (kk : am_ev sh C m (pc', L, S', M', n') P) : am_ev sh C m (pc, L, S, M, n) P := by
  subst hp; subst has; subst hS'; subst hn
  exact am_ev_call ((am_at_of hd).trans (am_inv_eq hml h)) hc kk
theorem am_e_callS {idx c k : Nat} {as S' : List am_V} {v : Option am_V} {M' : am_M} {n' : Nat} (hd : decode (am_b m) pc = .ok (.invokestatic idx, 3)) (hac : am_ac m idx = false) (hml : am_ml m idx = some (c, k, 0)) (h : k ≤ S.length ∧ S.length ≤ k + 4 ∧ n + am_bud c ≤ am_bud m ∧ (0 = 0 ∨ am_rcv sh c (S.take k).reverse = true)) (has : (S.take k).reverse = as) (hS' : v.toList ++ S.drop k = S') (hn : n + am_bud c = n') (hc : C c M as (M', Sum.inl v)) (hp : pc + 3 = pc') (kk : am_ev sh C m (pc', L, S', M', n') P) : am_ev sh C m (pc, L, S, M, n) P := by
  subst hp; subst has; subst hS'; subst hn
  refine am_ev_call (Eq.trans (am_at_of hd) ?_) hc kk
  show (if am_ac m idx = true then _ else am_inv sh 0 m idx 3 pc L S M n) = _
  rw [if_neg (by rw [hac]; decide)]
  exact am_inv_eq hml h
theorem am_e_thrV {idx c k x : Nat} {as : List am_V} {M' : am_M} (hd : decode (am_b m) pc = .ok (.invokevirtual idx, 3)) (hml : am_ml m idx = some (c, k, 1)) (h : k ≤ S.length ∧ S.length ≤ k + 4 ∧ n + am_bud c ≤ am_bud m ∧ (1 = 0 ∨ am_rcv sh c (S.take k).reverse = true)) (has : (S.take k).reverse = as) (hc : C c M as (M', Sum.inr x)) (hh : am_hd m pc x = some none) (kk : P (Sum.inr (M', Sum.inr x))) : am_ev sh C m (pc, L, S, M, n) P := by
  subst has
  exact am_ev_thrown ((am_at_of hd).trans (am_inv_eq hml h)) hc hh kk
theorem am_e_thrS {idx c k x : Nat} {as : List am_V} {M' : am_M} (hd : decode (am_b m) pc = .ok (.invokestatic idx, 3)) (hac : am_ac m idx = false) (hml : am_ml m idx = some (c, k, 0)) (h : k ≤ S.length ∧ S.length ≤ k + 4 ∧ n + am_bud c ≤ am_bud m ∧ (0 = 0 ∨ am_rcv sh c (S.take k).reverse = true)) (has : (S.take k).reverse = as) (hc : C c M as (M', Sum.inr x)) (hh : am_hd m pc x = some none) (kk : P (Sum.inr (M', Sum.inr x))) : am_ev sh C m (pc, L, S, M, n) P := by
  subst has
  refine am_ev_thrown (pc := pc) (L := L) (S := S.drop k) (n := n) (Eq.trans (am_at_of hd) ?_) hc hh kk
  show (if am_ac m idx = true then _ else am_inv sh 0 m idx 3 pc L S M n) = _
  rw [if_neg (by rw [hac]; decide)]
  exact am_inv_eq hml h
theorem am_e_iret {v : Int32} (hd : decode (am_b m) pc = .ok (.ireturn, 1)) (hn : n ≤ am_bud m) (hr : am_rt m = some .int ∨ (am_rt m = some .boolean ∧ (v = 0 ∨ v = 1))) (kk : P (Sum.inr (M, Sum.inl (some (am_I v))))) : am_ev sh C m (pc, L, [am_I v], M, n) P := by
  refine am_ev_end (Eq.trans (am_at_of hd) ?_) kk
  show am_iret m 1 [am_I v] M n = _
  unfold am_iret
  dsimp only
  rw [if_pos ⟨rfl, hn, hr⟩]
theorem am_e_aret {o : Option am_K} (hd : decode (am_b m) pc = .ok (.areturn, 1)) (hn : n ≤ am_bud m) (hr : am_ra m = true) (kk : P (Sum.inr (M, Sum.inl (some (am_R o))))) : am_ev sh C m (pc, L, [am_R o], M, n) P := by
  refine am_ev_end (Eq.trans (am_at_of hd) ?_) kk
  show am_aret m 1 [am_R o] M n = _
  unfold am_aret
  dsimp only
  rw [if_pos ⟨rfl, hn, hr⟩]
theorem am_e_vret (hd : decode (am_b m) pc = .ok (.return_, 1)) (hn : n ≤ am_bud m) (hr : am_rt m = none) (kk : P (Sum.inr (M, Sum.inl none))) : am_ev sh C m (pc, L, [], M, n) P := by
  refine am_ev_end (Eq.trans (am_at_of hd) ?_) kk
  show am_vret m 1 [] M n = _
  unfold am_vret
  rw [if_pos ⟨rfl, rfl, hn, hr⟩]
theorem am_e_throw {idx x : Nat} (hd : decode (am_b m) pc = .ok (.new idx, 3)) (hx : am_th m pc = some x) (hn : n + 1 ≤ am_bud m) (kk : P (Sum.inr (M, Sum.inr x))) : am_ev sh C m (pc, L, [], M, n) P := by
  refine am_ev_end (Eq.trans (am_at_of hd) ?_) kk
  show am_thr m pc [] M n = _
  unfold am_thr
  rw [hx]
  dsimp only
  rw [if_pos ⟨rfl, hn⟩]
end EV
end
section
-- the same, in the words that segments use
def am_shok (sh : am_Sh) : Prop := ∀ t, sh.2.1 t ≤ 64 ∧ sh.2.2.1 t ≤ 16
theorem am_ct5 {sh : am_Sh} {t : Nat} (h : t < sh.1) : am_ct sh (5, t, 0) = some (Sum.inl 1) := if_pos ⟨h, rfl⟩
theorem am_ct6 {sh : am_Sh} {t : Nat} (h : t < sh.1) : am_ct sh (6, t, 0) = some (Sum.inr (4, sh.2.1 t)) := if_pos ⟨h, rfl⟩
theorem am_ct7 {sh : am_Sh} {t : Nat} (h : t < sh.1) : am_ct sh (7, t, 0) = some (Sum.inr (0, sh.2.2.1 t)) := if_pos ⟨h, rfl⟩
theorem am_ct8 {sh : am_Sh} {t : Nat} (h : t < sh.1) : am_ct sh (8, t, 0) = some (Sum.inr (0, 6)) := if_pos ⟨h, rfl⟩
theorem am_ct9 {sh : am_Sh} {t i : Nat} (h : t < sh.1) (hi : i < sh.2.1 t) : am_ct sh (9, t, i) = some (Sum.inl 0) := if_pos ⟨h, hi⟩
theorem am_ct10 {sh : am_Sh} {t i : Nat} (h : t < sh.1) (hi : i < sh.2.1 t) : am_ct sh (10, t, i) = some (Sum.inr (0, 4)) := if_pos ⟨h, hi⟩
theorem am_rf2 {sh : am_Sh} {j : Nat} (h : j < sh.1) : am_rf sh (2, 0, 0) j = some (5, j, 0) := if_pos h
theorem am_rf6 {sh : am_Sh} {t j : Nat} (h : j < sh.2.1 t) : am_rf sh (6, t, 0) j = some (9, t, j) := if_pos h
theorem am_rcv_of {sh : am_Sh} {c : Nat} {k : am_K} {as : List am_V} (h : am_ct sh k = some (Sum.inl (am_rc c))) : am_rcv sh c (am_R (some k) :: as) = true := decide_eq_true h
section EVW
variable {sh : am_Sh} {C : Nat → am_M → List am_V → am_O → Prop} {m pc pc' : Nat} {L : am_Ls} {S : List am_V} {M : am_M} {n : Nat} {P : am_S ⊕ am_O → Prop}
theorem am_a_ix {i : Int32} {j N : Nat} (hx : i = nI j) (hj : j < N) (hN : N < 2147483648) : vp_in i N ∧ i.toNatClampNeg = j := by
  subst hx
  exact ⟨vp_in_nI hj hN, nI_clamp (Nat.lt_trans hj hN)⟩
theorem am_a_iald {k : am_K} {i : Int32} {N j : Nat} (hd : decode (am_b m) pc = .ok (.iaload, 1)) (hc : am_ct sh k = some (Sum.inr (0, N))) (hx : i = nI j) (hj : j < N) (hN : N < 2147483648) (hp : pc + 1 = pc') (kk : am_ev sh C m (pc', L, am_I (M k j) :: S, M, n) P) : am_ev sh C m (pc, L, am_I i :: am_R (some k) :: S, M, n) P :=
  am_e_iald hd hc (am_a_ix hx hj hN).1 (am_a_ix hx hj hN).2 hp kk
theorem am_a_sald {k : am_K} {i : Int32} {N j : Nat} (hd : decode (am_b m) pc = .ok (.iaload, 1)) (hc : am_ct sh k = some (Sum.inr (5, N))) (hx : i = nI j) (hj : j < N) (hN : N < 2147483648) (hp : pc + 1 = pc') (kk : am_ev sh C m (pc', L, am_I (M k j) :: S, M, n) P) : am_ev sh C m (pc, L, am_I i :: am_R (some k) :: S, M, n) P :=
  am_e_sald hd hc (am_a_ix hx hj hN).1 (am_a_ix hx hj hN).2 hp kk
theorem am_a_zald {k : am_K} {i : Int32} {N j : Nat} (hd : decode (am_b m) pc = .ok (.baload, 1)) (hc : am_ct sh k = some (Sum.inr (1, N))) (hx : i = nI j) (hj : j < N) (hN : N < 2147483648) (hp : pc + 1 = pc') (kk : am_ev sh C m (pc', L, am_I (M k j) :: S, M, n) P) : am_ev sh C m (pc, L, am_I i :: am_R (some k) :: S, M, n) P :=
  am_e_zald hd hc (am_a_ix hx hj hN).1 (am_a_ix hx hj hN).2 hp kk
theorem am_a_lald {k : am_K} {i : Int32} {N j : Nat} (hd : decode (am_b m) pc = .ok (.laload, 1)) (hc : am_ct sh k = some (Sum.inr (3, N))) (hx : i = nI j) (hj : j < N) (hN : N < 2147483648) (hp : pc + 1 = pc') (kk : am_ev sh C m (pc', L, am_L (M k j) :: S, M, n) P) : am_ev sh C m (pc, L, am_I i :: am_R (some k) :: S, M, n) P :=
  am_e_lald hd hc (am_a_ix hx hj hN).1 (am_a_ix hx hj hN).2 hp kk
theorem am_a_rald {k : am_K} {i : Int32} {N j u : Nat} {o : Option am_K} (hd : decode (am_b m) pc = .ok (.aaload, 1)) (hc : am_ct sh k = some (Sum.inr (u, N))) (hu : u = 2 ∨ u = 4) (hx : i = nI j) (hj : j < N) (hN : N < 2147483648) (ho : am_rf sh k j = o) (hp : pc + 1 = pc') (kk : am_ev sh C m (pc', L, am_R o :: S, M, n) P) : am_ev sh C m (pc, L, am_I i :: am_R (some k) :: S, M, n) P :=
  am_e_rald hd hc hu (am_a_ix hx hj hN).1 (am_a_ix hx hj hN).2 ho hp kk
theorem am_a_iast {k : am_K} {i x : Int32} {N j : Nat} (hd : decode (am_b m) pc = .ok (.iastore, 1)) (hc : am_ct sh k = some (Sum.inr (0, N))) (hx : i = nI j) (hj : j < N) (hN : N < 2147483648) (hp : pc + 1 = pc') (kk : am_ev sh C m (pc', L, S, am_up M k j x, n) P) : am_ev sh C m (pc, L, am_I x :: am_I i :: am_R (some k) :: S, M, n) P :=
  am_e_iast hd hc (am_a_ix hx hj hN).1 (am_a_ix hx hj hN).2 hp kk
theorem am_a_zast {k : am_K} {i x : Int32} {N j : Nat} (hd : decode (am_b m) pc = .ok (.bastore, 1)) (hc : am_ct sh k = some (Sum.inr (1, N))) (h01 : x = 0 ∨ x = 1) (hx : i = nI j) (hj : j < N) (hN : N < 2147483648) (hp : pc + 1 = pc') (kk : am_ev sh C m (pc', L, S, am_up M k j x, n) P) : am_ev sh C m (pc, L, am_I x :: am_I i :: am_R (some k) :: S, M, n) P :=
  am_e_zast hd hc h01 (am_a_ix hx hj hN).1 (am_a_ix hx hj hN).2 hp kk
theorem am_a_last {k : am_K} {i x : Int32} {N j : Nat} (hd : decode (am_b m) pc = .ok (.lastore, 1)) (hc : am_ct sh k = some (Sum.inr (3, N))) (hx : i = nI j) (hj : j < N) (hN : N < 2147483648) (hp : pc + 1 = pc') (kk : am_ev sh C m (pc', L, S, am_up M k j x, n) P) : am_ev sh C m (pc, L, am_L x :: am_I i :: am_R (some k) :: S, M, n) P :=
  am_e_last hd hc (am_a_ix hx hj hN).1 (am_a_ix hx hj hN).2 hp kk
theorem am_a_copy {idx : Nat} {k0 k1 : am_K} {c sp dp : Int32} {N0 N1 a b q : Nat} (hd : decode (am_b m) pc = .ok (.invokestatic idx, 3)) (hac : am_ac m idx = true) (h0 : am_ct sh k0 = some (Sum.inr (0, N0))) (h1 : am_ct sh k1 = some (Sum.inr (0, N1))) (hs : S.length ≤ 4) (ha : sp = nI a) (hb : dp = nI b) (hq : c = nI q) (hN0 : a + q ≤ N0) (hN1 : b + q ≤ N1) (hz0 : N0 < 2147483648) (hz1 : N1 < 2147483648) (hp : pc + 3 = pc') (kk : am_ev sh C m (pc', L, S, am_cp M k0 k1 a b q, n) P) : am_ev sh C m (pc, L, am_I c :: am_I dp :: am_R (some k1) :: am_I sp :: am_R (some k0) :: S, M, n) P := by
  subst ha; subst hb; subst hq
  exact am_e_copy hd hac h0 h1 hs (nI_pos (by omega)) (nI_pos (by omega)) (nI_pos (by omega)) (nI_clamp (by omega)) (nI_clamp (by omega)) (nI_clamp (by omega)) hN0 hN1 hp kk
theorem am_a_if_eq {x : Int32} {off : Int} {tgt : Nat} (hd : decode (am_b m) pc = .ok (.ifCond .eq off, 3)) (ht : (pc : Int) + off = (tgt : Int)) (hp : pc + 3 = pc') (k1 : x = 0 → am_ev sh C m (tgt, L, S, M, n) P) (k2 : ¬ x = 0 → am_ev sh C m (pc', L, S, M, n) P) : am_ev sh C m (pc, L, am_I x :: S, M, n) P :=
  am_e_if hd ht hp (fun h => k1 (of_decide_eq_true h)) (fun h => k2 (of_decide_eq_false h))
theorem am_a_icmp_eq {x y : Int32} {off : Int} {tgt : Nat} (hd : decode (am_b m) pc = .ok (.if_icmp .eq off, 3)) (ht : (pc : Int) + off = (tgt : Int)) (hp : pc + 3 = pc') (k1 : x = y → am_ev sh C m (tgt, L, S, M, n) P) (k2 : ¬ x = y → am_ev sh C m (pc', L, S, M, n) P) : am_ev sh C m (pc, L, am_I y :: am_I x :: S, M, n) P :=
  am_e_icmp hd ht hp (fun h => k1 (of_decide_eq_true h)) (fun h => k2 (of_decide_eq_false h))
theorem am_a_if_ne {x : Int32} {off : Int} {tgt : Nat} (hd : decode (am_b m) pc = .ok (.ifCond .ne off, 3)) (ht : (pc : Int) + off = (tgt : Int)) (hp : pc + 3 = pc') (k1 : ¬ x = 0 → am_ev sh C m (tgt, L, S, M, n) P) (k2 : x = 0 → am_ev sh C m (pc', L, S, M, n) P) : am_ev sh C m (pc, L, am_I x :: S, M, n) P :=
  am_e_if hd ht hp (fun h => k1 (of_decide_eq_true h)) (fun h => k2 (Decidable.not_not.mp (of_decide_eq_false h)))
theorem am_a_icmp_ne {x y : Int32} {off : Int} {tgt : Nat} (hd : decode (am_b m) pc = .ok (.if_icmp .ne off, 3)) (ht : (pc : Int) + off = (tgt : Int)) (hp : pc + 3 = pc') (k1 : ¬ x = y → am_ev sh C m (tgt, L, S, M, n) P) (k2 : x = y → am_ev sh C m (pc', L, S, M, n) P) : am_ev sh C m (pc, L, am_I y :: am_I x :: S, M, n) P :=
  am_e_icmp hd ht hp (fun h => k1 (of_decide_eq_true h)) (fun h => k2 (Decidable.not_not.mp (of_decide_eq_false h)))
theorem am_a_if_lt {x : Int32} {off : Int} {tgt : Nat} (hd : decode (am_b m) pc = .ok (.ifCond .lt off, 3)) (ht : (pc : Int) + off = (tgt : Int)) (hp : pc + 3 = pc') (k1 : x < 0 → am_ev sh C m (tgt, L, S, M, n) P) (k2 : ¬ x < 0 → am_ev sh C m (pc', L, S, M, n) P) : am_ev sh C m (pc, L, am_I x :: S, M, n) P :=
  am_e_if hd ht hp (fun h => k1 (of_decide_eq_true h)) (fun h => k2 (of_decide_eq_false h))
theorem am_a_icmp_lt {x y : Int32} {off : Int} {tgt : Nat} (hd : decode (am_b m) pc = .ok (.if_icmp .lt off, 3)) (ht : (pc : Int) + off = (tgt : Int)) (hp : pc + 3 = pc') (k1 : x < y → am_ev sh C m (tgt, L, S, M, n) P) (k2 : ¬ x < y → am_ev sh C m (pc', L, S, M, n) P) : am_ev sh C m (pc, L, am_I y :: am_I x :: S, M, n) P :=
  am_e_icmp hd ht hp (fun h => k1 (of_decide_eq_true h)) (fun h => k2 (of_decide_eq_false h))
theorem am_a_if_ge {x : Int32} {off : Int} {tgt : Nat} (hd : decode (am_b m) pc = .ok (.ifCond .ge off, 3)) (ht : (pc : Int) + off = (tgt : Int)) (hp : pc + 3 = pc') (k1 : 0 ≤ x → am_ev sh C m (tgt, L, S, M, n) P) (k2 : ¬ 0 ≤ x → am_ev sh C m (pc', L, S, M, n) P) : am_ev sh C m (pc, L, am_I x :: S, M, n) P :=
  am_e_if hd ht hp (fun h => k1 (of_decide_eq_true h)) (fun h => k2 (of_decide_eq_false h))
theorem am_a_icmp_ge {x y : Int32} {off : Int} {tgt : Nat} (hd : decode (am_b m) pc = .ok (.if_icmp .ge off, 3)) (ht : (pc : Int) + off = (tgt : Int)) (hp : pc + 3 = pc') (k1 : y ≤ x → am_ev sh C m (tgt, L, S, M, n) P) (k2 : ¬ y ≤ x → am_ev sh C m (pc', L, S, M, n) P) : am_ev sh C m (pc, L, am_I y :: am_I x :: S, M, n) P :=
  am_e_icmp hd ht hp (fun h => k1 (of_decide_eq_true h)) (fun h => k2 (of_decide_eq_false h))
theorem am_a_if_gt {x : Int32} {off : Int} {tgt : Nat} (hd : decode (am_b m) pc = .ok (.ifCond .gt off, 3)) (ht : (pc : Int) + off = (tgt : Int)) (hp : pc + 3 = pc') (k1 : 0 < x → am_ev sh C m (tgt, L, S, M, n) P) (k2 : ¬ 0 < x → am_ev sh C m (pc', L, S, M, n) P) : am_ev sh C m (pc, L, am_I x :: S, M, n) P :=
  am_e_if hd ht hp (fun h => k1 (of_decide_eq_true h)) (fun h => k2 (of_decide_eq_false h))
theorem am_a_icmp_gt {x y : Int32} {off : Int} {tgt : Nat} (hd : decode (am_b m) pc = .ok (.if_icmp .gt off, 3)) (ht : (pc : Int) + off = (tgt : Int)) (hp : pc + 3 = pc') (k1 : y < x → am_ev sh C m (tgt, L, S, M, n) P) (k2 : ¬ y < x → am_ev sh C m (pc', L, S, M, n) P) : am_ev sh C m (pc, L, am_I y :: am_I x :: S, M, n) P :=
  am_e_icmp hd ht hp (fun h => k1 (of_decide_eq_true h)) (fun h => k2 (of_decide_eq_false h))
theorem am_a_if_le {x : Int32} {off : Int} {tgt : Nat} (hd : decode (am_b m) pc = .ok (.ifCond .le off, 3)) (ht : (pc : Int) + off = (tgt : Int)) (hp : pc + 3 = pc') (k1 : x ≤ 0 → am_ev sh C m (tgt, L, S, M, n) P) (k2 : ¬ x ≤ 0 → am_ev sh C m (pc', L, S, M, n) P) : am_ev sh C m (pc, L, am_I x :: S, M, n) P :=
  am_e_if hd ht hp (fun h => k1 (of_decide_eq_true h)) (fun h => k2 (of_decide_eq_false h))
theorem am_a_icmp_le {x y : Int32} {off : Int} {tgt : Nat} (hd : decode (am_b m) pc = .ok (.if_icmp .le off, 3)) (ht : (pc : Int) + off = (tgt : Int)) (hp : pc + 3 = pc') (k1 : x ≤ y → am_ev sh C m (tgt, L, S, M, n) P) (k2 : ¬ x ≤ y → am_ev sh C m (pc', L, S, M, n) P) : am_ev sh C m (pc, L, am_I y :: am_I x :: S, M, n) P :=
  am_e_icmp hd ht hp (fun h => k1 (of_decide_eq_true h)) (fun h => k2 (of_decide_eq_false h))
theorem am_a_acmp_eq {x y : Option am_K} {off : Int} {tgt : Nat} (hd : decode (am_b m) pc = .ok (.if_acmp .eq off, 3)) (hx : am_has sh x = true) (hy : am_has sh y = true) (ht : (pc : Int) + off = (tgt : Int)) (hp : pc + 3 = pc') (k1 : x = y → am_ev sh C m (tgt, L, S, M, n) P) (k2 : ¬ x = y → am_ev sh C m (pc', L, S, M, n) P) : am_ev sh C m (pc, L, am_R y :: am_R x :: S, M, n) P :=
  am_e_acmp hd hx hy ht hp (fun h => k1 (of_decide_eq_true h)) (fun h => k2 (of_decide_eq_false h))
theorem am_a_acmp_ne {x y : Option am_K} {off : Int} {tgt : Nat} (hd : decode (am_b m) pc = .ok (.if_acmp .ne off, 3)) (hx : am_has sh x = true) (hy : am_has sh y = true) (ht : (pc : Int) + off = (tgt : Int)) (hp : pc + 3 = pc') (k1 : ¬ x = y → am_ev sh C m (tgt, L, S, M, n) P) (k2 : x = y → am_ev sh C m (pc', L, S, M, n) P) : am_ev sh C m (pc, L, am_R y :: am_R x :: S, M, n) P :=
  am_e_acmp hd hx hy ht hp (fun h => k1 (of_decide_eq_true h)) (fun h => k2 (Decidable.not_not.mp (of_decide_eq_false h)))
end EVW
end
