-- ===== PART A: goes FIRST, ahead of the names: the tables' words, and 'selects' of the private methods out of them =====
/-- a private method of a class that the tables say can be made, by its rows of tables_1 -/
def lw_okq (q : MethodName × Nat) : Prop := (q.1.cls ≠ "java/lang/invoke/MethodHandle" ∧ q.1.cls ≠ "java/lang/invoke/VarHandle") ∧ Cond.instantiable q.1.cls q.2 ∈ tables_1 ∧ Cond.privateMethod q.1 ∈ tables_1 ∧ Cond.instanceMethod q.1 ∈ tables_1
theorem lw_p0 : lw_okq (⟨"LinkedVerse$Reader", "scan", "()V"⟩, 10) := ⟨⟨by decide +kernel, by decide +kernel⟩, List.mem_of_getElem? (i := 100) (by decide +kernel), List.mem_of_getElem? (i := 544) (by decide +kernel), List.mem_of_getElem? (i := 545) (by decide +kernel)⟩
theorem lw_p1 : lw_okq (⟨"LinkedVerse$Reader", "skipBlanks", "()V"⟩, 10) := ⟨⟨by decide +kernel, by decide +kernel⟩, List.mem_of_getElem? (i := 100) (by decide +kernel), List.mem_of_getElem? (i := 548) (by decide +kernel), List.mem_of_getElem? (i := 549) (by decide +kernel)⟩
theorem lw_p2 : lw_okq (⟨"LinkedVerse$Reader", "scanWord", "()V"⟩, 10) := ⟨⟨by decide +kernel, by decide +kernel⟩, List.mem_of_getElem? (i := 100) (by decide +kernel), List.mem_of_getElem? (i := 555) (by decide +kernel), List.mem_of_getElem? (i := 556) (by decide +kernel)⟩
theorem lw_p3 : lw_okq (⟨"LinkedVerse$Reader", "scanNumber", "()V"⟩, 10) := ⟨⟨by decide +kernel, by decide +kernel⟩, List.mem_of_getElem? (i := 100) (by decide +kernel), List.mem_of_getElem? (i := 562) (by decide +kernel), List.mem_of_getElem? (i := 563) (by decide +kernel)⟩
theorem lw_p4 : lw_okq (⟨"LinkedVerse$Reader", "setFault", "(I)V"⟩, 10) := ⟨⟨by decide +kernel, by decide +kernel⟩, List.mem_of_getElem? (i := 100) (by decide +kernel), List.mem_of_getElem? (i := 566) (by decide +kernel), List.mem_of_getElem? (i := 567) (by decide +kernel)⟩
theorem lw_p5 : lw_okq (⟨"LinkedVerse$Reader", "isOneTooMany", "(I)Z"⟩, 10) := ⟨⟨by decide +kernel, by decide +kernel⟩, List.mem_of_getElem? (i := 100) (by decide +kernel), List.mem_of_getElem? (i := 570) (by decide +kernel), List.mem_of_getElem? (i := 571) (by decide +kernel)⟩
theorem lw_p6 : lw_okq (⟨"LinkedVerse$Reader", "readRule", "(I)V"⟩, 10) := ⟨⟨by decide +kernel, by decide +kernel⟩, List.mem_of_getElem? (i := 100) (by decide +kernel), List.mem_of_getElem? (i := 574) (by decide +kernel), List.mem_of_getElem? (i := 575) (by decide +kernel)⟩
theorem lw_p7 : lw_okq (⟨"LinkedVerse$Reader", "readNumber", "(II)I"⟩, 10) := ⟨⟨by decide +kernel, by decide +kernel⟩, List.mem_of_getElem? (i := 100) (by decide +kernel), List.mem_of_getElem? (i := 578) (by decide +kernel), List.mem_of_getElem? (i := 579) (by decide +kernel)⟩
theorem lw_p8 : lw_okq (⟨"LinkedVerse$Reader", "readSign", "(C)V"⟩, 10) := ⟨⟨by decide +kernel, by decide +kernel⟩, List.mem_of_getElem? (i := 100) (by decide +kernel), List.mem_of_getElem? (i := 582) (by decide +kernel), List.mem_of_getElem? (i := 583) (by decide +kernel)⟩
theorem lw_p9 : lw_okq (⟨"LinkedVerse$Reader", "readToldName", "()I"⟩, 10) := ⟨⟨by decide +kernel, by decide +kernel⟩, List.mem_of_getElem? (i := 100) (by decide +kernel), List.mem_of_getElem? (i := 586) (by decide +kernel), List.mem_of_getElem? (i := 587) (by decide +kernel)⟩
theorem lw_p10 : lw_okq (⟨"LinkedVerse$Reader", "readOther", "(I)V"⟩, 10) := ⟨⟨by decide +kernel, by decide +kernel⟩, List.mem_of_getElem? (i := 100) (by decide +kernel), List.mem_of_getElem? (i := 598) (by decide +kernel), List.mem_of_getElem? (i := 599) (by decide +kernel)⟩
theorem lw_p11 : lw_okq (⟨"LinkedVerse$Reader", "readKind", "()V"⟩, 10) := ⟨⟨by decide +kernel, by decide +kernel⟩, List.mem_of_getElem? (i := 100) (by decide +kernel), List.mem_of_getElem? (i := 602) (by decide +kernel), List.mem_of_getElem? (i := 603) (by decide +kernel)⟩
theorem lw_p12 : lw_okq (⟨"LinkedVerse$Reader", "readNewName", "()J"⟩, 10) := ⟨⟨by decide +kernel, by decide +kernel⟩, List.mem_of_getElem? (i := 100) (by decide +kernel), List.mem_of_getElem? (i := 606) (by decide +kernel), List.mem_of_getElem? (i := 607) (by decide +kernel)⟩
theorem lw_p13 : lw_okq (⟨"LinkedVerse$Rules", "addName", "(JI)V"⟩, 12) := ⟨⟨by decide +kernel, by decide +kernel⟩, List.mem_of_getElem? (i := 33) (by decide +kernel), List.mem_of_getElem? (i := 614) (by decide +kernel), List.mem_of_getElem? (i := 615) (by decide +kernel)⟩
theorem lw_p14 : lw_okq (⟨"LinkedVerse$Reader", "readGroup", "()V"⟩, 10) := ⟨⟨by decide +kernel, by decide +kernel⟩, List.mem_of_getElem? (i := 100) (by decide +kernel), List.mem_of_getElem? (i := 618) (by decide +kernel), List.mem_of_getElem? (i := 619) (by decide +kernel)⟩
theorem lw_p15 : lw_okq (⟨"LinkedVerse$Reader", "isSignNext", "(C)Z"⟩, 10) := ⟨⟨by decide +kernel, by decide +kernel⟩, List.mem_of_getElem? (i := 100) (by decide +kernel), List.mem_of_getElem? (i := 622) (by decide +kernel), List.mem_of_getElem? (i := 623) (by decide +kernel)⟩
def lw_privs_1 : List (MethodName × Nat) := [(⟨"LinkedVerse$Reader", "scan", "()V"⟩, 10), (⟨"LinkedVerse$Reader", "skipBlanks", "()V"⟩, 10), (⟨"LinkedVerse$Reader", "scanWord", "()V"⟩, 10), (⟨"LinkedVerse$Reader", "scanNumber", "()V"⟩, 10), (⟨"LinkedVerse$Reader", "setFault", "(I)V"⟩, 10), (⟨"LinkedVerse$Reader", "isOneTooMany", "(I)Z"⟩, 10), (⟨"LinkedVerse$Reader", "readRule", "(I)V"⟩, 10), (⟨"LinkedVerse$Reader", "readNumber", "(II)I"⟩, 10), (⟨"LinkedVerse$Reader", "readSign", "(C)V"⟩, 10), (⟨"LinkedVerse$Reader", "readToldName", "()I"⟩, 10), (⟨"LinkedVerse$Reader", "readOther", "(I)V"⟩, 10), (⟨"LinkedVerse$Reader", "readKind", "()V"⟩, 10), (⟨"LinkedVerse$Reader", "readNewName", "()J"⟩, 10), (⟨"LinkedVerse$Rules", "addName", "(JI)V"⟩, 12), (⟨"LinkedVerse$Reader", "readGroup", "()V"⟩, 10), (⟨"LinkedVerse$Reader", "isSignNext", "(C)Z"⟩, 10)]
theorem lw_r1 : ∀ q ∈ lw_privs_1, lw_okq q := List.forall_mem_cons.mpr ⟨lw_p0, List.forall_mem_cons.mpr ⟨lw_p1, List.forall_mem_cons.mpr ⟨lw_p2, List.forall_mem_cons.mpr ⟨lw_p3, List.forall_mem_cons.mpr ⟨lw_p4, List.forall_mem_cons.mpr ⟨lw_p5, List.forall_mem_cons.mpr ⟨lw_p6, List.forall_mem_cons.mpr ⟨lw_p7, List.forall_mem_cons.mpr ⟨lw_p8, List.forall_mem_cons.mpr ⟨lw_p9, List.forall_mem_cons.mpr ⟨lw_p10, List.forall_mem_cons.mpr ⟨lw_p11, List.forall_mem_cons.mpr ⟨lw_p12, List.forall_mem_cons.mpr ⟨lw_p13, List.forall_mem_cons.mpr ⟨lw_p14, List.forall_mem_cons.mpr ⟨lw_p15, fun _ h => absurd h List.not_mem_nil⟩⟩⟩⟩⟩⟩⟩⟩⟩⟩⟩⟩⟩⟩⟩⟩
theorem lw_p16 : lw_okq (⟨"LinkedVerse", "beginAnew", "()V"⟩, 8) := ⟨⟨by decide +kernel, by decide +kernel⟩, List.mem_of_getElem? (i := 25) (by decide +kernel), List.mem_of_getElem? (i := 634) (by decide +kernel), List.mem_of_getElem? (i := 635) (by decide +kernel)⟩
theorem lw_p17 : lw_okq (⟨"LinkedVerse$Poets", "forgetPasses", "()V"⟩, 4) := ⟨⟨by decide +kernel, by decide +kernel⟩, List.mem_of_getElem? (i := 229) (by decide +kernel), List.mem_of_getElem? (i := 652) (by decide +kernel), List.mem_of_getElem? (i := 653) (by decide +kernel)⟩
theorem lw_p18 : lw_okq (⟨"LinkedVerse$Ending", "forget", "()V"⟩, 15) := ⟨⟨by decide +kernel, by decide +kernel⟩, List.mem_of_getElem? (i := 297) (by decide +kernel), List.mem_of_getElem? (i := 668) (by decide +kernel), List.mem_of_getElem? (i := 669) (by decide +kernel)⟩
theorem lw_p19 : lw_okq (⟨"LinkedVerse$Poets", "isAheadOf", "(II)Z"⟩, 4) := ⟨⟨by decide +kernel, by decide +kernel⟩, List.mem_of_getElem? (i := 229) (by decide +kernel), List.mem_of_getElem? (i := 696) (by decide +kernel), List.mem_of_getElem? (i := 697) (by decide +kernel)⟩
theorem lw_p20 : lw_okq (⟨"LinkedVerse", "brokenByNext", "(III)I"⟩, 8) := ⟨⟨by decide +kernel, by decide +kernel⟩, List.mem_of_getElem? (i := 25) (by decide +kernel), List.mem_of_getElem? (i := 758) (by decide +kernel), List.mem_of_getElem? (i := 759) (by decide +kernel)⟩
theorem lw_p21 : lw_okq (⟨"LinkedVerse$Sheet", "isBroken", "(II)Z"⟩, 10) := ⟨⟨by decide +kernel, by decide +kernel⟩, List.mem_of_getElem? (i := 253) (by decide +kernel), List.mem_of_getElem? (i := 790) (by decide +kernel), List.mem_of_getElem? (i := 791) (by decide +kernel)⟩
theorem lw_p22 : lw_okq (⟨"LinkedVerse$Sheet", "isAgain", "(II)Z"⟩, 10) := ⟨⟨by decide +kernel, by decide +kernel⟩, List.mem_of_getElem? (i := 253) (by decide +kernel), List.mem_of_getElem? (i := 794) (by decide +kernel), List.mem_of_getElem? (i := 795) (by decide +kernel)⟩
theorem lw_p23 : lw_okq (⟨"LinkedVerse$Sheet", "isWordShared", "(II)Z"⟩, 10) := ⟨⟨by decide +kernel, by decide +kernel⟩, List.mem_of_getElem? (i := 253) (by decide +kernel), List.mem_of_getElem? (i := 801) (by decide +kernel), List.mem_of_getElem? (i := 802) (by decide +kernel)⟩
theorem lw_p24 : lw_okq (⟨"LinkedVerse$Rules", "isRunBroken", "(IIIZ)Z"⟩, 12) := ⟨⟨by decide +kernel, by decide +kernel⟩, List.mem_of_getElem? (i := 33) (by decide +kernel), List.mem_of_getElem? (i := 817) (by decide +kernel), List.mem_of_getElem? (i := 818) (by decide +kernel)⟩
theorem lw_p25 : lw_okq (⟨"LinkedVerse$Ending", "layStart", "()V"⟩, 15) := ⟨⟨by decide +kernel, by decide +kernel⟩, List.mem_of_getElem? (i := 297) (by decide +kernel), List.mem_of_getElem? (i := 874) (by decide +kernel), List.mem_of_getElem? (i := 875) (by decide +kernel)⟩
theorem lw_p26 : lw_okq (⟨"LinkedVerse$States", "layInSlot", "(IJJ)I"⟩, 5) := ⟨⟨by decide +kernel, by decide +kernel⟩, List.mem_of_getElem? (i := 303) (by decide +kernel), List.mem_of_getElem? (i := 907) (by decide +kernel), List.mem_of_getElem? (i := 908) (by decide +kernel)⟩
theorem lw_p27 : lw_okq (⟨"LinkedVerse$Ending", "gather", "(I)V"⟩, 15) := ⟨⟨by decide +kernel, by decide +kernel⟩, List.mem_of_getElem? (i := 297) (by decide +kernel), List.mem_of_getElem? (i := 911) (by decide +kernel), List.mem_of_getElem? (i := 912) (by decide +kernel)⟩
theorem lw_p28 : lw_okq (⟨"LinkedVerse$Ending", "stands", "(I)Z"⟩, 15) := ⟨⟨by decide +kernel, by decide +kernel⟩, List.mem_of_getElem? (i := 297) (by decide +kernel), List.mem_of_getElem? (i := 915) (by decide +kernel), List.mem_of_getElem? (i := 916) (by decide +kernel)⟩
theorem lw_p29 : lw_okq (⟨"LinkedVerse$Ending", "fill", "(I)Z"⟩, 15) := ⟨⟨by decide +kernel, by decide +kernel⟩, List.mem_of_getElem? (i := 297) (by decide +kernel), List.mem_of_getElem? (i := 930) (by decide +kernel), List.mem_of_getElem? (i := 931) (by decide +kernel)⟩
theorem lw_p30 : lw_okq (⟨"LinkedVerse$Onward", "takeNumbers", "(III)V"⟩, 12) := ⟨⟨by decide +kernel, by decide +kernel⟩, List.mem_of_getElem? (i := 356) (by decide +kernel), List.mem_of_getElem? (i := 965) (by decide +kernel), List.mem_of_getElem? (i := 966) (by decide +kernel)⟩
theorem lw_p31 : lw_okq (⟨"LinkedVerse$Ending", "fillFrom", "(III)Z"⟩, 15) := ⟨⟨by decide +kernel, by decide +kernel⟩, List.mem_of_getElem? (i := 297) (by decide +kernel), List.mem_of_getElem? (i := 969) (by decide +kernel), List.mem_of_getElem? (i := 970) (by decide +kernel)⟩
def lw_privs_2 : List (MethodName × Nat) := [(⟨"LinkedVerse", "beginAnew", "()V"⟩, 8), (⟨"LinkedVerse$Poets", "forgetPasses", "()V"⟩, 4), (⟨"LinkedVerse$Ending", "forget", "()V"⟩, 15), (⟨"LinkedVerse$Poets", "isAheadOf", "(II)Z"⟩, 4), (⟨"LinkedVerse", "brokenByNext", "(III)I"⟩, 8), (⟨"LinkedVerse$Sheet", "isBroken", "(II)Z"⟩, 10), (⟨"LinkedVerse$Sheet", "isAgain", "(II)Z"⟩, 10), (⟨"LinkedVerse$Sheet", "isWordShared", "(II)Z"⟩, 10), (⟨"LinkedVerse$Rules", "isRunBroken", "(IIIZ)Z"⟩, 12), (⟨"LinkedVerse$Ending", "layStart", "()V"⟩, 15), (⟨"LinkedVerse$States", "layInSlot", "(IJJ)I"⟩, 5), (⟨"LinkedVerse$Ending", "gather", "(I)V"⟩, 15), (⟨"LinkedVerse$Ending", "stands", "(I)Z"⟩, 15), (⟨"LinkedVerse$Ending", "fill", "(I)Z"⟩, 15), (⟨"LinkedVerse$Onward", "takeNumbers", "(III)V"⟩, 12), (⟨"LinkedVerse$Ending", "fillFrom", "(III)Z"⟩, 15)]
theorem lw_r2 : ∀ q ∈ lw_privs_2, lw_okq q := List.forall_mem_cons.mpr ⟨lw_p16, List.forall_mem_cons.mpr ⟨lw_p17, List.forall_mem_cons.mpr ⟨lw_p18, List.forall_mem_cons.mpr ⟨lw_p19, List.forall_mem_cons.mpr ⟨lw_p20, List.forall_mem_cons.mpr ⟨lw_p21, List.forall_mem_cons.mpr ⟨lw_p22, List.forall_mem_cons.mpr ⟨lw_p23, List.forall_mem_cons.mpr ⟨lw_p24, List.forall_mem_cons.mpr ⟨lw_p25, List.forall_mem_cons.mpr ⟨lw_p26, List.forall_mem_cons.mpr ⟨lw_p27, List.forall_mem_cons.mpr ⟨lw_p28, List.forall_mem_cons.mpr ⟨lw_p29, List.forall_mem_cons.mpr ⟨lw_p30, List.forall_mem_cons.mpr ⟨lw_p31, fun _ h => absurd h List.not_mem_nil⟩⟩⟩⟩⟩⟩⟩⟩⟩⟩⟩⟩⟩⟩⟩⟩
theorem lw_p32 : lw_okq (⟨"LinkedVerse$Ending", "lookBack", "()V"⟩, 15) := ⟨⟨by decide +kernel, by decide +kernel⟩, List.mem_of_getElem? (i := 297) (by decide +kernel), List.mem_of_getElem? (i := 987) (by decide +kernel), List.mem_of_getElem? (i := 988) (by decide +kernel)⟩
theorem lw_p33 : lw_okq (⟨"LinkedVerse$Ending", "leadingFrom", "(II)I"⟩, 15) := ⟨⟨by decide +kernel, by decide +kernel⟩, List.mem_of_getElem? (i := 297) (by decide +kernel), List.mem_of_getElem? (i := 991) (by decide +kernel), List.mem_of_getElem? (i := 992) (by decide +kernel)⟩
theorem lw_p34 : lw_okq (⟨"LinkedVerse$Ending", "candidateCount", "(I)I"⟩, 15) := ⟨⟨by decide +kernel, by decide +kernel⟩, List.mem_of_getElem? (i := 297) (by decide +kernel), List.mem_of_getElem? (i := 995) (by decide +kernel), List.mem_of_getElem? (i := 996) (by decide +kernel)⟩
theorem lw_p35 : lw_okq (⟨"LinkedVerse$Ending", "walk", "()V"⟩, 15) := ⟨⟨by decide +kernel, by decide +kernel⟩, List.mem_of_getElem? (i := 297) (by decide +kernel), List.mem_of_getElem? (i := 1002) (by decide +kernel), List.mem_of_getElem? (i := 1003) (by decide +kernel)⟩
theorem lw_p36 : lw_okq (⟨"LinkedVerse$Store", "takeSets", "()V"⟩, 12) := ⟨⟨by decide +kernel, by decide +kernel⟩, List.mem_of_getElem? (i := 452) (by decide +kernel), List.mem_of_getElem? (i := 1031) (by decide +kernel), List.mem_of_getElem? (i := 1032) (by decide +kernel)⟩
theorem lw_p37 : lw_okq (⟨"LinkedVerse$Store", "isGood", "(I)Z"⟩, 12) := ⟨⟨by decide +kernel, by decide +kernel⟩, List.mem_of_getElem? (i := 452) (by decide +kernel), List.mem_of_getElem? (i := 1036) (by decide +kernel), List.mem_of_getElem? (i := 1037) (by decide +kernel)⟩
theorem lw_p38 : lw_okq (⟨"LinkedVerse$Store", "keepIfBetter", "(I)V"⟩, 12) := ⟨⟨by decide +kernel, by decide +kernel⟩, List.mem_of_getElem? (i := 452) (by decide +kernel), List.mem_of_getElem? (i := 1043) (by decide +kernel), List.mem_of_getElem? (i := 1044) (by decide +kernel)⟩
theorem lw_p39 : lw_okq (⟨"LinkedVerse$Sheet", "isLinked", "(II)Z"⟩, 10) := ⟨⟨by decide +kernel, by decide +kernel⟩, List.mem_of_getElem? (i := 253) (by decide +kernel), List.mem_of_getElem? (i := 1059) (by decide +kernel), List.mem_of_getElem? (i := 1060) (by decide +kernel)⟩
theorem lw_p40 : lw_okq (⟨"java/lang/Throwable", "fillInStackTrace", "(I)Ljava/lang/Throwable;"⟩, 6) := ⟨⟨by decide +kernel, by decide +kernel⟩, List.mem_of_getElem? (i := 1123) (by decide +kernel), List.mem_of_getElem? (i := 1121) (by decide +kernel), List.mem_of_getElem? (i := 1122) (by decide +kernel)⟩
theorem lw_p41 : lw_okq (⟨"LinkedVerseModel", "next", "()V"⟩, 65) := ⟨⟨by decide +kernel, by decide +kernel⟩, List.mem_of_getElem? (i := 1153) (by decide +kernel), List.mem_of_getElem? (i := 1365) (by decide +kernel), List.mem_of_getElem? (i := 1366) (by decide +kernel)⟩
theorem lw_p42 : lw_okq (⟨"LinkedVerseModel", "isSmall", "()Z"⟩, 65) := ⟨⟨by decide +kernel, by decide +kernel⟩, List.mem_of_getElem? (i := 1153) (by decide +kernel), List.mem_of_getElem? (i := 1369) (by decide +kernel), List.mem_of_getElem? (i := 1370) (by decide +kernel)⟩
theorem lw_p43 : lw_okq (⟨"LinkedVerseModel", "isDigit", "()Z"⟩, 65) := ⟨⟨by decide +kernel, by decide +kernel⟩, List.mem_of_getElem? (i := 1153) (by decide +kernel), List.mem_of_getElem? (i := 1375) (by decide +kernel), List.mem_of_getElem? (i := 1376) (by decide +kernel)⟩
theorem lw_p44 : lw_okq (⟨"LinkedVerseModel", "telling", "()V"⟩, 65) := ⟨⟨by decide +kernel, by decide +kernel⟩, List.mem_of_getElem? (i := 1153) (by decide +kernel), List.mem_of_getElem? (i := 1385) (by decide +kernel), List.mem_of_getElem? (i := 1386) (by decide +kernel)⟩
theorem lw_p45 : lw_okq (⟨"LinkedVerseModel", "keyword", "()I"⟩, 65) := ⟨⟨by decide +kernel, by decide +kernel⟩, List.mem_of_getElem? (i := 1153) (by decide +kernel), List.mem_of_getElem? (i := 1389) (by decide +kernel), List.mem_of_getElem? (i := 1390) (by decide +kernel)⟩
theorem lw_p46 : lw_okq (⟨"LinkedVerseModel", "wrong", "(I)V"⟩, 65) := ⟨⟨by decide +kernel, by decide +kernel⟩, List.mem_of_getElem? (i := 1153) (by decide +kernel), List.mem_of_getElem? (i := 1406) (by decide +kernel), List.mem_of_getElem? (i := 1407) (by decide +kernel)⟩
theorem lw_p47 : lw_okq (⟨"LinkedVerseModel", "freshName", "()J"⟩, 65) := ⟨⟨by decide +kernel, by decide +kernel⟩, List.mem_of_getElem? (i := 1153) (by decide +kernel), List.mem_of_getElem? (i := 1410) (by decide +kernel), List.mem_of_getElem? (i := 1411) (by decide +kernel)⟩
def lw_privs_3 : List (MethodName × Nat) := [(⟨"LinkedVerse$Ending", "lookBack", "()V"⟩, 15), (⟨"LinkedVerse$Ending", "leadingFrom", "(II)I"⟩, 15), (⟨"LinkedVerse$Ending", "candidateCount", "(I)I"⟩, 15), (⟨"LinkedVerse$Ending", "walk", "()V"⟩, 15), (⟨"LinkedVerse$Store", "takeSets", "()V"⟩, 12), (⟨"LinkedVerse$Store", "isGood", "(I)Z"⟩, 12), (⟨"LinkedVerse$Store", "keepIfBetter", "(I)V"⟩, 12), (⟨"LinkedVerse$Sheet", "isLinked", "(II)Z"⟩, 10), (⟨"java/lang/Throwable", "fillInStackTrace", "(I)Ljava/lang/Throwable;"⟩, 6), (⟨"LinkedVerseModel", "next", "()V"⟩, 65), (⟨"LinkedVerseModel", "isSmall", "()Z"⟩, 65), (⟨"LinkedVerseModel", "isDigit", "()Z"⟩, 65), (⟨"LinkedVerseModel", "telling", "()V"⟩, 65), (⟨"LinkedVerseModel", "keyword", "()I"⟩, 65), (⟨"LinkedVerseModel", "wrong", "(I)V"⟩, 65), (⟨"LinkedVerseModel", "freshName", "()J"⟩, 65)]
theorem lw_r3 : ∀ q ∈ lw_privs_3, lw_okq q := List.forall_mem_cons.mpr ⟨lw_p32, List.forall_mem_cons.mpr ⟨lw_p33, List.forall_mem_cons.mpr ⟨lw_p34, List.forall_mem_cons.mpr ⟨lw_p35, List.forall_mem_cons.mpr ⟨lw_p36, List.forall_mem_cons.mpr ⟨lw_p37, List.forall_mem_cons.mpr ⟨lw_p38, List.forall_mem_cons.mpr ⟨lw_p39, List.forall_mem_cons.mpr ⟨lw_p40, List.forall_mem_cons.mpr ⟨lw_p41, List.forall_mem_cons.mpr ⟨lw_p42, List.forall_mem_cons.mpr ⟨lw_p43, List.forall_mem_cons.mpr ⟨lw_p44, List.forall_mem_cons.mpr ⟨lw_p45, List.forall_mem_cons.mpr ⟨lw_p46, List.forall_mem_cons.mpr ⟨lw_p47, fun _ h => absurd h List.not_mem_nil⟩⟩⟩⟩⟩⟩⟩⟩⟩⟩⟩⟩⟩⟩⟩⟩
theorem lw_p48 : lw_okq (⟨"LinkedVerseModel", "nameHere", "()I"⟩, 65) := ⟨⟨by decide +kernel, by decide +kernel⟩, List.mem_of_getElem? (i := 1153) (by decide +kernel), List.mem_of_getElem? (i := 1414) (by decide +kernel), List.mem_of_getElem? (i := 1415) (by decide +kernel)⟩
theorem lw_p49 : lw_okq (⟨"LinkedVerseModel", "names", "(JI)V"⟩, 65) := ⟨⟨by decide +kernel, by decide +kernel⟩, List.mem_of_getElem? (i := 1153) (by decide +kernel), List.mem_of_getElem? (i := 1418) (by decide +kernel), List.mem_of_getElem? (i := 1419) (by decide +kernel)⟩
theorem lw_p50 : lw_okq (⟨"LinkedVerseModel", "group", "()V"⟩, 65) := ⟨⟨by decide +kernel, by decide +kernel⟩, List.mem_of_getElem? (i := 1153) (by decide +kernel), List.mem_of_getElem? (i := 1422) (by decide +kernel), List.mem_of_getElem? (i := 1423) (by decide +kernel)⟩
theorem lw_p51 : lw_okq (⟨"LinkedVerseModel", "must", "(I)V"⟩, 65) := ⟨⟨by decide +kernel, by decide +kernel⟩, List.mem_of_getElem? (i := 1153) (by decide +kernel), List.mem_of_getElem? (i := 1426) (by decide +kernel), List.mem_of_getElem? (i := 1427) (by decide +kernel)⟩
theorem lw_p52 : lw_okq (⟨"LinkedVerseModel", "name", "()I"⟩, 65) := ⟨⟨by decide +kernel, by decide +kernel⟩, List.mem_of_getElem? (i := 1153) (by decide +kernel), List.mem_of_getElem? (i := 1430) (by decide +kernel), List.mem_of_getElem? (i := 1431) (by decide +kernel)⟩
theorem lw_p53 : lw_okq (⟨"LinkedVerseModel", "number", "(II)I"⟩, 65) := ⟨⟨by decide +kernel, by decide +kernel⟩, List.mem_of_getElem? (i := 1153) (by decide +kernel), List.mem_of_getElem? (i := 1434) (by decide +kernel), List.mem_of_getElem? (i := 1435) (by decide +kernel)⟩
theorem lw_p54 : lw_okq (⟨"LinkedVerseModel", "rule", "(I)V"⟩, 65) := ⟨⟨by decide +kernel, by decide +kernel⟩, List.mem_of_getElem? (i := 1153) (by decide +kernel), List.mem_of_getElem? (i := 1438) (by decide +kernel), List.mem_of_getElem? (i := 1439) (by decide +kernel)⟩
theorem lw_p55 : lw_okq (⟨"LinkedVerseModel", "begins", "()V"⟩, 65) := ⟨⟨by decide +kernel, by decide +kernel⟩, List.mem_of_getElem? (i := 1153) (by decide +kernel), List.mem_of_getElem? (i := 1442) (by decide +kernel), List.mem_of_getElem? (i := 1443) (by decide +kernel)⟩
theorem lw_p56 : lw_okq (⟨"LinkedVerseModel", "told", "(I)I"⟩, 65) := ⟨⟨by decide +kernel, by decide +kernel⟩, List.mem_of_getElem? (i := 1153) (by decide +kernel), List.mem_of_getElem? (i := 1457) (by decide +kernel), List.mem_of_getElem? (i := 1458) (by decide +kernel)⟩
theorem lw_p57 : lw_okq (⟨"LinkedVerseModel", "passes", "(I)V"⟩, 65) := ⟨⟨by decide +kernel, by decide +kernel⟩, List.mem_of_getElem? (i := 1153) (by decide +kernel), List.mem_of_getElem? (i := 1466) (by decide +kernel), List.mem_of_getElem? (i := 1467) (by decide +kernel)⟩
theorem lw_p58 : lw_okq (⟨"LinkedVerseModel", "isSet", "(I)Z"⟩, 65) := ⟨⟨by decide +kernel, by decide +kernel⟩, List.mem_of_getElem? (i := 1153) (by decide +kernel), List.mem_of_getElem? (i := 1478) (by decide +kernel), List.mem_of_getElem? (i := 1479) (by decide +kernel)⟩
theorem lw_p59 : lw_okq (⟨"LinkedVerseModel", "setOf", "(I)I"⟩, 65) := ⟨⟨by decide +kernel, by decide +kernel⟩, List.mem_of_getElem? (i := 1153) (by decide +kernel), List.mem_of_getElem? (i := 1486) (by decide +kernel), List.mem_of_getElem? (i := 1487) (by decide +kernel)⟩
theorem lw_p60 : lw_okq (⟨"LinkedVerseModel", "likingOf", "(II)I"⟩, 65) := ⟨⟨by decide +kernel, by decide +kernel⟩, List.mem_of_getElem? (i := 1153) (by decide +kernel), List.mem_of_getElem? (i := 1498) (by decide +kernel), List.mem_of_getElem? (i := 1499) (by decide +kernel)⟩
theorem lw_p61 : lw_okq (⟨"LinkedVerseModel", "worns", "()I"⟩, 65) := ⟨⟨by decide +kernel, by decide +kernel⟩, List.mem_of_getElem? (i := 1153) (by decide +kernel), List.mem_of_getElem? (i := 1509) (by decide +kernel), List.mem_of_getElem? (i := 1510) (by decide +kernel)⟩
theorem lw_p62 : lw_okq (⟨"LinkedVerseModel", "alongSheet", "()V"⟩, 65) := ⟨⟨by decide +kernel, by decide +kernel⟩, List.mem_of_getElem? (i := 1153) (by decide +kernel), List.mem_of_getElem? (i := 1513) (by decide +kernel), List.mem_of_getElem? (i := 1514) (by decide +kernel)⟩
theorem lw_p63 : lw_okq (⟨"LinkedVerseModel", "alongNothing", "()V"⟩, 65) := ⟨⟨by decide +kernel, by decide +kernel⟩, List.mem_of_getElem? (i := 1153) (by decide +kernel), List.mem_of_getElem? (i := 1517) (by decide +kernel), List.mem_of_getElem? (i := 1518) (by decide +kernel)⟩
def lw_privs_4 : List (MethodName × Nat) := [(⟨"LinkedVerseModel", "nameHere", "()I"⟩, 65), (⟨"LinkedVerseModel", "names", "(JI)V"⟩, 65), (⟨"LinkedVerseModel", "group", "()V"⟩, 65), (⟨"LinkedVerseModel", "must", "(I)V"⟩, 65), (⟨"LinkedVerseModel", "name", "()I"⟩, 65), (⟨"LinkedVerseModel", "number", "(II)I"⟩, 65), (⟨"LinkedVerseModel", "rule", "(I)V"⟩, 65), (⟨"LinkedVerseModel", "begins", "()V"⟩, 65), (⟨"LinkedVerseModel", "told", "(I)I"⟩, 65), (⟨"LinkedVerseModel", "passes", "(I)V"⟩, 65), (⟨"LinkedVerseModel", "isSet", "(I)Z"⟩, 65), (⟨"LinkedVerseModel", "setOf", "(I)I"⟩, 65), (⟨"LinkedVerseModel", "likingOf", "(II)I"⟩, 65), (⟨"LinkedVerseModel", "worns", "()I"⟩, 65), (⟨"LinkedVerseModel", "alongSheet", "()V"⟩, 65), (⟨"LinkedVerseModel", "alongNothing", "()V"⟩, 65)]
theorem lw_r4 : ∀ q ∈ lw_privs_4, lw_okq q := List.forall_mem_cons.mpr ⟨lw_p48, List.forall_mem_cons.mpr ⟨lw_p49, List.forall_mem_cons.mpr ⟨lw_p50, List.forall_mem_cons.mpr ⟨lw_p51, List.forall_mem_cons.mpr ⟨lw_p52, List.forall_mem_cons.mpr ⟨lw_p53, List.forall_mem_cons.mpr ⟨lw_p54, List.forall_mem_cons.mpr ⟨lw_p55, List.forall_mem_cons.mpr ⟨lw_p56, List.forall_mem_cons.mpr ⟨lw_p57, List.forall_mem_cons.mpr ⟨lw_p58, List.forall_mem_cons.mpr ⟨lw_p59, List.forall_mem_cons.mpr ⟨lw_p60, List.forall_mem_cons.mpr ⟨lw_p61, List.forall_mem_cons.mpr ⟨lw_p62, List.forall_mem_cons.mpr ⟨lw_p63, fun _ h => absurd h List.not_mem_nil⟩⟩⟩⟩⟩⟩⟩⟩⟩⟩⟩⟩⟩⟩⟩⟩
theorem lw_p64 : lw_okq (⟨"LinkedVerseModel", "goesAlong", "(I)V"⟩, 65) := ⟨⟨by decide +kernel, by decide +kernel⟩, List.mem_of_getElem? (i := 1153) (by decide +kernel), List.mem_of_getElem? (i := 1521) (by decide +kernel), List.mem_of_getElem? (i := 1522) (by decide +kernel)⟩
theorem lw_p65 : lw_okq (⟨"LinkedVerseModel", "brokenBy", "(IIII)I"⟩, 65) := ⟨⟨by decide +kernel, by decide +kernel⟩, List.mem_of_getElem? (i := 1153) (by decide +kernel), List.mem_of_getElem? (i := 1525) (by decide +kernel), List.mem_of_getElem? (i := 1526) (by decide +kernel)⟩
theorem lw_p66 : lw_okq (⟨"LinkedVerseModel", "setOf", "(III)I"⟩, 65) := ⟨⟨by decide +kernel, by decide +kernel⟩, List.mem_of_getElem? (i := 1153) (by decide +kernel), List.mem_of_getElem? (i := 1529) (by decide +kernel), List.mem_of_getElem? (i := 1530) (by decide +kernel)⟩
theorem lw_p67 : lw_okq (⟨"LinkedVerseModel", "broken", "(II)I"⟩, 65) := ⟨⟨by decide +kernel, by decide +kernel⟩, List.mem_of_getElem? (i := 1153) (by decide +kernel), List.mem_of_getElem? (i := 1533) (by decide +kernel), List.mem_of_getElem? (i := 1534) (by decide +kernel)⟩
theorem lw_p68 : lw_okq (⟨"LinkedVerseModel", "areLinked", "(II)Z"⟩, 65) := ⟨⟨by decide +kernel, by decide +kernel⟩, List.mem_of_getElem? (i := 1153) (by decide +kernel), List.mem_of_getElem? (i := 1537) (by decide +kernel), List.mem_of_getElem? (i := 1538) (by decide +kernel)⟩
theorem lw_p69 : lw_okq (⟨"LinkedVerseModel", "isAgain", "(IIIII)Z"⟩, 65) := ⟨⟨by decide +kernel, by decide +kernel⟩, List.mem_of_getElem? (i := 1153) (by decide +kernel), List.mem_of_getElem? (i := 1541) (by decide +kernel), List.mem_of_getElem? (i := 1542) (by decide +kernel)⟩
theorem lw_p70 : lw_okq (⟨"LinkedVerseModel", "lays", "(IIII)V"⟩, 65) := ⟨⟨by decide +kernel, by decide +kernel⟩, List.mem_of_getElem? (i := 1153) (by decide +kernel), List.mem_of_getElem? (i := 1545) (by decide +kernel), List.mem_of_getElem? (i := 1546) (by decide +kernel)⟩
theorem lw_p71 : lw_okq (⟨"LinkedVerseModel", "goesOn", "(II)Z"⟩, 65) := ⟨⟨by decide +kernel, by decide +kernel⟩, List.mem_of_getElem? (i := 1153) (by decide +kernel), List.mem_of_getElem? (i := 1569) (by decide +kernel), List.mem_of_getElem? (i := 1570) (by decide +kernel)⟩
theorem lw_p72 : lw_okq (⟨"LinkedVerseModel", "takes", "(II)V"⟩, 65) := ⟨⟨by decide +kernel, by decide +kernel⟩, List.mem_of_getElem? (i := 1153) (by decide +kernel), List.mem_of_getElem? (i := 1573) (by decide +kernel), List.mem_of_getElem? (i := 1574) (by decide +kernel)⟩
theorem lw_p73 : lw_okq (⟨"LinkedVerseModel", "finds", "(I)I"⟩, 65) := ⟨⟨by decide +kernel, by decide +kernel⟩, List.mem_of_getElem? (i := 1153) (by decide +kernel), List.mem_of_getElem? (i := 1577) (by decide +kernel), List.mem_of_getElem? (i := 1578) (by decide +kernel)⟩
theorem lw_p74 : lw_okq (⟨"LinkedVerseModel", "looksBack", "()V"⟩, 65) := ⟨⟨by decide +kernel, by decide +kernel⟩, List.mem_of_getElem? (i := 1153) (by decide +kernel), List.mem_of_getElem? (i := 1581) (by decide +kernel), List.mem_of_getElem? (i := 1582) (by decide +kernel)⟩
theorem lw_p75 : lw_okq (⟨"LinkedVerseModel", "isOpen", "(I)Z"⟩, 65) := ⟨⟨by decide +kernel, by decide +kernel⟩, List.mem_of_getElem? (i := 1153) (by decide +kernel), List.mem_of_getElem? (i := 1589) (by decide +kernel), List.mem_of_getElem? (i := 1590) (by decide +kernel)⟩
theorem lw_p76 : lw_okq (⟨"LinkedVerseModel", "tries", "(III)V"⟩, 65) := ⟨⟨by decide +kernel, by decide +kernel⟩, List.mem_of_getElem? (i := 1153) (by decide +kernel), List.mem_of_getElem? (i := 1605) (by decide +kernel), List.mem_of_getElem? (i := 1606) (by decide +kernel)⟩
def lw_privs_5 : List (MethodName × Nat) := [(⟨"LinkedVerseModel", "goesAlong", "(I)V"⟩, 65), (⟨"LinkedVerseModel", "brokenBy", "(IIII)I"⟩, 65), (⟨"LinkedVerseModel", "setOf", "(III)I"⟩, 65), (⟨"LinkedVerseModel", "broken", "(II)I"⟩, 65), (⟨"LinkedVerseModel", "areLinked", "(II)Z"⟩, 65), (⟨"LinkedVerseModel", "isAgain", "(IIIII)Z"⟩, 65), (⟨"LinkedVerseModel", "lays", "(IIII)V"⟩, 65), (⟨"LinkedVerseModel", "goesOn", "(II)Z"⟩, 65), (⟨"LinkedVerseModel", "takes", "(II)V"⟩, 65), (⟨"LinkedVerseModel", "finds", "(I)I"⟩, 65), (⟨"LinkedVerseModel", "looksBack", "()V"⟩, 65), (⟨"LinkedVerseModel", "isOpen", "(I)Z"⟩, 65), (⟨"LinkedVerseModel", "tries", "(III)V"⟩, 65)]
theorem lw_r5 : ∀ q ∈ lw_privs_5, lw_okq q := List.forall_mem_cons.mpr ⟨lw_p64, List.forall_mem_cons.mpr ⟨lw_p65, List.forall_mem_cons.mpr ⟨lw_p66, List.forall_mem_cons.mpr ⟨lw_p67, List.forall_mem_cons.mpr ⟨lw_p68, List.forall_mem_cons.mpr ⟨lw_p69, List.forall_mem_cons.mpr ⟨lw_p70, List.forall_mem_cons.mpr ⟨lw_p71, List.forall_mem_cons.mpr ⟨lw_p72, List.forall_mem_cons.mpr ⟨lw_p73, List.forall_mem_cons.mpr ⟨lw_p74, List.forall_mem_cons.mpr ⟨lw_p75, List.forall_mem_cons.mpr ⟨lw_p76, fun _ h => absurd h List.not_mem_nil⟩⟩⟩⟩⟩⟩⟩⟩⟩⟩⟩⟩⟩
def lw_privs : List (MethodName × Nat) := lw_privs_1 ++ (lw_privs_2 ++ (lw_privs_3 ++ (lw_privs_4 ++ (lw_privs_5))))
def lw_tbl : List Cond := k2_sels lw_privs ++ tables_1
theorem lw_privs_ok : ∀ q ∈ lw_privs, lw_okq q := by
  show ∀ q ∈ lw_privs_1 ++ (lw_privs_2 ++ (lw_privs_3 ++ (lw_privs_4 ++ (lw_privs_5)))), lw_okq q
  exact List.forall_mem_append.mpr ⟨lw_r1, List.forall_mem_append.mpr ⟨lw_r2, List.forall_mem_append.mpr ⟨lw_r3, List.forall_mem_append.mpr ⟨lw_r4, lw_r5⟩⟩⟩⟩
def RX0 : String := "LinkedVerse$Book"
def TX0 : u_T := fun k => match k with
  | 0 => ("LinkedVerse$Book", "year", "I", false)
  | 1 => ("LinkedVerse$Book", "size", "I", false)
  | 2 => ("LinkedVerse$Book", "words", "[I", true)
  | 3 => ("LinkedVerse$Book", "years", "[I", true)
  | _ => ("LinkedVerse$Book", "sets", "[I", true)
def tyX0 : Nat → FieldType := fun k => match k with
  | 0 => .int
  | 1 => .int
  | 2 => .array .int
  | 3 => .array .int
  | _ => .array .int
abbrev wsX00 : List Cond := u_ws RX0 TX0 5
theorem nmX0 : ∀ a, a < 5 → ∀ b, b < 5 → a ≠ b → (TX0 a).2.1 ≠ (TX0 b).2.1 := by decide +kernel
theorem tyX0_ok : ∀ k, k < 5 → parseFieldDescriptor (TX0 k).2.2.1 = some (tyX0 k) := by decide +kernel
def RX1 : String := "LinkedVerse$Candidates"
def TX1 : u_T := fun k => match k with
  | 0 => ("LinkedVerse$Candidates", "rules", "LLinkedVerse$Rules;", true)
  | 1 => ("LinkedVerse$Candidates", "values", "LLinkedVerse$Values;", true)
  | 2 => ("LinkedVerse$Candidates", "sets", "[I", true)
  | 3 => ("LinkedVerse$Candidates", "hads", "[I", true)
  | 4 => ("LinkedVerse$Candidates", "size", "I", false)
  | _ => ("LinkedVerse$Candidates", "links", "[I", true)
def tyX1 : Nat → FieldType := fun k => match k with
  | 0 => .object "LinkedVerse$Rules"
  | 1 => .object "LinkedVerse$Values"
  | 2 => .array .int
  | 3 => .array .int
  | 4 => .int
  | _ => .array .int
abbrev wsX10 : List Cond := u_ws RX1 TX1 6
theorem nmX1 : ∀ a, a < 6 → ∀ b, b < 6 → a ≠ b → (TX1 a).2.1 ≠ (TX1 b).2.1 := by decide +kernel
theorem tyX1_ok : ∀ k, k < 6 → parseFieldDescriptor (TX1 k).2.2.1 = some (tyX1 k) := by decide +kernel
def RX2 : String := "LinkedVerse$Ending"
def TX2 : u_T := fun k => match k with
  | 0 => ("LinkedVerse$Ending", "rules", "LLinkedVerse$Rules;", true)
  | 1 => ("LinkedVerse$Ending", "sheet", "LLinkedVerse$Sheet;", true)
  | 2 => ("LinkedVerse$Ending", "types", "[I", true)
  | 3 => ("LinkedVerse$Ending", "typeCount", "I", false)
  | 4 => ("LinkedVerse$Ending", "stateCount", "I", false)
  | 5 => ("LinkedVerse$Ending", "fullTypes", "[I", true)
  | 6 => ("LinkedVerse$Ending", "canTypes", "[I", true)
  | 7 => ("LinkedVerse$Ending", "candidates", "LLinkedVerse$Candidates;", true)
  | 8 => ("LinkedVerse$Ending", "areTypesCandidates", "Z", false)
  | 9 => ("LinkedVerse$Ending", "onward", "LLinkedVerse$Onward;", true)
  | 10 => ("LinkedVerse$Ending", "from", "LLinkedVerse$States;", false)
  | 11 => ("LinkedVerse$Ending", "to", "LLinkedVerse$States;", false)
  | 12 => ("LinkedVerse$Ending", "sizes", "[I", true)
  | 13 => ("LinkedVerse$Ending", "nexts", "[S", true)
  | _ => ("LinkedVerse$Ending", "leasts", "[B", true)
def tyX2 : Nat → FieldType := fun k => match k with
  | 0 => .object "LinkedVerse$Rules"
  | 1 => .object "LinkedVerse$Sheet"
  | 2 => .array .int
  | 3 => .int
  | 4 => .int
  | 5 => .array .int
  | 6 => .array .int
  | 7 => .object "LinkedVerse$Candidates"
  | 8 => .boolean
  | 9 => .object "LinkedVerse$Onward"
  | 10 => .object "LinkedVerse$States"
  | 11 => .object "LinkedVerse$States"
  | 12 => .array .int
  | 13 => .array .short
  | _ => .array .byte
abbrev wsX20 : List Cond := u_ws RX2 TX2 15
theorem nmX2 : ∀ a, a < 15 → ∀ b, b < 15 → a ≠ b → (TX2 a).2.1 ≠ (TX2 b).2.1 := by decide +kernel
theorem tyX2_ok : ∀ k, k < 15 → parseFieldDescriptor (TX2 k).2.2.1 = some (tyX2 k) := by decide +kernel
def RX3 : String := "LinkedVerse$Onward"
def TX3 : u_T := fun k => match k with
  | 0 => ("LinkedVerse$Onward", "rules", "LLinkedVerse$Rules;", true)
  | 1 => ("LinkedVerse$Onward", "counting", "[I", true)
  | 2 => ("LinkedVerse$Onward", "countingSize", "I", false)
  | 3 => ("LinkedVerse$Onward", "place", "I", false)
  | 4 => ("LinkedVerse$Onward", "placeBreaksIfHad", "I", false)
  | 5 => ("LinkedVerse$Onward", "placeBreaksIfNot", "I", false)
  | 6 => ("LinkedVerse$Onward", "breaksIfHad", "I", false)
  | 7 => ("LinkedVerse$Onward", "breaksIfNot", "I", false)
  | 8 => ("LinkedVerse$Onward", "lowIfNot", "J", false)
  | 9 => ("LinkedVerse$Onward", "highIfNot", "J", false)
  | 10 => ("LinkedVerse$Onward", "lowMore", "[J", true)
  | _ => ("LinkedVerse$Onward", "highMore", "[J", true)
def tyX3 : Nat → FieldType := fun k => match k with
  | 0 => .object "LinkedVerse$Rules"
  | 1 => .array .int
  | 2 => .int
  | 3 => .int
  | 4 => .int
  | 5 => .int
  | 6 => .int
  | 7 => .int
  | 8 => .long
  | 9 => .long
  | 10 => .array .long
  | _ => .array .long
abbrev wsX30 : List Cond := u_ws RX3 TX3 12
theorem nmX3 : ∀ a, a < 12 → ∀ b, b < 12 → a ≠ b → (TX3 a).2.1 ≠ (TX3 b).2.1 := by decide +kernel
theorem tyX3_ok : ∀ k, k < 12 → parseFieldDescriptor (TX3 k).2.2.1 = some (tyX3 k) := by decide +kernel
def RX4 : String := "LinkedVerse$Poets"
def TX4 : u_T := fun k => match k with
  | 0 => ("LinkedVerse$Poets", "size", "I", false)
  | 1 => ("LinkedVerse$Poets", "ranks", "[I", true)
  | 2 => ("LinkedVerse$Poets", "verses", "[I", true)
  | _ => ("LinkedVerse$Poets", "passed", "[Z", true)
def tyX4 : Nat → FieldType := fun k => match k with
  | 0 => .int
  | 1 => .array .int
  | 2 => .array .int
  | _ => .array .boolean
abbrev wsX40 : List Cond := u_ws RX4 TX4 4
theorem nmX4 : ∀ a, a < 4 → ∀ b, b < 4 → a ≠ b → (TX4 a).2.1 ≠ (TX4 b).2.1 := by decide +kernel
theorem tyX4_ok : ∀ k, k < 4 → parseFieldDescriptor (TX4 k).2.2.1 = some (tyX4 k) := by decide +kernel
def RX5 : String := "LinkedVerse$Reader"
def TX5 : u_T := fun k => match k with
  | 0 => ("LinkedVerse$Reader", "told", "LLinkedVerse$Rules;", true)
  | 1 => ("LinkedVerse$Reader", "bytes", "[I", true)
  | 2 => ("LinkedVerse$Reader", "size", "I", false)
  | 3 => ("LinkedVerse$Reader", "keywords", "[J", true)
  | 4 => ("LinkedVerse$Reader", "next", "I", false)
  | 5 => ("LinkedVerse$Reader", "fault", "I", false)
  | 6 => ("LinkedVerse$Reader", "token", "I", false)
  | 7 => ("LinkedVerse$Reader", "start", "I", false)
  | 8 => ("LinkedVerse$Reader", "number", "I", false)
  | _ => ("LinkedVerse$Reader", "letters", "J", false)
def tyX5 : Nat → FieldType := fun k => match k with
  | 0 => .object "LinkedVerse$Rules"
  | 1 => .array .int
  | 2 => .int
  | 3 => .array .long
  | 4 => .int
  | 5 => .int
  | 6 => .int
  | 7 => .int
  | 8 => .int
  | _ => .long
abbrev wsX50 : List Cond := u_ws RX5 TX5 10
theorem nmX5 : ∀ a, a < 10 → ∀ b, b < 10 → a ≠ b → (TX5 a).2.1 ≠ (TX5 b).2.1 := by decide +kernel
theorem tyX5_ok : ∀ k, k < 10 → parseFieldDescriptor (TX5 k).2.2.1 = some (tyX5 k) := by decide +kernel
def RX6 : String := "LinkedVerse$Rules"
def TX6 : u_T := fun k => match k with
  | 0 => ("LinkedVerse$Rules", "kinds", "I", false)
  | 1 => ("LinkedVerse$Rules", "groups", "I", false)
  | 2 => ("LinkedVerse$Rules", "size", "I", false)
  | 3 => ("LinkedVerse$Rules", "length", "I", false)
  | 4 => ("LinkedVerse$Rules", "minutes", "I", false)
  | 5 => ("LinkedVerse$Rules", "nameCount", "I", false)
  | 6 => ("LinkedVerse$Rules", "names", "[J", true)
  | 7 => ("LinkedVerse$Rules", "nameSets", "[I", true)
  | 8 => ("LinkedVerse$Rules", "sorts", "[I", true)
  | 9 => ("LinkedVerse$Rules", "sets", "[I", true)
  | 10 => ("LinkedVerse$Rules", "firsts", "[I", true)
  | _ => ("LinkedVerse$Rules", "seconds", "[I", true)
def tyX6 : Nat → FieldType := fun k => match k with
  | 0 => .int
  | 1 => .int
  | 2 => .int
  | 3 => .int
  | 4 => .int
  | 5 => .int
  | 6 => .array .long
  | 7 => .array .int
  | 8 => .array .int
  | 9 => .array .int
  | 10 => .array .int
  | _ => .array .int
abbrev wsX60 : List Cond := u_ws RX6 TX6 12
theorem nmX6 : ∀ a, a < 12 → ∀ b, b < 12 → a ≠ b → (TX6 a).2.1 ≠ (TX6 b).2.1 := by decide +kernel
theorem tyX6_ok : ∀ k, k < 12 → parseFieldDescriptor (TX6 k).2.2.1 = some (tyX6 k) := by decide +kernel
def RX7 : String := "LinkedVerse$Sheet"
def TX7 : u_T := fun k => match k with
  | 0 => ("LinkedVerse$Sheet", "rules", "LLinkedVerse$Rules;", true)
  | 1 => ("LinkedVerse$Sheet", "values", "LLinkedVerse$Values;", true)
  | 2 => ("LinkedVerse$Sheet", "size", "I", false)
  | 3 => ("LinkedVerse$Sheet", "wornCount", "I", false)
  | 4 => ("LinkedVerse$Sheet", "poets", "[I", true)
  | 5 => ("LinkedVerse$Sheet", "sets", "[I", true)
  | 6 => ("LinkedVerse$Sheet", "minutes", "[I", true)
  | 7 => ("LinkedVerse$Sheet", "words", "[I", true)
  | 8 => ("LinkedVerse$Sheet", "worn", "[Z", true)
  | _ => ("LinkedVerse$Sheet", "numbers", "[I", true)
def tyX7 : Nat → FieldType := fun k => match k with
  | 0 => .object "LinkedVerse$Rules"
  | 1 => .object "LinkedVerse$Values"
  | 2 => .int
  | 3 => .int
  | 4 => .array .int
  | 5 => .array .int
  | 6 => .array .int
  | 7 => .array .int
  | 8 => .array .boolean
  | _ => .array .int
abbrev wsX70 : List Cond := u_ws RX7 TX7 10
theorem nmX7 : ∀ a, a < 10 → ∀ b, b < 10 → a ≠ b → (TX7 a).2.1 ≠ (TX7 b).2.1 := by decide +kernel
theorem tyX7_ok : ∀ k, k < 10 → parseFieldDescriptor (TX7 k).2.2.1 = some (tyX7 k) := by decide +kernel
def RX8 : String := "LinkedVerse$States"
def TX8 : u_T := fun k => match k with
  | 0 => ("LinkedVerse$States", "lows", "[J", true)
  | 1 => ("LinkedVerse$States", "highs", "[J", true)
  | 2 => ("LinkedVerse$States", "size", "I", false)
  | 3 => ("LinkedVerse$States", "slots", "[I", true)
  | _ => ("LinkedVerse$States", "stamp", "I", false)
def tyX8 : Nat → FieldType := fun k => match k with
  | 0 => .array .long
  | 1 => .array .long
  | 2 => .int
  | 3 => .array .int
  | _ => .int
abbrev wsX80 : List Cond := u_ws RX8 TX8 5
theorem nmX8 : ∀ a, a < 5 → ∀ b, b < 5 → a ≠ b → (TX8 a).2.1 ≠ (TX8 b).2.1 := by decide +kernel
theorem tyX8_ok : ∀ k, k < 5 → parseFieldDescriptor (TX8 k).2.2.1 = some (tyX8 k) := by decide +kernel
def RX9 : String := "LinkedVerse$Store"
def TX9 : u_T := fun k => match k with
  | 0 => ("LinkedVerse$Store", "rules", "LLinkedVerse$Rules;", true)
  | 1 => ("LinkedVerse$Store", "values", "LLinkedVerse$Values;", true)
  | 2 => ("LinkedVerse$Store", "sheet", "LLinkedVerse$Sheet;", true)
  | 3 => ("LinkedVerse$Store", "book", "LLinkedVerse$Book;", true)
  | 4 => ("LinkedVerse$Store", "size", "I", false)
  | 5 => ("LinkedVerse$Store", "words", "[I", true)
  | 6 => ("LinkedVerse$Store", "sets", "[I", true)
  | 7 => ("LinkedVerse$Store", "bestSize", "I", false)
  | 8 => ("LinkedVerse$Store", "bestWorth", "I", false)
  | 9 => ("LinkedVerse$Store", "bestPicks", "[I", true)
  | 10 => ("LinkedVerse$Store", "picks", "[I", true)
  | _ => ("LinkedVerse$Store", "worths", "[I", true)
def tyX9 : Nat → FieldType := fun k => match k with
  | 0 => .object "LinkedVerse$Rules"
  | 1 => .object "LinkedVerse$Values"
  | 2 => .object "LinkedVerse$Sheet"
  | 3 => .object "LinkedVerse$Book"
  | 4 => .int
  | 5 => .array .int
  | 6 => .array .int
  | 7 => .int
  | 8 => .int
  | 9 => .array .int
  | 10 => .array .int
  | _ => .array .int
abbrev wsX90 : List Cond := u_ws RX9 TX9 12
theorem nmX9 : ∀ a, a < 12 → ∀ b, b < 12 → a ≠ b → (TX9 a).2.1 ≠ (TX9 b).2.1 := by decide +kernel
theorem tyX9_ok : ∀ k, k < 12 → parseFieldDescriptor (TX9 k).2.2.1 = some (tyX9 k) := by decide +kernel
def RX10 : String := "LinkedVerse$Values"
def TX10 : u_T := fun k => match k with
  | _ => ("LinkedVerse$Values", "table", "[I", true)
def tyX10 : Nat → FieldType := fun k => match k with
  | _ => .array .int
abbrev wsX100 : List Cond := u_ws RX10 TX10 1
theorem nmX10 : ∀ a, a < 1 → ∀ b, b < 1 → a ≠ b → (TX10 a).2.1 ≠ (TX10 b).2.1 := by decide +kernel
theorem tyX10_ok : ∀ k, k < 1 → parseFieldDescriptor (TX10 k).2.2.1 = some (tyX10 k) := by decide +kernel
def RX11 : String := "LinkedVerse"
def TX11 : u_T := fun k => match k with
  | 0 => ("LinkedVerse", "reader", "LLinkedVerse$Reader;", true)
  | 1 => ("LinkedVerse", "rules", "LLinkedVerse$Rules;", true)
  | 2 => ("LinkedVerse", "book", "LLinkedVerse$Book;", true)
  | 3 => ("LinkedVerse", "values", "LLinkedVerse$Values;", true)
  | 4 => ("LinkedVerse", "poets", "LLinkedVerse$Poets;", true)
  | 5 => ("LinkedVerse", "sheet", "LLinkedVerse$Sheet;", true)
  | 6 => ("LinkedVerse", "ending", "LLinkedVerse$Ending;", true)
  | _ => ("LinkedVerse", "store", "LLinkedVerse$Store;", true)
def tyX11 : Nat → FieldType := fun k => match k with
  | 0 => .object "LinkedVerse$Reader"
  | 1 => .object "LinkedVerse$Rules"
  | 2 => .object "LinkedVerse$Book"
  | 3 => .object "LinkedVerse$Values"
  | 4 => .object "LinkedVerse$Poets"
  | 5 => .object "LinkedVerse$Sheet"
  | 6 => .object "LinkedVerse$Ending"
  | _ => .object "LinkedVerse$Store"
abbrev wsX110 : List Cond := u_ws RX11 TX11 8
theorem nmX11 : ∀ a, a < 8 → ∀ b, b < 8 → a ≠ b → (TX11 a).2.1 ≠ (TX11 b).2.1 := by decide +kernel
theorem tyX11_ok : ∀ k, k < 8 → parseFieldDescriptor (TX11 k).2.2.1 = some (tyX11 k) := by decide +kernel
def RX12 : String := "LinkedVerseModel"
def TX12 : u_T := fun k => match k with
  | 0 => ("LinkedVerseModel", "thrown", "I", false)
  | 1 => ("LinkedVerseModel", "tape", "[B", true)
  | 2 => ("LinkedVerseModel", "taped", "I", false)
  | 3 => ("LinkedVerseModel", "at", "I", false)
  | 4 => ("LinkedVerseModel", "place", "I", false)
  | 5 => ("LinkedVerseModel", "token", "I", false)
  | 6 => ("LinkedVerseModel", "fault", "I", false)
  | 7 => ("LinkedVerseModel", "faultAt", "I", false)
  | 8 => ("LinkedVerseModel", "value", "J", false)
  | 9 => ("LinkedVerseModel", "newKinds", "I", false)
  | 10 => ("LinkedVerseModel", "newGroups", "I", false)
  | 11 => ("LinkedVerseModel", "newRules", "I", false)
  | 12 => ("LinkedVerseModel", "newLength", "I", false)
  | 13 => ("LinkedVerseModel", "newMinutes", "I", false)
  | 14 => ("LinkedVerseModel", "newName", "[J", true)
  | 15 => ("LinkedVerseModel", "newSet", "[I", true)
  | 16 => ("LinkedVerseModel", "newNames", "I", false)
  | 17 => ("LinkedVerseModel", "newSort", "[I", true)
  | 18 => ("LinkedVerseModel", "newOf", "[I", true)
  | 19 => ("LinkedVerseModel", "newA", "[I", true)
  | 20 => ("LinkedVerseModel", "newB", "[I", true)
  | 21 => ("LinkedVerseModel", "kinds", "I", false)
  | 22 => ("LinkedVerseModel", "groups", "I", false)
  | 23 => ("LinkedVerseModel", "rules", "I", false)
  | 24 => ("LinkedVerseModel", "length", "I", false)
  | 25 => ("LinkedVerseModel", "minutes", "I", false)
  | 26 => ("LinkedVerseModel", "sort", "[I", true)
  | 27 => ("LinkedVerseModel", "of", "[I", true)
  | 28 => ("LinkedVerseModel", "first", "[I", true)
  | 29 => ("LinkedVerseModel", "second", "[I", true)
  | 30 => ("LinkedVerseModel", "poets", "I", false)
  | 31 => ("LinkedVerseModel", "rank", "[I", true)
  | 32 => ("LinkedVerseModel", "hasPassed", "[Z", true)
  | 33 => ("LinkedVerseModel", "year", "I", false)
  | 34 => ("LinkedVerseModel", "entries", "I", false)
  | 35 => ("LinkedVerseModel", "entryWord", "[I", true)
  | 36 => ("LinkedVerseModel", "entryYear", "[I", true)
  | 37 => ("LinkedVerseModel", "entrySet", "[I", true)
  | 38 => ("LinkedVerseModel", "likes", "[I", true)
  | 39 => ("LinkedVerseModel", "along", "[I", true)
  | 40 => ("LinkedVerseModel", "verses", "I", false)
  | 41 => ("LinkedVerseModel", "by", "[I", true)
  | 42 => ("LinkedVerseModel", "set", "[I", true)
  | 43 => ("LinkedVerseModel", "words", "[I", true)
  | 44 => ("LinkedVerseModel", "isWorn", "[Z", true)
  | 45 => ("LinkedVerseModel", "took", "[I", true)
  | 46 => ("LinkedVerseModel", "types", "I", false)
  | 47 => ("LinkedVerseModel", "type", "[I", true)
  | 48 => ("LinkedVerseModel", "state", "[I", true)
  | 49 => ("LinkedVerseModel", "many", "[I", true)
  | 50 => ("LinkedVerseModel", "leads", "[I", true)
  | 51 => ("LinkedVerseModel", "isAlive", "[Z", true)
  | 52 => ("LinkedVerseModel", "isFixed", "[Z", true)
  | 53 => ("LinkedVerseModel", "firstType", "[I", true)
  | 54 => ("LinkedVerseModel", "canTypes", "[I", true)
  | 55 => ("LinkedVerseModel", "hasEnd", "Z", false)
  | 56 => ("LinkedVerseModel", "laid", "I", false)
  | 57 => ("LinkedVerseModel", "endLength", "I", false)
  | 58 => ("LinkedVerseModel", "stored", "I", false)
  | 59 => ("LinkedVerseModel", "store", "[I", true)
  | 60 => ("LinkedVerseModel", "bestMany", "I", false)
  | 61 => ("LinkedVerseModel", "bestWorth", "I", false)
  | 62 => ("LinkedVerseModel", "best", "[I", true)
  | 63 => ("LinkedVerseModel", "tried", "[I", true)
  | _ => ("LinkedVerseModel", "kept", "[I", true)
def tyX12 : Nat → FieldType := fun k => match k with
  | 0 => .int
  | 1 => .array .byte
  | 2 => .int
  | 3 => .int
  | 4 => .int
  | 5 => .int
  | 6 => .int
  | 7 => .int
  | 8 => .long
  | 9 => .int
  | 10 => .int
  | 11 => .int
  | 12 => .int
  | 13 => .int
  | 14 => .array .long
  | 15 => .array .int
  | 16 => .int
  | 17 => .array .int
  | 18 => .array .int
  | 19 => .array .int
  | 20 => .array .int
  | 21 => .int
  | 22 => .int
  | 23 => .int
  | 24 => .int
  | 25 => .int
  | 26 => .array .int
  | 27 => .array .int
  | 28 => .array .int
  | 29 => .array .int
  | 30 => .int
  | 31 => .array .int
  | 32 => .array .boolean
  | 33 => .int
  | 34 => .int
  | 35 => .array .int
  | 36 => .array .int
  | 37 => .array .int
  | 38 => .array .int
  | 39 => .array .int
  | 40 => .int
  | 41 => .array .int
  | 42 => .array .int
  | 43 => .array .int
  | 44 => .array .boolean
  | 45 => .array .int
  | 46 => .int
  | 47 => .array .int
  | 48 => .array .int
  | 49 => .array .int
  | 50 => .array .int
  | 51 => .array .boolean
  | 52 => .array .boolean
  | 53 => .array .int
  | 54 => .array .int
  | 55 => .boolean
  | 56 => .int
  | 57 => .int
  | 58 => .int
  | 59 => .array .int
  | 60 => .int
  | 61 => .int
  | 62 => .array .int
  | 63 => .array .int
  | _ => .array .int
abbrev wsX120 : List Cond := u_ws RX12 TX12 65
theorem nmX12 : ∀ a, a < 65 → ∀ b, b < 65 → a ≠ b → (TX12 a).2.1 ≠ (TX12 b).2.1 := by decide +kernel
theorem tyX12_ok : ∀ k, k < 65 → parseFieldDescriptor (TX12 k).2.2.1 = some (tyX12 k) := by decide +kernel
