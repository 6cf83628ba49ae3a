-- ===== PART A: goes FIRST, ahead of the names: the tables' words, and 'selects' of the private methods out of them =====
/-- a private method of a class that the tables say can be made, by its rows of tables_1 -/
def lw_okq (q : MethodName × Nat) : Prop := (q.1.cls ≠ "java/lang/invoke/MethodHandle" ∧ q.1.cls ≠ "java/lang/invoke/VarHandle") ∧ Cond.instantiable q.1.cls q.2 ∈ tables_1 ∧ Cond.privateMethod q.1 ∈ tables_1 ∧ Cond.instanceMethod q.1 ∈ tables_1
theorem lw_p0 : lw_okq (⟨"DiceRing$Row", "blank", "(IIJ)V"⟩, 5) := ⟨⟨by decide +kernel, by decide +kernel⟩, List.mem_of_getElem? (i := 39) (by decide +kernel), List.mem_of_getElem? (i := 130) (by decide +kernel), List.mem_of_getElem? (i := 131) (by decide +kernel)⟩
theorem lw_p1 : lw_okq (⟨"DiceRing$Row", "put", "(IJ)V"⟩, 5) := ⟨⟨by decide +kernel, by decide +kernel⟩, List.mem_of_getElem? (i := 39) (by decide +kernel), List.mem_of_getElem? (i := 137) (by decide +kernel), List.mem_of_getElem? (i := 138) (by decide +kernel)⟩
theorem lw_p2 : lw_okq (⟨"DiceRing", "feedNumber", "(I)V"⟩, 16) := ⟨⟨by decide +kernel, by decide +kernel⟩, List.mem_of_getElem? (i := 24) (by decide +kernel), List.mem_of_getElem? (i := 424) (by decide +kernel), List.mem_of_getElem? (i := 425) (by decide +kernel)⟩
theorem lw_p3 : lw_okq (⟨"DiceRing", "takeTape", "()I"⟩, 16) := ⟨⟨by decide +kernel, by decide +kernel⟩, List.mem_of_getElem? (i := 24) (by decide +kernel), List.mem_of_getElem? (i := 436) (by decide +kernel), List.mem_of_getElem? (i := 437) (by decide +kernel)⟩
theorem lw_p4 : lw_okq (⟨"DiceRing$Reader", "byteAt", "(I)I"⟩, 6) := ⟨⟨by decide +kernel, by decide +kernel⟩, List.mem_of_getElem? (i := 90) (by decide +kernel), List.mem_of_getElem? (i := 455) (by decide +kernel), List.mem_of_getElem? (i := 456) (by decide +kernel)⟩
theorem lw_p5 : lw_okq (⟨"DiceRing$Reader", "readRun", "()V"⟩, 6) := ⟨⟨by decide +kernel, by decide +kernel⟩, List.mem_of_getElem? (i := 90) (by decide +kernel), List.mem_of_getElem? (i := 465) (by decide +kernel), List.mem_of_getElem? (i := 466) (by decide +kernel)⟩
theorem lw_p6 : lw_okq (⟨"DiceRing$Teller", "readHead", "()Z"⟩, 7) := ⟨⟨by decide +kernel, by decide +kernel⟩, List.mem_of_getElem? (i := 84) (by decide +kernel), List.mem_of_getElem? (i := 472) (by decide +kernel), List.mem_of_getElem? (i := 473) (by decide +kernel)⟩
theorem lw_p7 : lw_okq (⟨"DiceRing$Teller", "failHere", "(I)Z"⟩, 7) := ⟨⟨by decide +kernel, by decide +kernel⟩, List.mem_of_getElem? (i := 84) (by decide +kernel), List.mem_of_getElem? (i := 480) (by decide +kernel), List.mem_of_getElem? (i := 481) (by decide +kernel)⟩
theorem lw_p8 : lw_okq (⟨"DiceRing$Teller", "fail", "(II)Z"⟩, 7) := ⟨⟨by decide +kernel, by decide +kernel⟩, List.mem_of_getElem? (i := 84) (by decide +kernel), List.mem_of_getElem? (i := 484) (by decide +kernel), List.mem_of_getElem? (i := 485) (by decide +kernel)⟩
theorem lw_p9 : lw_okq (⟨"DiceRing$Teller", "readFaces", "()Z"⟩, 7) := ⟨⟨by decide +kernel, by decide +kernel⟩, List.mem_of_getElem? (i := 84) (by decide +kernel), List.mem_of_getElem? (i := 501) (by decide +kernel), List.mem_of_getElem? (i := 502) (by decide +kernel)⟩
theorem lw_p10 : lw_okq (⟨"DiceRing$Teller", "readLet", "()Z"⟩, 7) := ⟨⟨by decide +kernel, by decide +kernel⟩, List.mem_of_getElem? (i := 84) (by decide +kernel), List.mem_of_getElem? (i := 527) (by decide +kernel), List.mem_of_getElem? (i := 528) (by decide +kernel)⟩
theorem lw_p11 : lw_okq (⟨"DiceRing$Teller", "readSign", "(C)Z"⟩, 7) := ⟨⟨by decide +kernel, by decide +kernel⟩, List.mem_of_getElem? (i := 84) (by decide +kernel), List.mem_of_getElem? (i := 531) (by decide +kernel), List.mem_of_getElem? (i := 532) (by decide +kernel)⟩
theorem lw_p12 : lw_okq (⟨"DiceRing$Teller", "readSum", "(I)Z"⟩, 7) := ⟨⟨by decide +kernel, by decide +kernel⟩, List.mem_of_getElem? (i := 84) (by decide +kernel), List.mem_of_getElem? (i := 539) (by decide +kernel), List.mem_of_getElem? (i := 540) (by decide +kernel)⟩
theorem lw_p13 : lw_okq (⟨"DiceRing$Teller", "readTerm", "(I)Z"⟩, 7) := ⟨⟨by decide +kernel, by decide +kernel⟩, List.mem_of_getElem? (i := 84) (by decide +kernel), List.mem_of_getElem? (i := 543) (by decide +kernel), List.mem_of_getElem? (i := 544) (by decide +kernel)⟩
theorem lw_p14 : lw_okq (⟨"DiceRing$Teller", "readUnit", "(I)Z"⟩, 7) := ⟨⟨by decide +kernel, by decide +kernel⟩, List.mem_of_getElem? (i := 84) (by decide +kernel), List.mem_of_getElem? (i := 547) (by decide +kernel), List.mem_of_getElem? (i := 548) (by decide +kernel)⟩
theorem lw_p15 : lw_okq (⟨"DiceRing$Teller", "layNumber", "(II)Z"⟩, 7) := ⟨⟨by decide +kernel, by decide +kernel⟩, List.mem_of_getElem? (i := 84) (by decide +kernel), List.mem_of_getElem? (i := 551) (by decide +kernel), List.mem_of_getElem? (i := 552) (by decide +kernel)⟩
def lw_privs_1 : List (MethodName × Nat) := [(⟨"DiceRing$Row", "blank", "(IIJ)V"⟩, 5), (⟨"DiceRing$Row", "put", "(IJ)V"⟩, 5), (⟨"DiceRing", "feedNumber", "(I)V"⟩, 16), (⟨"DiceRing", "takeTape", "()I"⟩, 16), (⟨"DiceRing$Reader", "byteAt", "(I)I"⟩, 6), (⟨"DiceRing$Reader", "readRun", "()V"⟩, 6), (⟨"DiceRing$Teller", "readHead", "()Z"⟩, 7), (⟨"DiceRing$Teller", "failHere", "(I)Z"⟩, 7), (⟨"DiceRing$Teller", "fail", "(II)Z"⟩, 7), (⟨"DiceRing$Teller", "readFaces", "()Z"⟩, 7), (⟨"DiceRing$Teller", "readLet", "()Z"⟩, 7), (⟨"DiceRing$Teller", "readSign", "(C)Z"⟩, 7), (⟨"DiceRing$Teller", "readSum", "(I)Z"⟩, 7), (⟨"DiceRing$Teller", "readTerm", "(I)Z"⟩, 7), (⟨"DiceRing$Teller", "readUnit", "(I)Z"⟩, 7), (⟨"DiceRing$Teller", "layNumber", "(II)Z"⟩, 7)]
theorem lw_r1 : ∀ q ∈ lw_privs_1, lw_okq q := List.forall_mem_cons.mpr ⟨lw_p0, List.forall_mem_cons.mpr ⟨lw_p1, List.forall_mem_cons.mpr ⟨lw_p2, List.forall_mem_cons.mpr ⟨lw_p3, List.forall_mem_cons.mpr ⟨lw_p4, List.forall_mem_cons.mpr ⟨lw_p5, List.forall_mem_cons.mpr ⟨lw_p6, List.forall_mem_cons.mpr ⟨lw_p7, List.forall_mem_cons.mpr ⟨lw_p8, List.forall_mem_cons.mpr ⟨lw_p9, List.forall_mem_cons.mpr ⟨lw_p10, List.forall_mem_cons.mpr ⟨lw_p11, List.forall_mem_cons.mpr ⟨lw_p12, List.forall_mem_cons.mpr ⟨lw_p13, List.forall_mem_cons.mpr ⟨lw_p14, List.forall_mem_cons.mpr ⟨lw_p15, fun _ h => absurd h List.not_mem_nil⟩⟩⟩⟩⟩⟩⟩⟩⟩⟩⟩⟩⟩⟩⟩⟩
theorem lw_p16 : lw_okq (⟨"DiceRing$Bench", "grow", "()Z"⟩, 6) := ⟨⟨by decide +kernel, by decide +kernel⟩, List.mem_of_getElem? (i := 118) (by decide +kernel), List.mem_of_getElem? (i := 559) (by decide +kernel), List.mem_of_getElem? (i := 560) (by decide +kernel)⟩
theorem lw_p17 : lw_okq (⟨"DiceRing$Bench", "slot", "(I)I"⟩, 6) := ⟨⟨by decide +kernel, by decide +kernel⟩, List.mem_of_getElem? (i := 118) (by decide +kernel), List.mem_of_getElem? (i := 567) (by decide +kernel), List.mem_of_getElem? (i := 568) (by decide +kernel)⟩
theorem lw_p18 : lw_okq (⟨"DiceRing$Teller", "readOpened", "(I)Z"⟩, 7) := ⟨⟨by decide +kernel, by decide +kernel⟩, List.mem_of_getElem? (i := 84) (by decide +kernel), List.mem_of_getElem? (i := 571) (by decide +kernel), List.mem_of_getElem? (i := 572) (by decide +kernel)⟩
theorem lw_p19 : lw_okq (⟨"DiceRing$Teller", "readPair", "(I)Z"⟩, 7) := ⟨⟨by decide +kernel, by decide +kernel⟩, List.mem_of_getElem? (i := 84) (by decide +kernel), List.mem_of_getElem? (i := 575) (by decide +kernel), List.mem_of_getElem? (i := 576) (by decide +kernel)⟩
theorem lw_p20 : lw_okq (⟨"DiceRing$Bench", "swapSpare", "(I)V"⟩, 6) := ⟨⟨by decide +kernel, by decide +kernel⟩, List.mem_of_getElem? (i := 118) (by decide +kernel), List.mem_of_getElem? (i := 601) (by decide +kernel), List.mem_of_getElem? (i := 602) (by decide +kernel)⟩
theorem lw_p21 : lw_okq (⟨"DiceRing$Bench", "drop", "()V"⟩, 6) := ⟨⟨by decide +kernel, by decide +kernel⟩, List.mem_of_getElem? (i := 118) (by decide +kernel), List.mem_of_getElem? (i := 605) (by decide +kernel), List.mem_of_getElem? (i := 606) (by decide +kernel)⟩
theorem lw_p22 : lw_okq (⟨"DiceRing$Teller", "readName", "()Z"⟩, 7) := ⟨⟨by decide +kernel, by decide +kernel⟩, List.mem_of_getElem? (i := 84) (by decide +kernel), List.mem_of_getElem? (i := 609) (by decide +kernel), List.mem_of_getElem? (i := 610) (by decide +kernel)⟩
theorem lw_p23 : lw_okq (⟨"DiceRing$Row", "spread", "(JILDiceRing$Row;Z)V"⟩, 5) := ⟨⟨by decide +kernel, by decide +kernel⟩, List.mem_of_getElem? (i := 39) (by decide +kernel), List.mem_of_getElem? (i := 630) (by decide +kernel), List.mem_of_getElem? (i := 631) (by decide +kernel)⟩
theorem lw_p24 : lw_okq (⟨"DiceRing", "throwBoth", "(III)Z"⟩, 16) := ⟨⟨by decide +kernel, by decide +kernel⟩, List.mem_of_getElem? (i := 24) (by decide +kernel), List.mem_of_getElem? (i := 687) (by decide +kernel), List.mem_of_getElem? (i := 688) (by decide +kernel)⟩
theorem lw_p25 : lw_okq (⟨"DiceRing", "throwOne", "(LDiceRing$Row;ILDiceRing$Row;)Z"⟩, 16) := ⟨⟨by decide +kernel, by decide +kernel⟩, List.mem_of_getElem? (i := 24) (by decide +kernel), List.mem_of_getElem? (i := 691) (by decide +kernel), List.mem_of_getElem? (i := 692) (by decide +kernel)⟩
theorem lw_p26 : lw_okq (⟨"DiceRing", "freshNet", "()LDiceRing$Net;"⟩, 16) := ⟨⟨by decide +kernel, by decide +kernel⟩, List.mem_of_getElem? (i := 24) (by decide +kernel), List.mem_of_getElem? (i := 717) (by decide +kernel), List.mem_of_getElem? (i := 718) (by decide +kernel)⟩
theorem lw_p27 : lw_okq (⟨"DiceRing$Net", "walkBack", "(I)I"⟩, 5) := ⟨⟨by decide +kernel, by decide +kernel⟩, List.mem_of_getElem? (i := 186) (by decide +kernel), List.mem_of_getElem? (i := 743) (by decide +kernel), List.mem_of_getElem? (i := 744) (by decide +kernel)⟩
theorem lw_p28 : lw_okq (⟨"DiceRing$Net", "layRing", "(II)V"⟩, 5) := ⟨⟨by decide +kernel, by decide +kernel⟩, List.mem_of_getElem? (i := 186) (by decide +kernel), List.mem_of_getElem? (i := 748) (by decide +kernel), List.mem_of_getElem? (i := 749) (by decide +kernel)⟩
theorem lw_p29 : lw_okq (⟨"DiceRing$Net", "firstAtSteps", "(II)I"⟩, 5) := ⟨⟨by decide +kernel, by decide +kernel⟩, List.mem_of_getElem? (i := 186) (by decide +kernel), List.mem_of_getElem? (i := 752) (by decide +kernel), List.mem_of_getElem? (i := 753) (by decide +kernel)⟩
theorem lw_p30 : lw_okq (⟨"DiceRing$Net", "isRound", "(III)Z"⟩, 5) := ⟨⟨by decide +kernel, by decide +kernel⟩, List.mem_of_getElem? (i := 186) (by decide +kernel), List.mem_of_getElem? (i := 776) (by decide +kernel), List.mem_of_getElem? (i := 777) (by decide +kernel)⟩
theorem lw_p31 : lw_okq (⟨"DiceRing$Net", "closed", "(I)I"⟩, 5) := ⟨⟨by decide +kernel, by decide +kernel⟩, List.mem_of_getElem? (i := 186) (by decide +kernel), List.mem_of_getElem? (i := 788) (by decide +kernel), List.mem_of_getElem? (i := 789) (by decide +kernel)⟩
def lw_privs_2 : List (MethodName × Nat) := [(⟨"DiceRing$Bench", "grow", "()Z"⟩, 6), (⟨"DiceRing$Bench", "slot", "(I)I"⟩, 6), (⟨"DiceRing$Teller", "readOpened", "(I)Z"⟩, 7), (⟨"DiceRing$Teller", "readPair", "(I)Z"⟩, 7), (⟨"DiceRing$Bench", "swapSpare", "(I)V"⟩, 6), (⟨"DiceRing$Bench", "drop", "()V"⟩, 6), (⟨"DiceRing$Teller", "readName", "()Z"⟩, 7), (⟨"DiceRing$Row", "spread", "(JILDiceRing$Row;Z)V"⟩, 5), (⟨"DiceRing", "throwBoth", "(III)Z"⟩, 16), (⟨"DiceRing", "throwOne", "(LDiceRing$Row;ILDiceRing$Row;)Z"⟩, 16), (⟨"DiceRing", "freshNet", "()LDiceRing$Net;"⟩, 16), (⟨"DiceRing$Net", "walkBack", "(I)I"⟩, 5), (⟨"DiceRing$Net", "layRing", "(II)V"⟩, 5), (⟨"DiceRing$Net", "firstAtSteps", "(II)I"⟩, 5), (⟨"DiceRing$Net", "isRound", "(III)Z"⟩, 5), (⟨"DiceRing$Net", "closed", "(I)I"⟩, 5)]
theorem lw_r2 : ∀ q ∈ lw_privs_2, lw_okq q := List.forall_mem_cons.mpr ⟨lw_p16, List.forall_mem_cons.mpr ⟨lw_p17, List.forall_mem_cons.mpr ⟨lw_p18, List.forall_mem_cons.mpr ⟨lw_p19, List.forall_mem_cons.mpr ⟨lw_p20, List.forall_mem_cons.mpr ⟨lw_p21, List.forall_mem_cons.mpr ⟨lw_p22, List.forall_mem_cons.mpr ⟨lw_p23, List.forall_mem_cons.mpr ⟨lw_p24, List.forall_mem_cons.mpr ⟨lw_p25, List.forall_mem_cons.mpr ⟨lw_p26, List.forall_mem_cons.mpr ⟨lw_p27, List.forall_mem_cons.mpr ⟨lw_p28, List.forall_mem_cons.mpr ⟨lw_p29, List.forall_mem_cons.mpr ⟨lw_p30, List.forall_mem_cons.mpr ⟨lw_p31, fun _ h => absurd h List.not_mem_nil⟩⟩⟩⟩⟩⟩⟩⟩⟩⟩⟩⟩⟩⟩⟩⟩
theorem lw_p32 : lw_okq (⟨"DiceRing$Net", "oneBeatsBoth", "(I)Z"⟩, 5) := ⟨⟨by decide +kernel, by decide +kernel⟩, List.mem_of_getElem? (i := 186) (by decide +kernel), List.mem_of_getElem? (i := 806) (by decide +kernel), List.mem_of_getElem? (i := 807) (by decide +kernel)⟩
theorem lw_p33 : lw_okq (⟨"DiceRing$Game", "gather", "(I)V"⟩, 5) := ⟨⟨by decide +kernel, by decide +kernel⟩, List.mem_of_getElem? (i := 208) (by decide +kernel), List.mem_of_getElem? (i := 819) (by decide +kernel), List.mem_of_getElem? (i := 820) (by decide +kernel)⟩
theorem lw_p34 : lw_okq (⟨"DiceRing$Game", "readSigns", "(LDiceRing$Net;)Z"⟩, 5) := ⟨⟨by decide +kernel, by decide +kernel⟩, List.mem_of_getElem? (i := 208) (by decide +kernel), List.mem_of_getElem? (i := 823) (by decide +kernel), List.mem_of_getElem? (i := 824) (by decide +kernel)⟩
theorem lw_p35 : lw_okq (⟨"DiceRing$Game", "weigh", "(I)Z"⟩, 5) := ⟨⟨by decide +kernel, by decide +kernel⟩, List.mem_of_getElem? (i := 208) (by decide +kernel), List.mem_of_getElem? (i := 830) (by decide +kernel), List.mem_of_getElem? (i := 831) (by decide +kernel)⟩
theorem lw_p36 : lw_okq (⟨"DiceRing$Game", "stands", "()Z"⟩, 5) := ⟨⟨by decide +kernel, by decide +kernel⟩, List.mem_of_getElem? (i := 208) (by decide +kernel), List.mem_of_getElem? (i := 837) (by decide +kernel), List.mem_of_getElem? (i := 838) (by decide +kernel)⟩
theorem lw_p37 : lw_okq (⟨"DiceRing$Game", "keep", "()V"⟩, 5) := ⟨⟨by decide +kernel, by decide +kernel⟩, List.mem_of_getElem? (i := 208) (by decide +kernel), List.mem_of_getElem? (i := 841) (by decide +kernel), List.mem_of_getElem? (i := 842) (by decide +kernel)⟩
theorem lw_p38 : lw_okq (⟨"DiceRing", "isSmallDie", "(I)Z"⟩, 16) := ⟨⟨by decide +kernel, by decide +kernel⟩, List.mem_of_getElem? (i := 24) (by decide +kernel), List.mem_of_getElem? (i := 860) (by decide +kernel), List.mem_of_getElem? (i := 861) (by decide +kernel)⟩
theorem lw_p39 : lw_okq (⟨"DiceRing$FaceSearch", "addUp", "(LDiceRing$Row;LDiceRing$Row;)V"⟩, 13) := ⟨⟨by decide +kernel, by decide +kernel⟩, List.mem_of_getElem? (i := 230) (by decide +kernel), List.mem_of_getElem? (i := 874) (by decide +kernel), List.mem_of_getElem? (i := 875) (by decide +kernel)⟩
theorem lw_p40 : lw_okq (⟨"DiceRing$FaceSearch", "walk", "()V"⟩, 13) := ⟨⟨by decide +kernel, by decide +kernel⟩, List.mem_of_getElem? (i := 230) (by decide +kernel), List.mem_of_getElem? (i := 879) (by decide +kernel), List.mem_of_getElem? (i := 880) (by decide +kernel)⟩
theorem lw_p41 : lw_okq (⟨"DiceRing$FaceSearch", "chooseNext", "(I)Z"⟩, 13) := ⟨⟨by decide +kernel, by decide +kernel⟩, List.mem_of_getElem? (i := 230) (by decide +kernel), List.mem_of_getElem? (i := 884) (by decide +kernel), List.mem_of_getElem? (i := 885) (by decide +kernel)⟩
theorem lw_p42 : lw_okq (⟨"DiceRing$FaceSearch", "partner", "(II)I"⟩, 13) := ⟨⟨by decide +kernel, by decide +kernel⟩, List.mem_of_getElem? (i := 230) (by decide +kernel), List.mem_of_getElem? (i := 888) (by decide +kernel), List.mem_of_getElem? (i := 889) (by decide +kernel)⟩
theorem lw_p43 : lw_okq (⟨"DiceRing$FaceSearch", "take", "(II)Z"⟩, 13) := ⟨⟨by decide +kernel, by decide +kernel⟩, List.mem_of_getElem? (i := 230) (by decide +kernel), List.mem_of_getElem? (i := 892) (by decide +kernel), List.mem_of_getElem? (i := 893) (by decide +kernel)⟩
theorem lw_p44 : lw_okq (⟨"DiceRing$FaceSearch", "addFound", "()V"⟩, 13) := ⟨⟨by decide +kernel, by decide +kernel⟩, List.mem_of_getElem? (i := 230) (by decide +kernel), List.mem_of_getElem? (i := 896) (by decide +kernel), List.mem_of_getElem? (i := 897) (by decide +kernel)⟩
theorem lw_p45 : lw_okq (⟨"DiceRing$FaceSearch", "isAhead", "()Z"⟩, 13) := ⟨⟨by decide +kernel, by decide +kernel⟩, List.mem_of_getElem? (i := 230) (by decide +kernel), List.mem_of_getElem? (i := 903) (by decide +kernel), List.mem_of_getElem? (i := 904) (by decide +kernel)⟩
theorem lw_p46 : lw_okq (⟨"DiceRing$FaceSearch", "keep", "(II)V"⟩, 13) := ⟨⟨by decide +kernel, by decide +kernel⟩, List.mem_of_getElem? (i := 230) (by decide +kernel), List.mem_of_getElem? (i := 907) (by decide +kernel), List.mem_of_getElem? (i := 908) (by decide +kernel)⟩
theorem lw_p47 : lw_okq (⟨"DiceRing", "diceOfWord", "(I)I"⟩, 16) := ⟨⟨by decide +kernel, by decide +kernel⟩, List.mem_of_getElem? (i := 24) (by decide +kernel), List.mem_of_getElem? (i := 925) (by decide +kernel), List.mem_of_getElem? (i := 926) (by decide +kernel)⟩
def lw_privs_3 : List (MethodName × Nat) := [(⟨"DiceRing$Net", "oneBeatsBoth", "(I)Z"⟩, 5), (⟨"DiceRing$Game", "gather", "(I)V"⟩, 5), (⟨"DiceRing$Game", "readSigns", "(LDiceRing$Net;)Z"⟩, 5), (⟨"DiceRing$Game", "weigh", "(I)Z"⟩, 5), (⟨"DiceRing$Game", "stands", "()Z"⟩, 5), (⟨"DiceRing$Game", "keep", "()V"⟩, 5), (⟨"DiceRing", "isSmallDie", "(I)Z"⟩, 16), (⟨"DiceRing$FaceSearch", "addUp", "(LDiceRing$Row;LDiceRing$Row;)V"⟩, 13), (⟨"DiceRing$FaceSearch", "walk", "()V"⟩, 13), (⟨"DiceRing$FaceSearch", "chooseNext", "(I)Z"⟩, 13), (⟨"DiceRing$FaceSearch", "partner", "(II)I"⟩, 13), (⟨"DiceRing$FaceSearch", "take", "(II)Z"⟩, 13), (⟨"DiceRing$FaceSearch", "addFound", "()V"⟩, 13), (⟨"DiceRing$FaceSearch", "isAhead", "()Z"⟩, 13), (⟨"DiceRing$FaceSearch", "keep", "(II)V"⟩, 13), (⟨"DiceRing", "diceOfWord", "(I)I"⟩, 16)]
theorem lw_r3 : ∀ q ∈ lw_privs_3, lw_okq q := List.forall_mem_cons.mpr ⟨lw_p32, List.forall_mem_cons.mpr ⟨lw_p33, List.forall_mem_cons.mpr ⟨lw_p34, List.forall_mem_cons.mpr ⟨lw_p35, List.forall_mem_cons.mpr ⟨lw_p36, List.forall_mem_cons.mpr ⟨lw_p37, List.forall_mem_cons.mpr ⟨lw_p38, List.forall_mem_cons.mpr ⟨lw_p39, List.forall_mem_cons.mpr ⟨lw_p40, List.forall_mem_cons.mpr ⟨lw_p41, List.forall_mem_cons.mpr ⟨lw_p42, List.forall_mem_cons.mpr ⟨lw_p43, List.forall_mem_cons.mpr ⟨lw_p44, List.forall_mem_cons.mpr ⟨lw_p45, List.forall_mem_cons.mpr ⟨lw_p46, List.forall_mem_cons.mpr ⟨lw_p47, fun _ h => absurd h List.not_mem_nil⟩⟩⟩⟩⟩⟩⟩⟩⟩⟩⟩⟩⟩⟩⟩⟩
theorem lw_p48 : lw_okq (⟨"DiceRing", "tapeAt", "(I)I"⟩, 16) := ⟨⟨by decide +kernel, by decide +kernel⟩, List.mem_of_getElem? (i := 24) (by decide +kernel), List.mem_of_getElem? (i := 929) (by decide +kernel), List.mem_of_getElem? (i := 930) (by decide +kernel)⟩
theorem lw_p49 : lw_okq (⟨"DiceRing", "timesOnTape", "(II)I"⟩, 16) := ⟨⟨by decide +kernel, by decide +kernel⟩, List.mem_of_getElem? (i := 24) (by decide +kernel), List.mem_of_getElem? (i := 934) (by decide +kernel), List.mem_of_getElem? (i := 935) (by decide +kernel)⟩
theorem lw_p50 : lw_okq (⟨"DiceRing$WordCount", "countPlaces", "()V"⟩, 6) := ⟨⟨by decide +kernel, by decide +kernel⟩, List.mem_of_getElem? (i := 302) (by decide +kernel), List.mem_of_getElem? (i := 956) (by decide +kernel), List.mem_of_getElem? (i := 957) (by decide +kernel)⟩
theorem lw_p51 : lw_okq (⟨"DiceRing$WordCount", "isOrder", "(I)Z"⟩, 6) := ⟨⟨by decide +kernel, by decide +kernel⟩, List.mem_of_getElem? (i := 302) (by decide +kernel), List.mem_of_getElem? (i := 960) (by decide +kernel), List.mem_of_getElem? (i := 961) (by decide +kernel)⟩
theorem lw_p52 : lw_okq (⟨"DiceRing$WordCount", "rowsOf", "(I)I"⟩, 6) := ⟨⟨by decide +kernel, by decide +kernel⟩, List.mem_of_getElem? (i := 302) (by decide +kernel), List.mem_of_getElem? (i := 964) (by decide +kernel), List.mem_of_getElem? (i := 965) (by decide +kernel)⟩
theorem lw_p53 : lw_okq (⟨"DiceRing$WordCount", "ordersAreEven", "()Z"⟩, 6) := ⟨⟨by decide +kernel, by decide +kernel⟩, List.mem_of_getElem? (i := 302) (by decide +kernel), List.mem_of_getElem? (i := 972) (by decide +kernel), List.mem_of_getElem? (i := 973) (by decide +kernel)⟩
theorem lw_p54 : lw_okq (⟨"DiceRing$WordSearch", "couldBeFair", "(II)Z"⟩, 11) := ⟨⟨by decide +kernel, by decide +kernel⟩, List.mem_of_getElem? (i := 327) (by decide +kernel), List.mem_of_getElem? (i := 997) (by decide +kernel), List.mem_of_getElem? (i := 998) (by decide +kernel)⟩
theorem lw_p55 : lw_okq (⟨"DiceRing$WordSearch", "seek", "(III)Z"⟩, 11) := ⟨⟨by decide +kernel, by decide +kernel⟩, List.mem_of_getElem? (i := 327) (by decide +kernel), List.mem_of_getElem? (i := 1001) (by decide +kernel), List.mem_of_getElem? (i := 1002) (by decide +kernel)⟩
theorem lw_p56 : lw_okq (⟨"DiceRing$WordSearch", "isFairAsTold", "()Z"⟩, 11) := ⟨⟨by decide +kernel, by decide +kernel⟩, List.mem_of_getElem? (i := 327) (by decide +kernel), List.mem_of_getElem? (i := 1010) (by decide +kernel), List.mem_of_getElem? (i := 1011) (by decide +kernel)⟩
theorem lw_p57 : lw_okq (⟨"DiceRing$WordSearch", "add", "(II)V"⟩, 11) := ⟨⟨by decide +kernel, by decide +kernel⟩, List.mem_of_getElem? (i := 327) (by decide +kernel), List.mem_of_getElem? (i := 1017) (by decide +kernel), List.mem_of_getElem? (i := 1018) (by decide +kernel)⟩
theorem lw_p58 : lw_okq (⟨"DiceRing$WordSearch", "canStillBe", "()Z"⟩, 11) := ⟨⟨by decide +kernel, by decide +kernel⟩, List.mem_of_getElem? (i := 327) (by decide +kernel), List.mem_of_getElem? (i := 1021) (by decide +kernel), List.mem_of_getElem? (i := 1022) (by decide +kernel)⟩
theorem lw_p59 : lw_okq (⟨"DiceRing$WordSearch", "isGreatestSeldomEnough", "()Z"⟩, 11) := ⟨⟨by decide +kernel, by decide +kernel⟩, List.mem_of_getElem? (i := 327) (by decide +kernel), List.mem_of_getElem? (i := 1025) (by decide +kernel), List.mem_of_getElem? (i := 1026) (by decide +kernel)⟩
theorem lw_p60 : lw_okq (⟨"DiceRing$WordSearch", "canBeat", "(II)Z"⟩, 11) := ⟨⟨by decide +kernel, by decide +kernel⟩, List.mem_of_getElem? (i := 327) (by decide +kernel), List.mem_of_getElem? (i := 1032) (by decide +kernel), List.mem_of_getElem? (i := 1033) (by decide +kernel)⟩
theorem lw_p61 : lw_okq (⟨"DiceRing", "partsOf", "(II)J"⟩, 16) := ⟨⟨by decide +kernel, by decide +kernel⟩, List.mem_of_getElem? (i := 24) (by decide +kernel), List.mem_of_getElem? (i := 1062) (by decide +kernel), List.mem_of_getElem? (i := 1063) (by decide +kernel)⟩
theorem lw_p62 : lw_okq (⟨"java/lang/Throwable", "fillInStackTrace", "(I)Ljava/lang/Throwable;"⟩, 6) := ⟨⟨by decide +kernel, by decide +kernel⟩, List.mem_of_getElem? (i := 1131) (by decide +kernel), List.mem_of_getElem? (i := 1129) (by decide +kernel), List.mem_of_getElem? (i := 1130) (by decide +kernel)⟩
theorem lw_p63 : lw_okq (⟨"DiceRing$Row", "sumOfNumbers", "()J"⟩, 5) := ⟨⟨by decide +kernel, by decide +kernel⟩, List.mem_of_getElem? (i := 39) (by decide +kernel), List.mem_of_getElem? (i := 1168) (by decide +kernel), List.mem_of_getElem? (i := 1169) (by decide +kernel)⟩
def lw_privs_4 : List (MethodName × Nat) := [(⟨"DiceRing", "tapeAt", "(I)I"⟩, 16), (⟨"DiceRing", "timesOnTape", "(II)I"⟩, 16), (⟨"DiceRing$WordCount", "countPlaces", "()V"⟩, 6), (⟨"DiceRing$WordCount", "isOrder", "(I)Z"⟩, 6), (⟨"DiceRing$WordCount", "rowsOf", "(I)I"⟩, 6), (⟨"DiceRing$WordCount", "ordersAreEven", "()Z"⟩, 6), (⟨"DiceRing$WordSearch", "couldBeFair", "(II)Z"⟩, 11), (⟨"DiceRing$WordSearch", "seek", "(III)Z"⟩, 11), (⟨"DiceRing$WordSearch", "isFairAsTold", "()Z"⟩, 11), (⟨"DiceRing$WordSearch", "add", "(II)V"⟩, 11), (⟨"DiceRing$WordSearch", "canStillBe", "()Z"⟩, 11), (⟨"DiceRing$WordSearch", "isGreatestSeldomEnough", "()Z"⟩, 11), (⟨"DiceRing$WordSearch", "canBeat", "(II)Z"⟩, 11), (⟨"DiceRing", "partsOf", "(II)J"⟩, 16), (⟨"java/lang/Throwable", "fillInStackTrace", "(I)Ljava/lang/Throwable;"⟩, 6), (⟨"DiceRing$Row", "sumOfNumbers", "()J"⟩, 5)]
theorem lw_r4 : ∀ q ∈ lw_privs_4, lw_okq q := List.forall_mem_cons.mpr ⟨lw_p48, List.forall_mem_cons.mpr ⟨lw_p49, List.forall_mem_cons.mpr ⟨lw_p50, List.forall_mem_cons.mpr ⟨lw_p51, List.forall_mem_cons.mpr ⟨lw_p52, List.forall_mem_cons.mpr ⟨lw_p53, List.forall_mem_cons.mpr ⟨lw_p54, List.forall_mem_cons.mpr ⟨lw_p55, List.forall_mem_cons.mpr ⟨lw_p56, List.forall_mem_cons.mpr ⟨lw_p57, List.forall_mem_cons.mpr ⟨lw_p58, List.forall_mem_cons.mpr ⟨lw_p59, List.forall_mem_cons.mpr ⟨lw_p60, List.forall_mem_cons.mpr ⟨lw_p61, List.forall_mem_cons.mpr ⟨lw_p62, List.forall_mem_cons.mpr ⟨lw_p63, fun _ h => absurd h List.not_mem_nil⟩⟩⟩⟩⟩⟩⟩⟩⟩⟩⟩⟩⟩⟩⟩⟩
theorem lw_p64 : lw_okq (⟨"DiceRingModel", "four", "(I)V"⟩, 59) := ⟨⟨by decide +kernel, by decide +kernel⟩, List.mem_of_getElem? (i := 1206) (by decide +kernel), List.mem_of_getElem? (i := 1399) (by decide +kernel), List.mem_of_getElem? (i := 1400) (by decide +kernel)⟩
theorem lw_p65 : lw_okq (⟨"DiceRingModel", "taken", "()V"⟩, 59) := ⟨⟨by decide +kernel, by decide +kernel⟩, List.mem_of_getElem? (i := 1206) (by decide +kernel), List.mem_of_getElem? (i := 1411) (by decide +kernel), List.mem_of_getElem? (i := 1412) (by decide +kernel)⟩
theorem lw_p66 : lw_okq (⟨"DiceRingModel", "next", "()V"⟩, 59) := ⟨⟨by decide +kernel, by decide +kernel⟩, List.mem_of_getElem? (i := 1206) (by decide +kernel), List.mem_of_getElem? (i := 1415) (by decide +kernel), List.mem_of_getElem? (i := 1416) (by decide +kernel)⟩
theorem lw_p67 : lw_okq (⟨"DiceRingModel", "peek", "()I"⟩, 59) := ⟨⟨by decide +kernel, by decide +kernel⟩, List.mem_of_getElem? (i := 1206) (by decide +kernel), List.mem_of_getElem? (i := 1419) (by decide +kernel), List.mem_of_getElem? (i := 1420) (by decide +kernel)⟩
theorem lw_p68 : lw_okq (⟨"DiceRingModel", "read", "()Z"⟩, 59) := ⟨⟨by decide +kernel, by decide +kernel⟩, List.mem_of_getElem? (i := 1206) (by decide +kernel), List.mem_of_getElem? (i := 1429) (by decide +kernel), List.mem_of_getElem? (i := 1430) (by decide +kernel)⟩
theorem lw_p69 : lw_okq (⟨"DiceRingModel", "isWord", "(J)Z"⟩, 59) := ⟨⟨by decide +kernel, by decide +kernel⟩, List.mem_of_getElem? (i := 1206) (by decide +kernel), List.mem_of_getElem? (i := 1434) (by decide +kernel), List.mem_of_getElem? (i := 1435) (by decide +kernel)⟩
theorem lw_p70 : lw_okq (⟨"DiceRingModel", "bad", "(I)Z"⟩, 59) := ⟨⟨by decide +kernel, by decide +kernel⟩, List.mem_of_getElem? (i := 1206) (by decide +kernel), List.mem_of_getElem? (i := 1439) (by decide +kernel), List.mem_of_getElem? (i := 1440) (by decide +kernel)⟩
theorem lw_p71 : lw_okq (⟨"DiceRingModel", "isName", "()Z"⟩, 59) := ⟨⟨by decide +kernel, by decide +kernel⟩, List.mem_of_getElem? (i := 1206) (by decide +kernel), List.mem_of_getElem? (i := 1443) (by decide +kernel), List.mem_of_getElem? (i := 1444) (by decide +kernel)⟩
theorem lw_p72 : lw_okq (⟨"DiceRingModel", "named", "()I"⟩, 59) := ⟨⟨by decide +kernel, by decide +kernel⟩, List.mem_of_getElem? (i := 1206) (by decide +kernel), List.mem_of_getElem? (i := 1451) (by decide +kernel), List.mem_of_getElem? (i := 1452) (by decide +kernel)⟩
theorem lw_p73 : lw_okq (⟨"DiceRingModel", "die", "(I)Z"⟩, 59) := ⟨⟨by decide +kernel, by decide +kernel⟩, List.mem_of_getElem? (i := 1206) (by decide +kernel), List.mem_of_getElem? (i := 1455) (by decide +kernel), List.mem_of_getElem? (i := 1456) (by decide +kernel)⟩
theorem lw_p74 : lw_okq (⟨"DiceRingModel", "clear", "(I)V"⟩, 59) := ⟨⟨by decide +kernel, by decide +kernel⟩, List.mem_of_getElem? (i := 1206) (by decide +kernel), List.mem_of_getElem? (i := 1459) (by decide +kernel), List.mem_of_getElem? (i := 1460) (by decide +kernel)⟩
theorem lw_p75 : lw_okq (⟨"DiceRingModel", "let", "(I)Z"⟩, 59) := ⟨⟨by decide +kernel, by decide +kernel⟩, List.mem_of_getElem? (i := 1206) (by decide +kernel), List.mem_of_getElem? (i := 1463) (by decide +kernel), List.mem_of_getElem? (i := 1464) (by decide +kernel)⟩
theorem lw_p76 : lw_okq (⟨"DiceRingModel", "sign", "(I)Z"⟩, 59) := ⟨⟨by decide +kernel, by decide +kernel⟩, List.mem_of_getElem? (i := 1206) (by decide +kernel), List.mem_of_getElem? (i := 1467) (by decide +kernel), List.mem_of_getElem? (i := 1468) (by decide +kernel)⟩
theorem lw_p77 : lw_okq (⟨"DiceRingModel", "isSign", "(I)Z"⟩, 59) := ⟨⟨by decide +kernel, by decide +kernel⟩, List.mem_of_getElem? (i := 1206) (by decide +kernel), List.mem_of_getElem? (i := 1471) (by decide +kernel), List.mem_of_getElem? (i := 1472) (by decide +kernel)⟩
theorem lw_p78 : lw_okq (⟨"DiceRingModel", "sum", "()Z"⟩, 59) := ⟨⟨by decide +kernel, by decide +kernel⟩, List.mem_of_getElem? (i := 1206) (by decide +kernel), List.mem_of_getElem? (i := 1475) (by decide +kernel), List.mem_of_getElem? (i := 1476) (by decide +kernel)⟩
theorem lw_p79 : lw_okq (⟨"DiceRingModel", "begin", "(I)V"⟩, 59) := ⟨⟨by decide +kernel, by decide +kernel⟩, List.mem_of_getElem? (i := 1206) (by decide +kernel), List.mem_of_getElem? (i := 1479) (by decide +kernel), List.mem_of_getElem? (i := 1480) (by decide +kernel)⟩
def lw_privs_5 : List (MethodName × Nat) := [(⟨"DiceRingModel", "four", "(I)V"⟩, 59), (⟨"DiceRingModel", "taken", "()V"⟩, 59), (⟨"DiceRingModel", "next", "()V"⟩, 59), (⟨"DiceRingModel", "peek", "()I"⟩, 59), (⟨"DiceRingModel", "read", "()Z"⟩, 59), (⟨"DiceRingModel", "isWord", "(J)Z"⟩, 59), (⟨"DiceRingModel", "bad", "(I)Z"⟩, 59), (⟨"DiceRingModel", "isName", "()Z"⟩, 59), (⟨"DiceRingModel", "named", "()I"⟩, 59), (⟨"DiceRingModel", "die", "(I)Z"⟩, 59), (⟨"DiceRingModel", "clear", "(I)V"⟩, 59), (⟨"DiceRingModel", "let", "(I)Z"⟩, 59), (⟨"DiceRingModel", "sign", "(I)Z"⟩, 59), (⟨"DiceRingModel", "isSign", "(I)Z"⟩, 59), (⟨"DiceRingModel", "sum", "()Z"⟩, 59), (⟨"DiceRingModel", "begin", "(I)V"⟩, 59)]
theorem lw_r5 : ∀ q ∈ lw_privs_5, lw_okq q := List.forall_mem_cons.mpr ⟨lw_p64, List.forall_mem_cons.mpr ⟨lw_p65, List.forall_mem_cons.mpr ⟨lw_p66, List.forall_mem_cons.mpr ⟨lw_p67, List.forall_mem_cons.mpr ⟨lw_p68, List.forall_mem_cons.mpr ⟨lw_p69, List.forall_mem_cons.mpr ⟨lw_p70, List.forall_mem_cons.mpr ⟨lw_p71, List.forall_mem_cons.mpr ⟨lw_p72, List.forall_mem_cons.mpr ⟨lw_p73, List.forall_mem_cons.mpr ⟨lw_p74, List.forall_mem_cons.mpr ⟨lw_p75, List.forall_mem_cons.mpr ⟨lw_p76, List.forall_mem_cons.mpr ⟨lw_p77, List.forall_mem_cons.mpr ⟨lw_p78, List.forall_mem_cons.mpr ⟨lw_p79, fun _ h => absurd h List.not_mem_nil⟩⟩⟩⟩⟩⟩⟩⟩⟩⟩⟩⟩⟩⟩⟩⟩
theorem lw_p80 : lw_okq (⟨"DiceRingModel", "badAt", "(II)Z"⟩, 59) := ⟨⟨by decide +kernel, by decide +kernel⟩, List.mem_of_getElem? (i := 1206) (by decide +kernel), List.mem_of_getElem? (i := 1486) (by decide +kernel), List.mem_of_getElem? (i := 1487) (by decide +kernel)⟩
theorem lw_p81 : lw_okq (⟨"DiceRingModel", "constant", "(II)V"⟩, 59) := ⟨⟨by decide +kernel, by decide +kernel⟩, List.mem_of_getElem? (i := 1206) (by decide +kernel), List.mem_of_getElem? (i := 1490) (by decide +kernel), List.mem_of_getElem? (i := 1491) (by decide +kernel)⟩
theorem lw_p82 : lw_okq (⟨"DiceRingModel", "copy", "(II)V"⟩, 59) := ⟨⟨by decide +kernel, by decide +kernel⟩, List.mem_of_getElem? (i := 1206) (by decide +kernel), List.mem_of_getElem? (i := 1494) (by decide +kernel), List.mem_of_getElem? (i := 1495) (by decide +kernel)⟩
theorem lw_p83 : lw_okq (⟨"DiceRingModel", "reduce", "(I)I"⟩, 59) := ⟨⟨by decide +kernel, by decide +kernel⟩, List.mem_of_getElem? (i := 1206) (by decide +kernel), List.mem_of_getElem? (i := 1498) (by decide +kernel), List.mem_of_getElem? (i := 1499) (by decide +kernel)⟩
theorem lw_p84 : lw_okq (⟨"DiceRingModel", "both", "(IIII)V"⟩, 59) := ⟨⟨by decide +kernel, by decide +kernel⟩, List.mem_of_getElem? (i := 1206) (by decide +kernel), List.mem_of_getElem? (i := 1502) (by decide +kernel), List.mem_of_getElem? (i := 1503) (by decide +kernel)⟩
theorem lw_p85 : lw_okq (⟨"DiceRingModel", "turnOver", "(I)V"⟩, 59) := ⟨⟨by decide +kernel, by decide +kernel⟩, List.mem_of_getElem? (i := 1206) (by decide +kernel), List.mem_of_getElem? (i := 1510) (by decide +kernel), List.mem_of_getElem? (i := 1511) (by decide +kernel)⟩
theorem lw_p86 : lw_okq (⟨"DiceRingModel", "throwTimes", "(III)Z"⟩, 59) := ⟨⟨by decide +kernel, by decide +kernel⟩, List.mem_of_getElem? (i := 1206) (by decide +kernel), List.mem_of_getElem? (i := 1514) (by decide +kernel), List.mem_of_getElem? (i := 1515) (by decide +kernel)⟩
theorem lw_p87 : lw_okq (⟨"DiceRingModel", "greater", "(II)J"⟩, 59) := ⟨⟨by decide +kernel, by decide +kernel⟩, List.mem_of_getElem? (i := 1206) (by decide +kernel), List.mem_of_getElem? (i := 1518) (by decide +kernel), List.mem_of_getElem? (i := 1519) (by decide +kernel)⟩
theorem lw_p88 : lw_okq (⟨"DiceRingModel", "is", "(I)Z"⟩, 59) := ⟨⟨by decide +kernel, by decide +kernel⟩, List.mem_of_getElem? (i := 1206) (by decide +kernel), List.mem_of_getElem? (i := 1530) (by decide +kernel), List.mem_of_getElem? (i := 1531) (by decide +kernel)⟩
theorem lw_p89 : lw_okq (⟨"DiceRingModel", "throwsIf", "(Z)Z"⟩, 59) := ⟨⟨by decide +kernel, by decide +kernel⟩, List.mem_of_getElem? (i := 1206) (by decide +kernel), List.mem_of_getElem? (i := 1534) (by decide +kernel), List.mem_of_getElem? (i := 1535) (by decide +kernel)⟩
theorem lw_p90 : lw_okq (⟨"DiceRingModel", "lowest", "(I)I"⟩, 59) := ⟨⟨by decide +kernel, by decide +kernel⟩, List.mem_of_getElem? (i := 1206) (by decide +kernel), List.mem_of_getElem? (i := 1538) (by decide +kernel), List.mem_of_getElem? (i := 1539) (by decide +kernel)⟩
theorem lw_p91 : lw_okq (⟨"DiceRingModel", "highest", "(I)I"⟩, 59) := ⟨⟨by decide +kernel, by decide +kernel⟩, List.mem_of_getElem? (i := 1206) (by decide +kernel), List.mem_of_getElem? (i := 1542) (by decide +kernel), List.mem_of_getElem? (i := 1543) (by decide +kernel)⟩
theorem lw_p92 : lw_okq (⟨"DiceRingModel", "throwBoth", "(III)Z"⟩, 59) := ⟨⟨by decide +kernel, by decide +kernel⟩, List.mem_of_getElem? (i := 1206) (by decide +kernel), List.mem_of_getElem? (i := 1570) (by decide +kernel), List.mem_of_getElem? (i := 1571) (by decide +kernel)⟩
theorem lw_p93 : lw_okq (⟨"DiceRingModel", "row", "(I)I"⟩, 59) := ⟨⟨by decide +kernel, by decide +kernel⟩, List.mem_of_getElem? (i := 1206) (by decide +kernel), List.mem_of_getElem? (i := 1582) (by decide +kernel), List.mem_of_getElem? (i := 1583) (by decide +kernel)⟩
theorem lw_p94 : lw_okq (⟨"DiceRingModel", "through", "(I)I"⟩, 59) := ⟨⟨by decide +kernel, by decide +kernel⟩, List.mem_of_getElem? (i := 1206) (by decide +kernel), List.mem_of_getElem? (i := 1590) (by decide +kernel), List.mem_of_getElem? (i := 1591) (by decide +kernel)⟩
theorem lw_p95 : lw_okq (⟨"DiceRingModel", "pairings", "(II)J"⟩, 59) := ⟨⟨by decide +kernel, by decide +kernel⟩, List.mem_of_getElem? (i := 1206) (by decide +kernel), List.mem_of_getElem? (i := 1617) (by decide +kernel), List.mem_of_getElem? (i := 1618) (by decide +kernel)⟩
def lw_privs_6 : List (MethodName × Nat) := [(⟨"DiceRingModel", "badAt", "(II)Z"⟩, 59), (⟨"DiceRingModel", "constant", "(II)V"⟩, 59), (⟨"DiceRingModel", "copy", "(II)V"⟩, 59), (⟨"DiceRingModel", "reduce", "(I)I"⟩, 59), (⟨"DiceRingModel", "both", "(IIII)V"⟩, 59), (⟨"DiceRingModel", "turnOver", "(I)V"⟩, 59), (⟨"DiceRingModel", "throwTimes", "(III)Z"⟩, 59), (⟨"DiceRingModel", "greater", "(II)J"⟩, 59), (⟨"DiceRingModel", "is", "(I)Z"⟩, 59), (⟨"DiceRingModel", "throwsIf", "(Z)Z"⟩, 59), (⟨"DiceRingModel", "lowest", "(I)I"⟩, 59), (⟨"DiceRingModel", "highest", "(I)I"⟩, 59), (⟨"DiceRingModel", "throwBoth", "(III)Z"⟩, 59), (⟨"DiceRingModel", "row", "(I)I"⟩, 59), (⟨"DiceRingModel", "through", "(I)I"⟩, 59), (⟨"DiceRingModel", "pairings", "(II)J"⟩, 59)]
theorem lw_r6 : ∀ q ∈ lw_privs_6, lw_okq q := List.forall_mem_cons.mpr ⟨lw_p80, List.forall_mem_cons.mpr ⟨lw_p81, List.forall_mem_cons.mpr ⟨lw_p82, List.forall_mem_cons.mpr ⟨lw_p83, List.forall_mem_cons.mpr ⟨lw_p84, List.forall_mem_cons.mpr ⟨lw_p85, List.forall_mem_cons.mpr ⟨lw_p86, List.forall_mem_cons.mpr ⟨lw_p87, List.forall_mem_cons.mpr ⟨lw_p88, List.forall_mem_cons.mpr ⟨lw_p89, List.forall_mem_cons.mpr ⟨lw_p90, List.forall_mem_cons.mpr ⟨lw_p91, List.forall_mem_cons.mpr ⟨lw_p92, List.forall_mem_cons.mpr ⟨lw_p93, List.forall_mem_cons.mpr ⟨lw_p94, List.forall_mem_cons.mpr ⟨lw_p95, fun _ h => absurd h List.not_mem_nil⟩⟩⟩⟩⟩⟩⟩⟩⟩⟩⟩⟩⟩⟩⟩⟩
theorem lw_p96 : lw_okq (⟨"DiceRingModel", "holds", "(II)Z"⟩, 59) := ⟨⟨by decide +kernel, by decide +kernel⟩, List.mem_of_getElem? (i := 1206) (by decide +kernel), List.mem_of_getElem? (i := 1621) (by decide +kernel), List.mem_of_getElem? (i := 1622) (by decide +kernel)⟩
theorem lw_p97 : lw_okq (⟨"DiceRingModel", "keep", "(I)I"⟩, 59) := ⟨⟨by decide +kernel, by decide +kernel⟩, List.mem_of_getElem? (i := 1206) (by decide +kernel), List.mem_of_getElem? (i := 1625) (by decide +kernel), List.mem_of_getElem? (i := 1626) (by decide +kernel)⟩
theorem lw_p98 : lw_okq (⟨"DiceRingModel", "isDie", "(I)Z"⟩, 59) := ⟨⟨by decide +kernel, by decide +kernel⟩, List.mem_of_getElem? (i := 1206) (by decide +kernel), List.mem_of_getElem? (i := 1637) (by decide +kernel), List.mem_of_getElem? (i := 1638) (by decide +kernel)⟩
theorem lw_p99 : lw_okq (⟨"DiceRingModel", "tryFrom", "(IIII)V"⟩, 59) := ⟨⟨by decide +kernel, by decide +kernel⟩, List.mem_of_getElem? (i := 1206) (by decide +kernel), List.mem_of_getElem? (i := 1641) (by decide +kernel), List.mem_of_getElem? (i := 1642) (by decide +kernel)⟩
theorem lw_p100 : lw_okq (⟨"DiceRingModel", "found", "()V"⟩, 59) := ⟨⟨by decide +kernel, by decide +kernel⟩, List.mem_of_getElem? (i := 1206) (by decide +kernel), List.mem_of_getElem? (i := 1645) (by decide +kernel), List.mem_of_getElem? (i := 1646) (by decide +kernel)⟩
theorem lw_p101 : lw_okq (⟨"DiceRingModel", "isAhead", "(I)Z"⟩, 59) := ⟨⟨by decide +kernel, by decide +kernel⟩, List.mem_of_getElem? (i := 1206) (by decide +kernel), List.mem_of_getElem? (i := 1649) (by decide +kernel), List.mem_of_getElem? (i := 1650) (by decide +kernel)⟩
theorem lw_p102 : lw_okq (⟨"DiceRingModel", "lay", "(IIII)V"⟩, 59) := ⟨⟨by decide +kernel, by decide +kernel⟩, List.mem_of_getElem? (i := 1206) (by decide +kernel), List.mem_of_getElem? (i := 1653) (by decide +kernel), List.mem_of_getElem? (i := 1654) (by decide +kernel)⟩
theorem lw_p103 : lw_okq (⟨"DiceRingModel", "octet", "(I)I"⟩, 59) := ⟨⟨by decide +kernel, by decide +kernel⟩, List.mem_of_getElem? (i := 1206) (by decide +kernel), List.mem_of_getElem? (i := 1665) (by decide +kernel), List.mem_of_getElem? (i := 1666) (by decide +kernel)⟩
theorem lw_p104 : lw_okq (⟨"DiceRingModel", "counted", "(III)I"⟩, 59) := ⟨⟨by decide +kernel, by decide +kernel⟩, List.mem_of_getElem? (i := 1206) (by decide +kernel), List.mem_of_getElem? (i := 1669) (by decide +kernel), List.mem_of_getElem? (i := 1670) (by decide +kernel)⟩
theorem lw_p105 : lw_okq (⟨"DiceRingModel", "fairness", "(II)I"⟩, 59) := ⟨⟨by decide +kernel, by decide +kernel⟩, List.mem_of_getElem? (i := 1206) (by decide +kernel), List.mem_of_getElem? (i := 1673) (by decide +kernel), List.mem_of_getElem? (i := 1674) (by decide +kernel)⟩
theorem lw_p106 : lw_okq (⟨"DiceRingModel", "places", "(III)I"⟩, 59) := ⟨⟨by decide +kernel, by decide +kernel⟩, List.mem_of_getElem? (i := 1206) (by decide +kernel), List.mem_of_getElem? (i := 1677) (by decide +kernel), List.mem_of_getElem? (i := 1678) (by decide +kernel)⟩
theorem lw_p107 : lw_okq (⟨"DiceRingModel", "rows", "(II)I"⟩, 59) := ⟨⟨by decide +kernel, by decide +kernel⟩, List.mem_of_getElem? (i := 1206) (by decide +kernel), List.mem_of_getElem? (i := 1684) (by decide +kernel), List.mem_of_getElem? (i := 1685) (by decide +kernel)⟩
theorem lw_p108 : lw_okq (⟨"DiceRingModel", "lookAt", "()V"⟩, 59) := ⟨⟨by decide +kernel, by decide +kernel⟩, List.mem_of_getElem? (i := 1206) (by decide +kernel), List.mem_of_getElem? (i := 1692) (by decide +kernel), List.mem_of_getElem? (i := 1693) (by decide +kernel)⟩
theorem lw_p109 : lw_okq (⟨"DiceRingModel", "firstOf", "(II)V"⟩, 59) := ⟨⟨by decide +kernel, by decide +kernel⟩, List.mem_of_getElem? (i := 1206) (by decide +kernel), List.mem_of_getElem? (i := 1704) (by decide +kernel), List.mem_of_getElem? (i := 1705) (by decide +kernel)⟩
theorem lw_p110 : lw_okq (⟨"DiceRingModel", "nextWord", "()Z"⟩, 59) := ⟨⟨by decide +kernel, by decide +kernel⟩, List.mem_of_getElem? (i := 1206) (by decide +kernel), List.mem_of_getElem? (i := 1708) (by decide +kernel), List.mem_of_getElem? (i := 1709) (by decide +kernel)⟩
theorem lw_p111 : lw_okq (⟨"DiceRingModel", "swap", "(II)V"⟩, 59) := ⟨⟨by decide +kernel, by decide +kernel⟩, List.mem_of_getElem? (i := 1206) (by decide +kernel), List.mem_of_getElem? (i := 1712) (by decide +kernel), List.mem_of_getElem? (i := 1713) (by decide +kernel)⟩
def lw_privs_7 : List (MethodName × Nat) := [(⟨"DiceRingModel", "holds", "(II)Z"⟩, 59), (⟨"DiceRingModel", "keep", "(I)I"⟩, 59), (⟨"DiceRingModel", "isDie", "(I)Z"⟩, 59), (⟨"DiceRingModel", "tryFrom", "(IIII)V"⟩, 59), (⟨"DiceRingModel", "found", "()V"⟩, 59), (⟨"DiceRingModel", "isAhead", "(I)Z"⟩, 59), (⟨"DiceRingModel", "lay", "(IIII)V"⟩, 59), (⟨"DiceRingModel", "octet", "(I)I"⟩, 59), (⟨"DiceRingModel", "counted", "(III)I"⟩, 59), (⟨"DiceRingModel", "fairness", "(II)I"⟩, 59), (⟨"DiceRingModel", "places", "(III)I"⟩, 59), (⟨"DiceRingModel", "rows", "(II)I"⟩, 59), (⟨"DiceRingModel", "lookAt", "()V"⟩, 59), (⟨"DiceRingModel", "firstOf", "(II)V"⟩, 59), (⟨"DiceRingModel", "nextWord", "()Z"⟩, 59), (⟨"DiceRingModel", "swap", "(II)V"⟩, 59)]
theorem lw_r7 : ∀ q ∈ lw_privs_7, lw_okq q := List.forall_mem_cons.mpr ⟨lw_p96, List.forall_mem_cons.mpr ⟨lw_p97, List.forall_mem_cons.mpr ⟨lw_p98, List.forall_mem_cons.mpr ⟨lw_p99, List.forall_mem_cons.mpr ⟨lw_p100, List.forall_mem_cons.mpr ⟨lw_p101, List.forall_mem_cons.mpr ⟨lw_p102, List.forall_mem_cons.mpr ⟨lw_p103, List.forall_mem_cons.mpr ⟨lw_p104, List.forall_mem_cons.mpr ⟨lw_p105, List.forall_mem_cons.mpr ⟨lw_p106, List.forall_mem_cons.mpr ⟨lw_p107, List.forall_mem_cons.mpr ⟨lw_p108, List.forall_mem_cons.mpr ⟨lw_p109, List.forall_mem_cons.mpr ⟨lw_p110, List.forall_mem_cons.mpr ⟨lw_p111, fun _ h => absurd h List.not_mem_nil⟩⟩⟩⟩⟩⟩⟩⟩⟩⟩⟩⟩⟩⟩⟩⟩
theorem lw_p112 : lw_okq (⟨"DiceRingModel", "keepWord", "()V"⟩, 59) := ⟨⟨by decide +kernel, by decide +kernel⟩, List.mem_of_getElem? (i := 1206) (by decide +kernel), List.mem_of_getElem? (i := 1716) (by decide +kernel), List.mem_of_getElem? (i := 1717) (by decide +kernel)⟩
theorem lw_p113 : lw_okq (⟨"DiceRingModel", "isLaid", "(II)Z"⟩, 59) := ⟨⟨by decide +kernel, by decide +kernel⟩, List.mem_of_getElem? (i := 1206) (by decide +kernel), List.mem_of_getElem? (i := 1724) (by decide +kernel), List.mem_of_getElem? (i := 1725) (by decide +kernel)⟩
def lw_privs_8 : List (MethodName × Nat) := [(⟨"DiceRingModel", "keepWord", "()V"⟩, 59), (⟨"DiceRingModel", "isLaid", "(II)Z"⟩, 59)]
theorem lw_r8 : ∀ q ∈ lw_privs_8, lw_okq q := List.forall_mem_cons.mpr ⟨lw_p112, List.forall_mem_cons.mpr ⟨lw_p113, fun _ h => absurd h List.not_mem_nil⟩⟩
def lw_privs : List (MethodName × Nat) := lw_privs_1 ++ (lw_privs_2 ++ (lw_privs_3 ++ (lw_privs_4 ++ (lw_privs_5 ++ (lw_privs_6 ++ (lw_privs_7 ++ (lw_privs_8)))))))
def lw_tbl : List Cond := k2_sels lw_privs ++ tables_1
theorem lw_privs_ok : ∀ q ∈ lw_privs, lw_okq q := by
  show ∀ q ∈ lw_privs_1 ++ (lw_privs_2 ++ (lw_privs_3 ++ (lw_privs_4 ++ (lw_privs_5 ++ (lw_privs_6 ++ (lw_privs_7 ++ (lw_privs_8))))))), lw_okq q
  exact List.forall_mem_append.mpr ⟨lw_r1, List.forall_mem_append.mpr ⟨lw_r2, List.forall_mem_append.mpr ⟨lw_r3, List.forall_mem_append.mpr ⟨lw_r4, List.forall_mem_append.mpr ⟨lw_r5, List.forall_mem_append.mpr ⟨lw_r6, List.forall_mem_append.mpr ⟨lw_r7, lw_r8⟩⟩⟩⟩⟩⟩⟩

/-! kinds: their names and fields (out of NAMES.whole) -/
def RX0 : String := "DiceRing$Bench"
def TX0 : u_T := fun k => match k with
  | 0 => ("DiceRing$Bench", "rows", "[LDiceRing$Row;", true)
  | 1 => ("DiceRing$Bench", "spare", "LDiceRing$Row;", false)
  | 2 => ("DiceRing$Bench", "gathered", "LDiceRing$Row;", false)
  | 3 => ("DiceRing$Bench", "zero", "LDiceRing$Row;", true)
  | 4 => ("DiceRing$Bench", "height", "I", false)
  | _ => ("DiceRing$Bench", "tooMuch", "Z", false)
def tyX0 : Nat → FieldType := fun k => match k with
  | 0 => .array (.object "DiceRing$Row")
  | 1 => .object "DiceRing$Row"
  | 2 => .object "DiceRing$Row"
  | 3 => .object "DiceRing$Row"
  | 4 => .int
  | _ => .boolean
theorem nmX0 : ∀ a, a < 6 → ∀ b, b < 6 → a ≠ b → (TX0 a).2.1 ≠ (TX0 b).2.1 := by decide +kernel
theorem tyX0_ok : ∀ k, k < 6 → parseFieldDescriptor (TX0 k).2.2.1 = some (tyX0 k) := by decide +kernel
def RX1 : String := "DiceRing$FaceSearch"
def TX1 : u_T := fun k => match k with
  | 0 => ("DiceRing$FaceSearch", "pairs", "LDiceRing$Pairs;", true)
  | 1 => ("DiceRing$FaceSearch", "left", "[I", true)
  | 2 => ("DiceRing$FaceSearch", "x", "[I", true)
  | 3 => ("DiceRing$FaceSearch", "y", "[I", true)
  | 4 => ("DiceRing$FaceSearch", "tried", "[I", true)
  | 5 => ("DiceRing$FaceSearch", "p", "I", false)
  | 6 => ("DiceRing$FaceSearch", "q", "I", false)
  | 7 => ("DiceRing$FaceSearch", "least", "I", false)
  | 8 => ("DiceRing$FaceSearch", "leastSum", "I", false)
  | 9 => ("DiceRing$FaceSearch", "deepest", "I", false)
  | 10 => ("DiceRing$FaceSearch", "laidX", "I", false)
  | 11 => ("DiceRing$FaceSearch", "laidY", "I", false)
  | _ => ("DiceRing$FaceSearch", "found", "I", false)
def tyX1 : Nat → FieldType := fun k => match k with
  | 0 => .object "DiceRing$Pairs"
  | 1 => .array .int
  | 2 => .array .int
  | 3 => .array .int
  | 4 => .array .int
  | 5 => .int
  | 6 => .int
  | 7 => .int
  | 8 => .int
  | 9 => .int
  | 10 => .int
  | 11 => .int
  | _ => .int
theorem nmX1 : ∀ a, a < 13 → ∀ b, b < 13 → a ≠ b → (TX1 a).2.1 ≠ (TX1 b).2.1 := by decide +kernel
theorem tyX1_ok : ∀ k, k < 13 → parseFieldDescriptor (TX1 k).2.2.1 = some (tyX1 k) := by decide +kernel
def RX2 : String := "DiceRing$Game"
def TX2 : u_T := fun k => match k with
  | 0 => ("DiceRing$Game", "members", "[I", true)
  | 1 => ("DiceRing$Game", "signs", "[I", true)
  | 2 => ("DiceRing$Game", "trial", "[J", true)
  | 3 => ("DiceRing$Game", "shares", "[I", true)
  | _ => ("DiceRing$Game", "size", "I", false)
def tyX2 : Nat → FieldType := fun k => match k with
  | 0 => .array .int
  | 1 => .array .int
  | 2 => .array .long
  | 3 => .array .int
  | _ => .int
theorem nmX2 : ∀ a, a < 5 → ∀ b, b < 5 → a ≠ b → (TX2 a).2.1 ≠ (TX2 b).2.1 := by decide +kernel
theorem tyX2_ok : ∀ k, k < 5 → parseFieldDescriptor (TX2 k).2.2.1 = some (tyX2 k) := by decide +kernel
def RX3 : String := "DiceRing$Net"
def TX3 : u_T := fun k => match k with
  | 0 => ("DiceRing$Net", "beaten", "[I", true)
  | 1 => ("DiceRing$Net", "steps", "[I", true)
  | 2 => ("DiceRing$Net", "ringNames", "[I", true)
  | 3 => ("DiceRing$Net", "ringLength", "I", false)
  | _ => ("DiceRing$Net", "names", "I", false)
def tyX3 : Nat → FieldType := fun k => match k with
  | 0 => .array .int
  | 1 => .array .int
  | 2 => .array .int
  | 3 => .int
  | _ => .int
theorem nmX3 : ∀ a, a < 5 → ∀ b, b < 5 → a ≠ b → (TX3 a).2.1 ≠ (TX3 b).2.1 := by decide +kernel
theorem tyX3_ok : ∀ k, k < 5 → parseFieldDescriptor (TX3 k).2.2.1 = some (tyX3 k) := by decide +kernel
def RX4 : String := "DiceRing$Pairs"
def TX4 : u_T := fun k => match k with
  | 0 => ("DiceRing$Pairs", "faces", "[I", true)
  | 1 => ("DiceRing$Pairs", "starts", "[I", true)
  | 2 => ("DiceRing$Pairs", "slots", "[I", true)
  | 3 => ("DiceRing$Pairs", "kept", "I", false)
  | 4 => ("DiceRing$Pairs", "p", "I", false)
  | _ => ("DiceRing$Pairs", "q", "I", false)
def tyX4 : Nat → FieldType := fun k => match k with
  | 0 => .array .int
  | 1 => .array .int
  | 2 => .array .int
  | 3 => .int
  | 4 => .int
  | _ => .int
theorem nmX4 : ∀ a, a < 6 → ∀ b, b < 6 → a ≠ b → (TX4 a).2.1 ≠ (TX4 b).2.1 := by decide +kernel
theorem tyX4_ok : ∀ k, k < 6 → parseFieldDescriptor (TX4 k).2.2.1 = some (tyX4 k) := by decide +kernel
def RX5 : String := "DiceRing$Reader"
def TX5 : u_T := fun k => match k with
  | 0 => ("DiceRing$Reader", "text", "[I", false)
  | 1 => ("DiceRing$Reader", "length", "I", false)
  | 2 => ("DiceRing$Reader", "following", "I", false)
  | 3 => ("DiceRing$Reader", "kind", "I", false)
  | 4 => ("DiceRing$Reader", "value", "I", false)
  | _ => ("DiceRing$Reader", "place", "I", false)
def tyX5 : Nat → FieldType := fun k => match k with
  | 0 => .array .int
  | 1 => .int
  | 2 => .int
  | 3 => .int
  | 4 => .int
  | _ => .int
theorem nmX5 : ∀ a, a < 6 → ∀ b, b < 6 → a ≠ b → (TX5 a).2.1 ≠ (TX5 b).2.1 := by decide +kernel
theorem tyX5_ok : ∀ k, k < 6 → parseFieldDescriptor (TX5 k).2.2.1 = some (tyX5 k) := by decide +kernel
def RX6 : String := "DiceRing$Row"
def TX6 : u_T := fun k => match k with
  | 0 => ("DiceRing$Row", "reach", "I", true)
  | 1 => ("DiceRing$Row", "ways", "[J", true)
  | 2 => ("DiceRing$Row", "least", "I", false)
  | 3 => ("DiceRing$Row", "greatest", "I", false)
  | _ => ("DiceRing$Row", "total", "J", false)
def tyX6 : Nat → FieldType := fun k => match k with
  | 0 => .int
  | 1 => .array .long
  | 2 => .int
  | 3 => .int
  | _ => .long
theorem nmX6 : ∀ a, a < 5 → ∀ b, b < 5 → a ≠ b → (TX6 a).2.1 ≠ (TX6 b).2.1 := by decide +kernel
theorem tyX6_ok : ∀ k, k < 5 → parseFieldDescriptor (TX6 k).2.2.1 = some (tyX6 k) := by decide +kernel
def RX7 : String := "DiceRing$Table"
def TX7 : u_T := fun k => match k with
  | 0 => ("DiceRing$Table", "rows", "[LDiceRing$Row;", true)
  | 1 => ("DiceRing$Table", "faces", "[I", true)
  | 2 => ("DiceRing$Table", "words", "[I", true)
  | _ => ("DiceRing$Table", "names", "I", false)
def tyX7 : Nat → FieldType := fun k => match k with
  | 0 => .array (.object "DiceRing$Row")
  | 1 => .array .int
  | 2 => .array .int
  | _ => .int
theorem nmX7 : ∀ a, a < 4 → ∀ b, b < 4 → a ≠ b → (TX7 a).2.1 ≠ (TX7 b).2.1 := by decide +kernel
theorem tyX7_ok : ∀ k, k < 4 → parseFieldDescriptor (TX7 k).2.2.1 = some (tyX7 k) := by decide +kernel
def RX8 : String := "DiceRing$Teller"
def TX8 : u_T := fun k => match k with
  | 0 => ("DiceRing$Teller", "reader", "LDiceRing$Reader;", true)
  | 1 => ("DiceRing$Teller", "bench", "LDiceRing$Bench;", true)
  | 2 => ("DiceRing$Teller", "told", "LDiceRing$Table;", false)
  | 3 => ("DiceRing$Teller", "headIsDie", "Z", false)
  | 4 => ("DiceRing$Teller", "headWord", "I", false)
  | 5 => ("DiceRing$Teller", "faultKind", "I", false)
  | _ => ("DiceRing$Teller", "faultPlace", "I", false)
def tyX8 : Nat → FieldType := fun k => match k with
  | 0 => .object "DiceRing$Reader"
  | 1 => .object "DiceRing$Bench"
  | 2 => .object "DiceRing$Table"
  | 3 => .boolean
  | 4 => .int
  | 5 => .int
  | _ => .int
theorem nmX8 : ∀ a, a < 7 → ∀ b, b < 7 → a ≠ b → (TX8 a).2.1 ≠ (TX8 b).2.1 := by decide +kernel
theorem tyX8_ok : ∀ k, k < 7 → parseFieldDescriptor (TX8 k).2.2.1 = some (tyX8 k) := by decide +kernel
def RX9 : String := "DiceRing$WordCount"
def TX9 : u_T := fun k => match k with
  | 0 => ("DiceRing$WordCount", "ones", "[I", true)
  | 1 => ("DiceRing$WordCount", "twos", "[I", true)
  | 2 => ("DiceRing$WordCount", "threes", "[I", true)
  | 3 => ("DiceRing$WordCount", "fours", "[I", true)
  | 4 => ("DiceRing$WordCount", "places", "[I", true)
  | _ => ("DiceRing$WordCount", "dice", "I", false)
def tyX9 : Nat → FieldType := fun k => match k with
  | 0 => .array .int
  | 1 => .array .int
  | 2 => .array .int
  | 3 => .array .int
  | 4 => .array .int
  | _ => .int
theorem nmX9 : ∀ a, a < 6 → ∀ b, b < 6 → a ≠ b → (TX9 a).2.1 ≠ (TX9 b).2.1 := by decide +kernel
theorem tyX9_ok : ∀ k, k < 6 → parseFieldDescriptor (TX9 k).2.2.1 = some (tyX9 k) := by decide +kernel
def RX10 : String := "DiceRing$WordSearch"
def TX10 : u_T := fun k => match k with
  | 0 => ("DiceRing$WordSearch", "word", "[I", true)
  | 1 => ("DiceRing$WordSearch", "trial", "[I", true)
  | 2 => ("DiceRing$WordSearch", "used", "[I", true)
  | 3 => ("DiceRing$WordSearch", "wins", "[I", true)
  | 4 => ("DiceRing$WordSearch", "greatest", "[I", true)
  | 5 => ("DiceRing$WordSearch", "counted", "LDiceRing$WordCount;", true)
  | 6 => ("DiceRing$WordSearch", "wordLength", "I", false)
  | 7 => ("DiceRing$WordSearch", "dice", "I", false)
  | 8 => ("DiceRing$WordSearch", "faces", "I", false)
  | 9 => ("DiceRing$WordSearch", "fairBits", "I", false)
  | _ => ("DiceRing$WordSearch", "wanted", "I", false)
def tyX10 : Nat → FieldType := fun k => match k with
  | 0 => .array .int
  | 1 => .array .int
  | 2 => .array .int
  | 3 => .array .int
  | 4 => .array .int
  | 5 => .object "DiceRing$WordCount"
  | 6 => .int
  | 7 => .int
  | 8 => .int
  | 9 => .int
  | _ => .int
theorem nmX10 : ∀ a, a < 11 → ∀ b, b < 11 → a ≠ b → (TX10 a).2.1 ≠ (TX10 b).2.1 := by decide +kernel
theorem tyX10_ok : ∀ k, k < 11 → parseFieldDescriptor (TX10 k).2.2.1 = some (tyX10 k) := by decide +kernel
def RX11 : String := "DiceRing"
def TX11 : u_T := fun k => match k with
  | 0 => ("DiceRing", "tape", "[I", true)
  | 1 => ("DiceRing", "tapeLength", "I", false)
  | 2 => ("DiceRing", "now", "LDiceRing$Table;", false)
  | 3 => ("DiceRing", "teller", "LDiceRing$Teller;", true)
  | 4 => ("DiceRing", "faultKind", "I", false)
  | 5 => ("DiceRing", "net", "LDiceRing$Net;", true)
  | 6 => ("DiceRing", "netIsOld", "Z", false)
  | 7 => ("DiceRing", "game", "LDiceRing$Game;", true)
  | 8 => ("DiceRing", "faceSearch", "LDiceRing$FaceSearch;", true)
  | 9 => ("DiceRing", "wordCount", "LDiceRing$WordCount;", true)
  | 10 => ("DiceRing", "wordSearch", "LDiceRing$WordSearch;", true)
  | 11 => ("DiceRing", "parts", "[J", true)
  | 12 => ("DiceRing", "met", "[J", true)
  | 13 => ("DiceRing", "firstThrown", "LDiceRing$Row;", true)
  | 14 => ("DiceRing", "secondThrown", "LDiceRing$Row;", true)
  | _ => ("DiceRing", "thrownSpare", "LDiceRing$Row;", true)
def tyX11 : Nat → FieldType := fun k => match k with
  | 0 => .array .int
  | 1 => .int
  | 2 => .object "DiceRing$Table"
  | 3 => .object "DiceRing$Teller"
  | 4 => .int
  | 5 => .object "DiceRing$Net"
  | 6 => .boolean
  | 7 => .object "DiceRing$Game"
  | 8 => .object "DiceRing$FaceSearch"
  | 9 => .object "DiceRing$WordCount"
  | 10 => .object "DiceRing$WordSearch"
  | 11 => .array .long
  | 12 => .array .long
  | 13 => .object "DiceRing$Row"
  | 14 => .object "DiceRing$Row"
  | _ => .object "DiceRing$Row"
theorem nmX11 : ∀ a, a < 16 → ∀ b, b < 16 → a ≠ b → (TX11 a).2.1 ≠ (TX11 b).2.1 := by decide +kernel
theorem tyX11_ok : ∀ k, k < 16 → parseFieldDescriptor (TX11 k).2.2.1 = some (tyX11 k) := by decide +kernel
def RX12 : String := "DiceRingModel"
def TX12 : u_T := fun k => match k with
  | 0 => ("DiceRingModel", "thrown", "I", false)
  | 1 => ("DiceRingModel", "tape", "[B", true)
  | 2 => ("DiceRingModel", "length", "I", false)
  | 3 => ("DiceRingModel", "size", "I", false)
  | 4 => ("DiceRingModel", "p", "I", false)
  | 5 => ("DiceRingModel", "pool", "[J", true)
  | 6 => ("DiceRingModel", "alls", "[J", true)
  | 7 => ("DiceRingModel", "tooMuch", "Z", false)
  | 8 => ("DiceRingModel", "names", "[J", true)
  | 9 => ("DiceRingModel", "faces", "[I", true)
  | 10 => ("DiceRingModel", "faceMany", "[I", true)
  | 11 => ("DiceRingModel", "nameMany", "[I", true)
  | 12 => ("DiceRingModel", "net", "[I", true)
  | 13 => ("DiceRingModel", "kind", "[I", true)
  | 14 => ("DiceRingModel", "signed", "[I", true)
  | 15 => ("DiceRingModel", "times", "[I", true)
  | 16 => ("DiceRingModel", "has", "[Z", true)
  | 17 => ("DiceRingModel", "token", "I", false)
  | 18 => ("DiceRingModel", "at", "I", false)
  | 19 => ("DiceRingModel", "span", "I", false)
  | 20 => ("DiceRingModel", "number", "I", false)
  | 21 => ("DiceRingModel", "fault", "I", false)
  | 22 => ("DiceRingModel", "faultAt", "I", false)
  | 23 => ("DiceRingModel", "word", "J", false)
  | 24 => ("DiceRingModel", "wide", "[J", true)
  | 25 => ("DiceRingModel", "wideMade", "[J", true)
  | 26 => ("DiceRingModel", "far", "[I", true)
  | 27 => ("DiceRingModel", "ringNames", "[I", true)
  | 28 => ("DiceRingModel", "ringMany", "I", false)
  | 29 => ("DiceRingModel", "member", "[I", true)
  | 30 => ("DiceRingModel", "pairing", "[J", true)
  | 31 => ("DiceRingModel", "share", "[J", true)
  | 32 => ("DiceRingModel", "shareNow", "[J", true)
  | 33 => ("DiceRingModel", "target", "[I", true)
  | 34 => ("DiceRingModel", "xs", "[I", true)
  | 35 => ("DiceRingModel", "ys", "[I", true)
  | 36 => ("DiceRingModel", "tried", "[I", true)
  | 37 => ("DiceRingModel", "keptX", "[I", true)
  | 38 => ("DiceRingModel", "keptY", "[I", true)
  | 39 => ("DiceRingModel", "otherMany", "I", false)
  | 40 => ("DiceRingModel", "otherAll", "I", false)
  | 41 => ("DiceRingModel", "otherP", "I", false)
  | 42 => ("DiceRingModel", "otherQ", "I", false)
  | 43 => ("DiceRingModel", "xMany", "I", false)
  | 44 => ("DiceRingModel", "yMany", "I", false)
  | 45 => ("DiceRingModel", "letters", "[I", true)
  | 46 => ("DiceRingModel", "fairWord", "[I", true)
  | 47 => ("DiceRingModel", "keptWord", "[I", true)
  | 48 => ("DiceRingModel", "below", "[I", true)
  | 49 => ("DiceRingModel", "beatsOf", "[I", true)
  | 50 => ("DiceRingModel", "wants", "[I", true)
  | 51 => ("DiceRingModel", "pathOf", "[I", true)
  | 52 => ("DiceRingModel", "wordMany", "I", false)
  | 53 => ("DiceRingModel", "wordDice", "I", false)
  | 54 => ("DiceRingModel", "fairMany", "I", false)
  | 55 => ("DiceRingModel", "fairDice", "I", false)
  | 56 => ("DiceRingModel", "keptMany", "I", false)
  | 57 => ("DiceRingModel", "rolledParts", "[J", true)
  | _ => ("DiceRingModel", "met", "[J", true)
def tyX12 : Nat → FieldType := fun k => match k with
  | 0 => .int
  | 1 => .array .byte
  | 2 => .int
  | 3 => .int
  | 4 => .int
  | 5 => .array .long
  | 6 => .array .long
  | 7 => .boolean
  | 8 => .array .long
  | 9 => .array .int
  | 10 => .array .int
  | 11 => .array .int
  | 12 => .array .int
  | 13 => .array .int
  | 14 => .array .int
  | 15 => .array .int
  | 16 => .array .boolean
  | 17 => .int
  | 18 => .int
  | 19 => .int
  | 20 => .int
  | 21 => .int
  | 22 => .int
  | 23 => .long
  | 24 => .array .long
  | 25 => .array .long
  | 26 => .array .int
  | 27 => .array .int
  | 28 => .int
  | 29 => .array .int
  | 30 => .array .long
  | 31 => .array .long
  | 32 => .array .long
  | 33 => .array .int
  | 34 => .array .int
  | 35 => .array .int
  | 36 => .array .int
  | 37 => .array .int
  | 38 => .array .int
  | 39 => .int
  | 40 => .int
  | 41 => .int
  | 42 => .int
  | 43 => .int
  | 44 => .int
  | 45 => .array .int
  | 46 => .array .int
  | 47 => .array .int
  | 48 => .array .int
  | 49 => .array .int
  | 50 => .array .int
  | 51 => .array .int
  | 52 => .int
  | 53 => .int
  | 54 => .int
  | 55 => .int
  | 56 => .int
  | 57 => .array .long
  | _ => .array .long
theorem nmX12 : ∀ a, a < 59 → ∀ b, b < 59 → a ≠ b → (TX12 a).2.1 ≠ (TX12 b).2.1 := by decide +kernel
theorem tyX12_ok : ∀ k, k < 59 → parseFieldDescriptor (TX12 k).2.2.1 = some (tyX12 k) := by decide +kernel
abbrev vwCl : List vw_C := [(RX0, TX0, 6), (RX1, TX1, 13), (RX2, TX2, 5), (RX3, TX3, 5), (RX4, TX4, 6), (RX5, TX5, 6), (RX6, TX6, 5), (RX7, TX7, 4), (RX8, TX8, 7), (RX9, TX9, 6), (RX10, TX10, 11), (RX11, TX11, 16), (RX12, TX12, 59)]
set_option maxRecDepth 100000 in
theorem inT0 : ∀ w ∈ u_ws RX0 TX0 6, w ∈ tables_1 := fun w hw => by
  have h1 : u_ws RX0 TX0 6 = [147, 149, 151, 153, 155, 157].filterMap (fun i => tables_1[i]?) := by decide +kernel
  rw [h1] at hw
  obtain ⟨i, -, hi⟩ := List.mem_filterMap.mp hw
  exact List.mem_of_getElem? hi
set_option maxRecDepth 100000 in
theorem inT1 : ∀ w ∈ u_ws RX1 TX1 13, w ∈ tables_1 := fun w hw => by
  have h1 : u_ws RX1 TX1 13 = [274, 276, 278, 280, 282, 284, 286, 288, 290, 292, 294, 296, 298].filterMap (fun i => tables_1[i]?) := by decide +kernel
  rw [h1] at hw
  obtain ⟨i, -, hi⟩ := List.mem_filterMap.mp hw
  exact List.mem_of_getElem? hi
set_option maxRecDepth 100000 in
theorem inT2 : ∀ w ∈ u_ws RX2 TX2 5, w ∈ tables_1 := fun w hw => by
  have h1 : u_ws RX2 TX2 5 = [218, 220, 222, 224, 226].filterMap (fun i => tables_1[i]?) := by decide +kernel
  rw [h1] at hw
  obtain ⟨i, -, hi⟩ := List.mem_filterMap.mp hw
  exact List.mem_of_getElem? hi
set_option maxRecDepth 100000 in
theorem inT3 : ∀ w ∈ u_ws RX3 TX3 5, w ∈ tables_1 := fun w hw => by
  have h1 : u_ws RX3 TX3 5 = [196, 198, 200, 202, 204].filterMap (fun i => tables_1[i]?) := by decide +kernel
  rw [h1] at hw
  obtain ⟨i, -, hi⟩ := List.mem_filterMap.mp hw
  exact List.mem_of_getElem? hi
set_option maxRecDepth 100000 in
theorem inT4 : ∀ w ∈ u_ws RX4 TX4 6, w ∈ tables_1 := fun w hw => by
  have h1 : u_ws RX4 TX4 6 = [247, 249, 251, 253, 255, 257].filterMap (fun i => tables_1[i]?) := by decide +kernel
  rw [h1] at hw
  obtain ⟨i, -, hi⟩ := List.mem_filterMap.mp hw
  exact List.mem_of_getElem? hi
set_option maxRecDepth 100000 in
theorem inT5 : ∀ w ∈ u_ws RX5 TX5 6, w ∈ tables_1 := fun w hw => by
  have h1 : u_ws RX5 TX5 6 = [104, 106, 108, 110, 112, 114].filterMap (fun i => tables_1[i]?) := by decide +kernel
  rw [h1] at hw
  obtain ⟨i, -, hi⟩ := List.mem_filterMap.mp hw
  exact List.mem_of_getElem? hi
set_option maxRecDepth 100000 in
theorem inT6 : ∀ w ∈ u_ws RX6 TX6 5, w ∈ tables_1 := fun w hw => by
  have h1 : u_ws RX6 TX6 5 = [54, 56, 58, 60, 62].filterMap (fun i => tables_1[i]?) := by decide +kernel
  rw [h1] at hw
  obtain ⟨i, -, hi⟩ := List.mem_filterMap.mp hw
  exact List.mem_of_getElem? hi
set_option maxRecDepth 100000 in
theorem inT7 : ∀ w ∈ u_ws RX7 TX7 4, w ∈ tables_1 := fun w hw => by
  have h1 : u_ws RX7 TX7 4 = [74, 76, 78, 80].filterMap (fun i => tables_1[i]?) := by decide +kernel
  rw [h1] at hw
  obtain ⟨i, -, hi⟩ := List.mem_filterMap.mp hw
  exact List.mem_of_getElem? hi
set_option maxRecDepth 100000 in
theorem inT8 : ∀ w ∈ u_ws RX8 TX8 7, w ∈ tables_1 := fun w hw => by
  have h1 : u_ws RX8 TX8 7 = [170, 172, 174, 176, 178, 180, 182].filterMap (fun i => tables_1[i]?) := by decide +kernel
  rw [h1] at hw
  obtain ⟨i, -, hi⟩ := List.mem_filterMap.mp hw
  exact List.mem_of_getElem? hi
set_option maxRecDepth 100000 in
theorem inT9 : ∀ w ∈ u_ws RX9 TX9 6, w ∈ tables_1 := fun w hw => by
  have h1 : u_ws RX9 TX9 6 = [313, 315, 317, 319, 321, 323].filterMap (fun i => tables_1[i]?) := by decide +kernel
  rw [h1] at hw
  obtain ⟨i, -, hi⟩ := List.mem_filterMap.mp hw
  exact List.mem_of_getElem? hi
set_option maxRecDepth 100000 in
theorem inT10 : ∀ w ∈ u_ws RX10 TX10 11, w ∈ tables_1 := fun w hw => by
  have h1 : u_ws RX10 TX10 11 = [345, 347, 349, 351, 353, 355, 357, 359, 361, 363, 365].filterMap (fun i => tables_1[i]?) := by decide +kernel
  rw [h1] at hw
  obtain ⟨i, -, hi⟩ := List.mem_filterMap.mp hw
  exact List.mem_of_getElem? hi
set_option maxRecDepth 100000 in
theorem inT11 : ∀ w ∈ u_ws RX11 TX11 16, w ∈ tables_1 := fun w hw => by
  have h1 : u_ws RX11 TX11 16 = [386, 388, 390, 392, 394, 396, 398, 400, 402, 404, 406, 408, 410, 412, 414, 416].filterMap (fun i => tables_1[i]?) := by decide +kernel
  rw [h1] at hw
  obtain ⟨i, -, hi⟩ := List.mem_filterMap.mp hw
  exact List.mem_of_getElem? hi
set_option maxRecDepth 100000 in
theorem inT12 : ∀ w ∈ u_ws RX12 TX12 59, w ∈ tables_1 := fun w hw => by
  have h1 : u_ws RX12 TX12 59 = [1269, 1271, 1273, 1275, 1277, 1279, 1281, 1283, 1285, 1287, 1289, 1291, 1293, 1295, 1297, 1299, 1301, 1303, 1305, 1307, 1309, 1311, 1313, 1315, 1317, 1319, 1321, 1323, 1325, 1327, 1329, 1331, 1333, 1335, 1337, 1339, 1341, 1343, 1345, 1347, 1349, 1351, 1353, 1355, 1357, 1359, 1361, 1363, 1365, 1367, 1369, 1371, 1373, 1375, 1377, 1379, 1381, 1383, 1385].filterMap (fun i => tables_1[i]?) := by decide +kernel
  rw [h1] at hw
  obtain ⟨i, -, hi⟩ := List.mem_filterMap.mp hw
  exact List.mem_of_getElem? hi
