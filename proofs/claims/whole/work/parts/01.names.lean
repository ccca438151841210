-- ===== PART A: goes FIRST, ahead of the names: the tables' words, and 'selects' of the private methods out of them =====
/-- a private method of a class that the tables say can be made, by its rows of tables_1 -/
def lw_okq (q : MethodName × Nat) : Prop := (q.1.cls ≠ "java/lang/invoke/MethodHandle" ∧ q.1.cls ≠ "java/lang/invoke/VarHandle") ∧ Cond.instantiable q.1.cls q.2 ∈ tables_1 ∧ Cond.privateMethod q.1 ∈ tables_1 ∧ Cond.instanceMethod q.1 ∈ tables_1
theorem lw_p0 : lw_okq (⟨"BreathRoad", "refuse", "(I)I"⟩, 11) := ⟨⟨by decide +kernel, by decide +kernel⟩, List.mem_of_getElem? (i := 23) (by decide +kernel), List.mem_of_getElem? (i := 443) (by decide +kernel), List.mem_of_getElem? (i := 444) (by decide +kernel)⟩
theorem lw_p1 : lw_okq (⟨"BreathRoad$Reader", "skipBlanks", "()V"⟩, 11) := ⟨⟨by decide +kernel, by decide +kernel⟩, List.mem_of_getElem? (i := 311) (by decide +kernel), List.mem_of_getElem? (i := 479) (by decide +kernel), List.mem_of_getElem? (i := 480) (by decide +kernel)⟩
theorem lw_p2 : lw_okq (⟨"BreathRoad$Reader", "fail", "(II)V"⟩, 11) := ⟨⟨by decide +kernel, by decide +kernel⟩, List.mem_of_getElem? (i := 311) (by decide +kernel), List.mem_of_getElem? (i := 491) (by decide +kernel), List.mem_of_getElem? (i := 492) (by decide +kernel)⟩
theorem lw_p3 : lw_okq (⟨"BreathRoad$Reader", "advance", "()V"⟩, 11) := ⟨⟨by decide +kernel, by decide +kernel⟩, List.mem_of_getElem? (i := 311) (by decide +kernel), List.mem_of_getElem? (i := 495) (by decide +kernel), List.mem_of_getElem? (i := 496) (by decide +kernel)⟩
theorem lw_p4 : lw_okq (⟨"BreathRoad$Reader", "isSideBySide", "()Z"⟩, 11) := ⟨⟨by decide +kernel, by decide +kernel⟩, List.mem_of_getElem? (i := 311) (by decide +kernel), List.mem_of_getElem? (i := 499) (by decide +kernel), List.mem_of_getElem? (i := 500) (by decide +kernel)⟩
theorem lw_p5 : lw_okq (⟨"BreathRoad$Reader", "scanWord", "()V"⟩, 11) := ⟨⟨by decide +kernel, by decide +kernel⟩, List.mem_of_getElem? (i := 311) (by decide +kernel), List.mem_of_getElem? (i := 509) (by decide +kernel), List.mem_of_getElem? (i := 510) (by decide +kernel)⟩
theorem lw_p6 : lw_okq (⟨"BreathRoad$Reader", "scanNumber", "()V"⟩, 11) := ⟨⟨by decide +kernel, by decide +kernel⟩, List.mem_of_getElem? (i := 311) (by decide +kernel), List.mem_of_getElem? (i := 516) (by decide +kernel), List.mem_of_getElem? (i := 517) (by decide +kernel)⟩
theorem lw_p7 : lw_okq (⟨"BreathRoad$Reader", "scanSign", "()V"⟩, 11) := ⟨⟨by decide +kernel, by decide +kernel⟩, List.mem_of_getElem? (i := 311) (by decide +kernel), List.mem_of_getElem? (i := 520) (by decide +kernel), List.mem_of_getElem? (i := 521) (by decide +kernel)⟩
theorem lw_p8 : lw_okq (⟨"BreathRoad$Reader", "readTunnel", "()V"⟩, 11) := ⟨⟨by decide +kernel, by decide +kernel⟩, List.mem_of_getElem? (i := 311) (by decide +kernel), List.mem_of_getElem? (i := 584) (by decide +kernel), List.mem_of_getElem? (i := 585) (by decide +kernel)⟩
theorem lw_p9 : lw_okq (⟨"BreathRoad$Reader", "takeNewName", "()I"⟩, 11) := ⟨⟨by decide +kernel, by decide +kernel⟩, List.mem_of_getElem? (i := 311) (by decide +kernel), List.mem_of_getElem? (i := 588) (by decide +kernel), List.mem_of_getElem? (i := 589) (by decide +kernel)⟩
theorem lw_p10 : lw_okq (⟨"BreathRoad$Reader", "isName", "()Z"⟩, 11) := ⟨⟨by decide +kernel, by decide +kernel⟩, List.mem_of_getElem? (i := 311) (by decide +kernel), List.mem_of_getElem? (i := 592) (by decide +kernel), List.mem_of_getElem? (i := 593) (by decide +kernel)⟩
theorem lw_p11 : lw_okq (⟨"BreathRoad$Reader", "takeWord", "(I)V"⟩, 11) := ⟨⟨by decide +kernel, by decide +kernel⟩, List.mem_of_getElem? (i := 311) (by decide +kernel), List.mem_of_getElem? (i := 608) (by decide +kernel), List.mem_of_getElem? (i := 609) (by decide +kernel)⟩
theorem lw_p12 : lw_okq (⟨"BreathRoad$Reader", "takeNumber", "(II)I"⟩, 11) := ⟨⟨by decide +kernel, by decide +kernel⟩, List.mem_of_getElem? (i := 311) (by decide +kernel), List.mem_of_getElem? (i := 612) (by decide +kernel), List.mem_of_getElem? (i := 613) (by decide +kernel)⟩
theorem lw_p13 : lw_okq (⟨"BreathRoad$Reader", "readLength", "(I)V"⟩, 11) := ⟨⟨by decide +kernel, by decide +kernel⟩, List.mem_of_getElem? (i := 311) (by decide +kernel), List.mem_of_getElem? (i := 616) (by decide +kernel), List.mem_of_getElem? (i := 617) (by decide +kernel)⟩
theorem lw_p14 : lw_okq (⟨"BreathRoad$Reader", "readHolder", "()V"⟩, 11) := ⟨⟨by decide +kernel, by decide +kernel⟩, List.mem_of_getElem? (i := 311) (by decide +kernel), List.mem_of_getElem? (i := 636) (by decide +kernel), List.mem_of_getElem? (i := 637) (by decide +kernel)⟩
theorem lw_p15 : lw_okq (⟨"BreathRoad$Reader", "readThinks", "()V"⟩, 11) := ⟨⟨by decide +kernel, by decide +kernel⟩, List.mem_of_getElem? (i := 311) (by decide +kernel), List.mem_of_getElem? (i := 640) (by decide +kernel), List.mem_of_getElem? (i := 641) (by decide +kernel)⟩
def lw_privs_1 : List (MethodName × Nat) := [(⟨"BreathRoad", "refuse", "(I)I"⟩, 11), (⟨"BreathRoad$Reader", "skipBlanks", "()V"⟩, 11), (⟨"BreathRoad$Reader", "fail", "(II)V"⟩, 11), (⟨"BreathRoad$Reader", "advance", "()V"⟩, 11), (⟨"BreathRoad$Reader", "isSideBySide", "()Z"⟩, 11), (⟨"BreathRoad$Reader", "scanWord", "()V"⟩, 11), (⟨"BreathRoad$Reader", "scanNumber", "()V"⟩, 11), (⟨"BreathRoad$Reader", "scanSign", "()V"⟩, 11), (⟨"BreathRoad$Reader", "readTunnel", "()V"⟩, 11), (⟨"BreathRoad$Reader", "takeNewName", "()I"⟩, 11), (⟨"BreathRoad$Reader", "isName", "()Z"⟩, 11), (⟨"BreathRoad$Reader", "takeWord", "(I)V"⟩, 11), (⟨"BreathRoad$Reader", "takeNumber", "(II)I"⟩, 11), (⟨"BreathRoad$Reader", "readLength", "(I)V"⟩, 11), (⟨"BreathRoad$Reader", "readHolder", "()V"⟩, 11), (⟨"BreathRoad$Reader", "readThinks", "()V"⟩, 11)]
theorem lw_r1 : ∀ q ∈ lw_privs_1, lw_okq q := List.forall_mem_cons.mpr ⟨lw_p0, List.forall_mem_cons.mpr ⟨lw_p1, List.forall_mem_cons.mpr ⟨lw_p2, List.forall_mem_cons.mpr ⟨lw_p3, List.forall_mem_cons.mpr ⟨lw_p4, List.forall_mem_cons.mpr ⟨lw_p5, List.forall_mem_cons.mpr ⟨lw_p6, List.forall_mem_cons.mpr ⟨lw_p7, List.forall_mem_cons.mpr ⟨lw_p8, List.forall_mem_cons.mpr ⟨lw_p9, List.forall_mem_cons.mpr ⟨lw_p10, List.forall_mem_cons.mpr ⟨lw_p11, List.forall_mem_cons.mpr ⟨lw_p12, List.forall_mem_cons.mpr ⟨lw_p13, List.forall_mem_cons.mpr ⟨lw_p14, List.forall_mem_cons.mpr ⟨lw_p15, fun _ h => absurd h List.not_mem_nil⟩⟩⟩⟩⟩⟩⟩⟩⟩⟩⟩⟩⟩⟩⟩⟩
theorem lw_p16 : lw_okq (⟨"BreathRoad$Reader", "takeHolder", "()I"⟩, 11) := ⟨⟨by decide +kernel, by decide +kernel⟩, List.mem_of_getElem? (i := 311) (by decide +kernel), List.mem_of_getElem? (i := 644) (by decide +kernel), List.mem_of_getElem? (i := 645) (by decide +kernel)⟩
theorem lw_p17 : lw_okq (⟨"BreathRoad$Reader", "takeKnownName", "(I)V"⟩, 11) := ⟨⟨by decide +kernel, by decide +kernel⟩, List.mem_of_getElem? (i := 311) (by decide +kernel), List.mem_of_getElem? (i := 648) (by decide +kernel), List.mem_of_getElem? (i := 649) (by decide +kernel)⟩
theorem lw_p18 : lw_okq (⟨"BreathRoad$Reader", "takeTunnel", "()I"⟩, 11) := ⟨⟨by decide +kernel, by decide +kernel⟩, List.mem_of_getElem? (i := 311) (by decide +kernel), List.mem_of_getElem? (i := 652) (by decide +kernel), List.mem_of_getElem? (i := 653) (by decide +kernel)⟩
theorem lw_p19 : lw_okq (⟨"BreathRoad$Reader", "readGives", "()V"⟩, 11) := ⟨⟨by decide +kernel, by decide +kernel⟩, List.mem_of_getElem? (i := 311) (by decide +kernel), List.mem_of_getElem? (i := 668) (by decide +kernel), List.mem_of_getElem? (i := 669) (by decide +kernel)⟩
theorem lw_p20 : lw_okq (⟨"BreathRoad$Reader", "readTold", "(I)V"⟩, 11) := ⟨⟨by decide +kernel, by decide +kernel⟩, List.mem_of_getElem? (i := 311) (by decide +kernel), List.mem_of_getElem? (i := 673) (by decide +kernel), List.mem_of_getElem? (i := 674) (by decide +kernel)⟩
theorem lw_p21 : lw_okq (⟨"BreathRoad$Reader", "readSum", "(I)V"⟩, 11) := ⟨⟨by decide +kernel, by decide +kernel⟩, List.mem_of_getElem? (i := 311) (by decide +kernel), List.mem_of_getElem? (i := 682) (by decide +kernel), List.mem_of_getElem? (i := 683) (by decide +kernel)⟩
theorem lw_p22 : lw_okq (⟨"BreathRoad$Reader", "readProduct", "(I)V"⟩, 11) := ⟨⟨by decide +kernel, by decide +kernel⟩, List.mem_of_getElem? (i := 311) (by decide +kernel), List.mem_of_getElem? (i := 686) (by decide +kernel), List.mem_of_getElem? (i := 687) (by decide +kernel)⟩
theorem lw_p23 : lw_okq (⟨"BreathRoad$Reader", "readPart", "(I)V"⟩, 11) := ⟨⟨by decide +kernel, by decide +kernel⟩, List.mem_of_getElem? (i := 311) (by decide +kernel), List.mem_of_getElem? (i := 690) (by decide +kernel), List.mem_of_getElem? (i := 691) (by decide +kernel)⟩
theorem lw_p24 : lw_okq (⟨"BreathRoad$Reader", "isOpened", "(II)Z"⟩, 11) := ⟨⟨by decide +kernel, by decide +kernel⟩, List.mem_of_getElem? (i := 311) (by decide +kernel), List.mem_of_getElem? (i := 701) (by decide +kernel), List.mem_of_getElem? (i := 702) (by decide +kernel)⟩
theorem lw_p25 : lw_okq (⟨"BreathRoad$Reader", "takeSign", "(I)V"⟩, 11) := ⟨⟨by decide +kernel, by decide +kernel⟩, List.mem_of_getElem? (i := 311) (by decide +kernel), List.mem_of_getElem? (i := 705) (by decide +kernel), List.mem_of_getElem? (i := 706) (by decide +kernel)⟩
theorem lw_p26 : lw_okq (⟨"BreathRoad$Reader", "readIf", "(I)V"⟩, 11) := ⟨⟨by decide +kernel, by decide +kernel⟩, List.mem_of_getElem? (i := 311) (by decide +kernel), List.mem_of_getElem? (i := 709) (by decide +kernel), List.mem_of_getElem? (i := 710) (by decide +kernel)⟩
theorem lw_p27 : lw_okq (⟨"BreathRoad$Reader", "readTest", "(I)V"⟩, 11) := ⟨⟨by decide +kernel, by decide +kernel⟩, List.mem_of_getElem? (i := 311) (by decide +kernel), List.mem_of_getElem? (i := 713) (by decide +kernel), List.mem_of_getElem? (i := 714) (by decide +kernel)⟩
theorem lw_p28 : lw_okq (⟨"BreathRoad$Reader", "readBoth", "(I)V"⟩, 11) := ⟨⟨by decide +kernel, by decide +kernel⟩, List.mem_of_getElem? (i := 311) (by decide +kernel), List.mem_of_getElem? (i := 717) (by decide +kernel), List.mem_of_getElem? (i := 718) (by decide +kernel)⟩
theorem lw_p29 : lw_okq (⟨"BreathRoad$Reader", "readFact", "(I)V"⟩, 11) := ⟨⟨by decide +kernel, by decide +kernel⟩, List.mem_of_getElem? (i := 311) (by decide +kernel), List.mem_of_getElem? (i := 721) (by decide +kernel), List.mem_of_getElem? (i := 722) (by decide +kernel)⟩
theorem lw_p30 : lw_okq (⟨"BreathRoad$Reader", "readNot", "(I)V"⟩, 11) := ⟨⟨by decide +kernel, by decide +kernel⟩, List.mem_of_getElem? (i := 311) (by decide +kernel), List.mem_of_getElem? (i := 725) (by decide +kernel), List.mem_of_getElem? (i := 726) (by decide +kernel)⟩
theorem lw_p31 : lw_okq (⟨"BreathRoad$Reader", "readCompared", "(I)V"⟩, 11) := ⟨⟨by decide +kernel, by decide +kernel⟩, List.mem_of_getElem? (i := 311) (by decide +kernel), List.mem_of_getElem? (i := 729) (by decide +kernel), List.mem_of_getElem? (i := 730) (by decide +kernel)⟩
def lw_privs_2 : List (MethodName × Nat) := [(⟨"BreathRoad$Reader", "takeHolder", "()I"⟩, 11), (⟨"BreathRoad$Reader", "takeKnownName", "(I)V"⟩, 11), (⟨"BreathRoad$Reader", "takeTunnel", "()I"⟩, 11), (⟨"BreathRoad$Reader", "readGives", "()V"⟩, 11), (⟨"BreathRoad$Reader", "readTold", "(I)V"⟩, 11), (⟨"BreathRoad$Reader", "readSum", "(I)V"⟩, 11), (⟨"BreathRoad$Reader", "readProduct", "(I)V"⟩, 11), (⟨"BreathRoad$Reader", "readPart", "(I)V"⟩, 11), (⟨"BreathRoad$Reader", "isOpened", "(II)Z"⟩, 11), (⟨"BreathRoad$Reader", "takeSign", "(I)V"⟩, 11), (⟨"BreathRoad$Reader", "readIf", "(I)V"⟩, 11), (⟨"BreathRoad$Reader", "readTest", "(I)V"⟩, 11), (⟨"BreathRoad$Reader", "readBoth", "(I)V"⟩, 11), (⟨"BreathRoad$Reader", "readFact", "(I)V"⟩, 11), (⟨"BreathRoad$Reader", "readNot", "(I)V"⟩, 11), (⟨"BreathRoad$Reader", "readCompared", "(I)V"⟩, 11)]
theorem lw_r2 : ∀ q ∈ lw_privs_2, lw_okq q := List.forall_mem_cons.mpr ⟨lw_p16, List.forall_mem_cons.mpr ⟨lw_p17, List.forall_mem_cons.mpr ⟨lw_p18, List.forall_mem_cons.mpr ⟨lw_p19, List.forall_mem_cons.mpr ⟨lw_p20, List.forall_mem_cons.mpr ⟨lw_p21, List.forall_mem_cons.mpr ⟨lw_p22, List.forall_mem_cons.mpr ⟨lw_p23, List.forall_mem_cons.mpr ⟨lw_p24, List.forall_mem_cons.mpr ⟨lw_p25, List.forall_mem_cons.mpr ⟨lw_p26, List.forall_mem_cons.mpr ⟨lw_p27, List.forall_mem_cons.mpr ⟨lw_p28, List.forall_mem_cons.mpr ⟨lw_p29, List.forall_mem_cons.mpr ⟨lw_p30, List.forall_mem_cons.mpr ⟨lw_p31, fun _ h => absurd h List.not_mem_nil⟩⟩⟩⟩⟩⟩⟩⟩⟩⟩⟩⟩⟩⟩⟩⟩
theorem lw_p32 : lw_okq (⟨"BreathRoad$Reader", "readPair", "(II)V"⟩, 11) := ⟨⟨by decide +kernel, by decide +kernel⟩, List.mem_of_getElem? (i := 311) (by decide +kernel), List.mem_of_getElem? (i := 737) (by decide +kernel), List.mem_of_getElem? (i := 738) (by decide +kernel)⟩
theorem lw_p33 : lw_okq (⟨"BreathRoad$Judge", "tellAmong", "(III)V"⟩, 4) := ⟨⟨by decide +kernel, by decide +kernel⟩, List.mem_of_getElem? (i := 78) (by decide +kernel), List.mem_of_getElem? (i := 865) (by decide +kernel), List.mem_of_getElem? (i := 866) (by decide +kernel)⟩
theorem lw_p34 : lw_okq (⟨"BreathRoad$Judge", "tellAlone", "(IIII)V"⟩, 4) := ⟨⟨by decide +kernel, by decide +kernel⟩, List.mem_of_getElem? (i := 78) (by decide +kernel), List.mem_of_getElem? (i := 870) (by decide +kernel), List.mem_of_getElem? (i := 871) (by decide +kernel)⟩
theorem lw_p35 : lw_okq (⟨"BreathRoad$Sums", "push", "(I)V"⟩, 6) := ⟨⟨by decide +kernel, by decide +kernel⟩, List.mem_of_getElem? (i := 86) (by decide +kernel), List.mem_of_getElem? (i := 880) (by decide +kernel), List.mem_of_getElem? (i := 881) (by decide +kernel)⟩
theorem lw_p36 : lw_okq (⟨"BreathRoad$Sums", "pop", "()I"⟩, 6) := ⟨⟨by decide +kernel, by decide +kernel⟩, List.mem_of_getElem? (i := 86) (by decide +kernel), List.mem_of_getElem? (i := 884) (by decide +kernel), List.mem_of_getElem? (i := 885) (by decide +kernel)⟩
theorem lw_p37 : lw_okq (⟨"BreathRoad$Chooser", "tunnelAt", "(I)I"⟩, 13) := ⟨⟨by decide +kernel, by decide +kernel⟩, List.mem_of_getElem? (i := 223) (by decide +kernel), List.mem_of_getElem? (i := 932) (by decide +kernel), List.mem_of_getElem? (i := 933) (by decide +kernel)⟩
theorem lw_p38 : lw_okq (⟨"BreathRoad$Chooser", "bestFrom", "(II)J"⟩, 13) := ⟨⟨by decide +kernel, by decide +kernel⟩, List.mem_of_getElem? (i := 223) (by decide +kernel), List.mem_of_getElem? (i := 941) (by decide +kernel), List.mem_of_getElem? (i := 942) (by decide +kernel)⟩
theorem lw_p39 : lw_okq (⟨"BreathRoad$Chooser", "clearTotals", "(I)V"⟩, 13) := ⟨⟨by decide +kernel, by decide +kernel⟩, List.mem_of_getElem? (i := 223) (by decide +kernel), List.mem_of_getElem? (i := 945) (by decide +kernel), List.mem_of_getElem? (i := 946) (by decide +kernel)⟩
theorem lw_p40 : lw_okq (⟨"BreathRoad$Chooser", "addPlanned", "(III)V"⟩, 13) := ⟨⟨by decide +kernel, by decide +kernel⟩, List.mem_of_getElem? (i := 223) (by decide +kernel), List.mem_of_getElem? (i := 950) (by decide +kernel), List.mem_of_getElem? (i := 951) (by decide +kernel)⟩
theorem lw_p41 : lw_okq (⟨"BreathRoad$Chooser", "addToSeconds", "(IIIJ)V"⟩, 13) := ⟨⟨by decide +kernel, by decide +kernel⟩, List.mem_of_getElem? (i := 223) (by decide +kernel), List.mem_of_getElem? (i := 962) (by decide +kernel), List.mem_of_getElem? (i := 963) (by decide +kernel)⟩
theorem lw_p42 : lw_okq (⟨"BreathRoad$Chooser", "bestSecond", "(II)I"⟩, 13) := ⟨⟨by decide +kernel, by decide +kernel⟩, List.mem_of_getElem? (i := 223) (by decide +kernel), List.mem_of_getElem? (i := 966) (by decide +kernel), List.mem_of_getElem? (i := 967) (by decide +kernel)⟩
theorem lw_p43 : lw_okq (⟨"BreathRoad$Chooser", "isAnyMoved", "(I)Z"⟩, 13) := ⟨⟨by decide +kernel, by decide +kernel⟩, List.mem_of_getElem? (i := 223) (by decide +kernel), List.mem_of_getElem? (i := 984) (by decide +kernel), List.mem_of_getElem? (i := 985) (by decide +kernel)⟩
theorem lw_p44 : lw_okq (⟨"BreathRoad$Chooser", "fillAgainstOthers", "(III)V"⟩, 13) := ⟨⟨by decide +kernel, by decide +kernel⟩, List.mem_of_getElem? (i := 223) (by decide +kernel), List.mem_of_getElem? (i := 988) (by decide +kernel), List.mem_of_getElem? (i := 989) (by decide +kernel)⟩
theorem lw_p45 : lw_okq (⟨"BreathRoad", "beginAct", "()V"⟩, 11) := ⟨⟨by decide +kernel, by decide +kernel⟩, List.mem_of_getElem? (i := 23) (by decide +kernel), List.mem_of_getElem? (i := 1071) (by decide +kernel), List.mem_of_getElem? (i := 1072) (by decide +kernel)⟩
theorem lw_p46 : lw_okq (⟨"BreathRoad", "driveThrough", "()I"⟩, 11) := ⟨⟨by decide +kernel, by decide +kernel⟩, List.mem_of_getElem? (i := 23) (by decide +kernel), List.mem_of_getElem? (i := 1081) (by decide +kernel), List.mem_of_getElem? (i := 1082) (by decide +kernel)⟩
theorem lw_p47 : lw_okq (⟨"BreathRoad", "drawLength", "(I)I"⟩, 11) := ⟨⟨by decide +kernel, by decide +kernel⟩, List.mem_of_getElem? (i := 23) (by decide +kernel), List.mem_of_getElem? (i := 1085) (by decide +kernel), List.mem_of_getElem? (i := 1086) (by decide +kernel)⟩
def lw_privs_3 : List (MethodName × Nat) := [(⟨"BreathRoad$Reader", "readPair", "(II)V"⟩, 11), (⟨"BreathRoad$Judge", "tellAmong", "(III)V"⟩, 4), (⟨"BreathRoad$Judge", "tellAlone", "(IIII)V"⟩, 4), (⟨"BreathRoad$Sums", "push", "(I)V"⟩, 6), (⟨"BreathRoad$Sums", "pop", "()I"⟩, 6), (⟨"BreathRoad$Chooser", "tunnelAt", "(I)I"⟩, 13), (⟨"BreathRoad$Chooser", "bestFrom", "(II)J"⟩, 13), (⟨"BreathRoad$Chooser", "clearTotals", "(I)V"⟩, 13), (⟨"BreathRoad$Chooser", "addPlanned", "(III)V"⟩, 13), (⟨"BreathRoad$Chooser", "addToSeconds", "(IIIJ)V"⟩, 13), (⟨"BreathRoad$Chooser", "bestSecond", "(II)I"⟩, 13), (⟨"BreathRoad$Chooser", "isAnyMoved", "(I)Z"⟩, 13), (⟨"BreathRoad$Chooser", "fillAgainstOthers", "(III)V"⟩, 13), (⟨"BreathRoad", "beginAct", "()V"⟩, 11), (⟨"BreathRoad", "driveThrough", "()I"⟩, 11), (⟨"BreathRoad", "drawLength", "(I)I"⟩, 11)]
theorem lw_r3 : ∀ q ∈ lw_privs_3, lw_okq q := List.forall_mem_cons.mpr ⟨lw_p32, List.forall_mem_cons.mpr ⟨lw_p33, List.forall_mem_cons.mpr ⟨lw_p34, List.forall_mem_cons.mpr ⟨lw_p35, List.forall_mem_cons.mpr ⟨lw_p36, List.forall_mem_cons.mpr ⟨lw_p37, List.forall_mem_cons.mpr ⟨lw_p38, List.forall_mem_cons.mpr ⟨lw_p39, List.forall_mem_cons.mpr ⟨lw_p40, List.forall_mem_cons.mpr ⟨lw_p41, List.forall_mem_cons.mpr ⟨lw_p42, List.forall_mem_cons.mpr ⟨lw_p43, List.forall_mem_cons.mpr ⟨lw_p44, List.forall_mem_cons.mpr ⟨lw_p45, List.forall_mem_cons.mpr ⟨lw_p46, List.forall_mem_cons.mpr ⟨lw_p47, fun _ h => absurd h List.not_mem_nil⟩⟩⟩⟩⟩⟩⟩⟩⟩⟩⟩⟩⟩⟩⟩⟩
theorem lw_p48 : lw_okq (⟨"BreathRoad", "draw", "(I)I"⟩, 11) := ⟨⟨by decide +kernel, by decide +kernel⟩, List.mem_of_getElem? (i := 23) (by decide +kernel), List.mem_of_getElem? (i := 1089) (by decide +kernel), List.mem_of_getElem? (i := 1090) (by decide +kernel)⟩
theorem lw_p49 : lw_okq (⟨"BreathRoad", "drawHeld", "(II)I"⟩, 11) := ⟨⟨by decide +kernel, by decide +kernel⟩, List.mem_of_getElem? (i := 23) (by decide +kernel), List.mem_of_getElem? (i := 1096) (by decide +kernel), List.mem_of_getElem? (i := 1097) (by decide +kernel)⟩
theorem lw_p50 : lw_okq (⟨"BreathRoad$Image", "addByte", "(I)V"⟩, 2) := ⟨⟨by decide +kernel, by decide +kernel⟩, List.mem_of_getElem? (i := 296) (by decide +kernel), List.mem_of_getElem? (i := 1181) (by decide +kernel), List.mem_of_getElem? (i := 1182) (by decide +kernel)⟩
theorem lw_p51 : lw_okq (⟨"BreathRoadModel", "refuses", "(I)I"⟩, 79) := ⟨⟨by decide +kernel, by decide +kernel⟩, List.mem_of_getElem? (i := 1234) (by decide +kernel), List.mem_of_getElem? (i := 1483) (by decide +kernel), List.mem_of_getElem? (i := 1484) (by decide +kernel)⟩
theorem lw_p52 : lw_okq (⟨"BreathRoadModel", "put", "(I)V"⟩, 79) := ⟨⟨by decide +kernel, by decide +kernel⟩, List.mem_of_getElem? (i := 1234) (by decide +kernel), List.mem_of_getElem? (i := 1487) (by decide +kernel), List.mem_of_getElem? (i := 1488) (by decide +kernel)⟩
theorem lw_p53 : lw_okq (⟨"BreathRoadModel", "ahead", "()V"⟩, 79) := ⟨⟨by decide +kernel, by decide +kernel⟩, List.mem_of_getElem? (i := 1234) (by decide +kernel), List.mem_of_getElem? (i := 1499) (by decide +kernel), List.mem_of_getElem? (i := 1500) (by decide +kernel)⟩
theorem lw_p54 : lw_okq (⟨"BreathRoadModel", "statement", "()V"⟩, 79) := ⟨⟨by decide +kernel, by decide +kernel⟩, List.mem_of_getElem? (i := 1234) (by decide +kernel), List.mem_of_getElem? (i := 1509) (by decide +kernel), List.mem_of_getElem? (i := 1510) (by decide +kernel)⟩
theorem lw_p55 : lw_okq (⟨"BreathRoadModel", "lex", "()V"⟩, 79) := ⟨⟨by decide +kernel, by decide +kernel⟩, List.mem_of_getElem? (i := 1234) (by decide +kernel), List.mem_of_getElem? (i := 1513) (by decide +kernel), List.mem_of_getElem? (i := 1514) (by decide +kernel)⟩
theorem lw_p56 : lw_okq (⟨"BreathRoadModel", "blame", "(II)V"⟩, 79) := ⟨⟨by decide +kernel, by decide +kernel⟩, List.mem_of_getElem? (i := 1234) (by decide +kernel), List.mem_of_getElem? (i := 1517) (by decide +kernel), List.mem_of_getElem? (i := 1518) (by decide +kernel)⟩
theorem lw_p57 : lw_okq (⟨"BreathRoadModel", "isWord", "(J)Z"⟩, 79) := ⟨⟨by decide +kernel, by decide +kernel⟩, List.mem_of_getElem? (i := 1234) (by decide +kernel), List.mem_of_getElem? (i := 1522) (by decide +kernel), List.mem_of_getElem? (i := 1523) (by decide +kernel)⟩
theorem lw_p58 : lw_okq (⟨"BreathRoadModel", "tunnelling", "()V"⟩, 79) := ⟨⟨by decide +kernel, by decide +kernel⟩, List.mem_of_getElem? (i := 1234) (by decide +kernel), List.mem_of_getElem? (i := 1526) (by decide +kernel), List.mem_of_getElem? (i := 1527) (by decide +kernel)⟩
theorem lw_p59 : lw_okq (⟨"BreathRoadModel", "counts", "(Z)Z"⟩, 79) := ⟨⟨by decide +kernel, by decide +kernel⟩, List.mem_of_getElem? (i := 1234) (by decide +kernel), List.mem_of_getElem? (i := 1530) (by decide +kernel), List.mem_of_getElem? (i := 1531) (by decide +kernel)⟩
theorem lw_p60 : lw_okq (⟨"BreathRoadModel", "fresh", "()J"⟩, 79) := ⟨⟨by decide +kernel, by decide +kernel⟩, List.mem_of_getElem? (i := 1234) (by decide +kernel), List.mem_of_getElem? (i := 1534) (by decide +kernel), List.mem_of_getElem? (i := 1535) (by decide +kernel)⟩
theorem lw_p61 : lw_okq (⟨"BreathRoadModel", "isOwn", "(J)Z"⟩, 79) := ⟨⟨by decide +kernel, by decide +kernel⟩, List.mem_of_getElem? (i := 1234) (by decide +kernel), List.mem_of_getElem? (i := 1538) (by decide +kernel), List.mem_of_getElem? (i := 1539) (by decide +kernel)⟩
theorem lw_p62 : lw_okq (⟨"BreathRoadModel", "named", "(IJ)I"⟩, 79) := ⟨⟨by decide +kernel, by decide +kernel⟩, List.mem_of_getElem? (i := 1234) (by decide +kernel), List.mem_of_getElem? (i := 1566) (by decide +kernel), List.mem_of_getElem? (i := 1567) (by decide +kernel)⟩
theorem lw_p63 : lw_okq (⟨"BreathRoadModel", "manyOf", "(II)I"⟩, 79) := ⟨⟨by decide +kernel, by decide +kernel⟩, List.mem_of_getElem? (i := 1234) (by decide +kernel), List.mem_of_getElem? (i := 1570) (by decide +kernel), List.mem_of_getElem? (i := 1571) (by decide +kernel)⟩
def lw_privs_4 : List (MethodName × Nat) := [(⟨"BreathRoad", "draw", "(I)I"⟩, 11), (⟨"BreathRoad", "drawHeld", "(II)I"⟩, 11), (⟨"BreathRoad$Image", "addByte", "(I)V"⟩, 2), (⟨"BreathRoadModel", "refuses", "(I)I"⟩, 79), (⟨"BreathRoadModel", "put", "(I)V"⟩, 79), (⟨"BreathRoadModel", "ahead", "()V"⟩, 79), (⟨"BreathRoadModel", "statement", "()V"⟩, 79), (⟨"BreathRoadModel", "lex", "()V"⟩, 79), (⟨"BreathRoadModel", "blame", "(II)V"⟩, 79), (⟨"BreathRoadModel", "isWord", "(J)Z"⟩, 79), (⟨"BreathRoadModel", "tunnelling", "()V"⟩, 79), (⟨"BreathRoadModel", "counts", "(Z)Z"⟩, 79), (⟨"BreathRoadModel", "fresh", "()J"⟩, 79), (⟨"BreathRoadModel", "isOwn", "(J)Z"⟩, 79), (⟨"BreathRoadModel", "named", "(IJ)I"⟩, 79), (⟨"BreathRoadModel", "manyOf", "(II)I"⟩, 79)]
theorem lw_r4 : ∀ q ∈ lw_privs_4, lw_okq q := List.forall_mem_cons.mpr ⟨lw_p48, List.forall_mem_cons.mpr ⟨lw_p49, List.forall_mem_cons.mpr ⟨lw_p50, List.forall_mem_cons.mpr ⟨lw_p51, List.forall_mem_cons.mpr ⟨lw_p52, List.forall_mem_cons.mpr ⟨lw_p53, List.forall_mem_cons.mpr ⟨lw_p54, List.forall_mem_cons.mpr ⟨lw_p55, List.forall_mem_cons.mpr ⟨lw_p56, List.forall_mem_cons.mpr ⟨lw_p57, List.forall_mem_cons.mpr ⟨lw_p58, List.forall_mem_cons.mpr ⟨lw_p59, List.forall_mem_cons.mpr ⟨lw_p60, List.forall_mem_cons.mpr ⟨lw_p61, List.forall_mem_cons.mpr ⟨lw_p62, List.forall_mem_cons.mpr ⟨lw_p63, fun _ h => absurd h List.not_mem_nil⟩⟩⟩⟩⟩⟩⟩⟩⟩⟩⟩⟩⟩⟩⟩⟩
theorem lw_p64 : lw_okq (⟨"BreathRoadModel", "nameOf", "(III)J"⟩, 79) := ⟨⟨by decide +kernel, by decide +kernel⟩, List.mem_of_getElem? (i := 1234) (by decide +kernel), List.mem_of_getElem? (i := 1574) (by decide +kernel), List.mem_of_getElem? (i := 1575) (by decide +kernel)⟩
theorem lw_p65 : lw_okq (⟨"BreathRoadModel", "must", "(J)V"⟩, 79) := ⟨⟨by decide +kernel, by decide +kernel⟩, List.mem_of_getElem? (i := 1234) (by decide +kernel), List.mem_of_getElem? (i := 1578) (by decide +kernel), List.mem_of_getElem? (i := 1579) (by decide +kernel)⟩
theorem lw_p66 : lw_okq (⟨"BreathRoadModel", "number", "(II)I"⟩, 79) := ⟨⟨by decide +kernel, by decide +kernel⟩, List.mem_of_getElem? (i := 1234) (by decide +kernel), List.mem_of_getElem? (i := 1582) (by decide +kernel), List.mem_of_getElem? (i := 1583) (by decide +kernel)⟩
theorem lw_p67 : lw_okq (⟨"BreathRoadModel", "lookedAt", "(II)I"⟩, 79) := ⟨⟨by decide +kernel, by decide +kernel⟩, List.mem_of_getElem? (i := 1234) (by decide +kernel), List.mem_of_getElem? (i := 1586) (by decide +kernel), List.mem_of_getElem? (i := 1587) (by decide +kernel)⟩
theorem lw_p68 : lw_okq (⟨"BreathRoadModel", "holdering", "()V"⟩, 79) := ⟨⟨by decide +kernel, by decide +kernel⟩, List.mem_of_getElem? (i := 1234) (by decide +kernel), List.mem_of_getElem? (i := 1593) (by decide +kernel), List.mem_of_getElem? (i := 1594) (by decide +kernel)⟩
theorem lw_p69 : lw_okq (⟨"BreathRoadModel", "thinking", "()V"⟩, 79) := ⟨⟨by decide +kernel, by decide +kernel⟩, List.mem_of_getElem? (i := 1234) (by decide +kernel), List.mem_of_getElem? (i := 1597) (by decide +kernel), List.mem_of_getElem? (i := 1598) (by decide +kernel)⟩
theorem lw_p70 : lw_okq (⟨"BreathRoadModel", "asked", "(I)I"⟩, 79) := ⟨⟨by decide +kernel, by decide +kernel⟩, List.mem_of_getElem? (i := 1234) (by decide +kernel), List.mem_of_getElem? (i := 1601) (by decide +kernel), List.mem_of_getElem? (i := 1602) (by decide +kernel)⟩
theorem lw_p71 : lw_okq (⟨"BreathRoadModel", "giving", "()V"⟩, 79) := ⟨⟨by decide +kernel, by decide +kernel⟩, List.mem_of_getElem? (i := 1234) (by decide +kernel), List.mem_of_getElem? (i := 1605) (by decide +kernel), List.mem_of_getElem? (i := 1606) (by decide +kernel)⟩
theorem lw_p72 : lw_okq (⟨"BreathRoadModel", "worthing", "()V"⟩, 79) := ⟨⟨by decide +kernel, by decide +kernel⟩, List.mem_of_getElem? (i := 1234) (by decide +kernel), List.mem_of_getElem? (i := 1609) (by decide +kernel), List.mem_of_getElem? (i := 1610) (by decide +kernel)⟩
theorem lw_p73 : lw_okq (⟨"BreathRoadModel", "reads", "(Z)V"⟩, 79) := ⟨⟨by decide +kernel, by decide +kernel⟩, List.mem_of_getElem? (i := 1234) (by decide +kernel), List.mem_of_getElem? (i := 1613) (by decide +kernel), List.mem_of_getElem? (i := 1614) (by decide +kernel)⟩
theorem lw_p74 : lw_okq (⟨"BreathRoadModel", "pushes", "(I)V"⟩, 79) := ⟨⟨by decide +kernel, by decide +kernel⟩, List.mem_of_getElem? (i := 1234) (by decide +kernel), List.mem_of_getElem? (i := 1617) (by decide +kernel), List.mem_of_getElem? (i := 1618) (by decide +kernel)⟩
theorem lw_p75 : lw_okq (⟨"BreathRoadModel", "operand", "()Z"⟩, 79) := ⟨⟨by decide +kernel, by decide +kernel⟩, List.mem_of_getElem? (i := 1234) (by decide +kernel), List.mem_of_getElem? (i := 1621) (by decide +kernel), List.mem_of_getElem? (i := 1622) (by decide +kernel)⟩
theorem lw_p76 : lw_okq (⟨"BreathRoadModel", "holdsBack", "(I)V"⟩, 79) := ⟨⟨by decide +kernel, by decide +kernel⟩, List.mem_of_getElem? (i := 1234) (by decide +kernel), List.mem_of_getElem? (i := 1628) (by decide +kernel), List.mem_of_getElem? (i := 1629) (by decide +kernel)⟩
theorem lw_p77 : lw_okq (⟨"BreathRoadModel", "isSign", "(I)Z"⟩, 79) := ⟨⟨by decide +kernel, by decide +kernel⟩, List.mem_of_getElem? (i := 1234) (by decide +kernel), List.mem_of_getElem? (i := 1632) (by decide +kernel), List.mem_of_getElem? (i := 1633) (by decide +kernel)⟩
theorem lw_p78 : lw_okq (⟨"BreathRoadModel", "opens", "(I)V"⟩, 79) := ⟨⟨by decide +kernel, by decide +kernel⟩, List.mem_of_getElem? (i := 1234) (by decide +kernel), List.mem_of_getElem? (i := 1636) (by decide +kernel), List.mem_of_getElem? (i := 1637) (by decide +kernel)⟩
theorem lw_p79 : lw_okq (⟨"BreathRoadModel", "add", "(II)V"⟩, 79) := ⟨⟨by decide +kernel, by decide +kernel⟩, List.mem_of_getElem? (i := 1234) (by decide +kernel), List.mem_of_getElem? (i := 1640) (by decide +kernel), List.mem_of_getElem? (i := 1641) (by decide +kernel)⟩
def lw_privs_5 : List (MethodName × Nat) := [(⟨"BreathRoadModel", "nameOf", "(III)J"⟩, 79), (⟨"BreathRoadModel", "must", "(J)V"⟩, 79), (⟨"BreathRoadModel", "number", "(II)I"⟩, 79), (⟨"BreathRoadModel", "lookedAt", "(II)I"⟩, 79), (⟨"BreathRoadModel", "holdering", "()V"⟩, 79), (⟨"BreathRoadModel", "thinking", "()V"⟩, 79), (⟨"BreathRoadModel", "asked", "(I)I"⟩, 79), (⟨"BreathRoadModel", "giving", "()V"⟩, 79), (⟨"BreathRoadModel", "worthing", "()V"⟩, 79), (⟨"BreathRoadModel", "reads", "(Z)V"⟩, 79), (⟨"BreathRoadModel", "pushes", "(I)V"⟩, 79), (⟨"BreathRoadModel", "operand", "()Z"⟩, 79), (⟨"BreathRoadModel", "holdsBack", "(I)V"⟩, 79), (⟨"BreathRoadModel", "isSign", "(I)Z"⟩, 79), (⟨"BreathRoadModel", "opens", "(I)V"⟩, 79), (⟨"BreathRoadModel", "add", "(II)V"⟩, 79)]
theorem lw_r5 : ∀ q ∈ lw_privs_5, lw_okq q := List.forall_mem_cons.mpr ⟨lw_p64, List.forall_mem_cons.mpr ⟨lw_p65, List.forall_mem_cons.mpr ⟨lw_p66, List.forall_mem_cons.mpr ⟨lw_p67, List.forall_mem_cons.mpr ⟨lw_p68, List.forall_mem_cons.mpr ⟨lw_p69, List.forall_mem_cons.mpr ⟨lw_p70, List.forall_mem_cons.mpr ⟨lw_p71, List.forall_mem_cons.mpr ⟨lw_p72, List.forall_mem_cons.mpr ⟨lw_p73, List.forall_mem_cons.mpr ⟨lw_p74, List.forall_mem_cons.mpr ⟨lw_p75, List.forall_mem_cons.mpr ⟨lw_p76, List.forall_mem_cons.mpr ⟨lw_p77, List.forall_mem_cons.mpr ⟨lw_p78, List.forall_mem_cons.mpr ⟨lw_p79, fun _ h => absurd h List.not_mem_nil⟩⟩⟩⟩⟩⟩⟩⟩⟩⟩⟩⟩⟩⟩⟩⟩
theorem lw_p80 : lw_okq (⟨"BreathRoadModel", "goesOn", "()Z"⟩, 79) := ⟨⟨by decide +kernel, by decide +kernel⟩, List.mem_of_getElem? (i := 1234) (by decide +kernel), List.mem_of_getElem? (i := 1644) (by decide +kernel), List.mem_of_getElem? (i := 1645) (by decide +kernel)⟩
theorem lw_p81 : lw_okq (⟨"BreathRoadModel", "joins", "(I)V"⟩, 79) := ⟨⟨by decide +kernel, by decide +kernel⟩, List.mem_of_getElem? (i := 1234) (by decide +kernel), List.mem_of_getElem? (i := 1648) (by decide +kernel), List.mem_of_getElem? (i := 1649) (by decide +kernel)⟩
theorem lw_p82 : lw_okq (⟨"BreathRoadModel", "tiring", "()V"⟩, 79) := ⟨⟨by decide +kernel, by decide +kernel⟩, List.mem_of_getElem? (i := 1234) (by decide +kernel), List.mem_of_getElem? (i := 1655) (by decide +kernel), List.mem_of_getElem? (i := 1656) (by decide +kernel)⟩
theorem lw_p83 : lw_okq (⟨"BreathRoadModel", "telling", "(Z)V"⟩, 79) := ⟨⟨by decide +kernel, by decide +kernel⟩, List.mem_of_getElem? (i := 1234) (by decide +kernel), List.mem_of_getElem? (i := 1659) (by decide +kernel), List.mem_of_getElem? (i := 1660) (by decide +kernel)⟩
theorem lw_p84 : lw_okq (⟨"BreathRoadModel", "finishes", "(I)V"⟩, 79) := ⟨⟨by decide +kernel, by decide +kernel⟩, List.mem_of_getElem? (i := 1234) (by decide +kernel), List.mem_of_getElem? (i := 1663) (by decide +kernel), List.mem_of_getElem? (i := 1664) (by decide +kernel)⟩
theorem lw_p85 : lw_okq (⟨"BreathRoadModel", "must", "(I)V"⟩, 79) := ⟨⟨by decide +kernel, by decide +kernel⟩, List.mem_of_getElem? (i := 1234) (by decide +kernel), List.mem_of_getElem? (i := 1667) (by decide +kernel), List.mem_of_getElem? (i := 1668) (by decide +kernel)⟩
theorem lw_p86 : lw_okq (⟨"BreathRoadModel", "begin", "()V"⟩, 79) := ⟨⟨by decide +kernel, by decide +kernel⟩, List.mem_of_getElem? (i := 1234) (by decide +kernel), List.mem_of_getElem? (i := 1671) (by decide +kernel), List.mem_of_getElem? (i := 1672) (by decide +kernel)⟩
theorem lw_p87 : lw_okq (⟨"BreathRoadModel", "ring", "(I)I"⟩, 79) := ⟨⟨by decide +kernel, by decide +kernel⟩, List.mem_of_getElem? (i := 1234) (by decide +kernel), List.mem_of_getElem? (i := 1687) (by decide +kernel), List.mem_of_getElem? (i := 1688) (by decide +kernel)⟩
theorem lw_p88 : lw_okq (⟨"BreathRoadModel", "copies", "(II)V"⟩, 79) := ⟨⟨by decide +kernel, by decide +kernel⟩, List.mem_of_getElem? (i := 1234) (by decide +kernel), List.mem_of_getElem? (i := 1691) (by decide +kernel), List.mem_of_getElem? (i := 1692) (by decide +kernel)⟩
theorem lw_p89 : lw_okq (⟨"BreathRoadModel", "isTunnel", "(I)Z"⟩, 79) := ⟨⟨by decide +kernel, by decide +kernel⟩, List.mem_of_getElem? (i := 1234) (by decide +kernel), List.mem_of_getElem? (i := 1708) (by decide +kernel), List.mem_of_getElem? (i := 1709) (by decide +kernel)⟩
theorem lw_p90 : lw_okq (⟨"BreathRoadModel", "lengthsOf", "(I)I"⟩, 79) := ⟨⟨by decide +kernel, by decide +kernel⟩, List.mem_of_getElem? (i := 1234) (by decide +kernel), List.mem_of_getElem? (i := 1712) (by decide +kernel), List.mem_of_getElem? (i := 1713) (by decide +kernel)⟩
theorem lw_p91 : lw_okq (⟨"BreathRoadModel", "weights", "(I)I"⟩, 79) := ⟨⟨by decide +kernel, by decide +kernel⟩, List.mem_of_getElem? (i := 1234) (by decide +kernel), List.mem_of_getElem? (i := 1716) (by decide +kernel), List.mem_of_getElem? (i := 1717) (by decide +kernel)⟩
theorem lw_p92 : lw_okq (⟨"BreathRoadModel", "weightAt", "(II)I"⟩, 79) := ⟨⟨by decide +kernel, by decide +kernel⟩, List.mem_of_getElem? (i := 1234) (by decide +kernel), List.mem_of_getElem? (i := 1720) (by decide +kernel), List.mem_of_getElem? (i := 1721) (by decide +kernel)⟩
theorem lw_p93 : lw_okq (⟨"BreathRoadModel", "lengthAt", "(II)I"⟩, 79) := ⟨⟨by decide +kernel, by decide +kernel⟩, List.mem_of_getElem? (i := 1234) (by decide +kernel), List.mem_of_getElem? (i := 1724) (by decide +kernel), List.mem_of_getElem? (i := 1725) (by decide +kernel)⟩
theorem lw_p94 : lw_okq (⟨"BreathRoadModel", "isHolder", "(I)Z"⟩, 79) := ⟨⟨by decide +kernel, by decide +kernel⟩, List.mem_of_getElem? (i := 1234) (by decide +kernel), List.mem_of_getElem? (i := 1732) (by decide +kernel), List.mem_of_getElem? (i := 1733) (by decide +kernel)⟩
theorem lw_p95 : lw_okq (⟨"BreathRoadModel", "canBe", "(III)Z"⟩, 79) := ⟨⟨by decide +kernel, by decide +kernel⟩, List.mem_of_getElem? (i := 1234) (by decide +kernel), List.mem_of_getElem? (i := 1749) (by decide +kernel), List.mem_of_getElem? (i := 1750) (by decide +kernel)⟩
def lw_privs_6 : List (MethodName × Nat) := [(⟨"BreathRoadModel", "goesOn", "()Z"⟩, 79), (⟨"BreathRoadModel", "joins", "(I)V"⟩, 79), (⟨"BreathRoadModel", "tiring", "()V"⟩, 79), (⟨"BreathRoadModel", "telling", "(Z)V"⟩, 79), (⟨"BreathRoadModel", "finishes", "(I)V"⟩, 79), (⟨"BreathRoadModel", "must", "(I)V"⟩, 79), (⟨"BreathRoadModel", "begin", "()V"⟩, 79), (⟨"BreathRoadModel", "ring", "(I)I"⟩, 79), (⟨"BreathRoadModel", "copies", "(II)V"⟩, 79), (⟨"BreathRoadModel", "isTunnel", "(I)Z"⟩, 79), (⟨"BreathRoadModel", "lengthsOf", "(I)I"⟩, 79), (⟨"BreathRoadModel", "weights", "(I)I"⟩, 79), (⟨"BreathRoadModel", "weightAt", "(II)I"⟩, 79), (⟨"BreathRoadModel", "lengthAt", "(II)I"⟩, 79), (⟨"BreathRoadModel", "isHolder", "(I)Z"⟩, 79), (⟨"BreathRoadModel", "canBe", "(III)Z"⟩, 79)]
theorem lw_r6 : ∀ q ∈ lw_privs_6, lw_okq q := List.forall_mem_cons.mpr ⟨lw_p80, List.forall_mem_cons.mpr ⟨lw_p81, List.forall_mem_cons.mpr ⟨lw_p82, List.forall_mem_cons.mpr ⟨lw_p83, List.forall_mem_cons.mpr ⟨lw_p84, List.forall_mem_cons.mpr ⟨lw_p85, List.forall_mem_cons.mpr ⟨lw_p86, List.forall_mem_cons.mpr ⟨lw_p87, List.forall_mem_cons.mpr ⟨lw_p88, List.forall_mem_cons.mpr ⟨lw_p89, List.forall_mem_cons.mpr ⟨lw_p90, List.forall_mem_cons.mpr ⟨lw_p91, List.forall_mem_cons.mpr ⟨lw_p92, List.forall_mem_cons.mpr ⟨lw_p93, List.forall_mem_cons.mpr ⟨lw_p94, List.forall_mem_cons.mpr ⟨lw_p95, fun _ h => absurd h List.not_mem_nil⟩⟩⟩⟩⟩⟩⟩⟩⟩⟩⟩⟩⟩⟩⟩⟩
theorem lw_p96 : lw_okq (⟨"BreathRoadModel", "holdOf", "(III)I"⟩, 79) := ⟨⟨by decide +kernel, by decide +kernel⟩, List.mem_of_getElem? (i := 1234) (by decide +kernel), List.mem_of_getElem? (i := 1753) (by decide +kernel), List.mem_of_getElem? (i := 1754) (by decide +kernel)⟩
theorem lw_p97 : lw_okq (⟨"BreathRoadModel", "allHold", "(II)V"⟩, 79) := ⟨⟨by decide +kernel, by decide +kernel⟩, List.mem_of_getElem? (i := 1234) (by decide +kernel), List.mem_of_getElem? (i := 1768) (by decide +kernel), List.mem_of_getElem? (i := 1769) (by decide +kernel)⟩
theorem lw_p98 : lw_okq (⟨"BreathRoadModel", "worthRow", "(III)I"⟩, 79) := ⟨⟨by decide +kernel, by decide +kernel⟩, List.mem_of_getElem? (i := 1234) (by decide +kernel), List.mem_of_getElem? (i := 1772) (by decide +kernel), List.mem_of_getElem? (i := 1773) (by decide +kernel)⟩
theorem lw_p99 : lw_okq (⟨"BreathRoadModel", "asksRow", "(III)V"⟩, 79) := ⟨⟨by decide +kernel, by decide +kernel⟩, List.mem_of_getElem? (i := 1234) (by decide +kernel), List.mem_of_getElem? (i := 1776) (by decide +kernel), List.mem_of_getElem? (i := 1777) (by decide +kernel)⟩
theorem lw_p100 : lw_okq (⟨"BreathRoadModel", "asks", "(IIIIII)V"⟩, 79) := ⟨⟨by decide +kernel, by decide +kernel⟩, List.mem_of_getElem? (i := 1234) (by decide +kernel), List.mem_of_getElem? (i := 1780) (by decide +kernel), List.mem_of_getElem? (i := 1781) (by decide +kernel)⟩
theorem lw_p101 : lw_okq (⟨"BreathRoadModel", "worthNow", "()I"⟩, 79) := ⟨⟨by decide +kernel, by decide +kernel⟩, List.mem_of_getElem? (i := 1234) (by decide +kernel), List.mem_of_getElem? (i := 1784) (by decide +kernel), List.mem_of_getElem? (i := 1785) (by decide +kernel)⟩
theorem lw_p102 : lw_okq (⟨"BreathRoadModel", "reckons", "(II)J"⟩, 79) := ⟨⟨by decide +kernel, by decide +kernel⟩, List.mem_of_getElem? (i := 1234) (by decide +kernel), List.mem_of_getElem? (i := 1788) (by decide +kernel), List.mem_of_getElem? (i := 1789) (by decide +kernel)⟩
theorem lw_p103 : lw_okq (⟨"BreathRoadModel", "part", "(II)J"⟩, 79) := ⟨⟨by decide +kernel, by decide +kernel⟩, List.mem_of_getElem? (i := 1234) (by decide +kernel), List.mem_of_getElem? (i := 1792) (by decide +kernel), List.mem_of_getElem? (i := 1793) (by decide +kernel)⟩
theorem lw_p104 : lw_okq (⟨"BreathRoadModel", "breathNow", "()I"⟩, 79) := ⟨⟨by decide +kernel, by decide +kernel⟩, List.mem_of_getElem? (i := 1234) (by decide +kernel), List.mem_of_getElem? (i := 1814) (by decide +kernel), List.mem_of_getElem? (i := 1815) (by decide +kernel)⟩
theorem lw_p105 : lw_okq (⟨"BreathRoadModel", "findsAlone", "(II)V"⟩, 79) := ⟨⟨by decide +kernel, by decide +kernel⟩, List.mem_of_getElem? (i := 1234) (by decide +kernel), List.mem_of_getElem? (i := 1822) (by decide +kernel), List.mem_of_getElem? (i := 1823) (by decide +kernel)⟩
theorem lw_p106 : lw_okq (⟨"BreathRoadModel", "worthAlone", "(IIII)I"⟩, 79) := ⟨⟨by decide +kernel, by decide +kernel⟩, List.mem_of_getElem? (i := 1234) (by decide +kernel), List.mem_of_getElem? (i := 1826) (by decide +kernel), List.mem_of_getElem? (i := 1827) (by decide +kernel)⟩
theorem lw_p107 : lw_okq (⟨"BreathRoadModel", "thousandths", "(JJ)I"⟩, 79) := ⟨⟨by decide +kernel, by decide +kernel⟩, List.mem_of_getElem? (i := 1234) (by decide +kernel), List.mem_of_getElem? (i := 1830) (by decide +kernel), List.mem_of_getElem? (i := 1831) (by decide +kernel)⟩
theorem lw_p108 : lw_okq (⟨"BreathRoadModel", "findsOn", "(IIIJ)V"⟩, 79) := ⟨⟨by decide +kernel, by decide +kernel⟩, List.mem_of_getElem? (i := 1234) (by decide +kernel), List.mem_of_getElem? (i := 1839) (by decide +kernel), List.mem_of_getElem? (i := 1840) (by decide +kernel)⟩
theorem lw_p109 : lw_okq (⟨"BreathRoadModel", "takes", "(II)Z"⟩, 79) := ⟨⟨by decide +kernel, by decide +kernel⟩, List.mem_of_getElem? (i := 1234) (by decide +kernel), List.mem_of_getElem? (i := 1847) (by decide +kernel), List.mem_of_getElem? (i := 1848) (by decide +kernel)⟩
theorem lw_p110 : lw_okq (⟨"BreathRoadModel", "worthBy", "(III)J"⟩, 79) := ⟨⟨by decide +kernel, by decide +kernel⟩, List.mem_of_getElem? (i := 1234) (by decide +kernel), List.mem_of_getElem? (i := 1851) (by decide +kernel), List.mem_of_getElem? (i := 1852) (by decide +kernel)⟩
theorem lw_p111 : lw_okq (⟨"BreathRoadModel", "madeBy", "(II)I"⟩, 79) := ⟨⟨by decide +kernel, by decide +kernel⟩, List.mem_of_getElem? (i := 1234) (by decide +kernel), List.mem_of_getElem? (i := 1864) (by decide +kernel), List.mem_of_getElem? (i := 1865) (by decide +kernel)⟩
def lw_privs_7 : List (MethodName × Nat) := [(⟨"BreathRoadModel", "holdOf", "(III)I"⟩, 79), (⟨"BreathRoadModel", "allHold", "(II)V"⟩, 79), (⟨"BreathRoadModel", "worthRow", "(III)I"⟩, 79), (⟨"BreathRoadModel", "asksRow", "(III)V"⟩, 79), (⟨"BreathRoadModel", "asks", "(IIIIII)V"⟩, 79), (⟨"BreathRoadModel", "worthNow", "()I"⟩, 79), (⟨"BreathRoadModel", "reckons", "(II)J"⟩, 79), (⟨"BreathRoadModel", "part", "(II)J"⟩, 79), (⟨"BreathRoadModel", "breathNow", "()I"⟩, 79), (⟨"BreathRoadModel", "findsAlone", "(II)V"⟩, 79), (⟨"BreathRoadModel", "worthAlone", "(IIII)I"⟩, 79), (⟨"BreathRoadModel", "thousandths", "(JJ)I"⟩, 79), (⟨"BreathRoadModel", "findsOn", "(IIIJ)V"⟩, 79), (⟨"BreathRoadModel", "takes", "(II)Z"⟩, 79), (⟨"BreathRoadModel", "worthBy", "(III)J"⟩, 79), (⟨"BreathRoadModel", "madeBy", "(II)I"⟩, 79)]
theorem lw_r7 : ∀ q ∈ lw_privs_7, lw_okq q := List.forall_mem_cons.mpr ⟨lw_p96, List.forall_mem_cons.mpr ⟨lw_p97, List.forall_mem_cons.mpr ⟨lw_p98, List.forall_mem_cons.mpr ⟨lw_p99, List.forall_mem_cons.mpr ⟨lw_p100, List.forall_mem_cons.mpr ⟨lw_p101, List.forall_mem_cons.mpr ⟨lw_p102, List.forall_mem_cons.mpr ⟨lw_p103, List.forall_mem_cons.mpr ⟨lw_p104, List.forall_mem_cons.mpr ⟨lw_p105, List.forall_mem_cons.mpr ⟨lw_p106, List.forall_mem_cons.mpr ⟨lw_p107, List.forall_mem_cons.mpr ⟨lw_p108, List.forall_mem_cons.mpr ⟨lw_p109, List.forall_mem_cons.mpr ⟨lw_p110, List.forall_mem_cons.mpr ⟨lw_p111, fun _ h => absurd h List.not_mem_nil⟩⟩⟩⟩⟩⟩⟩⟩⟩⟩⟩⟩⟩⟩⟩⟩
theorem lw_p112 : lw_okq (⟨"BreathRoadModel", "isByFaces", "(I)Z"⟩, 79) := ⟨⟨by decide +kernel, by decide +kernel⟩, List.mem_of_getElem? (i := 1234) (by decide +kernel), List.mem_of_getElem? (i := 1880) (by decide +kernel), List.mem_of_getElem? (i := 1881) (by decide +kernel)⟩
theorem lw_p113 : lw_okq (⟨"BreathRoadModel", "keeps", "()V"⟩, 79) := ⟨⟨by decide +kernel, by decide +kernel⟩, List.mem_of_getElem? (i := 1234) (by decide +kernel), List.mem_of_getElem? (i := 1888) (by decide +kernel), List.mem_of_getElem? (i := 1889) (by decide +kernel)⟩
theorem lw_p114 : lw_okq (⟨"BreathRoadModel", "driven", "()I"⟩, 79) := ⟨⟨by decide +kernel, by decide +kernel⟩, List.mem_of_getElem? (i := 1234) (by decide +kernel), List.mem_of_getElem? (i := 1892) (by decide +kernel), List.mem_of_getElem? (i := 1893) (by decide +kernel)⟩
theorem lw_p115 : lw_okq (⟨"BreathRoadModel", "draw", "(I)I"⟩, 79) := ⟨⟨by decide +kernel, by decide +kernel⟩, List.mem_of_getElem? (i := 1234) (by decide +kernel), List.mem_of_getElem? (i := 1896) (by decide +kernel), List.mem_of_getElem? (i := 1897) (by decide +kernel)⟩
theorem lw_p116 : lw_okq (⟨"BreathRoadModel", "laughing", "(II)I"⟩, 79) := ⟨⟨by decide +kernel, by decide +kernel⟩, List.mem_of_getElem? (i := 1234) (by decide +kernel), List.mem_of_getElem? (i := 1904) (by decide +kernel), List.mem_of_getElem? (i := 1905) (by decide +kernel)⟩
theorem lw_p117 : lw_okq (⟨"BreathRoadModel", "writesDown", "(III)V"⟩, 79) := ⟨⟨by decide +kernel, by decide +kernel⟩, List.mem_of_getElem? (i := 1234) (by decide +kernel), List.mem_of_getElem? (i := 1910) (by decide +kernel), List.mem_of_getElem? (i := 1911) (by decide +kernel)⟩
theorem lw_p118 : lw_okq (⟨"BreathRoadModel", "writes", "(I)V"⟩, 79) := ⟨⟨by decide +kernel, by decide +kernel⟩, List.mem_of_getElem? (i := 1234) (by decide +kernel), List.mem_of_getElem? (i := 1938) (by decide +kernel), List.mem_of_getElem? (i := 1939) (by decide +kernel)⟩
theorem lw_p119 : lw_okq (⟨"BreathRoadModel", "comesOn", "(I)Z"⟩, 79) := ⟨⟨by decide +kernel, by decide +kernel⟩, List.mem_of_getElem? (i := 1234) (by decide +kernel), List.mem_of_getElem? (i := 1951) (by decide +kernel), List.mem_of_getElem? (i := 1952) (by decide +kernel)⟩
theorem lw_p120 : lw_okq (⟨"BreathRoadModel", "holderOn", "(II)Z"⟩, 79) := ⟨⟨by decide +kernel, by decide +kernel⟩, List.mem_of_getElem? (i := 1234) (by decide +kernel), List.mem_of_getElem? (i := 1955) (by decide +kernel), List.mem_of_getElem? (i := 1956) (by decide +kernel)⟩
def lw_privs_8 : List (MethodName × Nat) := [(⟨"BreathRoadModel", "isByFaces", "(I)Z"⟩, 79), (⟨"BreathRoadModel", "keeps", "()V"⟩, 79), (⟨"BreathRoadModel", "driven", "()I"⟩, 79), (⟨"BreathRoadModel", "draw", "(I)I"⟩, 79), (⟨"BreathRoadModel", "laughing", "(II)I"⟩, 79), (⟨"BreathRoadModel", "writesDown", "(III)V"⟩, 79), (⟨"BreathRoadModel", "writes", "(I)V"⟩, 79), (⟨"BreathRoadModel", "comesOn", "(I)Z"⟩, 79), (⟨"BreathRoadModel", "holderOn", "(II)Z"⟩, 79)]
theorem lw_r8 : ∀ q ∈ lw_privs_8, lw_okq q := List.forall_mem_cons.mpr ⟨lw_p112, List.forall_mem_cons.mpr ⟨lw_p113, List.forall_mem_cons.mpr ⟨lw_p114, List.forall_mem_cons.mpr ⟨lw_p115, List.forall_mem_cons.mpr ⟨lw_p116, List.forall_mem_cons.mpr ⟨lw_p117, List.forall_mem_cons.mpr ⟨lw_p118, List.forall_mem_cons.mpr ⟨lw_p119, List.forall_mem_cons.mpr ⟨lw_p120, fun _ h => absurd h List.not_mem_nil⟩⟩⟩⟩⟩⟩⟩⟩⟩
def lw_privs : List (MethodName × Nat) := lw_privs_1 ++ (lw_privs_2 ++ (lw_privs_3 ++ (lw_privs_4 ++ (lw_privs_5 ++ (lw_privs_6 ++ (lw_privs_7 ++ (lw_privs_8)))))))
def lw_tbl : List Cond := k2_sels lw_privs ++ tables_1
theorem lw_privs_ok : ∀ q ∈ lw_privs, lw_okq q := by
  show ∀ q ∈ lw_privs_1 ++ (lw_privs_2 ++ (lw_privs_3 ++ (lw_privs_4 ++ (lw_privs_5 ++ (lw_privs_6 ++ (lw_privs_7 ++ (lw_privs_8))))))), lw_okq q
  exact List.forall_mem_append.mpr ⟨lw_r1, List.forall_mem_append.mpr ⟨lw_r2, List.forall_mem_append.mpr ⟨lw_r3, List.forall_mem_append.mpr ⟨lw_r4, List.forall_mem_append.mpr ⟨lw_r5, List.forall_mem_append.mpr ⟨lw_r6, List.forall_mem_append.mpr ⟨lw_r7, lw_r8⟩⟩⟩⟩⟩⟩⟩
def RX0 : String := "BreathRoad$Chooser"
def TX0 : u_T := fun k => match k with
  | 0 => ("BreathRoad$Chooser", "judge", "LBreathRoad$Judge;", true)
  | 1 => ("BreathRoad$Chooser", "totals", "[J", true)
  | 2 => ("BreathRoad$Chooser", "bests", "[J", true)
  | 3 => ("BreathRoad$Chooser", "wholes", "[J", true)
  | 4 => ("BreathRoad$Chooser", "plannedTunnel", "I", false)
  | 5 => ("BreathRoad$Chooser", "plannedCount", "I", false)
  | 6 => ("BreathRoad$Chooser", "plannedBreath", "I", false)
  | 7 => ("BreathRoad$Chooser", "planSecond", "I", false)
  | 8 => ("BreathRoad$Chooser", "planTotal", "J", false)
  | 9 => ("BreathRoad$Chooser", "planWhole", "J", false)
  | 10 => ("BreathRoad$Chooser", "settledTunnel", "I", false)
  | 11 => ("BreathRoad$Chooser", "settledSeconds", "[I", true)
  | _ => ("BreathRoad$Chooser", "settledRound", "I", false)
def tyX0 : Nat → FieldType := fun k => match k with
  | 0 => .object "BreathRoad$Judge"
  | 1 => .array .long
  | 2 => .array .long
  | 3 => .array .long
  | 4 => .int
  | 5 => .int
  | 6 => .int
  | 7 => .int
  | 8 => .long
  | 9 => .long
  | 10 => .int
  | 11 => .array .int
  | _ => .int
abbrev wsX00 : List Cond := u_ws RX0 TX0 13
theorem nmX0 : ∀ a, a < 13 → ∀ b, b < 13 → a ≠ b → (TX0 a).2.1 ≠ (TX0 b).2.1 := by decide +kernel
theorem tyX0_ok : ∀ k, k < 13 → parseFieldDescriptor (TX0 k).2.2.1 = some (tyX0 k) := by decide +kernel
abbrev cX0_init : ByteArray := prog_2_method_1_code
def yX0_init : MethodName := ⟨RX0, "<init>", "(LBreathRoad$Judge;)V"⟩
abbrev cX0_forget : ByteArray := prog_2_method_2_code
def yX0_forget : MethodName := ⟨RX0, "forget", "()V"⟩
abbrev cX0_plan : ByteArray := prog_2_method_3_code
def yX0_plan : MethodName := ⟨RX0, "plan", "(III)V"⟩
abbrev cX0_tunnelAt : ByteArray := prog_2_method_4_code
def yX0_tunnelAt : MethodName := ⟨RX0, "tunnelAt", "(I)I"⟩
abbrev cX0_bestFrom : ByteArray := prog_2_method_5_code
def yX0_bestFrom : MethodName := ⟨RX0, "bestFrom", "(II)J"⟩
abbrev cX0_clearTotals : ByteArray := prog_2_method_6_code
def yX0_clearTotals : MethodName := ⟨RX0, "clearTotals", "(I)V"⟩
abbrev cX0_addPlanned : ByteArray := prog_2_method_7_code
def yX0_addPlanned : MethodName := ⟨RX0, "addPlanned", "(III)V"⟩
abbrev cX0_addToSeconds : ByteArray := prog_2_method_8_code
def yX0_addToSeconds : MethodName := ⟨RX0, "addToSeconds", "(IIIJ)V"⟩
abbrev cX0_bestSecond : ByteArray := prog_2_method_9_code
def yX0_bestSecond : MethodName := ⟨RX0, "bestSecond", "(II)I"⟩
abbrev cX0_settle : ByteArray := prog_2_method_10_code
def yX0_settle : MethodName := ⟨RX0, "settle", "(I)V"⟩
abbrev cX0_isAnyMoved : ByteArray := prog_2_method_11_code
def yX0_isAnyMoved : MethodName := ⟨RX0, "isAnyMoved", "(I)Z"⟩
abbrev cX0_fillAgainstOthers : ByteArray := prog_2_method_12_code
def yX0_fillAgainstOthers : MethodName := ⟨RX0, "fillAgainstOthers", "(III)V"⟩
abbrev cX0_hiddenTotal : ByteArray := prog_2_method_13_code
def yX0_hiddenTotal : MethodName := ⟨RX0, "hiddenTotal", "(II)J"⟩
abbrev cX0_bestPace : ByteArray := prog_2_method_14_code
def yX0_bestPace : MethodName := ⟨RX0, "bestPace", "(II)I"⟩
abbrev cX0_paceWeights : ByteArray := prog_2_method_15_code
def yX0_paceWeights : MethodName := ⟨RX0, "paceWeights", "(III)I"⟩
abbrev cX0_bestToLaugh : ByteArray := prog_2_method_16_code
def yX0_bestToLaugh : MethodName := ⟨RX0, "bestToLaugh", "(II)I"⟩
abbrev cX0_totalAmong : ByteArray := prog_2_method_17_code
def yX0_totalAmong : MethodName := ⟨RX0, "totalAmong", "(III)J"⟩
def RX1 : String := "BreathRoad$Faces"
def TX1 : u_T := fun k => match k with
  | 0 => ("BreathRoad$Faces", "holders", "[I", true)
  | 1 => ("BreathRoad$Faces", "seconds", "[I", true)
  | 2 => ("BreathRoad$Faces", "tunnel", "I", false)
  | _ => ("BreathRoad$Faces", "count", "I", false)
def tyX1 : Nat → FieldType := fun k => match k with
  | 0 => .array .int
  | 1 => .array .int
  | 2 => .int
  | _ => .int
abbrev wsX10 : List Cond := u_ws RX1 TX1 4
theorem nmX1 : ∀ a, a < 4 → ∀ b, b < 4 → a ≠ b → (TX1 a).2.1 ≠ (TX1 b).2.1 := by decide +kernel
theorem tyX1_ok : ∀ k, k < 4 → parseFieldDescriptor (TX1 k).2.2.1 = some (tyX1 k) := by decide +kernel
abbrev cX1_init : ByteArray := prog_3_method_1_code
def yX1_init : MethodName := ⟨RX1, "<init>", "()V"⟩
abbrev cX1_take : ByteArray := prog_3_method_2_code
def yX1_take : MethodName := ⟨RX1, "take", "(LBreathRoad$Tape;LBreathRoad$Road;I)Z"⟩
abbrev cX1_fitLength : ByteArray := prog_3_method_3_code
def yX1_fitLength : MethodName := ⟨RX1, "fitLength", "(LBreathRoad$Judge;I)Z"⟩
def RX2 : String := "BreathRoad$History"
def TX2 : u_T := fun k => match k with
  | 0 => ("BreathRoad$History", "rows", "[I", true)
  | 1 => ("BreathRoad$History", "free", "I", false)
  | _ => ("BreathRoad$History", "count", "I", false)
def tyX2 : Nat → FieldType := fun k => match k with
  | 0 => .array .int
  | 1 => .int
  | _ => .int
abbrev wsX20 : List Cond := u_ws RX2 TX2 3
theorem nmX2 : ∀ a, a < 3 → ∀ b, b < 3 → a ≠ b → (TX2 a).2.1 ≠ (TX2 b).2.1 := by decide +kernel
theorem tyX2_ok : ∀ k, k < 3 → parseFieldDescriptor (TX2 k).2.2.1 = some (tyX2 k) := by decide +kernel
abbrev cX2_init : ByteArray := prog_4_method_1_code
def yX2_init : MethodName := ⟨RX2, "<init>", "()V"⟩
abbrev cX2_add : ByteArray := prog_4_method_2_code
def yX2_add : MethodName := ⟨RX2, "add", "(LBreathRoad$State;)V"⟩
abbrev cX2_takeBack : ByteArray := prog_4_method_3_code
def yX2_takeBack : MethodName := ⟨RX2, "takeBack", "(LBreathRoad$State;)V"⟩
def RX3 : String := "BreathRoad$Image"
def TX3 : u_T := fun k => match k with
  | 0 => ("BreathRoad$Image", "bytes", "[I", true)
  | _ => ("BreathRoad$Image", "size", "I", false)
def tyX3 : Nat → FieldType := fun k => match k with
  | 0 => .array .int
  | _ => .int
abbrev wsX30 : List Cond := u_ws RX3 TX3 2
theorem nmX3 : ∀ a, a < 2 → ∀ b, b < 2 → a ≠ b → (TX3 a).2.1 ≠ (TX3 b).2.1 := by decide +kernel
theorem tyX3_ok : ∀ k, k < 2 → parseFieldDescriptor (TX3 k).2.2.1 = some (tyX3 k) := by decide +kernel
abbrev cX3_init : ByteArray := prog_5_method_1_code
def yX3_init : MethodName := ⟨RX3, "<init>", "()V"⟩
abbrev cX3_write : ByteArray := prog_5_method_2_code
def yX3_write : MethodName := ⟨RX3, "write", "(LBreathRoad$State;LBreathRoad$Road;)V"⟩
abbrev cX3_addByte : ByteArray := prog_5_method_3_code
def yX3_addByte : MethodName := ⟨RX3, "addByte", "(I)V"⟩
abbrev cX3_withChecked : ByteArray := prog_5_method_4_code
def yX3_withChecked : MethodName := ⟨RX3, "withChecked", "(II)I"⟩
abbrev cX3_holderSize : ByteArray := prog_5_method_5_code
def yX3_holderSize : MethodName := ⟨RX3, "holderSize", "(LBreathRoad$Road;)I"⟩
abbrev cX3_isOf : ByteArray := prog_5_method_6_code
def yX3_isOf : MethodName := ⟨RX3, "isOf", "(LBreathRoad$Tape;LBreathRoad$Road;)Z"⟩
abbrev cX3_isHolderAt : ByteArray := prog_5_method_7_code
def yX3_isHolderAt : MethodName := ⟨RX3, "isHolderAt", "(LBreathRoad$Tape;II)Z"⟩
abbrev cX3_scoreAt : ByteArray := prog_5_method_8_code
def yX3_scoreAt : MethodName := ⟨RX3, "scoreAt", "(LBreathRoad$Tape;I)I"⟩
abbrev cX3_putInto : ByteArray := prog_5_method_9_code
def yX3_putInto : MethodName := ⟨RX3, "putInto", "(LBreathRoad$Tape;LBreathRoad$Road;LBreathRoad$State;)V"⟩
def RX4 : String := "BreathRoad$Judge"
def TX4 : u_T := fun k => match k with
  | 0 => ("BreathRoad$Judge", "road", "LBreathRoad$Road;", false)
  | 1 => ("BreathRoad$Judge", "now", "LBreathRoad$State;", true)
  | 2 => ("BreathRoad$Judge", "held", "[I", true)
  | _ => ("BreathRoad$Judge", "facts", "[I", true)
def tyX4 : Nat → FieldType := fun k => match k with
  | 0 => .object "BreathRoad$Road"
  | 1 => .object "BreathRoad$State"
  | 2 => .array .int
  | _ => .array .int
abbrev wsX40 : List Cond := u_ws RX4 TX4 4
theorem nmX4 : ∀ a, a < 4 → ∀ b, b < 4 → a ≠ b → (TX4 a).2.1 ≠ (TX4 b).2.1 := by decide +kernel
theorem tyX4_ok : ∀ k, k < 4 → parseFieldDescriptor (TX4 k).2.2.1 = some (tyX4 k) := by decide +kernel
abbrev cX4_init : ByteArray := prog_6_method_1_code
def yX4_init : MethodName := ⟨RX4, "<init>", "(LBreathRoad$State;LBreathRoad$Road;)V"⟩
abbrev cX4_secondsHeld : ByteArray := prog_6_method_2_code
def yX4_secondsHeld : MethodName := ⟨RX4, "secondsHeld", "(III)I"⟩
abbrev cX4_allHold : ByteArray := prog_6_method_3_code
def yX4_allHold : MethodName := ⟨RX4, "allHold", "(II)V"⟩
abbrev cX4_madeBits : ByteArray := prog_6_method_4_code
def yX4_madeBits : MethodName := ⟨RX4, "madeBits", "(II)I"⟩
abbrev cX4_worthAlone : ByteArray := prog_6_method_5_code
def yX4_worthAlone : MethodName := ⟨RX4, "worthAlone", "(IIII)I"⟩
abbrev cX4_worthAmong : ByteArray := prog_6_method_6_code
def yX4_worthAmong : MethodName := ⟨RX4, "worthAmong", "(III)I"⟩
abbrev cX4_tiredAlone : ByteArray := prog_6_method_7_code
def yX4_tiredAlone : MethodName := ⟨RX4, "tiredAlone", "(IIII)I"⟩
abbrev cX4_tiredAmong : ByteArray := prog_6_method_8_code
def yX4_tiredAmong : MethodName := ⟨RX4, "tiredAmong", "(III)I"⟩
abbrev cX4_tellAlone : ByteArray := prog_6_method_9_code
def yX4_tellAlone : MethodName := ⟨RX4, "tellAlone", "(IIII)V"⟩
abbrev cX4_tellAmong : ByteArray := prog_6_method_10_code
def yX4_tellAmong : MethodName := ⟨RX4, "tellAmong", "(III)V"⟩
def RX5 : String := "BreathRoad$Reader"
def TX5 : u_T := fun k => match k with
  | 0 => ("BreathRoad$Reader", "ownWords", "[I", true)
  | 1 => ("BreathRoad$Reader", "text", "LBreathRoad$Tape;", true)
  | 2 => ("BreathRoad$Reader", "road", "LBreathRoad$Road;", false)
  | 3 => ("BreathRoad$Reader", "at", "I", false)
  | 4 => ("BreathRoad$Reader", "from", "I", false)
  | 5 => ("BreathRoad$Reader", "token", "I", false)
  | 6 => ("BreathRoad$Reader", "ownWord", "I", false)
  | 7 => ("BreathRoad$Reader", "name", "I", false)
  | 8 => ("BreathRoad$Reader", "number", "I", false)
  | 9 => ("BreathRoad$Reader", "fault", "I", false)
  | _ => ("BreathRoad$Reader", "place", "I", false)
def tyX5 : Nat → FieldType := fun k => match k with
  | 0 => .array .int
  | 1 => .object "BreathRoad$Tape"
  | 2 => .object "BreathRoad$Road"
  | 3 => .int
  | 4 => .int
  | 5 => .int
  | 6 => .int
  | 7 => .int
  | 8 => .int
  | 9 => .int
  | _ => .int
abbrev wsX50 : List Cond := u_ws RX5 TX5 11
theorem nmX5 : ∀ a, a < 11 → ∀ b, b < 11 → a ≠ b → (TX5 a).2.1 ≠ (TX5 b).2.1 := by decide +kernel
theorem tyX5_ok : ∀ k, k < 11 → parseFieldDescriptor (TX5 k).2.2.1 = some (tyX5 k) := by decide +kernel
abbrev cX5_init : ByteArray := prog_7_method_1_code
def yX5_init : MethodName := ⟨RX5, "<init>", "(LBreathRoad$Tape;LBreathRoad$Road;)V"⟩
abbrev cX5_withLetter : ByteArray := prog_7_method_2_code
def yX5_withLetter : MethodName := ⟨RX5, "withLetter", "(III)I"⟩
abbrev cX5_letterOf : ByteArray := prog_7_method_3_code
def yX5_letterOf : MethodName := ⟨RX5, "letterOf", "(II)I"⟩
abbrev cX5_begin : ByteArray := prog_7_method_4_code
def yX5_begin : MethodName := ⟨RX5, "begin", "(LBreathRoad$Road;)V"⟩
abbrev cX5_fail : ByteArray := prog_7_method_5_code
def yX5_fail : MethodName := ⟨RX5, "fail", "(II)V"⟩
abbrev cX5_advance : ByteArray := prog_7_method_6_code
def yX5_advance : MethodName := ⟨RX5, "advance", "()V"⟩
abbrev cX5_isSideBySide : ByteArray := prog_7_method_7_code
def yX5_isSideBySide : MethodName := ⟨RX5, "isSideBySide", "()Z"⟩
abbrev cX5_skipBlanks : ByteArray := prog_7_method_8_code
def yX5_skipBlanks : MethodName := ⟨RX5, "skipBlanks", "()V"⟩
abbrev cX5_scanWord : ByteArray := prog_7_method_9_code
def yX5_scanWord : MethodName := ⟨RX5, "scanWord", "()V"⟩
abbrev cX5_scanNumber : ByteArray := prog_7_method_10_code
def yX5_scanNumber : MethodName := ⟨RX5, "scanNumber", "()V"⟩
abbrev cX5_scanSign : ByteArray := prog_7_method_11_code
def yX5_scanSign : MethodName := ⟨RX5, "scanSign", "()V"⟩
abbrev cX5_isLetter : ByteArray := prog_7_method_12_code
def yX5_isLetter : MethodName := ⟨RX5, "isLetter", "(I)Z"⟩
abbrev cX5_isDigit : ByteArray := prog_7_method_13_code
def yX5_isDigit : MethodName := ⟨RX5, "isDigit", "(I)Z"⟩
abbrev cX5_takeSign : ByteArray := prog_7_method_14_code
def yX5_takeSign : MethodName := ⟨RX5, "takeSign", "(I)V"⟩
abbrev cX5_takeWord : ByteArray := prog_7_method_15_code
def yX5_takeWord : MethodName := ⟨RX5, "takeWord", "(I)V"⟩
abbrev cX5_takeNumber : ByteArray := prog_7_method_16_code
def yX5_takeNumber : MethodName := ⟨RX5, "takeNumber", "(II)I"⟩
abbrev cX5_takeNewName : ByteArray := prog_7_method_17_code
def yX5_takeNewName : MethodName := ⟨RX5, "takeNewName", "()I"⟩
abbrev cX5_takeHolder : ByteArray := prog_7_method_18_code
def yX5_takeHolder : MethodName := ⟨RX5, "takeHolder", "()I"⟩
abbrev cX5_takeTunnel : ByteArray := prog_7_method_19_code
def yX5_takeTunnel : MethodName := ⟨RX5, "takeTunnel", "()I"⟩
abbrev cX5_takeKnownName : ByteArray := prog_7_method_20_code
def yX5_takeKnownName : MethodName := ⟨RX5, "takeKnownName", "(I)V"⟩
abbrev cX5_isName : ByteArray := prog_7_method_21_code
def yX5_isName : MethodName := ⟨RX5, "isName", "()Z"⟩
abbrev cX5_comesToStatement : ByteArray := prog_7_method_22_code
def yX5_comesToStatement : MethodName := ⟨RX5, "comesToStatement", "()Z"⟩
abbrev cX5_readStatement : ByteArray := prog_7_method_23_code
def yX5_readStatement : MethodName := ⟨RX5, "readStatement", "()V"⟩
abbrev cX5_readTunnel : ByteArray := prog_7_method_24_code
def yX5_readTunnel : MethodName := ⟨RX5, "readTunnel", "()V"⟩
abbrev cX5_readLength : ByteArray := prog_7_method_25_code
def yX5_readLength : MethodName := ⟨RX5, "readLength", "(I)V"⟩
abbrev cX5_readHolder : ByteArray := prog_7_method_26_code
def yX5_readHolder : MethodName := ⟨RX5, "readHolder", "()V"⟩
abbrev cX5_readThinks : ByteArray := prog_7_method_27_code
def yX5_readThinks : MethodName := ⟨RX5, "readThinks", "()V"⟩
abbrev cX5_readGives : ByteArray := prog_7_method_28_code
def yX5_readGives : MethodName := ⟨RX5, "readGives", "()V"⟩
abbrev cX5_readTold : ByteArray := prog_7_method_29_code
def yX5_readTold : MethodName := ⟨RX5, "readTold", "(I)V"⟩
abbrev cX5_readSum : ByteArray := prog_7_method_30_code
def yX5_readSum : MethodName := ⟨RX5, "readSum", "(I)V"⟩
abbrev cX5_readProduct : ByteArray := prog_7_method_31_code
def yX5_readProduct : MethodName := ⟨RX5, "readProduct", "(I)V"⟩
abbrev cX5_readPart : ByteArray := prog_7_method_32_code
def yX5_readPart : MethodName := ⟨RX5, "readPart", "(I)V"⟩
abbrev cX5_factOf : ByteArray := prog_7_method_33_code
def yX5_factOf : MethodName := ⟨RX5, "factOf", "(I)I"⟩
abbrev cX5_readIf : ByteArray := prog_7_method_34_code
def yX5_readIf : MethodName := ⟨RX5, "readIf", "(I)V"⟩
abbrev cX5_readPair : ByteArray := prog_7_method_35_code
def yX5_readPair : MethodName := ⟨RX5, "readPair", "(II)V"⟩
abbrev cX5_isOpened : ByteArray := prog_7_method_36_code
def yX5_isOpened : MethodName := ⟨RX5, "isOpened", "(II)Z"⟩
abbrev cX5_readTest : ByteArray := prog_7_method_37_code
def yX5_readTest : MethodName := ⟨RX5, "readTest", "(I)V"⟩
abbrev cX5_readBoth : ByteArray := prog_7_method_38_code
def yX5_readBoth : MethodName := ⟨RX5, "readBoth", "(I)V"⟩
abbrev cX5_readFact : ByteArray := prog_7_method_39_code
def yX5_readFact : MethodName := ⟨RX5, "readFact", "(I)V"⟩
abbrev cX5_readNot : ByteArray := prog_7_method_40_code
def yX5_readNot : MethodName := ⟨RX5, "readNot", "(I)V"⟩
abbrev cX5_readCompared : ByteArray := prog_7_method_41_code
def yX5_readCompared : MethodName := ⟨RX5, "readCompared", "(I)V"⟩
def RX6 : String := "BreathRoad$Road"
def TX6 : u_T := fun k => match k with
  | 0 => ("BreathRoad$Road", "statements", "I", false)
  | 1 => ("BreathRoad$Road", "tunnels", "I", false)
  | 2 => ("BreathRoad$Road", "holders", "I", false)
  | 3 => ("BreathRoad$Road", "seen", "I", false)
  | 4 => ("BreathRoad$Road", "fine", "I", false)
  | 5 => ("BreathRoad$Road", "tunnelNames", "[I", true)
  | 6 => ("BreathRoad$Road", "gaps", "[I", true)
  | 7 => ("BreathRoad$Road", "lengthCounts", "[I", true)
  | 8 => ("BreathRoad$Road", "lengths", "[I", true)
  | 9 => ("BreathRoad$Road", "weights", "[I", true)
  | 10 => ("BreathRoad$Road", "holderNames", "[I", true)
  | 11 => ("BreathRoad$Road", "breaths", "[I", true)
  | 12 => ("BreathRoad$Road", "laughs", "[I", true)
  | 13 => ("BreathRoad$Road", "gives", "[I", true)
  | 14 => ("BreathRoad$Road", "thinks", "[I", true)
  | _ => ("BreathRoad$Road", "sums", "LBreathRoad$Sums;", true)
def tyX6 : Nat → FieldType := fun k => match k with
  | 0 => .int
  | 1 => .int
  | 2 => .int
  | 3 => .int
  | 4 => .int
  | 5 => .array .int
  | 6 => .array .int
  | 7 => .array .int
  | 8 => .array .int
  | 9 => .array .int
  | 10 => .array .int
  | 11 => .array .int
  | 12 => .array .int
  | 13 => .array .int
  | 14 => .array .int
  | _ => .object "BreathRoad$Sums"
abbrev wsX60 : List Cond := u_ws RX6 TX6 16
theorem nmX6 : ∀ a, a < 16 → ∀ b, b < 16 → a ≠ b → (TX6 a).2.1 ≠ (TX6 b).2.1 := by decide +kernel
theorem tyX6_ok : ∀ k, k < 16 → parseFieldDescriptor (TX6 k).2.2.1 = some (tyX6 k) := by decide +kernel
abbrev cX6_init : ByteArray := prog_8_method_1_code
def yX6_init : MethodName := ⟨RX6, "<init>", "()V"⟩
abbrev cX6_clear : ByteArray := prog_8_method_2_code
def yX6_clear : MethodName := ⟨RX6, "clear", "()V"⟩
abbrev cX6_hasTunnel : ByteArray := prog_8_method_3_code
def yX6_hasTunnel : MethodName := ⟨RX6, "hasTunnel", "(I)Z"⟩
abbrev cX6_hasHolder : ByteArray := prog_8_method_4_code
def yX6_hasHolder : MethodName := ⟨RX6, "hasHolder", "(I)Z"⟩
abbrev cX6_hasBoth : ByteArray := prog_8_method_5_code
def yX6_hasBoth : MethodName := ⟨RX6, "hasBoth", "(II)Z"⟩
abbrev cX6_lengthCount : ByteArray := prog_8_method_6_code
def yX6_lengthCount : MethodName := ⟨RX6, "lengthCount", "(I)I"⟩
abbrev cX6_lengthAt : ByteArray := prog_8_method_7_code
def yX6_lengthAt : MethodName := ⟨RX6, "lengthAt", "(II)I"⟩
abbrev cX6_weightAt : ByteArray := prog_8_method_8_code
def yX6_weightAt : MethodName := ⟨RX6, "weightAt", "(II)I"⟩
abbrev cX6_hasLength : ByteArray := prog_8_method_9_code
def yX6_hasLength : MethodName := ⟨RX6, "hasLength", "(II)Z"⟩
abbrev cX6_allWeights : ByteArray := prog_8_method_10_code
def yX6_allWeights : MethodName := ⟨RX6, "allWeights", "(I)I"⟩
abbrev cX6_tunnelNamed : ByteArray := prog_8_method_11_code
def yX6_tunnelNamed : MethodName := ⟨RX6, "tunnelNamed", "(I)I"⟩
abbrev cX6_holderNamed : ByteArray := prog_8_method_12_code
def yX6_holderNamed : MethodName := ⟨RX6, "holderNamed", "(I)I"⟩
abbrev cX6_find : ByteArray := prog_8_method_13_code
def yX6_find : MethodName := ⟨RX6, "find", "([III)I"⟩
def RX7 : String := "BreathRoad$State"
def TX7 : u_T := fun k => match k with
  | _ => ("BreathRoad$State", "row", "[I", true)
def tyX7 : Nat → FieldType := fun k => match k with
  | _ => .array .int
abbrev wsX70 : List Cond := u_ws RX7 TX7 1
theorem nmX7 : ∀ a, a < 1 → ∀ b, b < 1 → a ≠ b → (TX7 a).2.1 ≠ (TX7 b).2.1 := by decide +kernel
theorem tyX7_ok : ∀ k, k < 1 → parseFieldDescriptor (TX7 k).2.2.1 = some (tyX7 k) := by decide +kernel
abbrev cX7_init : ByteArray := prog_9_method_1_code
def yX7_init : MethodName := ⟨RX7, "<init>", "()V"⟩
abbrev cX7_begin : ByteArray := prog_9_method_2_code
def yX7_begin : MethodName := ⟨RX7, "begin", "(LBreathRoad$Road;)V"⟩
abbrev cX7_nextTunnel : ByteArray := prog_9_method_3_code
def yX7_nextTunnel : MethodName := ⟨RX7, "nextTunnel", "()I"⟩
abbrev cX7_setNextTunnel : ByteArray := prog_9_method_4_code
def yX7_setNextTunnel : MethodName := ⟨RX7, "setNextTunnel", "(I)V"⟩
abbrev cX7_breathOf : ByteArray := prog_9_method_5_code
def yX7_breathOf : MethodName := ⟨RX7, "breathOf", "(I)I"⟩
abbrev cX7_setBreath : ByteArray := prog_9_method_6_code
def yX7_setBreath : MethodName := ⟨RX7, "setBreath", "(II)V"⟩
abbrev cX7_givesOf : ByteArray := prog_9_method_7_code
def yX7_givesOf : MethodName := ⟨RX7, "givesOf", "(I)I"⟩
abbrev cX7_setGives : ByteArray := prog_9_method_8_code
def yX7_setGives : MethodName := ⟨RX7, "setGives", "(II)V"⟩
abbrev cX7_scoreOf : ByteArray := prog_9_method_9_code
def yX7_scoreOf : MethodName := ⟨RX7, "scoreOf", "(I)I"⟩
abbrev cX7_setScore : ByteArray := prog_9_method_10_code
def yX7_setScore : MethodName := ⟨RX7, "setScore", "(II)V"⟩
abbrev cX7_addScore : ByteArray := prog_9_method_11_code
def yX7_addScore : MethodName := ⟨RX7, "addScore", "(II)V"⟩
abbrev cX7_thinksOf : ByteArray := prog_9_method_12_code
def yX7_thinksOf : MethodName := ⟨RX7, "thinksOf", "(II)I"⟩
abbrev cX7_setThinks : ByteArray := prog_9_method_13_code
def yX7_setThinks : MethodName := ⟨RX7, "setThinks", "(III)V"⟩
abbrev cX7_keep : ByteArray := prog_9_method_14_code
def yX7_keep : MethodName := ⟨RX7, "keep", "(IIII)V"⟩
abbrev cX7_keepNothing : ByteArray := prog_9_method_15_code
def yX7_keepNothing : MethodName := ⟨RX7, "keepNothing", "()V"⟩
abbrev cX7_keptCount : ByteArray := prog_9_method_16_code
def yX7_keptCount : MethodName := ⟨RX7, "keptCount", "()I"⟩
abbrev cX7_keptPart : ByteArray := prog_9_method_17_code
def yX7_keptPart : MethodName := ⟨RX7, "keptPart", "(II)I"⟩
def RX8 : String := "BreathRoad$Sums"
def TX8 : u_T := fun k => match k with
  | 0 => ("BreathRoad$Sums", "codes", "[I", true)
  | 1 => ("BreathRoad$Sums", "stack", "[I", true)
  | 2 => ("BreathRoad$Sums", "top", "I", false)
  | 3 => ("BreathRoad$Sums", "size", "I", false)
  | 4 => ("BreathRoad$Sums", "begins", "[I", true)
  | _ => ("BreathRoad$Sums", "ends", "[I", true)
def tyX8 : Nat → FieldType := fun k => match k with
  | 0 => .array .int
  | 1 => .array .int
  | 2 => .int
  | 3 => .int
  | 4 => .array .int
  | _ => .array .int
abbrev wsX80 : List Cond := u_ws RX8 TX8 6
theorem nmX8 : ∀ a, a < 6 → ∀ b, b < 6 → a ≠ b → (TX8 a).2.1 ≠ (TX8 b).2.1 := by decide +kernel
theorem tyX8_ok : ∀ k, k < 6 → parseFieldDescriptor (TX8 k).2.2.1 = some (tyX8 k) := by decide +kernel
abbrev cX8_init : ByteArray := prog_10_method_1_code
def yX8_init : MethodName := ⟨RX8, "<init>", "()V"⟩
abbrev cX8_clear : ByteArray := prog_10_method_2_code
def yX8_clear : MethodName := ⟨RX8, "clear", "()V"⟩
abbrev cX8_add : ByteArray := prog_10_method_3_code
def yX8_add : MethodName := ⟨RX8, "add", "(II)I"⟩
abbrev cX8_landHere : ByteArray := prog_10_method_4_code
def yX8_landHere : MethodName := ⟨RX8, "landHere", "(I)V"⟩
abbrev cX8_isTold : ByteArray := prog_10_method_5_code
def yX8_isTold : MethodName := ⟨RX8, "isTold", "(I)Z"⟩
abbrev cX8_valueOf : ByteArray := prog_10_method_6_code
def yX8_valueOf : MethodName := ⟨RX8, "valueOf", "(I[I)I"⟩
abbrev cX8_push : ByteArray := prog_10_method_7_code
def yX8_push : MethodName := ⟨RX8, "push", "(I)V"⟩
abbrev cX8_pop : ByteArray := prog_10_method_8_code
def yX8_pop : MethodName := ⟨RX8, "pop", "()I"⟩
abbrev cX8_joined : ByteArray := prog_10_method_9_code
def yX8_joined : MethodName := ⟨RX8, "joined", "(III)J"⟩
abbrev cX8_bounded : ByteArray := prog_10_method_10_code
def yX8_bounded : MethodName := ⟨RX8, "bounded", "(J)I"⟩
def RX9 : String := "BreathRoad$Tape"
def TX9 : u_T := fun k => match k with
  | 0 => ("BreathRoad$Tape", "bytes", "[B", true)
  | _ => ("BreathRoad$Tape", "size", "I", false)
def tyX9 : Nat → FieldType := fun k => match k with
  | 0 => .array .byte
  | _ => .int
abbrev wsX90 : List Cond := u_ws RX9 TX9 2
theorem nmX9 : ∀ a, a < 2 → ∀ b, b < 2 → a ≠ b → (TX9 a).2.1 ≠ (TX9 b).2.1 := by decide +kernel
theorem tyX9_ok : ∀ k, k < 2 → parseFieldDescriptor (TX9 k).2.2.1 = some (tyX9 k) := by decide +kernel
abbrev cX9_init : ByteArray := prog_11_method_1_code
def yX9_init : MethodName := ⟨RX9, "<init>", "()V"⟩
abbrev cX9_addNumber : ByteArray := prog_11_method_2_code
def yX9_addNumber : MethodName := ⟨RX9, "addNumber", "(I)V"⟩
abbrev cX9_byteAt : ByteArray := prog_11_method_3_code
def yX9_byteAt : MethodName := ⟨RX9, "byteAt", "(I)I"⟩
def RX10 : String := "BreathRoad"
def TX10 : u_T := fun k => match k with
  | 0 => ("BreathRoad", "tape", "LBreathRoad$Tape;", true)
  | 1 => ("BreathRoad", "now", "LBreathRoad$State;", true)
  | 2 => ("BreathRoad", "history", "LBreathRoad$History;", true)
  | 3 => ("BreathRoad", "judge", "LBreathRoad$Judge;", true)
  | 4 => ("BreathRoad", "chooser", "LBreathRoad$Chooser;", true)
  | 5 => ("BreathRoad", "told", "LBreathRoad$Faces;", true)
  | 6 => ("BreathRoad", "picture", "LBreathRoad$Image;", true)
  | 7 => ("BreathRoad", "refused", "[I", true)
  | 8 => ("BreathRoad", "spare", "LBreathRoad$Road;", false)
  | 9 => ("BreathRoad", "reader", "LBreathRoad$Reader;", true)
  | _ => ("BreathRoad", "x", "I", false)
def tyX10 : Nat → FieldType := fun k => match k with
  | 0 => .object "BreathRoad$Tape"
  | 1 => .object "BreathRoad$State"
  | 2 => .object "BreathRoad$History"
  | 3 => .object "BreathRoad$Judge"
  | 4 => .object "BreathRoad$Chooser"
  | 5 => .object "BreathRoad$Faces"
  | 6 => .object "BreathRoad$Image"
  | 7 => .array .int
  | 8 => .object "BreathRoad$Road"
  | 9 => .object "BreathRoad$Reader"
  | _ => .int
abbrev wsX100 : List Cond := u_ws RX10 TX10 11
theorem nmX10 : ∀ a, a < 11 → ∀ b, b < 11 → a ≠ b → (TX10 a).2.1 ≠ (TX10 b).2.1 := by decide +kernel
theorem tyX10_ok : ∀ k, k < 11 → parseFieldDescriptor (TX10 k).2.2.1 = some (tyX10 k) := by decide +kernel
abbrev cX10_init : ByteArray := prog_1_method_1_code
def yX10_init : MethodName := ⟨RX10, "<init>", "()V"⟩
abbrev cX10_feed : ByteArray := prog_1_method_2_code
def yX10_feed : MethodName := ⟨RX10, "feed", "(IIIII)I"⟩
abbrev cX10_end : ByteArray := prog_1_method_3_code
def yX10_end : MethodName := ⟨RX10, "end", "(I)Z"⟩
abbrev cX10_road : ByteArray := prog_1_method_4_code
def yX10_road : MethodName := ⟨RX10, "road", "()I"⟩
abbrev cX10_fault : ByteArray := prog_1_method_5_code
def yX10_fault : MethodName := ⟨RX10, "fault", "(I)I"⟩
abbrev cX10_has : ByteArray := prog_1_method_6_code
def yX10_has : MethodName := ⟨RX10, "has", "(I)I"⟩
abbrev cX10_letter : ByteArray := prog_1_method_7_code
def yX10_letter : MethodName := ⟨RX10, "letter", "(III)I"⟩
abbrev cX10_tunnel : ByteArray := prog_1_method_8_code
def yX10_tunnel : MethodName := ⟨RX10, "tunnel", "(II)I"⟩
abbrev cX10_holder : ByteArray := prog_1_method_9_code
def yX10_holder : MethodName := ⟨RX10, "holder", "(II)I"⟩
abbrev cX10_score : ByteArray := prog_1_method_10_code
def yX10_score : MethodName := ⟨RX10, "score", "(I)I"⟩
abbrev cX10_likely : ByteArray := prog_1_method_11_code
def yX10_likely : MethodName := ⟨RX10, "likely", "(II)I"⟩
abbrev cX10_holds : ByteArray := prog_1_method_12_code
def yX10_holds : MethodName := ⟨RX10, "holds", "(III)I"⟩
abbrev cX10_made : ByteArray := prog_1_method_13_code
def yX10_made : MethodName := ⟨RX10, "made", "(II)I"⟩
abbrev cX10_worth : ByteArray := prog_1_method_14_code
def yX10_worth : MethodName := ⟨RX10, "worth", "(III)I"⟩
abbrev cX10_tired : ByteArray := prog_1_method_15_code
def yX10_tired : MethodName := ⟨RX10, "tired", "(IIII)I"⟩
abbrev cX10_alone : ByteArray := prog_1_method_16_code
def yX10_alone : MethodName := ⟨RX10, "alone", "(III)I"⟩
abbrev cX10_on : ByteArray := prog_1_method_17_code
def yX10_on : MethodName := ⟨RX10, "on", "(III)I"⟩
abbrev cX10_rest : ByteArray := prog_1_method_18_code
def yX10_rest : MethodName := ⟨RX10, "rest", "(II)I"⟩
abbrev cX10_hidden : ByteArray := prog_1_method_19_code
def yX10_hidden : MethodName := ⟨RX10, "hidden", "(III)I"⟩
abbrev cX10_pace : ByteArray := prog_1_method_20_code
def yX10_pace : MethodName := ⟨RX10, "pace", "(III)I"⟩
abbrev cX10_whom : ByteArray := prog_1_method_21_code
def yX10_whom : MethodName := ⟨RX10, "whom", "(III)I"⟩
abbrev cX10_faces : ByteArray := prog_1_method_22_code
def yX10_faces : MethodName := ⟨RX10, "faces", "(I)I"⟩
abbrev cX10_fit : ByteArray := prog_1_method_23_code
def yX10_fit : MethodName := ⟨RX10, "fit", "(I)I"⟩
abbrev cX10_drive : ByteArray := prog_1_method_24_code
def yX10_drive : MethodName := ⟨RX10, "drive", "(I)I"⟩
abbrev cX10_pause : ByteArray := prog_1_method_25_code
def yX10_pause : MethodName := ⟨RX10, "pause", "()I"⟩
abbrev cX10_believe : ByteArray := prog_1_method_26_code
def yX10_believe : MethodName := ⟨RX10, "believe", "(III)I"⟩
abbrev cX10_give : ByteArray := prog_1_method_27_code
def yX10_give : MethodName := ⟨RX10, "give", "(II)I"⟩
abbrev cX10_undo : ByteArray := prog_1_method_28_code
def yX10_undo : MethodName := ⟨RX10, "undo", "()Z"⟩
abbrev cX10_seed : ByteArray := prog_1_method_29_code
def yX10_seed : MethodName := ⟨RX10, "seed", "(I)Z"⟩
abbrev cX10_kept : ByteArray := prog_1_method_30_code
def yX10_kept : MethodName := ⟨RX10, "kept", "(II)I"⟩
abbrev cX10_image : ByteArray := prog_1_method_31_code
def yX10_image : MethodName := ⟨RX10, "image", "()I"⟩
abbrev cX10_octet : ByteArray := prog_1_method_32_code
def yX10_octet : MethodName := ⟨RX10, "octet", "(I)I"⟩
abbrev cX10_goOn : ByteArray := prog_1_method_33_code
def yX10_goOn : MethodName := ⟨RX10, "goOn", "()Z"⟩
abbrev cX10_status : ByteArray := prog_1_method_34_code
def yX10_status : MethodName := ⟨RX10, "status", "(I)I"⟩
abbrev cX10_refuse : ByteArray := prog_1_method_35_code
def yX10_refuse : MethodName := ⟨RX10, "refuse", "(I)I"⟩
abbrev cX10_beginAct : ByteArray := prog_1_method_36_code
def yX10_beginAct : MethodName := ⟨RX10, "beginAct", "()V"⟩
abbrev cX10_driveThrough : ByteArray := prog_1_method_37_code
def yX10_driveThrough : MethodName := ⟨RX10, "driveThrough", "()I"⟩
abbrev cX10_drawLength : ByteArray := prog_1_method_38_code
def yX10_drawLength : MethodName := ⟨RX10, "drawLength", "(I)I"⟩
abbrev cX10_drawHeld : ByteArray := prog_1_method_39_code
def yX10_drawHeld : MethodName := ⟨RX10, "drawHeld", "(II)I"⟩
abbrev cX10_draw : ByteArray := prog_1_method_40_code
def yX10_draw : MethodName := ⟨RX10, "draw", "(I)I"⟩
abbrev cX10_isLength : ByteArray := prog_1_method_41_code
def yX10_isLength : MethodName := ⟨RX10, "isLength", "(I)Z"⟩
abbrev cX10_isSecond : ByteArray := prog_1_method_42_code
def yX10_isSecond : MethodName := ⟨RX10, "isSecond", "(I)Z"⟩
abbrev cX10_thousandths : ByteArray := prog_1_method_43_code
def yX10_thousandths : MethodName := ⟨RX10, "thousandths", "(JJ)I"⟩
abbrev cX10_within : ByteArray := prog_1_method_44_code
def yX10_within : MethodName := ⟨RX10, "within", "(III)I"⟩
abbrev cX10_valueAt : ByteArray := prog_1_method_45_code
def yX10_valueAt : MethodName := ⟨RX10, "valueAt", "([II)I"⟩
abbrev cX10_valueAt_ : ByteArray := prog_1_method_46_code
def yX10_valueAt_ : MethodName := ⟨RX10, "valueAt", "([JI)J"⟩
abbrev cX10_setAt : ByteArray := prog_1_method_47_code
def yX10_setAt : MethodName := ⟨RX10, "setAt", "([III)V"⟩
abbrev cX10_setAt_ : ByteArray := prog_1_method_48_code
def yX10_setAt_ : MethodName := ⟨RX10, "setAt", "([JIJ)V"⟩
def RX11 : String := "BreathRoadModel"
def TX11 : u_T := fun k => match k with
  | 0 => ("BreathRoadModel", "tape", "[I", true)
  | 1 => ("BreathRoadModel", "taped", "I", false)
  | 2 => ("BreathRoadModel", "size", "I", false)
  | 3 => ("BreathRoadModel", "sign", "I", false)
  | 4 => ("BreathRoadModel", "signAt", "I", false)
  | 5 => ("BreathRoadModel", "signEnd", "I", false)
  | 6 => ("BreathRoadModel", "value", "I", false)
  | 7 => ("BreathRoadModel", "word", "J", false)
  | 8 => ("BreathRoadModel", "faultKind", "I", false)
  | 9 => ("BreathRoadModel", "faultPlace", "I", false)
  | 10 => ("BreathRoadModel", "toldKind", "I", false)
  | 11 => ("BreathRoadModel", "toldPlace", "I", false)
  | 12 => ("BreathRoadModel", "lexAt", "I", false)
  | 13 => ("BreathRoadModel", "bank", "I", false)
  | 14 => ("BreathRoadModel", "tunnels", "[I", true)
  | 15 => ("BreathRoadModel", "tunnelGap", "[I", true)
  | 16 => ("BreathRoadModel", "tunnelLengths", "[I", true)
  | 17 => ("BreathRoadModel", "lengthOf", "[I", true)
  | 18 => ("BreathRoadModel", "weightOf", "[I", true)
  | 19 => ("BreathRoadModel", "holders", "[I", true)
  | 20 => ("BreathRoadModel", "holderBreath", "[I", true)
  | 21 => ("BreathRoadModel", "holderLaughs", "[I", true)
  | 22 => ("BreathRoadModel", "holderGives", "[I", true)
  | 23 => ("BreathRoadModel", "thinksOf", "[I", true)
  | 24 => ("BreathRoadModel", "worthFrom", "[I", true)
  | 25 => ("BreathRoadModel", "worthBehind", "[I", true)
  | 26 => ("BreathRoadModel", "tiresFrom", "[I", true)
  | 27 => ("BreathRoadModel", "tiresBehind", "[I", true)
  | 28 => ("BreathRoadModel", "seeing", "[I", true)
  | 29 => ("BreathRoadModel", "fining", "[I", true)
  | 30 => ("BreathRoadModel", "codeSort", "[I", true)
  | 31 => ("BreathRoadModel", "codeValue", "[I", true)
  | 32 => ("BreathRoadModel", "tunnelName", "[J", true)
  | 33 => ("BreathRoadModel", "holderName", "[J", true)
  | 34 => ("BreathRoadModel", "codes", "I", false)
  | 35 => ("BreathRoadModel", "in", "I", false)
  | 36 => ("BreathRoadModel", "frame", "[I", true)
  | 37 => ("BreathRoadModel", "phase", "[I", true)
  | 38 => ("BreathRoadModel", "begins", "[Z", true)
  | 39 => ("BreathRoadModel", "pair", "[I", true)
  | 40 => ("BreathRoadModel", "base", "[I", true)
  | 41 => ("BreathRoadModel", "deep", "I", false)
  | 42 => ("BreathRoadModel", "open", "I", false)
  | 43 => ("BreathRoadModel", "ops", "[I", true)
  | 44 => ("BreathRoadModel", "opMany", "I", false)
  | 45 => ("BreathRoadModel", "operand", "Z", false)
  | 46 => ("BreathRoadModel", "refused", "[I", true)
  | 47 => ("BreathRoadModel", "nextOf", "[I", true)
  | 48 => ("BreathRoadModel", "breathOf", "[I", true)
  | 49 => ("BreathRoadModel", "givesOf", "[I", true)
  | 50 => ("BreathRoadModel", "scoreOf", "[I", true)
  | 51 => ("BreathRoadModel", "believesOf", "[I", true)
  | 52 => ("BreathRoadModel", "keptMany", "[I", true)
  | 53 => ("BreathRoadModel", "keptTunnel", "[I", true)
  | 54 => ("BreathRoadModel", "keptLength", "[I", true)
  | 55 => ("BreathRoadModel", "keptHolder", "[I", true)
  | 56 => ("BreathRoadModel", "keptHeld", "[I", true)
  | 57 => ("BreathRoadModel", "undoFirst", "I", false)
  | 58 => ("BreathRoadModel", "undos", "I", false)
  | 59 => ("BreathRoadModel", "seeds", "J", false)
  | 60 => ("BreathRoadModel", "stack", "[J", true)
  | 61 => ("BreathRoadModel", "askedHeld", "I", false)
  | 62 => ("BreathRoadModel", "askedLong", "I", false)
  | 63 => ("BreathRoadModel", "askedLast", "I", false)
  | 64 => ("BreathRoadModel", "askedBeaten", "I", false)
  | 65 => ("BreathRoadModel", "askedBreath", "I", false)
  | 66 => ("BreathRoadModel", "askedGap", "I", false)
  | 67 => ("BreathRoadModel", "holdRow", "[I", true)
  | 68 => ("BreathRoadModel", "bestSecond", "I", false)
  | 69 => ("BreathRoadModel", "bestWorth", "J", false)
  | 70 => ("BreathRoadModel", "worthLeft", "[J", true)
  | 71 => ("BreathRoadModel", "restAt", "[I", true)
  | 72 => ("BreathRoadModel", "rows", "I", false)
  | 73 => ("BreathRoadModel", "facesOf", "I", false)
  | 74 => ("BreathRoadModel", "faceHolder", "[I", true)
  | 75 => ("BreathRoadModel", "faceSeconds", "[I", true)
  | 76 => ("BreathRoadModel", "tiredRow", "[I", true)
  | 77 => ("BreathRoadModel", "out", "[I", true)
  | _ => ("BreathRoadModel", "outs", "I", false)
def tyX11 : Nat → FieldType := fun k => match k with
  | 0 => .array .int
  | 1 => .int
  | 2 => .int
  | 3 => .int
  | 4 => .int
  | 5 => .int
  | 6 => .int
  | 7 => .long
  | 8 => .int
  | 9 => .int
  | 10 => .int
  | 11 => .int
  | 12 => .int
  | 13 => .int
  | 14 => .array .int
  | 15 => .array .int
  | 16 => .array .int
  | 17 => .array .int
  | 18 => .array .int
  | 19 => .array .int
  | 20 => .array .int
  | 21 => .array .int
  | 22 => .array .int
  | 23 => .array .int
  | 24 => .array .int
  | 25 => .array .int
  | 26 => .array .int
  | 27 => .array .int
  | 28 => .array .int
  | 29 => .array .int
  | 30 => .array .int
  | 31 => .array .int
  | 32 => .array .long
  | 33 => .array .long
  | 34 => .int
  | 35 => .int
  | 36 => .array .int
  | 37 => .array .int
  | 38 => .array .boolean
  | 39 => .array .int
  | 40 => .array .int
  | 41 => .int
  | 42 => .int
  | 43 => .array .int
  | 44 => .int
  | 45 => .boolean
  | 46 => .array .int
  | 47 => .array .int
  | 48 => .array .int
  | 49 => .array .int
  | 50 => .array .int
  | 51 => .array .int
  | 52 => .array .int
  | 53 => .array .int
  | 54 => .array .int
  | 55 => .array .int
  | 56 => .array .int
  | 57 => .int
  | 58 => .int
  | 59 => .long
  | 60 => .array .long
  | 61 => .int
  | 62 => .int
  | 63 => .int
  | 64 => .int
  | 65 => .int
  | 66 => .int
  | 67 => .array .int
  | 68 => .int
  | 69 => .long
  | 70 => .array .long
  | 71 => .array .int
  | 72 => .int
  | 73 => .int
  | 74 => .array .int
  | 75 => .array .int
  | 76 => .array .int
  | 77 => .array .int
  | _ => .int
abbrev wsX110 : List Cond := u_ws RX11 TX11 79
theorem nmX11 : ∀ a, a < 79 → ∀ b, b < 79 → a ≠ b → (TX11 a).2.1 ≠ (TX11 b).2.1 := by decide +kernel
theorem tyX11_ok : ∀ k, k < 79 → parseFieldDescriptor (TX11 k).2.2.1 = some (tyX11 k) := by decide +kernel
abbrev cX11_init : ByteArray := prog_13_method_1_code
def yX11_init : MethodName := ⟨RX11, "<init>", "()V"⟩
abbrev cX11_is : ByteArray := prog_13_method_2_code
def yX11_is : MethodName := ⟨RX11, "is", "(III)Z"⟩
abbrev cX11_put : ByteArray := prog_13_method_3_code
def yX11_put : MethodName := ⟨RX11, "put", "(I)V"⟩
abbrev cX11_feed : ByteArray := prog_13_method_4_code
def yX11_feed : MethodName := ⟨RX11, "feed", "(IIIII)I"⟩
abbrev cX11_end : ByteArray := prog_13_method_5_code
def yX11_end : MethodName := ⟨RX11, "end", "(I)Z"⟩
abbrev cX11_blame : ByteArray := prog_13_method_6_code
def yX11_blame : MethodName := ⟨RX11, "blame", "(II)V"⟩
abbrev cX11_isLetter : ByteArray := prog_13_method_7_code
def yX11_isLetter : MethodName := ⟨RX11, "isLetter", "(I)Z"⟩
abbrev cX11_isDigit : ByteArray := prog_13_method_8_code
def yX11_isDigit : MethodName := ⟨RX11, "isDigit", "(I)Z"⟩
abbrev cX11_lex : ByteArray := prog_13_method_9_code
def yX11_lex : MethodName := ⟨RX11, "lex", "()V"⟩
abbrev cX11_ahead : ByteArray := prog_13_method_10_code
def yX11_ahead : MethodName := ⟨RX11, "ahead", "()V"⟩
abbrev cX11_isSign : ByteArray := prog_13_method_11_code
def yX11_isSign : MethodName := ⟨RX11, "isSign", "(I)Z"⟩
abbrev cX11_isWord : ByteArray := prog_13_method_12_code
def yX11_isWord : MethodName := ⟨RX11, "isWord", "(J)Z"⟩
abbrev cX11_must : ByteArray := prog_13_method_13_code
def yX11_must : MethodName := ⟨RX11, "must", "(I)V"⟩
abbrev cX11_isOwn : ByteArray := prog_13_method_14_code
def yX11_isOwn : MethodName := ⟨RX11, "isOwn", "(J)Z"⟩
abbrev cX11_manyOf : ByteArray := prog_13_method_15_code
def yX11_manyOf : MethodName := ⟨RX11, "manyOf", "(II)I"⟩
abbrev cX11_nameOf : ByteArray := prog_13_method_16_code
def yX11_nameOf : MethodName := ⟨RX11, "nameOf", "(III)J"⟩
abbrev cX11_named : ByteArray := prog_13_method_17_code
def yX11_named : MethodName := ⟨RX11, "named", "(IJ)I"⟩
abbrev cX11_lookedAt : ByteArray := prog_13_method_18_code
def yX11_lookedAt : MethodName := ⟨RX11, "lookedAt", "(II)I"⟩
abbrev cX11_number : ByteArray := prog_13_method_19_code
def yX11_number : MethodName := ⟨RX11, "number", "(II)I"⟩
abbrev cX11_add : ByteArray := prog_13_method_20_code
def yX11_add : MethodName := ⟨RX11, "add", "(II)V"⟩
abbrev cX11_rank : ByteArray := prog_13_method_21_code
def yX11_rank : MethodName := ⟨RX11, "rank", "(I)I"⟩
abbrev cX11_joins : ByteArray := prog_13_method_22_code
def yX11_joins : MethodName := ⟨RX11, "joins", "(I)V"⟩
abbrev cX11_holdsBack : ByteArray := prog_13_method_23_code
def yX11_holdsBack : MethodName := ⟨RX11, "holdsBack", "(I)V"⟩
abbrev cX11_pushes : ByteArray := prog_13_method_24_code
def yX11_pushes : MethodName := ⟨RX11, "pushes", "(I)V"⟩
abbrev cX11_opens : ByteArray := prog_13_method_25_code
def yX11_opens : MethodName := ⟨RX11, "opens", "(I)V"⟩
abbrev cX11_isTest : ByteArray := prog_13_method_26_code
def yX11_isTest : MethodName := ⟨RX11, "isTest", "(I)Z"⟩
abbrev cX11_operand : ByteArray := prog_13_method_27_code
def yX11_operand : MethodName := ⟨RX11, "operand", "()Z"⟩
abbrev cX11_goesOn : ByteArray := prog_13_method_28_code
def yX11_goesOn : MethodName := ⟨RX11, "goesOn", "()Z"⟩
abbrev cX11_reads : ByteArray := prog_13_method_29_code
def yX11_reads : MethodName := ⟨RX11, "reads", "(Z)V"⟩
abbrev cX11_counts : ByteArray := prog_13_method_30_code
def yX11_counts : MethodName := ⟨RX11, "counts", "(Z)Z"⟩
abbrev cX11_must_ : ByteArray := prog_13_method_31_code
def yX11_must_ : MethodName := ⟨RX11, "must", "(J)V"⟩
abbrev cX11_fresh : ByteArray := prog_13_method_32_code
def yX11_fresh : MethodName := ⟨RX11, "fresh", "()J"⟩
abbrev cX11_asked : ByteArray := prog_13_method_33_code
def yX11_asked : MethodName := ⟨RX11, "asked", "(I)I"⟩
abbrev cX11_tunnelling : ByteArray := prog_13_method_34_code
def yX11_tunnelling : MethodName := ⟨RX11, "tunnelling", "()V"⟩
abbrev cX11_holdering : ByteArray := prog_13_method_35_code
def yX11_holdering : MethodName := ⟨RX11, "holdering", "()V"⟩
abbrev cX11_thinking : ByteArray := prog_13_method_36_code
def yX11_thinking : MethodName := ⟨RX11, "thinking", "()V"⟩
abbrev cX11_giving : ByteArray := prog_13_method_37_code
def yX11_giving : MethodName := ⟨RX11, "giving", "()V"⟩
abbrev cX11_worthing : ByteArray := prog_13_method_38_code
def yX11_worthing : MethodName := ⟨RX11, "worthing", "()V"⟩
abbrev cX11_tiring : ByteArray := prog_13_method_39_code
def yX11_tiring : MethodName := ⟨RX11, "tiring", "()V"⟩
abbrev cX11_telling : ByteArray := prog_13_method_40_code
def yX11_telling : MethodName := ⟨RX11, "telling", "(Z)V"⟩
abbrev cX11_statement : ByteArray := prog_13_method_41_code
def yX11_statement : MethodName := ⟨RX11, "statement", "()V"⟩
abbrev cX11_finishes : ByteArray := prog_13_method_42_code
def yX11_finishes : MethodName := ⟨RX11, "finishes", "(I)V"⟩
abbrev cX11_road : ByteArray := prog_13_method_43_code
def yX11_road : MethodName := ⟨RX11, "road", "()I"⟩
abbrev cX11_fault : ByteArray := prog_13_method_44_code
def yX11_fault : MethodName := ⟨RX11, "fault", "(I)I"⟩
abbrev cX11_refuses : ByteArray := prog_13_method_45_code
def yX11_refuses : MethodName := ⟨RX11, "refuses", "(I)I"⟩
abbrev cX11_status : ByteArray := prog_13_method_46_code
def yX11_status : MethodName := ⟨RX11, "status", "(I)I"⟩
abbrev cX11_isTunnel : ByteArray := prog_13_method_47_code
def yX11_isTunnel : MethodName := ⟨RX11, "isTunnel", "(I)Z"⟩
abbrev cX11_isHolder : ByteArray := prog_13_method_48_code
def yX11_isHolder : MethodName := ⟨RX11, "isHolder", "(I)Z"⟩
abbrev cX11_lengthsOf : ByteArray := prog_13_method_49_code
def yX11_lengthsOf : MethodName := ⟨RX11, "lengthsOf", "(I)I"⟩
abbrev cX11_lengthAt : ByteArray := prog_13_method_50_code
def yX11_lengthAt : MethodName := ⟨RX11, "lengthAt", "(II)I"⟩
abbrev cX11_weightAt : ByteArray := prog_13_method_51_code
def yX11_weightAt : MethodName := ⟨RX11, "weightAt", "(II)I"⟩
abbrev cX11_weights : ByteArray := prog_13_method_52_code
def yX11_weights : MethodName := ⟨RX11, "weights", "(I)I"⟩
abbrev cX11_copies : ByteArray := prog_13_method_54_code
def yX11_copies : MethodName := ⟨RX11, "copies", "(II)V"⟩
abbrev cX11_begin : ByteArray := prog_13_method_55_code
def yX11_begin : MethodName := ⟨RX11, "begin", "()V"⟩
abbrev cX11_ring : ByteArray := prog_13_method_56_code
def yX11_ring : MethodName := ⟨RX11, "ring", "(I)I"⟩
abbrev cX11_keeps : ByteArray := prog_13_method_57_code
def yX11_keeps : MethodName := ⟨RX11, "keeps", "()V"⟩
abbrev cX11_undo : ByteArray := prog_13_method_58_code
def yX11_undo : MethodName := ⟨RX11, "undo", "()Z"⟩
abbrev cX11_part : ByteArray := prog_13_method_59_code
def yX11_part : MethodName := ⟨RX11, "part", "(II)J"⟩
abbrev cX11_held : ByteArray := prog_13_method_60_code
def yX11_held : MethodName := ⟨RX11, "held", "(J)J"⟩
abbrev cX11_floor : ByteArray := prog_13_method_61_code
def yX11_floor : MethodName := ⟨RX11, "floor", "(JJ)J"⟩
abbrev cX11_two : ByteArray := prog_13_method_62_code
def yX11_two : MethodName := ⟨RX11, "two", "(IJJ)J"⟩
abbrev cX11_reckons : ByteArray := prog_13_method_63_code
def yX11_reckons : MethodName := ⟨RX11, "reckons", "(II)J"⟩
abbrev cX11_between : ByteArray := prog_13_method_64_code
def yX11_between : MethodName := ⟨RX11, "between", "(JII)I"⟩
abbrev cX11_asks : ByteArray := prog_13_method_65_code
def yX11_asks : MethodName := ⟨RX11, "asks", "(IIIIII)V"⟩
abbrev cX11_worthNow : ByteArray := prog_13_method_66_code
def yX11_worthNow : MethodName := ⟨RX11, "worthNow", "()I"⟩
abbrev cX11_breathNow : ByteArray := prog_13_method_67_code
def yX11_breathNow : MethodName := ⟨RX11, "breathNow", "()I"⟩
abbrev cX11_worthAlone : ByteArray := prog_13_method_68_code
def yX11_worthAlone : MethodName := ⟨RX11, "worthAlone", "(IIII)I"⟩
abbrev cX11_lesser : ByteArray := prog_13_method_69_code
def yX11_lesser : MethodName := ⟨RX11, "lesser", "(II)I"⟩
abbrev cX11_holdOf : ByteArray := prog_13_method_70_code
def yX11_holdOf : MethodName := ⟨RX11, "holdOf", "(III)I"⟩
abbrev cX11_allHold : ByteArray := prog_13_method_71_code
def yX11_allHold : MethodName := ⟨RX11, "allHold", "(II)V"⟩
abbrev cX11_asksRow : ByteArray := prog_13_method_72_code
def yX11_asksRow : MethodName := ⟨RX11, "asksRow", "(III)V"⟩
abbrev cX11_worthRow : ByteArray := prog_13_method_73_code
def yX11_worthRow : MethodName := ⟨RX11, "worthRow", "(III)I"⟩
abbrev cX11_has : ByteArray := prog_13_method_74_code
def yX11_has : MethodName := ⟨RX11, "has", "(I)I"⟩
abbrev cX11_letter : ByteArray := prog_13_method_75_code
def yX11_letter : MethodName := ⟨RX11, "letter", "(III)I"⟩
abbrev cX11_tunnel : ByteArray := prog_13_method_76_code
def yX11_tunnel : MethodName := ⟨RX11, "tunnel", "(II)I"⟩
abbrev cX11_holder : ByteArray := prog_13_method_77_code
def yX11_holder : MethodName := ⟨RX11, "holder", "(II)I"⟩
abbrev cX11_score : ByteArray := prog_13_method_78_code
def yX11_score : MethodName := ⟨RX11, "score", "(I)I"⟩
abbrev cX11_likely : ByteArray := prog_13_method_79_code
def yX11_likely : MethodName := ⟨RX11, "likely", "(II)I"⟩
abbrev cX11_canBe : ByteArray := prog_13_method_80_code
def yX11_canBe : MethodName := ⟨RX11, "canBe", "(III)Z"⟩
abbrev cX11_holds : ByteArray := prog_13_method_81_code
def yX11_holds : MethodName := ⟨RX11, "holds", "(III)I"⟩
abbrev cX11_made : ByteArray := prog_13_method_82_code
def yX11_made : MethodName := ⟨RX11, "made", "(II)I"⟩
abbrev cX11_worth : ByteArray := prog_13_method_83_code
def yX11_worth : MethodName := ⟨RX11, "worth", "(III)I"⟩
abbrev cX11_tired : ByteArray := prog_13_method_84_code
def yX11_tired : MethodName := ⟨RX11, "tired", "(IIII)I"⟩
abbrev cX11_thousandths : ByteArray := prog_13_method_85_code
def yX11_thousandths : MethodName := ⟨RX11, "thousandths", "(JJ)I"⟩
abbrev cX11_findsAlone : ByteArray := prog_13_method_86_code
def yX11_findsAlone : MethodName := ⟨RX11, "findsAlone", "(II)V"⟩
abbrev cX11_alone : ByteArray := prog_13_method_87_code
def yX11_alone : MethodName := ⟨RX11, "alone", "(III)I"⟩
abbrev cX11_findsOn : ByteArray := prog_13_method_88_code
def yX11_findsOn : MethodName := ⟨RX11, "findsOn", "(IIIJ)V"⟩
abbrev cX11_on : ByteArray := prog_13_method_89_code
def yX11_on : MethodName := ⟨RX11, "on", "(III)I"⟩
abbrev cX11_worthBy : ByteArray := prog_13_method_90_code
def yX11_worthBy : MethodName := ⟨RX11, "worthBy", "(III)J"⟩
abbrev cX11_takes : ByteArray := prog_13_method_91_code
def yX11_takes : MethodName := ⟨RX11, "takes", "(II)Z"⟩
abbrev cX11_rest : ByteArray := prog_13_method_92_code
def yX11_rest : MethodName := ⟨RX11, "rest", "(II)I"⟩
abbrev cX11_hidden : ByteArray := prog_13_method_93_code
def yX11_hidden : MethodName := ⟨RX11, "hidden", "(III)I"⟩
abbrev cX11_madeBy : ByteArray := prog_13_method_94_code
def yX11_madeBy : MethodName := ⟨RX11, "madeBy", "(II)I"⟩
abbrev cX11_pace : ByteArray := prog_13_method_95_code
def yX11_pace : MethodName := ⟨RX11, "pace", "(III)I"⟩
abbrev cX11_whom : ByteArray := prog_13_method_96_code
def yX11_whom : MethodName := ⟨RX11, "whom", "(III)I"⟩
abbrev cX11_faces : ByteArray := prog_13_method_97_code
def yX11_faces : MethodName := ⟨RX11, "faces", "(I)I"⟩
abbrev cX11_isByFaces : ByteArray := prog_13_method_98_code
def yX11_isByFaces : MethodName := ⟨RX11, "isByFaces", "(I)Z"⟩
abbrev cX11_fit : ByteArray := prog_13_method_99_code
def yX11_fit : MethodName := ⟨RX11, "fit", "(I)I"⟩
abbrev cX11_draw : ByteArray := prog_13_method_100_code
def yX11_draw : MethodName := ⟨RX11, "draw", "(I)I"⟩
abbrev cX11_writesDown : ByteArray := prog_13_method_101_code
def yX11_writesDown : MethodName := ⟨RX11, "writesDown", "(III)V"⟩
abbrev cX11_laughing : ByteArray := prog_13_method_102_code
def yX11_laughing : MethodName := ⟨RX11, "laughing", "(II)I"⟩
abbrev cX11_driven : ByteArray := prog_13_method_103_code
def yX11_driven : MethodName := ⟨RX11, "driven", "()I"⟩
abbrev cX11_drive : ByteArray := prog_13_method_104_code
def yX11_drive : MethodName := ⟨RX11, "drive", "(I)I"⟩
abbrev cX11_pause : ByteArray := prog_13_method_105_code
def yX11_pause : MethodName := ⟨RX11, "pause", "()I"⟩
abbrev cX11_believe : ByteArray := prog_13_method_106_code
def yX11_believe : MethodName := ⟨RX11, "believe", "(III)I"⟩
abbrev cX11_give : ByteArray := prog_13_method_107_code
def yX11_give : MethodName := ⟨RX11, "give", "(II)I"⟩
abbrev cX11_seed : ByteArray := prog_13_method_108_code
def yX11_seed : MethodName := ⟨RX11, "seed", "(I)Z"⟩
abbrev cX11_kept : ByteArray := prog_13_method_109_code
def yX11_kept : MethodName := ⟨RX11, "kept", "(II)I"⟩
abbrev cX11_writes : ByteArray := prog_13_method_110_code
def yX11_writes : MethodName := ⟨RX11, "writes", "(I)V"⟩
abbrev cX11_image : ByteArray := prog_13_method_111_code
def yX11_image : MethodName := ⟨RX11, "image", "()I"⟩
abbrev cX11_octet : ByteArray := prog_13_method_112_code
def yX11_octet : MethodName := ⟨RX11, "octet", "(I)I"⟩
abbrev cX11_holderOn : ByteArray := prog_13_method_113_code
def yX11_holderOn : MethodName := ⟨RX11, "holderOn", "(II)Z"⟩
abbrev cX11_comesOn : ByteArray := prog_13_method_114_code
def yX11_comesOn : MethodName := ⟨RX11, "comesOn", "(I)Z"⟩
abbrev cX11_goOn : ByteArray := prog_13_method_115_code
def yX11_goOn : MethodName := ⟨RX11, "goOn", "()Z"⟩
def RJx145de : String := "java/io/Serializable"
def TJx145de : u_T := fun k => match k with
  | _ => ("", "", "", false)
def tyJx145de : Nat → FieldType := fun k => match k with
  | _ => .int
abbrev wsJx145de0 : List Cond := u_ws RJx145de TJx145de 0
theorem nmJx145de : ∀ a, a < 0 → ∀ b, b < 0 → a ≠ b → (TJx145de a).2.1 ≠ (TJx145de b).2.1 := by decide +kernel
theorem tyJx145de_ok : ∀ k, k < 0 → parseFieldDescriptor (TJx145de k).2.2.1 = some (tyJx145de k) := by decide +kernel
def RJx9f9b0 : String := "java/lang/CharSequence"
def TJx9f9b0 : u_T := fun k => match k with
  | _ => ("", "", "", false)
def tyJx9f9b0 : Nat → FieldType := fun k => match k with
  | _ => .int
abbrev wsJx9f9b00 : List Cond := u_ws RJx9f9b0 TJx9f9b0 0
theorem nmJx9f9b0 : ∀ a, a < 0 → ∀ b, b < 0 → a ≠ b → (TJx9f9b0 a).2.1 ≠ (TJx9f9b0 b).2.1 := by decide +kernel
theorem tyJx9f9b0_ok : ∀ k, k < 0 → parseFieldDescriptor (TJx9f9b0 k).2.2.1 = some (tyJx9f9b0 k) := by decide +kernel
def RJ11 : String := "java/lang/Character"
def TJ11 : u_T := fun k => match k with
  | _ => ("", "", "", false)
def tyJ11 : Nat → FieldType := fun k => match k with
  | _ => .int
abbrev wsJ110 : List Cond := u_ws RJ11 TJ11 0
theorem nmJ11 : ∀ a, a < 0 → ∀ b, b < 0 → a ≠ b → (TJ11 a).2.1 ≠ (TJ11 b).2.1 := by decide +kernel
theorem tyJ11_ok : ∀ k, k < 0 → parseFieldDescriptor (TJ11 k).2.2.1 = some (tyJ11 k) := by decide +kernel
abbrev cJ11_isValidCodePoint_9a6ad : ByteArray := prog_14_method_11_code
def yJ11_isValidCodePoint_9a6ad : MethodName := ⟨RJ11, "isValidCodePoint", "(I)Z"⟩
abbrev cJ11_highSurrogate_5068e : ByteArray := prog_14_method_28_code
def yJ11_highSurrogate_5068e : MethodName := ⟨RJ11, "highSurrogate", "(I)C"⟩
abbrev cJ11_lowSurrogate_5068e : ByteArray := prog_14_method_29_code
def yJ11_lowSurrogate_5068e : MethodName := ⟨RJ11, "lowSurrogate", "(I)C"⟩
def RJxb160c : String := "java/lang/Comparable"
def TJxb160c : u_T := fun k => match k with
  | _ => ("", "", "", false)
def tyJxb160c : Nat → FieldType := fun k => match k with
  | _ => .int
abbrev wsJxb160c0 : List Cond := u_ws RJxb160c TJxb160c 0
theorem nmJxb160c : ∀ a, a < 0 → ∀ b, b < 0 → a ≠ b → (TJxb160c a).2.1 ≠ (TJxb160c b).2.1 := by decide +kernel
theorem tyJxb160c_ok : ∀ k, k < 0 → parseFieldDescriptor (TJxb160c k).2.2.1 = some (tyJxb160c k) := by decide +kernel
def RJ6 : String := "java/lang/Integer"
def TJ6 : u_T := fun k => match k with
  | _ => ("", "", "", false)
def tyJ6 : Nat → FieldType := fun k => match k with
  | _ => .int
abbrev wsJ60 : List Cond := u_ws RJ6 TJ6 0
theorem nmJ6 : ∀ a, a < 0 → ∀ b, b < 0 → a ≠ b → (TJ6 a).2.1 ≠ (TJ6 b).2.1 := by decide +kernel
theorem tyJ6_ok : ∀ k, k < 0 → parseFieldDescriptor (TJ6 k).2.2.1 = some (tyJ6 k) := by decide +kernel
abbrev cJ6_bitCount_0f7a4 : ByteArray := prog_15_method_49_code
def yJ6_bitCount_0f7a4 : MethodName := ⟨RJ6, "bitCount", "(I)I"⟩
def RJ9 : String := "java/lang/Math"
def TJ9 : u_T := fun k => match k with
  | _ => ("", "", "", false)
def tyJ9 : Nat → FieldType := fun k => match k with
  | _ => .int
abbrev wsJ90 : List Cond := u_ws RJ9 TJ9 0
theorem nmJ9 : ∀ a, a < 0 → ∀ b, b < 0 → a ≠ b → (TJ9 a).2.1 ≠ (TJ9 b).2.1 := by decide +kernel
theorem tyJ9_ok : ∀ k, k < 0 → parseFieldDescriptor (TJ9 k).2.2.1 = some (tyJ9 k) := by decide +kernel
abbrev cJ9_floorDiv_7cf53 : ByteArray := prog_16_method_47_code
def yJ9_floorDiv_7cf53 : MethodName := ⟨RJ9, "floorDiv", "(II)I"⟩
abbrev cJ9_floorDiv_f86c9 : ByteArray := prog_16_method_49_code
def yJ9_floorDiv_f86c9 : MethodName := ⟨RJ9, "floorDiv", "(JJ)J"⟩
abbrev cJ9_floorMod_7cf53 : ByteArray := prog_16_method_50_code
def yJ9_floorMod_7cf53 : MethodName := ⟨RJ9, "floorMod", "(II)I"⟩
abbrev cJ9_max_7cf53 : ByteArray := prog_16_method_65_code
def yJ9_max_7cf53 : MethodName := ⟨RJ9, "max", "(II)I"⟩
abbrev cJ9_min_7cf53 : ByteArray := prog_16_method_69_code
def yJ9_min_7cf53 : MethodName := ⟨RJ9, "min", "(II)I"⟩
def RJ0 : String := "java/lang/String"
def TJ0 : u_T := fun k => match k with
  | _ => ("", "", "", false)
def tyJ0 : Nat → FieldType := fun k => match k with
  | _ => .int
abbrev wsJ00 : List Cond := u_ws RJ0 TJ0 0
theorem nmJ0 : ∀ a, a < 0 → ∀ b, b < 0 → a ≠ b → (TJ0 a).2.1 ≠ (TJ0 b).2.1 := by decide +kernel
theorem tyJ0_ok : ∀ k, k < 0 → parseFieldDescriptor (TJ0 k).2.2.1 = some (tyJ0 k) := by decide +kernel
abbrev cJ0_length_8abf5 : ByteArray := prog_17_method_54_code
def yJ0_length_8abf5 : MethodName := ⟨RJ0, "length", "()I"⟩
abbrev cJ0_charAt_5068e : ByteArray := prog_17_method_56_code
def yJ0_charAt_5068e : MethodName := ⟨RJ0, "charAt", "(I)C"⟩
abbrev cJ0_indexOf_0f7a4 : ByteArray := prog_17_method_79_code
def yJ0_indexOf_0f7a4 : MethodName := ⟨RJ0, "indexOf", "(I)I"⟩
abbrev cJ0_indexOf_7cf53 : ByteArray := prog_17_method_80_code
def yJ0_indexOf_7cf53 : MethodName := ⟨RJ0, "indexOf", "(II)I"⟩
abbrev cJ0_coder_7d493 : ByteArray := prog_17_method_152_code
def yJ0_coder_7d493 : MethodName := ⟨RJ0, "coder", "()B"⟩
abbrev cJ0_isLatin1_aae02 : ByteArray := prog_17_method_154_code
def yJ0_isLatin1_aae02 : MethodName := ⟨RJ0, "isLatin1", "()Z"⟩
abbrev cJ0_checkIndex_df160 : ByteArray := prog_17_method_155_code
def yJ0_checkIndex_df160 : MethodName := ⟨RJ0, "checkIndex", "(II)V"⟩
abbrev cJ0_checkBoundsBeginEnd_23922 : ByteArray := prog_17_method_158_code
def yJ0_checkBoundsBeginEnd_23922 : MethodName := ⟨RJ0, "checkBoundsBeginEnd", "(III)V"⟩
def RJ1 : String := "java/lang/StringLatin1"
def TJ1 : u_T := fun k => match k with
  | _ => ("", "", "", false)
def tyJ1 : Nat → FieldType := fun k => match k with
  | _ => .int
abbrev wsJ10 : List Cond := u_ws RJ1 TJ1 0
theorem nmJ1 : ∀ a, a < 0 → ∀ b, b < 0 → a ≠ b → (TJ1 a).2.1 ≠ (TJ1 b).2.1 := by decide +kernel
theorem tyJ1_ok : ∀ k, k < 0 → parseFieldDescriptor (TJ1 k).2.2.1 = some (tyJ1 k) := by decide +kernel
abbrev cJ1_charAt_3b067 : ByteArray := prog_18_method_2_code
def yJ1_charAt_3b067 : MethodName := ⟨RJ1, "charAt", "([BI)C"⟩
abbrev cJ1_canEncode_9a6ad : ByteArray := prog_18_method_4_code
def yJ1_canEncode_9a6ad : MethodName := ⟨RJ1, "canEncode", "(I)Z"⟩
abbrev cJ1_indexOf_4cfef : ByteArray := prog_18_method_22_code
def yJ1_indexOf_4cfef : MethodName := ⟨RJ1, "indexOf", "([BIII)I"⟩
abbrev cJ1_indexOfChar_4cfef : ByteArray := prog_18_method_23_code
def yJ1_indexOfChar_4cfef : MethodName := ⟨RJ1, "indexOfChar", "([BIII)I"⟩
def RJ2 : String := "java/lang/StringUTF16"
def TJ2 : u_T := fun k => match k with
  | _ => ("", "", "", false)
def tyJ2 : Nat → FieldType := fun k => match k with
  | _ => .int
abbrev wsJ20 : List Cond := u_ws RJ2 TJ2 0
theorem nmJ2 : ∀ a, a < 0 → ∀ b, b < 0 → a ≠ b → (TJ2 a).2.1 ≠ (TJ2 b).2.1 := by decide +kernel
theorem tyJ2_ok : ∀ k, k < 0 → parseFieldDescriptor (TJ2 k).2.2.1 = some (tyJ2 k) := by decide +kernel
abbrev cJ2_getChar_3b067 : ByteArray := prog_19_method_5_code
def yJ2_getChar_3b067 : MethodName := ⟨RJ2, "getChar", "([BI)C"⟩
abbrev cJ2_length_9d52b : ByteArray := prog_19_method_6_code
def yJ2_length_9d52b : MethodName := ⟨RJ2, "length", "([B)I"⟩
abbrev cJ2_indexOf_4cfef : ByteArray := prog_19_method_40_code
def yJ2_indexOf_4cfef : MethodName := ⟨RJ2, "indexOf", "([BIII)I"⟩
abbrev cJ2_indexOfChar_4cfef : ByteArray := prog_19_method_47_code
def yJ2_indexOfChar_4cfef : MethodName := ⟨RJ2, "indexOfChar", "([BIII)I"⟩
abbrev cJ2_indexOfCharUnsafe_4cfef : ByteArray := prog_19_method_48_code
def yJ2_indexOfCharUnsafe_4cfef : MethodName := ⟨RJ2, "indexOfCharUnsafe", "([BIII)I"⟩
abbrev cJ2_indexOfSupplementary_4cfef : ByteArray := prog_19_method_49_code
def yJ2_indexOfSupplementary_4cfef : MethodName := ⟨RJ2, "indexOfSupplementary", "([BIII)I"⟩
abbrev cJ2_charAt_3b067 : ByteArray := prog_19_method_83_code
def yJ2_charAt_3b067 : MethodName := ⟨RJ2, "charAt", "([BI)C"⟩
abbrev cJ2_checkIndex_2214a : ByteArray := prog_19_method_91_code
def yJ2_checkIndex_2214a : MethodName := ⟨RJ2, "checkIndex", "(I[B)V"⟩
abbrev cJ2_checkBoundsBeginEnd_d044e : ByteArray := prog_19_method_93_code
def yJ2_checkBoundsBeginEnd_d044e : MethodName := ⟨RJ2, "checkBoundsBeginEnd", "(II[B)V"⟩
def RJ10 : String := "java/lang/System"
def TJ10 : u_T := fun k => match k with
  | _ => ("", "", "", false)
def tyJ10 : Nat → FieldType := fun k => match k with
  | _ => .int
abbrev wsJ100 : List Cond := u_ws RJ10 TJ10 0
theorem nmJ10 : ∀ a, a < 0 → ∀ b, b < 0 → a ≠ b → (TJ10 a).2.1 ≠ (TJ10 b).2.1 := by decide +kernel
theorem tyJ10_ok : ∀ k, k < 0 → parseFieldDescriptor (TJ10 k).2.2.1 = some (tyJ10 k) := by decide +kernel
def RJxfd54e : String := "java/lang/constant/Constable"
def TJxfd54e : u_T := fun k => match k with
  | _ => ("", "", "", false)
def tyJxfd54e : Nat → FieldType := fun k => match k with
  | _ => .int
abbrev wsJxfd54e0 : List Cond := u_ws RJxfd54e TJxfd54e 0
theorem nmJxfd54e : ∀ a, a < 0 → ∀ b, b < 0 → a ≠ b → (TJxfd54e a).2.1 ≠ (TJxfd54e b).2.1 := by decide +kernel
theorem tyJxfd54e_ok : ∀ k, k < 0 → parseFieldDescriptor (TJxfd54e k).2.2.1 = some (tyJxfd54e k) := by decide +kernel
def RJx3cf43 : String := "java/lang/constant/ConstantDesc"
def TJx3cf43 : u_T := fun k => match k with
  | _ => ("", "", "", false)
def tyJx3cf43 : Nat → FieldType := fun k => match k with
  | _ => .int
abbrev wsJx3cf430 : List Cond := u_ws RJx3cf43 TJx3cf43 0
theorem nmJx3cf43 : ∀ a, a < 0 → ∀ b, b < 0 → a ≠ b → (TJx3cf43 a).2.1 ≠ (TJx3cf43 b).2.1 := by decide +kernel
theorem tyJx3cf43_ok : ∀ k, k < 0 → parseFieldDescriptor (TJx3cf43 k).2.2.1 = some (tyJx3cf43 k) := by decide +kernel
def RJ7 : String := "java/util/Arrays"
def TJ7 : u_T := fun k => match k with
  | _ => ("", "", "", false)
def tyJ7 : Nat → FieldType := fun k => match k with
  | _ => .int
abbrev wsJ70 : List Cond := u_ws RJ7 TJ7 0
theorem nmJ7 : ∀ a, a < 0 → ∀ b, b < 0 → a ≠ b → (TJ7 a).2.1 ≠ (TJ7 b).2.1 := by decide +kernel
theorem tyJ7_ok : ∀ k, k < 0 → parseFieldDescriptor (TJ7 k).2.2.1 = some (tyJ7 k) := by decide +kernel
abbrev cJ7_fill_d0a16 : ByteArray := prog_21_method_101_code
def yJ7_fill_d0a16 : MethodName := ⟨RJ7, "fill", "([JJ)V"⟩
abbrev cJ7_fill_53178 : ByteArray := prog_21_method_103_code
def yJ7_fill_53178 : MethodName := ⟨RJ7, "fill", "([II)V"⟩
def RJ3 : String := "jdk/internal/util/Preconditions"
def TJ3 : u_T := fun k => match k with
  | _ => ("", "", "", false)
def tyJ3 : Nat → FieldType := fun k => match k with
  | _ => .int
abbrev wsJ30 : List Cond := u_ws RJ3 TJ3 0
theorem nmJ3 : ∀ a, a < 0 → ∀ b, b < 0 → a ≠ b → (TJ3 a).2.1 ≠ (TJ3 b).2.1 := by decide +kernel
theorem tyJ3_ok : ∀ k, k < 0 → parseFieldDescriptor (TJ3 k).2.2.1 = some (tyJ3 k) := by decide +kernel
abbrev cJ3_checkIndex_8e157 : ByteArray := prog_22_method_11_code
def yJ3_checkIndex_8e157 : MethodName := ⟨RJ3, "checkIndex", "(IILjava/util/function/BiFunction;)I"⟩
abbrev cJ3_checkFromToIndex_8c36e : ByteArray := prog_22_method_12_code
def yJ3_checkFromToIndex_8c36e : MethodName := ⟨RJ3, "checkFromToIndex", "(IIILjava/util/function/BiFunction;)I"⟩
def RL : String := "BreathRoadLaw"
abbrev cL_law : ByteArray := code
abbrev vwCl : List vw_C := [(RX0, TX0, 13), (RX1, TX1, 4), (RX2, TX2, 3), (RX3, TX3, 2), (RX4, TX4, 4), (RX5, TX5, 11), (RX6, TX6, 16), (RX7, TX7, 1), (RX8, TX8, 6), (RX9, TX9, 2), (RX10, TX10, 11), (RX11, TX11, 79)]
/-- the tables' words that hold at every later state too -/
def TB : List Cond := lw_tbl.filter goodWord
theorem tb_in {w : Cond} (h : w ∈ lw_tbl) (g : goodWord w = true) : w ∈ TB := List.mem_filter.mpr ⟨h, g⟩
theorem tb_at (i : Nat) {w : Cond} (h : tables_1[i]? = some w) (g : goodWord w = true) : w ∈ TB := tb_in (List.mem_append_right _ (List.mem_of_getElem? h)) g
theorem tb_pv {q : MethodName × Nat} (h : q ∈ lw_privs) : Cond.selects q.1.cls q.1 q.1 ∈ TB := tb_in (List.mem_append_left _ (List.mem_map.mpr ⟨q, h, rfl⟩)) rfl
theorem tb_good : GoodIn TB TB := fun w h => ⟨h, good_of_word (List.mem_filter.mp h).2⟩
theorem inX0 : ∀ w ∈ wsX00, w ∈ TB := by
  have h : wsX00.all (fun w => decide (w ∈ tables_1) && goodWord w) = true := by decide +kernel
  intro w hw
  have h1 := List.all_eq_true.mp h w hw
  simp only [Bool.and_eq_true, decide_eq_true_eq] at h1
  exact tb_in (List.mem_append_right _ h1.1) h1.2
theorem inX1 : ∀ w ∈ wsX10, w ∈ TB := by
  have h : wsX10.all (fun w => decide (w ∈ tables_1) && goodWord w) = true := by decide +kernel
  intro w hw
  have h1 := List.all_eq_true.mp h w hw
  simp only [Bool.and_eq_true, decide_eq_true_eq] at h1
  exact tb_in (List.mem_append_right _ h1.1) h1.2
theorem inX2 : ∀ w ∈ wsX20, w ∈ TB := by
  have h : wsX20.all (fun w => decide (w ∈ tables_1) && goodWord w) = true := by decide +kernel
  intro w hw
  have h1 := List.all_eq_true.mp h w hw
  simp only [Bool.and_eq_true, decide_eq_true_eq] at h1
  exact tb_in (List.mem_append_right _ h1.1) h1.2
theorem inX3 : ∀ w ∈ wsX30, w ∈ TB := by
  have h : wsX30.all (fun w => decide (w ∈ tables_1) && goodWord w) = true := by decide +kernel
  intro w hw
  have h1 := List.all_eq_true.mp h w hw
  simp only [Bool.and_eq_true, decide_eq_true_eq] at h1
  exact tb_in (List.mem_append_right _ h1.1) h1.2
theorem inX4 : ∀ w ∈ wsX40, w ∈ TB := by
  have h : wsX40.all (fun w => decide (w ∈ tables_1) && goodWord w) = true := by decide +kernel
  intro w hw
  have h1 := List.all_eq_true.mp h w hw
  simp only [Bool.and_eq_true, decide_eq_true_eq] at h1
  exact tb_in (List.mem_append_right _ h1.1) h1.2
theorem inX5 : ∀ w ∈ wsX50, w ∈ TB := by
  have h : wsX50.all (fun w => decide (w ∈ tables_1) && goodWord w) = true := by decide +kernel
  intro w hw
  have h1 := List.all_eq_true.mp h w hw
  simp only [Bool.and_eq_true, decide_eq_true_eq] at h1
  exact tb_in (List.mem_append_right _ h1.1) h1.2
theorem inX6 : ∀ w ∈ wsX60, w ∈ TB := by
  have h : wsX60.all (fun w => decide (w ∈ tables_1) && goodWord w) = true := by decide +kernel
  intro w hw
  have h1 := List.all_eq_true.mp h w hw
  simp only [Bool.and_eq_true, decide_eq_true_eq] at h1
  exact tb_in (List.mem_append_right _ h1.1) h1.2
theorem inX7 : ∀ w ∈ wsX70, w ∈ TB := by
  have h : wsX70.all (fun w => decide (w ∈ tables_1) && goodWord w) = true := by decide +kernel
  intro w hw
  have h1 := List.all_eq_true.mp h w hw
  simp only [Bool.and_eq_true, decide_eq_true_eq] at h1
  exact tb_in (List.mem_append_right _ h1.1) h1.2
theorem inX8 : ∀ w ∈ wsX80, w ∈ TB := by
  have h : wsX80.all (fun w => decide (w ∈ tables_1) && goodWord w) = true := by decide +kernel
  intro w hw
  have h1 := List.all_eq_true.mp h w hw
  simp only [Bool.and_eq_true, decide_eq_true_eq] at h1
  exact tb_in (List.mem_append_right _ h1.1) h1.2
theorem inX9 : ∀ w ∈ wsX90, w ∈ TB := by
  have h : wsX90.all (fun w => decide (w ∈ tables_1) && goodWord w) = true := by decide +kernel
  intro w hw
  have h1 := List.all_eq_true.mp h w hw
  simp only [Bool.and_eq_true, decide_eq_true_eq] at h1
  exact tb_in (List.mem_append_right _ h1.1) h1.2
theorem inX10 : ∀ w ∈ wsX100, w ∈ TB := by
  have h : wsX100.all (fun w => decide (w ∈ tables_1) && goodWord w) = true := by decide +kernel
  intro w hw
  have h1 := List.all_eq_true.mp h w hw
  simp only [Bool.and_eq_true, decide_eq_true_eq] at h1
  exact tb_in (List.mem_append_right _ h1.1) h1.2
theorem inX11 : ∀ w ∈ wsX110, w ∈ TB := by
  have h : wsX110.all (fun w => decide (w ∈ tables_1) && goodWord w) = true := by decide +kernel
  intro w hw
  have h1 := List.all_eq_true.mp h w hw
  simp only [Bool.and_eq_true, decide_eq_true_eq] at h1
  exact tb_in (List.mem_append_right _ h1.1) h1.2
