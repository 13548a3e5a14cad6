section
-- ===== PART A: goes FIRST, ahead of the names: the tables' words, and 'selects' of the private methods out of them =====
/-- a private method of a class that the tables say can be made, by its rows of tables_1 -/
def lw_okq (q : MethodName × Nat) : Prop := (q.1.cls ≠ "java/lang/invoke/MethodHandle" ∧ q.1.cls ≠ "java/lang/invoke/VarHandle") ∧ Cond.instantiable q.1.cls q.2 ∈ tables_1 ∧ Cond.privateMethod q.1 ∈ tables_1 ∧ Cond.instanceMethod q.1 ∈ tables_1
theorem lw_p0 : lw_okq (⟨"DeepHole", "refuse", "(I)I"⟩, 12) := ⟨⟨by decide +kernel, by decide +kernel⟩, List.mem_of_getElem? (i := 25) (by decide +kernel), List.mem_of_getElem? (i := 550) (by decide +kernel), List.mem_of_getElem? (i := 551) (by decide +kernel)⟩
theorem lw_p1 : lw_okq (⟨"DeepHole$Reader", "begin", "(I)V"⟩, 15) := ⟨⟨by decide +kernel, by decide +kernel⟩, List.mem_of_getElem? (i := 33) (by decide +kernel), List.mem_of_getElem? (i := 558) (by decide +kernel), List.mem_of_getElem? (i := 559) (by decide +kernel)⟩
theorem lw_p2 : lw_okq (⟨"DeepHole$Reader", "readRod", "()V"⟩, 15) := ⟨⟨by decide +kernel, by decide +kernel⟩, List.mem_of_getElem? (i := 33) (by decide +kernel), List.mem_of_getElem? (i := 638) (by decide +kernel), List.mem_of_getElem? (i := 639) (by decide +kernel)⟩
theorem lw_p3 : lw_okq (⟨"DeepHole$Reader", "beginLine", "(ZI)V"⟩, 15) := ⟨⟨by decide +kernel, by decide +kernel⟩, List.mem_of_getElem? (i := 33) (by decide +kernel), List.mem_of_getElem? (i := 642) (by decide +kernel), List.mem_of_getElem? (i := 643) (by decide +kernel)⟩
theorem lw_p4 : lw_okq (⟨"DeepHole$Reader", "blame", "(I)V"⟩, 15) := ⟨⟨by decide +kernel, by decide +kernel⟩, List.mem_of_getElem? (i := 33) (by decide +kernel), List.mem_of_getElem? (i := 646) (by decide +kernel), List.mem_of_getElem? (i := 647) (by decide +kernel)⟩
theorem lw_p5 : lw_okq (⟨"DeepHole$Reader", "takeNumber", "(Ljava/lang/String;II)I"⟩, 15) := ⟨⟨by decide +kernel, by decide +kernel⟩, List.mem_of_getElem? (i := 33) (by decide +kernel), List.mem_of_getElem? (i := 652) (by decide +kernel), List.mem_of_getElem? (i := 653) (by decide +kernel)⟩
theorem lw_p6 : lw_okq (⟨"DeepHole$Reader", "takeWord", "(Ljava/lang/String;)V"⟩, 15) := ⟨⟨by decide +kernel, by decide +kernel⟩, List.mem_of_getElem? (i := 33) (by decide +kernel), List.mem_of_getElem? (i := 656) (by decide +kernel), List.mem_of_getElem? (i := 657) (by decide +kernel)⟩
theorem lw_p7 : lw_okq (⟨"DeepHole$Reader", "takeWhole", "(II)I"⟩, 15) := ⟨⟨by decide +kernel, by decide +kernel⟩, List.mem_of_getElem? (i := 33) (by decide +kernel), List.mem_of_getElem? (i := 660) (by decide +kernel), List.mem_of_getElem? (i := 661) (by decide +kernel)⟩
theorem lw_p8 : lw_okq (⟨"DeepHole$Reader", "readLip", "()V"⟩, 15) := ⟨⟨by decide +kernel, by decide +kernel⟩, List.mem_of_getElem? (i := 33) (by decide +kernel), List.mem_of_getElem? (i := 667) (by decide +kernel), List.mem_of_getElem? (i := 668) (by decide +kernel)⟩
theorem lw_p9 : lw_okq (⟨"DeepHole$Reader", "readCosts", "()V"⟩, 15) := ⟨⟨by decide +kernel, by decide +kernel⟩, List.mem_of_getElem? (i := 33) (by decide +kernel), List.mem_of_getElem? (i := 675) (by decide +kernel), List.mem_of_getElem? (i := 676) (by decide +kernel)⟩
theorem lw_p10 : lw_okq (⟨"DeepHole$Reader", "readWay", "()V"⟩, 15) := ⟨⟨by decide +kernel, by decide +kernel⟩, List.mem_of_getElem? (i := 33) (by decide +kernel), List.mem_of_getElem? (i := 682) (by decide +kernel), List.mem_of_getElem? (i := 683) (by decide +kernel)⟩
theorem lw_p11 : lw_okq (⟨"DeepHole$Reader", "takeNewName", "(I)V"⟩, 15) := ⟨⟨by decide +kernel, by decide +kernel⟩, List.mem_of_getElem? (i := 33) (by decide +kernel), List.mem_of_getElem? (i := 686) (by decide +kernel), List.mem_of_getElem? (i := 687) (by decide +kernel)⟩
theorem lw_p12 : lw_okq (⟨"DeepHole$Reader", "isName", "()Z"⟩, 15) := ⟨⟨by decide +kernel, by decide +kernel⟩, List.mem_of_getElem? (i := 33) (by decide +kernel), List.mem_of_getElem? (i := 690) (by decide +kernel), List.mem_of_getElem? (i := 691) (by decide +kernel)⟩
theorem lw_p13 : lw_okq (⟨"DeepHole$Reader", "findName", "()I"⟩, 15) := ⟨⟨by decide +kernel, by decide +kernel⟩, List.mem_of_getElem? (i := 33) (by decide +kernel), List.mem_of_getElem? (i := 698) (by decide +kernel), List.mem_of_getElem? (i := 699) (by decide +kernel)⟩
theorem lw_p14 : lw_okq (⟨"DeepHole$Reader", "readHard", "()V"⟩, 15) := ⟨⟨by decide +kernel, by decide +kernel⟩, List.mem_of_getElem? (i := 33) (by decide +kernel), List.mem_of_getElem? (i := 709) (by decide +kernel), List.mem_of_getElem? (i := 710) (by decide +kernel)⟩
theorem lw_p15 : lw_okq (⟨"DeepHole$Reader", "takeSide", "()I"⟩, 15) := ⟨⟨by decide +kernel, by decide +kernel⟩, List.mem_of_getElem? (i := 33) (by decide +kernel), List.mem_of_getElem? (i := 714) (by decide +kernel), List.mem_of_getElem? (i := 715) (by decide +kernel)⟩
def lw_privs_1 : List (MethodName × Nat) := [(⟨"DeepHole", "refuse", "(I)I"⟩, 12), (⟨"DeepHole$Reader", "begin", "(I)V"⟩, 15), (⟨"DeepHole$Reader", "readRod", "()V"⟩, 15), (⟨"DeepHole$Reader", "beginLine", "(ZI)V"⟩, 15), (⟨"DeepHole$Reader", "blame", "(I)V"⟩, 15), (⟨"DeepHole$Reader", "takeNumber", "(Ljava/lang/String;II)I"⟩, 15), (⟨"DeepHole$Reader", "takeWord", "(Ljava/lang/String;)V"⟩, 15), (⟨"DeepHole$Reader", "takeWhole", "(II)I"⟩, 15), (⟨"DeepHole$Reader", "readLip", "()V"⟩, 15), (⟨"DeepHole$Reader", "readCosts", "()V"⟩, 15), (⟨"DeepHole$Reader", "readWay", "()V"⟩, 15), (⟨"DeepHole$Reader", "takeNewName", "(I)V"⟩, 15), (⟨"DeepHole$Reader", "isName", "()Z"⟩, 15), (⟨"DeepHole$Reader", "findName", "()I"⟩, 15), (⟨"DeepHole$Reader", "readHard", "()V"⟩, 15), (⟨"DeepHole$Reader", "takeSide", "()I"⟩, 15)]
theorem lw_r1 : ∀ q ∈ lw_privs_1, lw_okq q := List.forall_mem_cons.mpr ⟨lw_p0, List.forall_mem_cons.mpr ⟨lw_p1, List.forall_mem_cons.mpr ⟨lw_p2, List.forall_mem_cons.mpr ⟨lw_p3, List.forall_mem_cons.mpr ⟨lw_p4, List.forall_mem_cons.mpr ⟨lw_p5, List.forall_mem_cons.mpr ⟨lw_p6, List.forall_mem_cons.mpr ⟨lw_p7, List.forall_mem_cons.mpr ⟨lw_p8, List.forall_mem_cons.mpr ⟨lw_p9, List.forall_mem_cons.mpr ⟨lw_p10, List.forall_mem_cons.mpr ⟨lw_p11, List.forall_mem_cons.mpr ⟨lw_p12, List.forall_mem_cons.mpr ⟨lw_p13, List.forall_mem_cons.mpr ⟨lw_p14, List.forall_mem_cons.mpr ⟨lw_p15, fun _ h => absurd h List.not_mem_nil⟩⟩⟩⟩⟩⟩⟩⟩⟩⟩⟩⟩⟩⟩⟩⟩
theorem lw_p16 : lw_okq (⟨"DeepHole$Reader", "readFrom", "()V"⟩, 15) := ⟨⟨by decide +kernel, by decide +kernel⟩, List.mem_of_getElem? (i := 33) (by decide +kernel), List.mem_of_getElem? (i := 722) (by decide +kernel), List.mem_of_getElem? (i := 723) (by decide +kernel)⟩
theorem lw_p17 : lw_okq (⟨"DeepHole$Reader", "takeWayName", "()I"⟩, 15) := ⟨⟨by decide +kernel, by decide +kernel⟩, List.mem_of_getElem? (i := 33) (by decide +kernel), List.mem_of_getElem? (i := 727) (by decide +kernel), List.mem_of_getElem? (i := 728) (by decide +kernel)⟩
theorem lw_p18 : lw_okq (⟨"DeepHole$Reader", "takeIfWord", "(Ljava/lang/String;)Z"⟩, 15) := ⟨⟨by decide +kernel, by decide +kernel⟩, List.mem_of_getElem? (i := 33) (by decide +kernel), List.mem_of_getElem? (i := 731) (by decide +kernel), List.mem_of_getElem? (i := 732) (by decide +kernel)⟩
theorem lw_p19 : lw_okq (⟨"DeepHole$Reader", "readSeer", "()V"⟩, 15) := ⟨⟨by decide +kernel, by decide +kernel⟩, List.mem_of_getElem? (i := 33) (by decide +kernel), List.mem_of_getElem? (i := 739) (by decide +kernel), List.mem_of_getElem? (i := 740) (by decide +kernel)⟩
theorem lw_p20 : lw_okq (⟨"DeepHole$Reader", "lookForLacks", "()V"⟩, 15) := ⟨⟨by decide +kernel, by decide +kernel⟩, List.mem_of_getElem? (i := 33) (by decide +kernel), List.mem_of_getElem? (i := 744) (by decide +kernel), List.mem_of_getElem? (i := 745) (by decide +kernel)⟩
theorem lw_p21 : lw_okq (⟨"DeepHole", "accept", "(I)I"⟩, 12) := ⟨⟨by decide +kernel, by decide +kernel⟩, List.mem_of_getElem? (i := 25) (by decide +kernel), List.mem_of_getElem? (i := 776) (by decide +kernel), List.mem_of_getElem? (i := 777) (by decide +kernel)⟩
theorem lw_p22 : lw_okq (⟨"DeepHole$Bit", "prepare", "(LDeepHole$Shop;I)V"⟩, 10) := ⟨⟨by decide +kernel, by decide +kernel⟩, List.mem_of_getElem? (i := 256) (by decide +kernel), List.mem_of_getElem? (i := 820) (by decide +kernel), List.mem_of_getElem? (i := 821) (by decide +kernel)⟩
theorem lw_p23 : lw_okq (⟨"DeepHole", "refuseNowhere", "(I)I"⟩, 12) := ⟨⟨by decide +kernel, by decide +kernel⟩, List.mem_of_getElem? (i := 25) (by decide +kernel), List.mem_of_getElem? (i := 856) (by decide +kernel), List.mem_of_getElem? (i := 857) (by decide +kernel)⟩
theorem lw_p24 : lw_okq (⟨"DeepHole", "oddsRefused", "(I)I"⟩, 12) := ⟨⟨by decide +kernel, by decide +kernel⟩, List.mem_of_getElem? (i := 25) (by decide +kernel), List.mem_of_getElem? (i := 869) (by decide +kernel), List.mem_of_getElem? (i := 870) (by decide +kernel)⟩
theorem lw_p25 : lw_okq (⟨"DeepHole$Search", "oddsBehind", "(LDeepHole$Shop;III)I"⟩, 7) := ⟨⟨by decide +kernel, by decide +kernel⟩, List.mem_of_getElem? (i := 340) (by decide +kernel), List.mem_of_getElem? (i := 878) (by decide +kernel), List.mem_of_getElem? (i := 879) (by decide +kernel)⟩
theorem lw_p26 : lw_okq (⟨"DeepHole$Search", "feedsBehind", "(LDeepHole$Shop;III)V"⟩, 7) := ⟨⟨by decide +kernel, by decide +kernel⟩, List.mem_of_getElem? (i := 340) (by decide +kernel), List.mem_of_getElem? (i := 905) (by decide +kernel), List.mem_of_getElem? (i := 906) (by decide +kernel)⟩
theorem lw_p27 : lw_okq (⟨"DeepHole$Search", "keep", "(II)V"⟩, 7) := ⟨⟨by decide +kernel, by decide +kernel⟩, List.mem_of_getElem? (i := 340) (by decide +kernel), List.mem_of_getElem? (i := 909) (by decide +kernel), List.mem_of_getElem? (i := 910) (by decide +kernel)⟩
theorem lw_p28 : lw_okq (⟨"DeepHole$Ends", "goThrough", "(LDeepHole$Shop;Z[I[I)I"⟩, 7) := ⟨⟨by decide +kernel, by decide +kernel⟩, List.mem_of_getElem? (i := 374) (by decide +kernel), List.mem_of_getElem? (i := 925) (by decide +kernel), List.mem_of_getElem? (i := 926) (by decide +kernel)⟩
theorem lw_p29 : lw_okq (⟨"DeepHole", "isInchOfRod", "(I)Z"⟩, 12) := ⟨⟨by decide +kernel, by decide +kernel⟩, List.mem_of_getElem? (i := 25) (by decide +kernel), List.mem_of_getElem? (i := 952) (by decide +kernel), List.mem_of_getElem? (i := 953) (by decide +kernel)⟩
theorem lw_p30 : lw_okq (⟨"DeepHole$Needle", "tryCause", "(LDeepHole$Shop;III)V"⟩, 7) := ⟨⟨by decide +kernel, by decide +kernel⟩, List.mem_of_getElem? (i := 404) (by decide +kernel), List.mem_of_getElem? (i := 972) (by decide +kernel), List.mem_of_getElem? (i := 973) (by decide +kernel)⟩
theorem lw_p31 : lw_okq (⟨"DeepHole$Needle", "fits", "(LDeepHole$Shop;III)Z"⟩, 7) := ⟨⟨by decide +kernel, by decide +kernel⟩, List.mem_of_getElem? (i := 404) (by decide +kernel), List.mem_of_getElem? (i := 976) (by decide +kernel), List.mem_of_getElem? (i := 977) (by decide +kernel)⟩
def lw_privs_2 : List (MethodName × Nat) := [(⟨"DeepHole$Reader", "readFrom", "()V"⟩, 15), (⟨"DeepHole$Reader", "takeWayName", "()I"⟩, 15), (⟨"DeepHole$Reader", "takeIfWord", "(Ljava/lang/String;)Z"⟩, 15), (⟨"DeepHole$Reader", "readSeer", "()V"⟩, 15), (⟨"DeepHole$Reader", "lookForLacks", "()V"⟩, 15), (⟨"DeepHole", "accept", "(I)I"⟩, 12), (⟨"DeepHole$Bit", "prepare", "(LDeepHole$Shop;I)V"⟩, 10), (⟨"DeepHole", "refuseNowhere", "(I)I"⟩, 12), (⟨"DeepHole", "oddsRefused", "(I)I"⟩, 12), (⟨"DeepHole$Search", "oddsBehind", "(LDeepHole$Shop;III)I"⟩, 7), (⟨"DeepHole$Search", "feedsBehind", "(LDeepHole$Shop;III)V"⟩, 7), (⟨"DeepHole$Search", "keep", "(II)V"⟩, 7), (⟨"DeepHole$Ends", "goThrough", "(LDeepHole$Shop;Z[I[I)I"⟩, 7), (⟨"DeepHole", "isInchOfRod", "(I)Z"⟩, 12), (⟨"DeepHole$Needle", "tryCause", "(LDeepHole$Shop;III)V"⟩, 7), (⟨"DeepHole$Needle", "fits", "(LDeepHole$Shop;III)Z"⟩, 7)]
theorem lw_r2 : ∀ q ∈ lw_privs_2, lw_okq q := List.forall_mem_cons.mpr ⟨lw_p16, List.forall_mem_cons.mpr ⟨lw_p17, List.forall_mem_cons.mpr ⟨lw_p18, List.forall_mem_cons.mpr ⟨lw_p19, List.forall_mem_cons.mpr ⟨lw_p20, List.forall_mem_cons.mpr ⟨lw_p21, List.forall_mem_cons.mpr ⟨lw_p22, List.forall_mem_cons.mpr ⟨lw_p23, List.forall_mem_cons.mpr ⟨lw_p24, List.forall_mem_cons.mpr ⟨lw_p25, List.forall_mem_cons.mpr ⟨lw_p26, List.forall_mem_cons.mpr ⟨lw_p27, List.forall_mem_cons.mpr ⟨lw_p28, List.forall_mem_cons.mpr ⟨lw_p29, List.forall_mem_cons.mpr ⟨lw_p30, List.forall_mem_cons.mpr ⟨lw_p31, fun _ h => absurd h List.not_mem_nil⟩⟩⟩⟩⟩⟩⟩⟩⟩⟩⟩⟩⟩⟩⟩⟩
theorem lw_p32 : lw_okq (⟨"DeepHole$Needle", "behindLastFelt", "()I"⟩, 7) := ⟨⟨by decide +kernel, by decide +kernel⟩, List.mem_of_getElem? (i := 404) (by decide +kernel), List.mem_of_getElem? (i := 981) (by decide +kernel), List.mem_of_getElem? (i := 982) (by decide +kernel)⟩
theorem lw_p33 : lw_okq (⟨"DeepHole$Needle", "agrees", "(II)Z"⟩, 7) := ⟨⟨by decide +kernel, by decide +kernel⟩, List.mem_of_getElem? (i := 404) (by decide +kernel), List.mem_of_getElem? (i := 988) (by decide +kernel), List.mem_of_getElem? (i := 989) (by decide +kernel)⟩
theorem lw_p34 : lw_okq (⟨"DeepHole$Hole", "moveAway", "(III)V"⟩, 7) := ⟨⟨by decide +kernel, by decide +kernel⟩, List.mem_of_getElem? (i := 250) (by decide +kernel), List.mem_of_getElem? (i := 1053) (by decide +kernel), List.mem_of_getElem? (i := 1054) (by decide +kernel)⟩
theorem lw_p35 : lw_okq (⟨"DeepHole$Bench", "prepare", "(LDeepHole$Hole;I)V"⟩, 6) := ⟨⟨by decide +kernel, by decide +kernel⟩, List.mem_of_getElem? (i := 438) (by decide +kernel), List.mem_of_getElem? (i := 1067) (by decide +kernel), List.mem_of_getElem? (i := 1068) (by decide +kernel)⟩
theorem lw_p36 : lw_okq (⟨"DeepHole$Bench", "isStraight", "(III)Z"⟩, 6) := ⟨⟨by decide +kernel, by decide +kernel⟩, List.mem_of_getElem? (i := 438) (by decide +kernel), List.mem_of_getElem? (i := 1073) (by decide +kernel), List.mem_of_getElem? (i := 1074) (by decide +kernel)⟩
theorem lw_p37 : lw_okq (⟨"DeepHole$Bench", "moveBy", "(II)I"⟩, 6) := ⟨⟨by decide +kernel, by decide +kernel⟩, List.mem_of_getElem? (i := 438) (by decide +kernel), List.mem_of_getElem? (i := 1077) (by decide +kernel), List.mem_of_getElem? (i := 1078) (by decide +kernel)⟩
theorem lw_p38 : lw_okq (⟨"DeepHole$Bench", "findOne", "(I)Z"⟩, 6) := ⟨⟨by decide +kernel, by decide +kernel⟩, List.mem_of_getElem? (i := 438) (by decide +kernel), List.mem_of_getElem? (i := 1084) (by decide +kernel), List.mem_of_getElem? (i := 1085) (by decide +kernel)⟩
theorem lw_p39 : lw_okq (⟨"DeepHole$Bench", "findTwo", "(I)Z"⟩, 6) := ⟨⟨by decide +kernel, by decide +kernel⟩, List.mem_of_getElem? (i := 438) (by decide +kernel), List.mem_of_getElem? (i := 1091) (by decide +kernel), List.mem_of_getElem? (i := 1092) (by decide +kernel)⟩
theorem lw_p40 : lw_okq (⟨"DeepHole$Walls", "narrowThree", "(II)V"⟩, 8) := ⟨⟨by decide +kernel, by decide +kernel⟩, List.mem_of_getElem? (i := 466) (by decide +kernel), List.mem_of_getElem? (i := 1140) (by decide +kernel), List.mem_of_getElem? (i := 1141) (by decide +kernel)⟩
theorem lw_p41 : lw_okq (⟨"DeepHole$Walls", "cut", "(III)V"⟩, 8) := ⟨⟨by decide +kernel, by decide +kernel⟩, List.mem_of_getElem? (i := 466) (by decide +kernel), List.mem_of_getElem? (i := 1147) (by decide +kernel), List.mem_of_getElem? (i := 1148) (by decide +kernel)⟩
theorem lw_p42 : lw_okq (⟨"java/lang/Throwable", "fillInStackTrace", "(I)Ljava/lang/Throwable;"⟩, 6) := ⟨⟨by decide +kernel, by decide +kernel⟩, List.mem_of_getElem? (i := 1212) (by decide +kernel), List.mem_of_getElem? (i := 1210) (by decide +kernel), List.mem_of_getElem? (i := 1211) (by decide +kernel)⟩
theorem lw_p43 : lw_okq (⟨"DeepHoleModel", "refused", "(I)I"⟩, 43) := ⟨⟨by decide +kernel, by decide +kernel⟩, List.mem_of_getElem? (i := 1237) (by decide +kernel), List.mem_of_getElem? (i := 1385) (by decide +kernel), List.mem_of_getElem? (i := 1386) (by decide +kernel)⟩
theorem lw_p44 : lw_okq (⟨"DeepHoleModel", "goesOn", "()V"⟩, 43) := ⟨⟨by decide +kernel, by decide +kernel⟩, List.mem_of_getElem? (i := 1237) (by decide +kernel), List.mem_of_getElem? (i := 1502) (by decide +kernel), List.mem_of_getElem? (i := 1503) (by decide +kernel)⟩
theorem lw_p45 : lw_okq (⟨"DeepHoleModel", "byteAt", "(I)I"⟩, 43) := ⟨⟨by decide +kernel, by decide +kernel⟩, List.mem_of_getElem? (i := 1237) (by decide +kernel), List.mem_of_getElem? (i := 1506) (by decide +kernel), List.mem_of_getElem? (i := 1507) (by decide +kernel)⟩
theorem lw_p46 : lw_okq (⟨"DeepHoleModel", "readShop", "()V"⟩, 43) := ⟨⟨by decide +kernel, by decide +kernel⟩, List.mem_of_getElem? (i := 1237) (by decide +kernel), List.mem_of_getElem? (i := 1517) (by decide +kernel), List.mem_of_getElem? (i := 1518) (by decide +kernel)⟩
theorem lw_p47 : lw_okq (⟨"DeepHoleModel", "readLine", "()V"⟩, 43) := ⟨⟨by decide +kernel, by decide +kernel⟩, List.mem_of_getElem? (i := 1237) (by decide +kernel), List.mem_of_getElem? (i := 1521) (by decide +kernel), List.mem_of_getElem? (i := 1522) (by decide +kernel)⟩
def lw_privs_3 : List (MethodName × Nat) := [(⟨"DeepHole$Needle", "behindLastFelt", "()I"⟩, 7), (⟨"DeepHole$Needle", "agrees", "(II)Z"⟩, 7), (⟨"DeepHole$Hole", "moveAway", "(III)V"⟩, 7), (⟨"DeepHole$Bench", "prepare", "(LDeepHole$Hole;I)V"⟩, 6), (⟨"DeepHole$Bench", "isStraight", "(III)Z"⟩, 6), (⟨"DeepHole$Bench", "moveBy", "(II)I"⟩, 6), (⟨"DeepHole$Bench", "findOne", "(I)Z"⟩, 6), (⟨"DeepHole$Bench", "findTwo", "(I)Z"⟩, 6), (⟨"DeepHole$Walls", "narrowThree", "(II)V"⟩, 8), (⟨"DeepHole$Walls", "cut", "(III)V"⟩, 8), (⟨"java/lang/Throwable", "fillInStackTrace", "(I)Ljava/lang/Throwable;"⟩, 6), (⟨"DeepHoleModel", "refused", "(I)I"⟩, 43), (⟨"DeepHoleModel", "goesOn", "()V"⟩, 43), (⟨"DeepHoleModel", "byteAt", "(I)I"⟩, 43), (⟨"DeepHoleModel", "readShop", "()V"⟩, 43), (⟨"DeepHoleModel", "readLine", "()V"⟩, 43)]
theorem lw_r3 : ∀ q ∈ lw_privs_3, lw_okq q := List.forall_mem_cons.mpr ⟨lw_p32, List.forall_mem_cons.mpr ⟨lw_p33, List.forall_mem_cons.mpr ⟨lw_p34, List.forall_mem_cons.mpr ⟨lw_p35, List.forall_mem_cons.mpr ⟨lw_p36, List.forall_mem_cons.mpr ⟨lw_p37, List.forall_mem_cons.mpr ⟨lw_p38, List.forall_mem_cons.mpr ⟨lw_p39, List.forall_mem_cons.mpr ⟨lw_p40, List.forall_mem_cons.mpr ⟨lw_p41, List.forall_mem_cons.mpr ⟨lw_p42, List.forall_mem_cons.mpr ⟨lw_p43, List.forall_mem_cons.mpr ⟨lw_p44, List.forall_mem_cons.mpr ⟨lw_p45, List.forall_mem_cons.mpr ⟨lw_p46, List.forall_mem_cons.mpr ⟨lw_p47, fun _ h => absurd h List.not_mem_nil⟩⟩⟩⟩⟩⟩⟩⟩⟩⟩⟩⟩⟩⟩⟩⟩
theorem lw_p48 : lw_okq (⟨"DeepHoleModel", "isWord", "(Ljava/lang/String;)Z"⟩, 43) := ⟨⟨by decide +kernel, by decide +kernel⟩, List.mem_of_getElem? (i := 1237) (by decide +kernel), List.mem_of_getElem? (i := 1526) (by decide +kernel), List.mem_of_getElem? (i := 1527) (by decide +kernel)⟩
theorem lw_p49 : lw_okq (⟨"DeepHoleModel", "readRod", "()V"⟩, 43) := ⟨⟨by decide +kernel, by decide +kernel⟩, List.mem_of_getElem? (i := 1237) (by decide +kernel), List.mem_of_getElem? (i := 1535) (by decide +kernel), List.mem_of_getElem? (i := 1536) (by decide +kernel)⟩
theorem lw_p50 : lw_okq (⟨"DeepHoleModel", "wrong", "(I)V"⟩, 43) := ⟨⟨by decide +kernel, by decide +kernel⟩, List.mem_of_getElem? (i := 1237) (by decide +kernel), List.mem_of_getElem? (i := 1539) (by decide +kernel), List.mem_of_getElem? (i := 1540) (by decide +kernel)⟩
theorem lw_p51 : lw_okq (⟨"DeepHoleModel", "wrongHere", "(II)V"⟩, 43) := ⟨⟨by decide +kernel, by decide +kernel⟩, List.mem_of_getElem? (i := 1237) (by decide +kernel), List.mem_of_getElem? (i := 1543) (by decide +kernel), List.mem_of_getElem? (i := 1544) (by decide +kernel)⟩
theorem lw_p52 : lw_okq (⟨"DeepHoleModel", "readPart", "(Ljava/lang/String;II)I"⟩, 43) := ⟨⟨by decide +kernel, by decide +kernel⟩, List.mem_of_getElem? (i := 1237) (by decide +kernel), List.mem_of_getElem? (i := 1548) (by decide +kernel), List.mem_of_getElem? (i := 1549) (by decide +kernel)⟩
theorem lw_p53 : lw_okq (⟨"DeepHoleModel", "readWhole", "(II)I"⟩, 43) := ⟨⟨by decide +kernel, by decide +kernel⟩, List.mem_of_getElem? (i := 1237) (by decide +kernel), List.mem_of_getElem? (i := 1552) (by decide +kernel), List.mem_of_getElem? (i := 1553) (by decide +kernel)⟩
theorem lw_p54 : lw_okq (⟨"DeepHoleModel", "readLip", "()V"⟩, 43) := ⟨⟨by decide +kernel, by decide +kernel⟩, List.mem_of_getElem? (i := 1237) (by decide +kernel), List.mem_of_getElem? (i := 1562) (by decide +kernel), List.mem_of_getElem? (i := 1563) (by decide +kernel)⟩
theorem lw_p55 : lw_okq (⟨"DeepHoleModel", "readCosts", "()V"⟩, 43) := ⟨⟨by decide +kernel, by decide +kernel⟩, List.mem_of_getElem? (i := 1237) (by decide +kernel), List.mem_of_getElem? (i := 1570) (by decide +kernel), List.mem_of_getElem? (i := 1571) (by decide +kernel)⟩
theorem lw_p56 : lw_okq (⟨"DeepHoleModel", "readWay", "()V"⟩, 43) := ⟨⟨by decide +kernel, by decide +kernel⟩, List.mem_of_getElem? (i := 1237) (by decide +kernel), List.mem_of_getElem? (i := 1577) (by decide +kernel), List.mem_of_getElem? (i := 1578) (by decide +kernel)⟩
theorem lw_p57 : lw_okq (⟨"DeepHoleModel", "readNamed", "(ZI)V"⟩, 43) := ⟨⟨by decide +kernel, by decide +kernel⟩, List.mem_of_getElem? (i := 1237) (by decide +kernel), List.mem_of_getElem? (i := 1581) (by decide +kernel), List.mem_of_getElem? (i := 1582) (by decide +kernel)⟩
theorem lw_p58 : lw_okq (⟨"DeepHoleModel", "isName", "()Z"⟩, 43) := ⟨⟨by decide +kernel, by decide +kernel⟩, List.mem_of_getElem? (i := 1237) (by decide +kernel), List.mem_of_getElem? (i := 1585) (by decide +kernel), List.mem_of_getElem? (i := 1586) (by decide +kernel)⟩
theorem lw_p59 : lw_okq (⟨"DeepHoleModel", "readHard", "()V"⟩, 43) := ⟨⟨by decide +kernel, by decide +kernel⟩, List.mem_of_getElem? (i := 1237) (by decide +kernel), List.mem_of_getElem? (i := 1600) (by decide +kernel), List.mem_of_getElem? (i := 1601) (by decide +kernel)⟩
theorem lw_p60 : lw_okq (⟨"DeepHoleModel", "readFrom", "()V"⟩, 43) := ⟨⟨by decide +kernel, by decide +kernel⟩, List.mem_of_getElem? (i := 1237) (by decide +kernel), List.mem_of_getElem? (i := 1609) (by decide +kernel), List.mem_of_getElem? (i := 1610) (by decide +kernel)⟩
theorem lw_p61 : lw_okq (⟨"DeepHoleModel", "eats", "(Ljava/lang/String;)Z"⟩, 43) := ⟨⟨by decide +kernel, by decide +kernel⟩, List.mem_of_getElem? (i := 1237) (by decide +kernel), List.mem_of_getElem? (i := 1614) (by decide +kernel), List.mem_of_getElem? (i := 1615) (by decide +kernel)⟩
theorem lw_p62 : lw_okq (⟨"DeepHoleModel", "readSeer", "()V"⟩, 43) := ⟨⟨by decide +kernel, by decide +kernel⟩, List.mem_of_getElem? (i := 1237) (by decide +kernel), List.mem_of_getElem? (i := 1618) (by decide +kernel), List.mem_of_getElem? (i := 1619) (by decide +kernel)⟩
theorem lw_p63 : lw_okq (⟨"DeepHoleModel", "begins", "(Z)V"⟩, 43) := ⟨⟨by decide +kernel, by decide +kernel⟩, List.mem_of_getElem? (i := 1237) (by decide +kernel), List.mem_of_getElem? (i := 1623) (by decide +kernel), List.mem_of_getElem? (i := 1624) (by decide +kernel)⟩
def lw_privs_4 : List (MethodName × Nat) := [(⟨"DeepHoleModel", "isWord", "(Ljava/lang/String;)Z"⟩, 43), (⟨"DeepHoleModel", "readRod", "()V"⟩, 43), (⟨"DeepHoleModel", "wrong", "(I)V"⟩, 43), (⟨"DeepHoleModel", "wrongHere", "(II)V"⟩, 43), (⟨"DeepHoleModel", "readPart", "(Ljava/lang/String;II)I"⟩, 43), (⟨"DeepHoleModel", "readWhole", "(II)I"⟩, 43), (⟨"DeepHoleModel", "readLip", "()V"⟩, 43), (⟨"DeepHoleModel", "readCosts", "()V"⟩, 43), (⟨"DeepHoleModel", "readWay", "()V"⟩, 43), (⟨"DeepHoleModel", "readNamed", "(ZI)V"⟩, 43), (⟨"DeepHoleModel", "isName", "()Z"⟩, 43), (⟨"DeepHoleModel", "readHard", "()V"⟩, 43), (⟨"DeepHoleModel", "readFrom", "()V"⟩, 43), (⟨"DeepHoleModel", "eats", "(Ljava/lang/String;)Z"⟩, 43), (⟨"DeepHoleModel", "readSeer", "()V"⟩, 43), (⟨"DeepHoleModel", "begins", "(Z)V"⟩, 43)]
theorem lw_r4 : ∀ q ∈ lw_privs_4, lw_okq q := List.forall_mem_cons.mpr ⟨lw_p48, List.forall_mem_cons.mpr ⟨lw_p49, List.forall_mem_cons.mpr ⟨lw_p50, List.forall_mem_cons.mpr ⟨lw_p51, List.forall_mem_cons.mpr ⟨lw_p52, List.forall_mem_cons.mpr ⟨lw_p53, List.forall_mem_cons.mpr ⟨lw_p54, List.forall_mem_cons.mpr ⟨lw_p55, List.forall_mem_cons.mpr ⟨lw_p56, List.forall_mem_cons.mpr ⟨lw_p57, List.forall_mem_cons.mpr ⟨lw_p58, List.forall_mem_cons.mpr ⟨lw_p59, List.forall_mem_cons.mpr ⟨lw_p60, List.forall_mem_cons.mpr ⟨lw_p61, List.forall_mem_cons.mpr ⟨lw_p62, List.forall_mem_cons.mpr ⟨lw_p63, fun _ h => absurd h List.not_mem_nil⟩⟩⟩⟩⟩⟩⟩⟩⟩⟩⟩⟩⟩⟩⟩⟩
theorem lw_p64 : lw_okq (⟨"DeepHoleModel", "done", "(I)I"⟩, 43) := ⟨⟨by decide +kernel, by decide +kernel⟩, List.mem_of_getElem? (i := 1237) (by decide +kernel), List.mem_of_getElem? (i := 1630) (by decide +kernel), List.mem_of_getElem? (i := 1631) (by decide +kernel)⟩
theorem lw_p65 : lw_okq (⟨"DeepHoleModel", "denied", "(I)Z"⟩, 43) := ⟨⟨by decide +kernel, by decide +kernel⟩, List.mem_of_getElem? (i := 1237) (by decide +kernel), List.mem_of_getElem? (i := 1646) (by decide +kernel), List.mem_of_getElem? (i := 1647) (by decide +kernel)⟩
theorem lw_p66 : lw_okq (⟨"DeepHoleModel", "granted", "()Z"⟩, 43) := ⟨⟨by decide +kernel, by decide +kernel⟩, List.mem_of_getElem? (i := 1237) (by decide +kernel), List.mem_of_getElem? (i := 1650) (by decide +kernel), List.mem_of_getElem? (i := 1651) (by decide +kernel)⟩
theorem lw_p67 : lw_okq (⟨"DeepHoleModel", "isThrough", "()Z"⟩, 43) := ⟨⟨by decide +kernel, by decide +kernel⟩, List.mem_of_getElem? (i := 1237) (by decide +kernel), List.mem_of_getElem? (i := 1658) (by decide +kernel), List.mem_of_getElem? (i := 1659) (by decide +kernel)⟩
theorem lw_p68 : lw_okq (⟨"DeepHoleModel", "bores", "([IZIII)V"⟩, 43) := ⟨⟨by decide +kernel, by decide +kernel⟩, List.mem_of_getElem? (i := 1237) (by decide +kernel), List.mem_of_getElem? (i := 1662) (by decide +kernel), List.mem_of_getElem? (i := 1663) (by decide +kernel)⟩
theorem lw_p69 : lw_okq (⟨"DeepHoleModel", "inchOf", "(IZ)I"⟩, 43) := ⟨⟨by decide +kernel, by decide +kernel⟩, List.mem_of_getElem? (i := 1237) (by decide +kernel), List.mem_of_getElem? (i := 1670) (by decide +kernel), List.mem_of_getElem? (i := 1671) (by decide +kernel)⟩
theorem lw_p70 : lw_okq (⟨"DeepHoleModel", "tilts", "([IIIIII)V"⟩, 43) := ⟨⟨by decide +kernel, by decide +kernel⟩, List.mem_of_getElem? (i := 1237) (by decide +kernel), List.mem_of_getElem? (i := 1678) (by decide +kernel), List.mem_of_getElem? (i := 1679) (by decide +kernel)⟩
theorem lw_p71 : lw_okq (⟨"DeepHoleModel", "isDone", "(I)Z"⟩, 43) := ⟨⟨by decide +kernel, by decide +kernel⟩, List.mem_of_getElem? (i := 1237) (by decide +kernel), List.mem_of_getElem? (i := 1689) (by decide +kernel), List.mem_of_getElem? (i := 1690) (by decide +kernel)⟩
theorem lw_p72 : lw_okq (⟨"DeepHoleModel", "lost", "(I)I"⟩, 43) := ⟨⟨by decide +kernel, by decide +kernel⟩, List.mem_of_getElem? (i := 1237) (by decide +kernel), List.mem_of_getElem? (i := 1693) (by decide +kernel), List.mem_of_getElem? (i := 1694) (by decide +kernel)⟩
theorem lw_p73 : lw_okq (⟨"DeepHoleModel", "isSpan", "(II)Z"⟩, 43) := ⟨⟨by decide +kernel, by decide +kernel⟩, List.mem_of_getElem? (i := 1237) (by decide +kernel), List.mem_of_getElem? (i := 1706) (by decide +kernel), List.mem_of_getElem? (i := 1707) (by decide +kernel)⟩
theorem lw_p74 : lw_okq (⟨"DeepHoleModel", "scattered", "(I)I"⟩, 43) := ⟨⟨by decide +kernel, by decide +kernel⟩, List.mem_of_getElem? (i := 1237) (by decide +kernel), List.mem_of_getElem? (i := 1710) (by decide +kernel), List.mem_of_getElem? (i := 1711) (by decide +kernel)⟩
theorem lw_p75 : lw_okq (⟨"DeepHoleModel", "gets", "(II)Z"⟩, 43) := ⟨⟨by decide +kernel, by decide +kernel⟩, List.mem_of_getElem? (i := 1237) (by decide +kernel), List.mem_of_getElem? (i := 1714) (by decide +kernel), List.mem_of_getElem? (i := 1715) (by decide +kernel)⟩
theorem lw_p76 : lw_okq (⟨"DeepHoleModel", "isNear", "(I)Z"⟩, 43) := ⟨⟨by decide +kernel, by decide +kernel⟩, List.mem_of_getElem? (i := 1237) (by decide +kernel), List.mem_of_getElem? (i := 1718) (by decide +kernel), List.mem_of_getElem? (i := 1719) (by decide +kernel)⟩
theorem lw_p77 : lw_okq (⟨"DeepHoleModel", "apart", "(I)I"⟩, 43) := ⟨⟨by decide +kernel, by decide +kernel⟩, List.mem_of_getElem? (i := 1237) (by decide +kernel), List.mem_of_getElem? (i := 1738) (by decide +kernel), List.mem_of_getElem? (i := 1739) (by decide +kernel)⟩
theorem lw_p78 : lw_okq (⟨"DeepHoleModel", "comes", "(ZI)Z"⟩, 43) := ⟨⟨by decide +kernel, by decide +kernel⟩, List.mem_of_getElem? (i := 1237) (by decide +kernel), List.mem_of_getElem? (i := 1742) (by decide +kernel), List.mem_of_getElem? (i := 1743) (by decide +kernel)⟩
theorem lw_p79 : lw_okq (⟨"DeepHoleModel", "causesOf", "()I"⟩, 43) := ⟨⟨by decide +kernel, by decide +kernel⟩, List.mem_of_getElem? (i := 1237) (by decide +kernel), List.mem_of_getElem? (i := 1762) (by decide +kernel), List.mem_of_getElem? (i := 1763) (by decide +kernel)⟩
def lw_privs_5 : List (MethodName × Nat) := [(⟨"DeepHoleModel", "done", "(I)I"⟩, 43), (⟨"DeepHoleModel", "denied", "(I)Z"⟩, 43), (⟨"DeepHoleModel", "granted", "()Z"⟩, 43), (⟨"DeepHoleModel", "isThrough", "()Z"⟩, 43), (⟨"DeepHoleModel", "bores", "([IZIII)V"⟩, 43), (⟨"DeepHoleModel", "inchOf", "(IZ)I"⟩, 43), (⟨"DeepHoleModel", "tilts", "([IIIIII)V"⟩, 43), (⟨"DeepHoleModel", "isDone", "(I)Z"⟩, 43), (⟨"DeepHoleModel", "lost", "(I)I"⟩, 43), (⟨"DeepHoleModel", "isSpan", "(II)Z"⟩, 43), (⟨"DeepHoleModel", "scattered", "(I)I"⟩, 43), (⟨"DeepHoleModel", "gets", "(II)Z"⟩, 43), (⟨"DeepHoleModel", "isNear", "(I)Z"⟩, 43), (⟨"DeepHoleModel", "apart", "(I)I"⟩, 43), (⟨"DeepHoleModel", "comes", "(ZI)Z"⟩, 43), (⟨"DeepHoleModel", "causesOf", "()I"⟩, 43)]
theorem lw_r5 : ∀ q ∈ lw_privs_5, lw_okq q := List.forall_mem_cons.mpr ⟨lw_p64, List.forall_mem_cons.mpr ⟨lw_p65, List.forall_mem_cons.mpr ⟨lw_p66, List.forall_mem_cons.mpr ⟨lw_p67, List.forall_mem_cons.mpr ⟨lw_p68, List.forall_mem_cons.mpr ⟨lw_p69, List.forall_mem_cons.mpr ⟨lw_p70, List.forall_mem_cons.mpr ⟨lw_p71, List.forall_mem_cons.mpr ⟨lw_p72, List.forall_mem_cons.mpr ⟨lw_p73, List.forall_mem_cons.mpr ⟨lw_p74, List.forall_mem_cons.mpr ⟨lw_p75, List.forall_mem_cons.mpr ⟨lw_p76, List.forall_mem_cons.mpr ⟨lw_p77, List.forall_mem_cons.mpr ⟨lw_p78, List.forall_mem_cons.mpr ⟨lw_p79, fun _ h => absurd h List.not_mem_nil⟩⟩⟩⟩⟩⟩⟩⟩⟩⟩⟩⟩⟩⟩⟩⟩
theorem lw_p80 : lw_okq (⟨"DeepHoleModel", "brings", "(I)Z"⟩, 43) := ⟨⟨by decide +kernel, by decide +kernel⟩, List.mem_of_getElem? (i := 1237) (by decide +kernel), List.mem_of_getElem? (i := 1766) (by decide +kernel), List.mem_of_getElem? (i := 1767) (by decide +kernel)⟩
theorem lw_p81 : lw_okq (⟨"DeepHoleModel", "part", "(II)I"⟩, 43) := ⟨⟨by decide +kernel, by decide +kernel⟩, List.mem_of_getElem? (i := 1237) (by decide +kernel), List.mem_of_getElem? (i := 1770) (by decide +kernel), List.mem_of_getElem? (i := 1771) (by decide +kernel)⟩
theorem lw_p82 : lw_okq (⟨"DeepHoleModel", "isShort", "()Z"⟩, 43) := ⟨⟨by decide +kernel, by decide +kernel⟩, List.mem_of_getElem? (i := 1237) (by decide +kernel), List.mem_of_getElem? (i := 1786) (by decide +kernel), List.mem_of_getElem? (i := 1787) (by decide +kernel)⟩
theorem lw_p83 : lw_okq (⟨"DeepHoleModel", "offOf", "([II)I"⟩, 43) := ⟨⟨by decide +kernel, by decide +kernel⟩, List.mem_of_getElem? (i := 1237) (by decide +kernel), List.mem_of_getElem? (i := 1790) (by decide +kernel), List.mem_of_getElem? (i := 1791) (by decide +kernel)⟩
theorem lw_p84 : lw_okq (⟨"DeepHoleModel", "last", "()I"⟩, 43) := ⟨⟨by decide +kernel, by decide +kernel⟩, List.mem_of_getElem? (i := 1237) (by decide +kernel), List.mem_of_getElem? (i := 1794) (by decide +kernel), List.mem_of_getElem? (i := 1795) (by decide +kernel)⟩
theorem lw_p85 : lw_okq (⟨"DeepHoleModel", "ringAt", "()I"⟩, 43) := ⟨⟨by decide +kernel, by decide +kernel⟩, List.mem_of_getElem? (i := 1237) (by decide +kernel), List.mem_of_getElem? (i := 1802) (by decide +kernel), List.mem_of_getElem? (i := 1803) (by decide +kernel)⟩
theorem lw_p86 : lw_okq (⟨"DeepHoleModel", "ringOf", "(I)I"⟩, 43) := ⟨⟨by decide +kernel, by decide +kernel⟩, List.mem_of_getElem? (i := 1237) (by decide +kernel), List.mem_of_getElem? (i := 1806) (by decide +kernel), List.mem_of_getElem? (i := 1807) (by decide +kernel)⟩
theorem lw_p87 : lw_okq (⟨"DeepHoleModel", "sideOf", "(I)I"⟩, 43) := ⟨⟨by decide +kernel, by decide +kernel⟩, List.mem_of_getElem? (i := 1237) (by decide +kernel), List.mem_of_getElem? (i := 1810) (by decide +kernel), List.mem_of_getElem? (i := 1811) (by decide +kernel)⟩
theorem lw_p88 : lw_okq (⟨"DeepHoleModel", "strikes", "([I[IIIIZ)V"⟩, 43) := ⟨⟨by decide +kernel, by decide +kernel⟩, List.mem_of_getElem? (i := 1237) (by decide +kernel), List.mem_of_getElem? (i := 1822) (by decide +kernel), List.mem_of_getElem? (i := 1823) (by decide +kernel)⟩
theorem lw_p89 : lw_okq (⟨"DeepHoleModel", "moved", "(III)I"⟩, 43) := ⟨⟨by decide +kernel, by decide +kernel⟩, List.mem_of_getElem? (i := 1237) (by decide +kernel), List.mem_of_getElem? (i := 1826) (by decide +kernel), List.mem_of_getElem? (i := 1827) (by decide +kernel)⟩
theorem lw_p90 : lw_okq (⟨"DeepHoleModel", "straightens", "(III)Z"⟩, 43) := ⟨⟨by decide +kernel, by decide +kernel⟩, List.mem_of_getElem? (i := 1237) (by decide +kernel), List.mem_of_getElem? (i := 1834) (by decide +kernel), List.mem_of_getElem? (i := 1835) (by decide +kernel)⟩
theorem lw_p91 : lw_okq (⟨"DeepHoleModel", "isStraight", "(I)Z"⟩, 43) := ⟨⟨by decide +kernel, by decide +kernel⟩, List.mem_of_getElem? (i := 1237) (by decide +kernel), List.mem_of_getElem? (i := 1838) (by decide +kernel), List.mem_of_getElem? (i := 1839) (by decide +kernel)⟩
theorem lw_p92 : lw_okq (⟨"DeepHoleModel", "strokesOf", "()I"⟩, 43) := ⟨⟨by decide +kernel, by decide +kernel⟩, List.mem_of_getElem? (i := 1237) (by decide +kernel), List.mem_of_getElem? (i := 1842) (by decide +kernel), List.mem_of_getElem? (i := 1843) (by decide +kernel)⟩
theorem lw_p93 : lw_okq (⟨"DeepHoleModel", "secondDoes", "(II)Z"⟩, 43) := ⟨⟨by decide +kernel, by decide +kernel⟩, List.mem_of_getElem? (i := 1237) (by decide +kernel), List.mem_of_getElem? (i := 1846) (by decide +kernel), List.mem_of_getElem? (i := 1847) (by decide +kernel)⟩
theorem lw_p94 : lw_okq (⟨"DeepHoleModel", "spans", "(I)Z"⟩, 43) := ⟨⟨by decide +kernel, by decide +kernel⟩, List.mem_of_getElem? (i := 1237) (by decide +kernel), List.mem_of_getElem? (i := 1874) (by decide +kernel), List.mem_of_getElem? (i := 1875) (by decide +kernel)⟩
theorem lw_p95 : lw_okq (⟨"DeepHoleModel", "narrowed", "(III)Z"⟩, 43) := ⟨⟨by decide +kernel, by decide +kernel⟩, List.mem_of_getElem? (i := 1237) (by decide +kernel), List.mem_of_getElem? (i := 1878) (by decide +kernel), List.mem_of_getElem? (i := 1879) (by decide +kernel)⟩
def lw_privs_6 : List (MethodName × Nat) := [(⟨"DeepHoleModel", "brings", "(I)Z"⟩, 43), (⟨"DeepHoleModel", "part", "(II)I"⟩, 43), (⟨"DeepHoleModel", "isShort", "()Z"⟩, 43), (⟨"DeepHoleModel", "offOf", "([II)I"⟩, 43), (⟨"DeepHoleModel", "last", "()I"⟩, 43), (⟨"DeepHoleModel", "ringAt", "()I"⟩, 43), (⟨"DeepHoleModel", "ringOf", "(I)I"⟩, 43), (⟨"DeepHoleModel", "sideOf", "(I)I"⟩, 43), (⟨"DeepHoleModel", "strikes", "([I[IIIIZ)V"⟩, 43), (⟨"DeepHoleModel", "moved", "(III)I"⟩, 43), (⟨"DeepHoleModel", "straightens", "(III)Z"⟩, 43), (⟨"DeepHoleModel", "isStraight", "(I)Z"⟩, 43), (⟨"DeepHoleModel", "strokesOf", "()I"⟩, 43), (⟨"DeepHoleModel", "secondDoes", "(II)Z"⟩, 43), (⟨"DeepHoleModel", "spans", "(I)Z"⟩, 43), (⟨"DeepHoleModel", "narrowed", "(III)Z"⟩, 43)]
theorem lw_r6 : ∀ q ∈ lw_privs_6, lw_okq q := List.forall_mem_cons.mpr ⟨lw_p80, List.forall_mem_cons.mpr ⟨lw_p81, List.forall_mem_cons.mpr ⟨lw_p82, List.forall_mem_cons.mpr ⟨lw_p83, List.forall_mem_cons.mpr ⟨lw_p84, List.forall_mem_cons.mpr ⟨lw_p85, List.forall_mem_cons.mpr ⟨lw_p86, List.forall_mem_cons.mpr ⟨lw_p87, List.forall_mem_cons.mpr ⟨lw_p88, List.forall_mem_cons.mpr ⟨lw_p89, List.forall_mem_cons.mpr ⟨lw_p90, List.forall_mem_cons.mpr ⟨lw_p91, List.forall_mem_cons.mpr ⟨lw_p92, List.forall_mem_cons.mpr ⟨lw_p93, List.forall_mem_cons.mpr ⟨lw_p94, List.forall_mem_cons.mpr ⟨lw_p95, fun _ h => absurd h List.not_mem_nil⟩⟩⟩⟩⟩⟩⟩⟩⟩⟩⟩⟩⟩⟩⟩⟩
def lw_privs : List (MethodName × Nat) := lw_privs_1 ++ (lw_privs_2 ++ (lw_privs_3 ++ (lw_privs_4 ++ (lw_privs_5 ++ (lw_privs_6)))))
def lw_tbl : List Cond := k2_sels lw_privs ++ tables_1
theorem lw_privs_ok : ∀ q ∈ lw_privs, lw_okq q := by
  show ∀ q ∈ lw_privs_1 ++ (lw_privs_2 ++ (lw_privs_3 ++ (lw_privs_4 ++ (lw_privs_5 ++ (lw_privs_6))))), lw_okq q
  exact List.forall_mem_append.mpr ⟨lw_r1, List.forall_mem_append.mpr ⟨lw_r2, List.forall_mem_append.mpr ⟨lw_r3, List.forall_mem_append.mpr ⟨lw_r4, List.forall_mem_append.mpr ⟨lw_r5, lw_r6⟩⟩⟩⟩⟩
end
section
def va_AOA (t : FieldType) (U : State) : Prop := (Cond.arrayOver (.array t)).before #[] U = true
theorem va_AOA.of {t : FieldType} {A : Array Value} {U : State} (h : (Cond.arrayOver (.array t)).before A U = true) : va_AOA t U := h
theorem va_AOA.use {t : FieldType} {A : Array Value} {U : State} (h : va_AOA t U) : (Cond.arrayOver (.array t)).before A U = true := h
/-! ===== BEGIN words of one list among another's, by their places ===== -/
theorem goodIn_r {big : List Cond} (ws : List Cond) (ps : List Nat) (hp : ws = ps.filterMap (fun i => big[i]?)) (h : ws.all goodWord = true) : GoodIn big ws := by
  intro w hw
  have h1 := List.all_eq_true.mp h w hw
  rw [hp] at hw
  obtain ⟨i, -, hi⟩ := List.mem_filterMap.mp hw
  have hm : w ∈ big := by first | exact List.mem_of_getElem? hi | exact List.getElem?_mem hi
  exact ⟨hm, good_of_word h1⟩
theorem goodIn_app {big a b : List Cond} (ha : GoodIn big a) (hb : GoodIn big b) : GoodIn big (a ++ b) := fun w h => (List.mem_append.mp h).elim (ha w) (hb w)
theorem goodIn_ca {big a b : List Cond} {c : Cond} (ha : GoodIn big (c :: a)) (hb : GoodIn big b) : GoodIn big (c :: (a ++ b)) := fun w h => (List.mem_cons.mp h).elim (fun e => ha w (List.mem_cons.mpr (Or.inl e))) (fun h => (List.mem_append.mp h).elim (fun h => ha w (List.mem_cons.mpr (Or.inr h))) (hb w))
theorem goodIn_sub {big ws : List Cond} (hm : ∀ w ∈ ws, w ∈ big) (h : ws.all goodWord = true) : GoodIn big ws := fun w hw => ⟨hm w hw, good_of_word (List.all_eq_true.mp h w hw)⟩
/-! ===== END ===== -/

/-! ===== BEGIN new T[n][m]: the outer array a place, the inner ones among the pooled ===== -/
/-- f, but v at every address of l -/
def vr_up {α : Type} (f : Nat → α) (l : List Nat) (v : α) : Nat → α := fun a => if a ∈ l then v else f a
theorem vr_up_in {α : Type} {f : Nat → α} {l : List Nat} {v : α} {a : Nat} (h : a ∈ l) : vr_up f l v a = v := if_pos h
theorem vr_up_ne {α : Type} {f : Nat → α} {l : List Nat} {v : α} {a : Nat} (h : a ∉ l) : vr_up f l v a = f a := if_neg h
theorem vr_rows {L l : List Nat} {f : Nat → va_E} {e : va_E} (h : ∀ a, a ∈ l → a ∉ L) : va_pl L f ++ l.map (fun a => (a, e)) = va_pl (L ++ l) (vr_up f l e) := by
  unfold va_pl
  rw [List.map_append]
  congr 1
  · apply List.map_congr_left
    intro a ha
    rw [vr_up_ne (fun q => h a q ha)]
  · apply List.map_congr_left
    intro a ha
    rw [vr_up_in ha]
theorem vr_lay {X rows : va_W} {x : Nat × va_E} {pl : va_W} {D : va_G} {cl : List vw_C} {H : Heap} (hP : va_P D cl (((X ++ pl) ++ [x]) ++ rows) H) : va_P D cl ((X ++ [x]) ++ (pl ++ rows)) H := by
  rw [List.append_assoc (X ++ pl)] at hP
  have h := va_P.swap hP
  rw [← List.append_assoc X] at h
  have h2 := va_P.swap h
  rw [List.append_assoc (X ++ [x])] at h2
  exact h2
theorem vr_layD {X rows : va_W} {x : Nat × va_E} {pl : va_W} {A : Nat → Prop} (hD : va_D A (((X ++ pl) ++ [x]) ++ rows)) : va_D A ((X ++ [x]) ++ (pl ++ rows)) := by
  rw [List.append_assoc (X ++ pl)] at hD
  have h := va_D.swap hD
  rw [← List.append_assoc X] at h
  have h2 := va_D.swap h
  rw [List.append_assoc (X ++ [x])] at h2
  exact h2
theorem vr_outer (c : ClassId) (N h0 : Nat) : ∀ i : Nat, Jvm.Free.Multi.outerC c N h0 i = arrV c N (fun j => va_rf (if j < i then some (h0 + 1 + j) else none))
  | 0 => by
    show ({ cls := c, slots := Array.replicate N .null, vm := .none } : Cell) = _
    rw [arrV_new]
    refine congrArg (arrV c N) (funext fun j => ?_)
    simp [va_rf]
  | i + 1 => by
    show (Jvm.Free.Multi.outerC c N h0 i).setSlot i (.ref (h0 + 1 + i)) = _
    rw [vr_outer c N h0 i, arrV_store]
    refine congrArg (arrV c N) (funext fun j => ?_)
    by_cases e : j = i
    · subst e
      simp [updV, va_rf]
    · by_cases h : j < i
      · simp [updV, e, h, Nat.lt_succ_of_lt h]
      · simp [updV, e, h, show ¬ j < i + 1 by omega]
section VGM
variable {p : Program} {l : Launch} {e : Env} {R : Room} {s : State} {m : MethodId} {args : Array Value} {below : List Frame} {meth : Method} {c : Code} {H : Heap} {locs : List Loc} {cells slots : Nat} {Q : State → Prop}
variable {cc : ByteArray} {pc : Nat} {ls : Array Slot} {rest : List Value} {D : va_G} {cl : List vw_C} {A : Nat → Prop} {a : Nat} {tys : List (ClassId × FieldType)} {ws : va_W} {H0 : Heap}
theorem va_mna {X : va_W} {L : List Nat} {f : Nat → va_E} {cc : ByteArray} (hexec : p.tables.exec = Jvm.exec) (hb : c.code = cc) {own : String} {index : Nat} {ty : FieldType} {cy : ClassId} (hown : s.vm.findClass own = some m.cls) (hclink : (Cond.classLink own index ("[" ++ (FieldType.array ty).toString)).before args s = true) (hover : va_AOA ty s) (harr : (Cond.arrayClass ty).before args s = true) (hcy : s.vm.findClass (FieldType.array ty).toString = some cy)
    (hK : va_K D cl tys s) (hP : va_P D cl (X ++ va_pl L f) H) (hD : va_D A (X ++ va_pl L f)) (hS : va_S A H0 H locs) (hA : ∀ q, H0.size ≤ q → A q) {n k : Int32} {N' K' : Nat} {z : vp_A} (hn : ¬ n < 0) (hk : ¬ k < 0) (hN : n.toNatClampNeg = N') (hM : k.toNatClampNeg = K')
    (hb1 : N' * 4 ≤ 536870912) (hb2 : K' * componentBytes ty ≤ 536870912) (hb3 : K' ≤ 536870912) (hdf : fits ty (defaultValue ty) = true) (hdd : (defaultValue ty).isDefault = true) (hcells : cells + (1 + N') ≤ R.cells) (hslots : slots + (N' + N' * K') ≤ R.slots) (hz : ∀ c : ClassId, Jvm.Free.Multi.innerC c K' (defaultValue ty) = vp_cell c z) (hdg : decode cc pc = .ok (.multianewarray index 2, 4))
    (kk : ∀ (q : Nat) (r : Nat → Nat) (cA : ClassId) (H1 : Heap), (∀ i j : Nat, i < N' → j < N' → r i = r j → i = j) → (∀ i : Nat, i < N' → r i ∉ L) → va_K D cl (tys ++ [(cA, .array ty)]) s →
      va_P D cl ((X ++ [(q, .inl (cA, N', .inr (.inr (.inr (.inr (fun i => if i < N' then some (r i) else none))))))]) ++ va_pl (L ++ (List.range N').map r) (vr_up f ((List.range N').map r) (.inl (cy, z)))) H1 → va_D A ((X ++ [(q, .inl (cA, N', .inr (.inr (.inr (.inr (fun i => if i < N' then some (r i) else none))))))]) ++ va_pl (L ++ (List.range N').map r) (vr_up f ((List.range N').map r) (.inl (cy, z)))) → va_S A H0 H1 locs →
      W p l e R s m args below meth c H1 locs (cells + 1 + N') (slots + N' + N' * K') Q (F0 m (pc + 4) ls (.ref q :: rest))) : W p l e R s m args below meth c H locs cells slots Q (F0 m pc ls (.int k :: .int n :: rest)) := by
  subst hN
  subst hM
  intro T hT Xs
  obtain ⟨vm₁, cA, comp, -, fA, fC, hO, -, X', step⟩ := Xs.multianewarray2F hexec hown hclink (va_AOA.use hover) harr (g := F0 m pc ls (.int k :: .int n :: rest)) rfl (by rw [hb]; exact hdg) rfl hn hk hb1 hb2 hb3 hdf hdd hcells hslots
  have ec : some cy = some comp := hcy.symm.trans fC
  cases ec
  generalize hF : Jvm.Free.Multi.fill (T.setVm vm₁) cA cy n.toNatClampNeg k.toNatClampNeg (defaultValue ty) n.toNatClampNeg = F at X' step
  have hTh : (T.setVm vm₁).heap = H := hT
  obtain ⟨f1, f2, -, -⟩ := Jvm.Free.Multi.fill_facts (T.setVm vm₁) cA cy n.toNatClampNeg k.toNatClampNeg (defaultValue ty) n.toNatClampNeg
  rw [hF, hTh] at f1 f2
  have hold : ∀ x : Nat, x < H.size → F.heap[x]? = H[x]? := fun x hx => by
    have := Jvm.Free.Multi.fill_old (T.setVm vm₁) cA cy n.toNatClampNeg k.toNatClampNeg (defaultValue ty) (a := x) (by rw [hTh]; exact hx) n.toNatClampNeg
    rw [hF, hTh] at this
    exact this
  have hrow : ∀ j : Nat, j < n.toNatClampNeg → F.heap[H.size + 1 + j]? = some (vp_cell cy z) := fun j hj => by
    have := Jvm.Free.Multi.fill_inner (T.setVm vm₁) cA cy n.toNatClampNeg k.toNatClampNeg (defaultValue ty) n.toNatClampNeg j hj
    rw [hF, hTh, hz] at this
    exact this
  have hout : Jvm.Free.Multi.outerC cA n.toNatClampNeg H.size n.toNatClampNeg = vp_cell cA (n.toNatClampNeg, .inr (.inr (.inr (.inr (fun i => if i < n.toNatClampNeg then some (H.size + 1 + i) else none))))) := by
    rw [vp_cell_q]
    exact vr_outer cA n.toNatClampNeg H.size n.toNatClampNeg
  rw [hout] at f2
  have hlt : ∀ a, a ∈ L → a < H.size := fun a ha => by
    obtain ⟨k9, hk9⟩ := va_pl_get (X := X) (f := f) ha
    exact (hP k9 _ hk9).lt
  have hnl : ∀ i : Nat, i < n.toNatClampNeg → H.size + 1 + i ∉ L := fun i _ h => by
    have := hlt _ h
    omega
  have hnm : ∀ a, a ∈ (List.range n.toNatClampNeg).map (fun i => H.size + 1 + i) → a ∉ L := fun a ha h => by
    obtain ⟨i, -, rfl⟩ := List.mem_map.mp ha
    have := hlt _ h
    omega
  have hP0 : va_P D cl (X ++ va_pl L f) F.heap := hP.kept (fun k9 x hx => hold x.1 ((hP k9 x hx).lt))
  have hP1 : va_P D cl ((X ++ va_pl L f) ++ [(H.size, .inl (cA, n.toNatClampNeg, .inr (.inr (.inr (.inr (fun i => if i < n.toNatClampNeg then some (H.size + 1 + i) else none))))))]) F.heap := hP0.app (fun k9 x hx => by
    have h0 : k9 < 1 := (List.getElem?_eq_some_iff.mp hx).1
    rw [show k9 = 0 by omega] at hx
    cases hx
    exact f2)
  have hP2 : va_P D cl (((X ++ va_pl L f) ++ [(H.size, .inl (cA, n.toNatClampNeg, .inr (.inr (.inr (.inr (fun i => if i < n.toNatClampNeg then some (H.size + 1 + i) else none))))))]) ++ ((List.range n.toNatClampNeg).map (fun i => H.size + 1 + i)).map (fun a => (a, .inl (cy, z)))) F.heap := hP1.app (fun k9 x hx => by
    obtain ⟨a, ha, rfl⟩ := List.mem_map.mp (List.mem_of_getElem? hx)
    obtain ⟨i, hi, rfl⟩ := List.mem_map.mp ha
    exact hrow i (List.mem_range.mp hi))
  have hD2 : va_D A (((X ++ va_pl L f) ++ [(H.size, .inl (cA, n.toNatClampNeg, .inr (.inr (.inr (.inr (fun i => if i < n.toNatClampNeg then some (H.size + 1 + i) else none))))))]) ++ ((List.range n.toNatClampNeg).map (fun i => H.size + 1 + i)).map (fun a => (a, .inl (cy, z)))) := by
    have hD1 := hD.push (e := .inl (cA, n.toNatClampNeg, .inr (.inr (.inr (.inr (fun i => if i < n.toNatClampNeg then some (H.size + 1 + i) else none)))))) hP rfl (hA _ hS.1)
    generalize hW1 : (X ++ va_pl L f) ++ [(H.size, .inl (cA, n.toNatClampNeg, .inr (.inr (.inr (.inr (fun i => if i < n.toNatClampNeg then some (H.size + 1 + i) else none))))))] = W1 at hD1 hP1 ⊢
    have hle : ∀ (k9 : Nat) (x : Nat × va_E), W1[k9]? = some x → x.1 ≤ H.size := fun k9 x hx => by
      rw [← hW1] at hx
      by_cases hl : k9 < (X ++ va_pl L f).length
      · rw [List.getElem?_append_left hl] at hx
        exact Nat.le_of_lt ((hP k9 x hx).lt)
      · rw [List.getElem?_append_right (by omega)] at hx
        have h0 : k9 - (X ++ va_pl L f).length < 1 := (List.getElem?_eq_some_iff.mp hx).1
        rw [show k9 - (X ++ va_pl L f).length = 0 by omega] at hx
        cases hx
        exact Nat.le_refl _
    have hr : ∀ (k9 : Nat) (x : Nat × va_E), (((List.range n.toNatClampNeg).map (fun i => H.size + 1 + i)).map (fun a => ((a, .inl (cy, z)) : Nat × va_E)))[k9]? = some x → x.1 = H.size + 1 + k9 := fun k9 x hx => by
      rw [List.getElem?_map, List.getElem?_map] at hx
      by_cases h9 : k9 < n.toNatClampNeg
      · rw [List.getElem?_range h9] at hx
        cases hx
        rfl
      · have hn0 : (List.range n.toNatClampNeg)[k9]? = none := List.getElem?_eq_none (by rw [List.length_range]; omega)
        rw [hn0] at hx
        cases hx
    refine ⟨fun i j x y hi hj hxy => ?_, fun k9 x hx => ?_⟩
    · by_cases h1 : i < W1.length <;> by_cases h2 : j < W1.length
      · rw [List.getElem?_append_left h1] at hi
        rw [List.getElem?_append_left h2] at hj
        exact hD1.1 i j x y hi hj hxy
      · rw [List.getElem?_append_left h1] at hi
        rw [List.getElem?_append_right (by omega)] at hj
        have := hle _ _ hi
        have := hr _ _ hj
        omega
      · rw [List.getElem?_append_right (by omega)] at hi
        rw [List.getElem?_append_left h2] at hj
        have := hle _ _ hj
        have := hr _ _ hi
        omega
      · rw [List.getElem?_append_right (by omega)] at hi hj
        have := hr _ _ hi
        have := hr _ _ hj
        omega
    · by_cases h1 : k9 < W1.length
      · rw [List.getElem?_append_left h1] at hx
        exact hD1.2 k9 x hx
      · rw [List.getElem?_append_right (by omega)] at hx
        have := hr _ _ hx
        exact hA _ (by have := hS.1; omega)
  have hAr : ArrOfT s cA (.array ty) := fun N9 z9 => by
    obtain ⟨-, k9, hk9, cm9, hkk9⟩ := (hO 0 0 0).1
    exact ⟨(fun q hq => by cases hq), k9, hk9, cm9, hkk9⟩
  have hK2 : va_K D cl (tys ++ [(cA, .array ty)]) s := ⟨hK.1, fun k9 x hx => by
    by_cases hl : k9 < tys.length
    · rw [List.getElem?_append_left hl] at hx
      exact hK.2 k9 x hx
    · rw [List.getElem?_append_right (by omega)] at hx
      have h0 : k9 - tys.length < 1 := (List.getElem?_eq_some_iff.mp hx).1
      rw [show k9 - tys.length = 0 by omega] at hx
      cases hx
      exact ⟨hAr, fA⟩⟩
  obtain ⟨t, a1, b1⟩ := kk H.size (fun i => H.size + 1 + i) cA F.heap (fun i j _ _ h => by have h9 : H.size + 1 + i = H.size + 1 + j := h; omega) hnl hK2 (by rw [← vr_rows hnm]; exact vr_lay hP2) (by rw [← vr_rows hnm]; exact vr_layD hD2) ⟨by rw [f1]; have := hS.1; omega, fun x h1 h2 => (hold x (Nat.lt_of_lt_of_le h1 hS.1)).trans (hS.2.1 x h1 h2), hS.2.2⟩ F rfl X'
  refine ⟨t, step t ?_, b1⟩
  have e : T.heap.size = H.size := by rw [hT]
  rw [e]
  exact a1
end VGM
/-! ===== END ===== -/

/-! ===== BEGIN exceptions that leave a method, and their catching by the caller (launches without stack traces) ===== -/
section VXA
/-! The laws vx_back, vx_callV, vx_callS, vx_callSW, vx_throw0, vx_throwS follow proofs of the library, with one case more: JvmDerived/Free/Laws.lean (Back.of_free), Shelf42/LK1.lean (callV, callS), Shelf/KitTraced.lean (throwNew0V, throwNewS). -/
/-- where a method has thrown q: the class by its name, the cell, what was written, the world -/
def vx_T (XC : String → State → State → Prop) (st : State) (q : Addr) (t : State) (mc ms : Nat) (free : Addr → Prop) : Prop :=
  ∃ (E : String) (ce : Cell) (L : List Loc), XC E st t ∧ t.heap[q]? = some ce ∧ ce.vm = .none ∧ st.vm.findClass E = some ce.cls ∧ st.WarmedH t.vm ∧ st.sameButNew ({ t with vm := st.vm } : State) L mc ms ∧ ∀ z ∈ L, free z.base
def vx_Q (Qc : Array Value → State → Outcome → State → Prop) (XC : String → State → State → Prop) (mc ms : Nat) (free : Addr → Prop) : Array Value → State → Outcome → State → Prop := fun a st o t =>
  (Qc a st o t ∧ ∃ L, FrameEnd st o t L mc ms ∧ ∀ q ∈ L, free q.base) ∨ ∃ q, o = .threw q ∧ vx_T XC st q t mc ms free
/-- a callee that returns or throws -/
def vx_Met (l : Launch) (y : MethodName) (ws : List Cond) (rm : Room) (Pc : Array Value → State → Prop) (Qc : Array Value → State → Outcome → State → Prop) (XC : String → State → State → Prop) (mc ms : Nat) (free : Addr → Prop) : Prop :=
  MetFree l y (headSpec ws rm) Pc (fun _ _ _ _ _ => True) (vx_Q Qc XC mc ms free)
def vx_Post (XC : String → State → State → Prop) (mc ms : Nat) (free : Addr → Prop) : Pt → Array Value → Addr → Pt → Prop := fun A a q B =>
  ∃ (g : JFrame) (mk : MethodId) (t : State) (L : List Loc) (E : String) (ce : Cell), B.U.heap = t.heap ∧ B.U.vm = t.vm ∧ XC E (A.U.calling g mk a) t ∧ t.heap[q]? = some ce ∧ ce.vm = .none ∧ A.U.vm.findClass E = some ce.cls ∧ B.locs = A.locs ++ L ∧ (∀ z ∈ L, free z.base) ∧ B.cells = A.cells + mc ∧ B.slots = A.slots + ms
def vx_Back (l : Launch) (R : Room) (p : Program) (e : Env) (below : List Frame) (s : State) (sargs : Array Value) (y : MethodName) (len W9 : Nat)
    (Pre : Pt → Array Value → Prop) (Post : Pt → Array Value → Option Value → Pt → Prop) (PostX : Pt → Array Value → Addr → Pt → Prop) : Prop :=
  ∀ (m : MethodId) (meth : Method) (c : Code) (A : Pt) (g : JFrame) (ig : Instr) (mk : MethodId) (a : Array Value),
    Stand p l e R s m sargs below meth c A.U A.locs A.cells A.slots → g.method = m → g.locals.size = c.maxLocals → decode c.code g.pc = .ok (ig, len) →
    2 * g.monitorRoom + (g.stack.map fun v => v.category).sum ≤ W9 → A.U.methodNamed? y = some mk → Pre A a →
    (∃ (v : Option Value) (B : Pt), Stand p l e R s m sargs below meth c B.U B.locs B.cells B.slots ∧ Post A a v B ∧
      Steps p.tables e below (doInvoke e (A.U.setTop g) [] mk a).1 (B.U.setTop { g with pc := g.pc + len, stack := v.toList ++ g.stack })) ∨
    (∃ (q : Addr) (B : Pt), Stand p l e R s m sargs below meth c B.U B.locs B.cells B.slots ∧ PostX A a q B ∧
      Steps p.tables e below (doInvoke e (A.U.setTop g) [] mk a).1 ((B.U.setTop g).pushFrame (.throwing q)))
section Payer
variable {l : Launch} {R : Room} {p : Program} {e : Env} {below : List Frame} {s : State} {sargs : Array Value} {y : MethodName} {len W9 : Nat}
theorem vx_back {ws : List Cond} {rm : Room} {Pc : Array Value → State → Prop} {Qc : Array Value → State → Outcome → State → Prop} {XC : String → State → State → Prop} {mc ms : Nat} {free : Addr → Prop} {bytes : ByteArray} {maxL : Nat} {ret : Option FieldType}
    (hM : vx_Met l y ws rm Pc Qc XC mc ms free) (hblind : FrameBlind Pc) (hrc : rm.cells = mc) (hrs : rm.slots = ms)
    (hframes : rm.frames + 1 ≤ R.frames) (hlocals : W9 + (maxL + 11) + rm.locals ≤ R.locals)
    (hws : ∀ w ∈ ws, ∀ a' U, s.WarmedH U.vm → w.before a' U = true) (hcode : Cond.code y bytes maxL ret ∈ ws) (hinit : ∀ a' U, s.WarmedH U.vm → (Cond.initialized y.cls).before a' U = true) :
    vx_Back l R p e below s sargs y len W9 (PreOf R mc ms Pc) (PostOf Qc mc ms free) (vx_Post XC mc ms free) := by
  intro m meth c A g ig mk a X hg hsize hdg hW hn hp
  have h1 : (headSpec ws rm).pre.before a A.U = true := atoms_intro fun w hw => hws w hw _ _ X.warmed
  have h2 : (Cond.code y bytes maxL ret).before a A.U = true := hws _ hcode _ _ X.warmed
  have h3 : (Cond.initialized y.cls).before a A.U = true := hinit _ _ X.warmed
  have h4 : A.cells + (headSpec ws rm).room.cells ≤ R.cells := by rw [show (headSpec ws rm).room.cells = mc from hrc]; exact hp.1
  have h5 : A.slots + (headSpec ws rm).room.slots ≤ R.slots := by rw [show (headSpec ws rm).room.slots = ms from hrs]; exact hp.2.1
  have hPc : Pc a (A.U.calling g mk a) := hblind _ _ _ _ hp.2.2
  obtain ⟨U, Ls, c0, s0⟩ := A
  dsimp only [Pt.U, Pt.locs, Pt.cells, Pt.slots] at h1 h2 h3 h4 h5 X hn hPc ⊢
  obtain ⟨methY, cY, hmY, hcY, -, hlY, -, -, -, -⟩ := Cond.code_spec hn h2
  obtain ⟨kY, hkY, -⟩ := className_of_methodNamed hn
  have hinitY : kY.init = .initialized := Cond.initialized_spec (findClass_of_methodNamed hn) hkY h3
  have h : At U g.method c below := by rw [hg]; exact X.here
  have hlocals9 : W9 + (maxL + 11) + (headSpec ws rm).room.locals ≤ R.locals := hlocals
  have happ : (headSpec ws rm).appliesLoose y e.platform (U.calling g mk a) = true :=
    Spec.appliesLoose_calling (g := g) h hdg hn hkY hinitY
      (X.room_calling (g := g) (R' := (headSpec ws rm).room) hsize hmY hcY hframes (by rw [hlY]; omega) h4 h5) h1
  obtain ⟨mid, hmid⟩ := h.above
  have hfr : (U.setTop g).frames = (.java g :: mid) ++ below := by rw [State.frames_setTop' g h.top, hmid]; rfl
  obtain ⟨o, s₂, hsteps, -, hend, hq⟩ := Steps.callFree hM p X.admits X.cas X.clock (acts := []) hfr happ hPc trivial
  have hq' : vx_Q Qc XC mc ms free a (U.calling g mk a) o s₂ := hq
  rw [State.frames_setTop' g h.top] at hend
  obtain ⟨g₀, hg0⟩ := Option.isSome_iff_exists.mp h.top
  obtain ⟨r, hr⟩ := State.topJava?_eq_some.mp hg0
  have hr' : (({ U with heap := s₂.heap, slotsUsed := s₂.slotsUsed } : State).setVm s₂.vm).frames = .java g₀ :: r := hr
  rcases hq' with ⟨hqc, L, hfe, hL⟩ | ⟨q, rfl, E, ce, L, hx, hce, hcv, hcl, hW₂, hsm, hL⟩
  · obtain ⟨⟨v, rfl⟩, hW₂, e2, q2, q3, q4, q5, q6⟩ := id hfe
    have e3 : s₂ = ({ (U.calling g mk a).setFrames s₂.frames with heap := s₂.heap, slotsUsed := s₂.slotsUsed } : State).setVm s₂.vm := by
      have : s₂ = ({ s₂ with vm := (U.calling g mk a).vm } : State).setVm s₂.vm := rfl
      rw [e2] at this
      exact this
    obtain ⟨c₂, i₂, len₂, hc₂, hd₂, hf₂⟩ := hend
    have hW' : U.WarmedH s₂.vm := hW₂
    have hcc : c₂ = c := by
      have h1 : s₂.code? g.method = U.code? g.method := by
        rw [State.code?_eq, State.code?_eq, hW'.alike.method?]
      exact Option.some.inj (hc₂.symm.trans (h1.trans h.code))
    subst hcc
    have hlen : len₂ = len := by rw [hdg] at hd₂; cases hd₂; rfl
    subst hlen
    have hs₂ : s₂ = (({ U with heap := s₂.heap, slotsUsed := s₂.slotsUsed } : State).setVm s₂.vm).setTop { g with pc := g.pc + len₂, stack := v.toList ++ g.stack } := by
      refine e3.trans ?_
      rw [hf₂, State.calling_eq h.top, State.setFrames_setFrames, State.setTop_of_frames _ hr', hr]
      rfl
    have hsame : U.sameButNew ({ U with heap := s₂.heap, slotsUsed := s₂.slotsUsed } : State) L mc ms := by
      refine ⟨?_, q2, q3, q4, q5, q6⟩
      obtain ⟨t, ht, -⟩ := State.frames_cons hr
      show ({ U with heap := s₂.heap, slotsUsed := s₂.slotsUsed } : State) = { U.setFrames U.frames with heap := s₂.heap, slotsUsed := s₂.slotsUsed }
      rw [State.setFrames_self ht]
    subst hg
    refine Or.inl ⟨v, ⟨(({ U with heap := s₂.heap, slotsUsed := s₂.slotsUsed } : State).setVm s₂.vm), Ls ++ L, c0 + mc, s0 + ms⟩,
      ⟨X.admits, X.cas, X.clock, X.frames, X.room, X.hears, X.method, X.code, (X.here.setHeapUsed s₂.heap s₂.slotsUsed).setVm hW'.alike, X.tail, State.WarmedH.trans X.warmed hW', X.limits, X.bytes, X.same.trans (hsame.setVm s.vm)⟩,
      ⟨g, mk, s₂, L, rfl, rfl, hqc, rfl, hL, rfl, rfl⟩, ?_⟩
    show Steps p.tables e below _ ((({ U with heap := s₂.heap, slotsUsed := s₂.slotsUsed } : State).setVm s₂.vm).setTop { g with pc := g.pc + len₂, stack := v.toList ++ g.stack })
    rw [← hs₂]
    exact hsteps
  · obtain ⟨e2, q2, q3, q4, q5, q6⟩ := id hsm
    have e3 : s₂ = ({ (U.calling g mk a).setFrames s₂.frames with heap := s₂.heap, slotsUsed := s₂.slotsUsed } : State).setVm s₂.vm := by
      have : s₂ = ({ s₂ with vm := (U.calling g mk a).vm } : State).setVm s₂.vm := rfl
      rw [e2] at this
      exact this
    have hf₂ : s₂.frames = .throwing q :: .java g :: U.frames.tail := hend
    have hW' : U.WarmedH s₂.vm := hW₂
    have hs₂ : s₂ = ((({ U with heap := s₂.heap, slotsUsed := s₂.slotsUsed } : State).setVm s₂.vm).setTop g).pushFrame (.throwing q) := by
      refine e3.trans ?_
      rw [hf₂, State.calling_eq h.top, State.setFrames_setFrames, State.pushFrame, State.frames_setTop _ hr', State.setTop_of_frames _ hr', State.setFrames_setFrames, hr]
      rfl
    have hsame : U.sameButNew ({ U with heap := s₂.heap, slotsUsed := s₂.slotsUsed } : State) L mc ms := by
      refine ⟨?_, q2, q3, q4, q5, q6⟩
      obtain ⟨t, ht, -⟩ := State.frames_cons hr
      show ({ U with heap := s₂.heap, slotsUsed := s₂.slotsUsed } : State) = { U.setFrames U.frames with heap := s₂.heap, slotsUsed := s₂.slotsUsed }
      rw [State.setFrames_self ht]
    subst hg
    refine Or.inr ⟨q, ⟨(({ U with heap := s₂.heap, slotsUsed := s₂.slotsUsed } : State).setVm s₂.vm), Ls ++ L, c0 + mc, s0 + ms⟩,
      ⟨X.admits, X.cas, X.clock, X.frames, X.room, X.hears, X.method, X.code, (X.here.setHeapUsed s₂.heap s₂.slotsUsed).setVm hW'.alike, X.tail, State.WarmedH.trans X.warmed hW', X.limits, X.bytes, X.same.trans (hsame.setVm s.vm)⟩,
      ⟨g, mk, s₂, L, E, ce, rfl, rfl, hx, hce, hcv, hcl, rfl, hL, rfl, rfl⟩, ?_⟩
    show Steps p.tables e below _ (((({ U with heap := s₂.heap, slotsUsed := s₂.slotsUsed } : State).setVm s₂.vm).setTop g).pushFrame (.throwing q))
    rw [← hs₂]
    exact hsteps
end Payer
section Calls
variable {p : Program} {l : Launch} {e : Env} {R : Room} {s : State} {m : MethodId} {args : Array Value} {below : List Frame} {meth : Method} {c : Code} {T : State} {locs : List Loc} {cells slots : Nat}
theorem vx_callV (X : Stand p l e R s m args below meth c T locs cells slots) (hexec : p.tables.exec = Jvm.exec) {own C : String} {index : Nat} {y : MethodName} {bytes : ByteArray} {maxL : Nat} {ret : Option FieldType}
    (hown : s.vm.findClass own = some m.cls) (hlink : (Cond.methodLink own index y).before args s = true) (hinst : (Cond.instanceMethod y).before args s = true) (hsel : (Cond.selects C y y).before args s = true)
    (hcode : (Cond.code y bytes maxL ret).before args s = true) (hy : y.cls ≠ "java/lang/invoke/MethodHandle" ∧ y.cls ≠ "java/lang/invoke/VarHandle")
    {W9 : Nat} {Pre : Pt → Array Value → Prop} {Post : Pt → Array Value → Option Value → Pt → Prop} {PostX : Pt → Array Value → Addr → Pt → Prop} (hK : vx_Back l R p e below s args y 3 W9 Pre Post PostX)
    {b : Addr} {cellB : Cell} (hcell : T.heap[b]? = some cellB) (hobj : cellB.vm.isStatics = false) (hcls : s.vm.findClass C = some cellB.cls)
    {g : JFrame} (hg : g.method = m) (hsize : g.locals.size = c.maxLocals) {argsL rest : List Value} (hlen : ∀ sig, parseMethodDescriptor y.desc = some sig → argsL.length = sig.parameters.length)
    (hstack : g.stack = argsL.reverse ++ .ref b :: rest) (hW : 2 * g.monitorRoom + (rest.map fun v => v.category).sum ≤ W9) (hdg : decode c.code g.pc = .ok (.invokevirtual index, 3))
    (hpre : ∀ vm₁, s.WarmedH vm₁ → Pre ⟨T.setVm vm₁, locs, cells, slots⟩ (Value.ref b :: argsL).toArray) :
    (∃ (v : Option Value) (vm₁ : Vm) (B : Pt), s.WarmedH vm₁ ∧ Stand p l e R s m args below meth c B.U B.locs B.cells B.slots ∧ Post ⟨T.setVm vm₁, locs, cells, slots⟩ (Value.ref b :: argsL).toArray v B ∧
      ∀ target, Steps p.tables e below (B.U.setTop { g with pc := g.pc + 3, stack := v.toList ++ rest }) target → Steps p.tables e below (T.setTop g) target) ∨
    (∃ (q : Addr) (vm₁ : Vm) (B : Pt), s.WarmedH vm₁ ∧ Stand p l e R s m args below meth c B.U B.locs B.cells B.slots ∧ PostX ⟨T.setVm vm₁, locs, cells, slots⟩ (Value.ref b :: argsL).toArray q B ∧
      Steps p.tables e below (T.setTop g) ((B.U.setTop { g with stack := rest }).pushFrame (.throwing q))) := by
  obtain ⟨mk, methM, hnamed, hmethM, hstM, habM⟩ := Cond.instanceMethod_spec hinst
  obtain ⟨methM', cM, hmethM', -, -, -, -, -, -, hsigM⟩ := Cond.code_spec hnamed hcode
  cases hmethM.symm.trans hmethM'
  obtain ⟨c2, r2, m2, q1, q2, q3, q4, kP, hkP, hkPi⟩ := Cond.selects_spec hsel
  cases hcls.symm.trans q1
  cases (State.methodFound?_of_named hnamed hy).symm.trans q2
  cases hnamed.symm.trans q3
  have hselP : selectMethod e.platform s.vm cellB.cls mk = .method mk := by rw [Launch.admits_selectMethod X.admits]; exact q4
  obtain ⟨vm₁, X₁, hstep₁⟩ := X.invokevirtual hexec hown hlink hnamed hmethM hstM hkP hkPi hy (a := b) (cell := cellB) hcell
    (fun z h => by rw [h] at hobj; cases hobj) hselP hmethM habM hkP hkPi (g := g) hg (argsL := argsL) (rest := rest) (hlen _ hsigM) hstack hdg
  rcases hK m meth c ⟨T.setVm vm₁, locs, cells, slots⟩ { g with stack := rest } (.invokevirtual index) mk (Value.ref b :: argsL).toArray X₁ hg hsize hdg hW (X₁.named hnamed) (hpre vm₁ X₁.warmed) with ⟨v, B, X', hpost, hsteps⟩ | ⟨q, B, X', hpost, hsteps⟩
  · exact Or.inl ⟨v, vm₁, B, X₁.warmed, X', hpost, fun target h => hstep₁ _ fun acts => by rw [doInvoke_state]; exact hsteps.trans h⟩
  · exact Or.inr ⟨q, vm₁, B, X₁.warmed, X', hpost, hstep₁ _ fun acts => by rw [doInvoke_state]; exact hsteps⟩
theorem vx_callS (X : Stand p l e R s m args below meth c T locs cells slots) (hexec : p.tables.exec = Jvm.exec) {own : String} {index : Nat} {y : MethodName} {bytes : ByteArray} {maxL : Nat} {ret : Option FieldType}
    (hown : s.vm.findClass own = some m.cls) (hlink : (Cond.methodLink own index y).before args s = true) (hstat : (Cond.static y).before args s = true) (hinit : (Cond.initialized y.cls).before args s = true)
    (hcode : (Cond.code y bytes maxL ret).before args s = true) (hy : y.cls ≠ "java/lang/invoke/MethodHandle" ∧ y.cls ≠ "java/lang/invoke/VarHandle")
    {W9 : Nat} {Pre : Pt → Array Value → Prop} {Post : Pt → Array Value → Option Value → Pt → Prop} {PostX : Pt → Array Value → Addr → Pt → Prop} (hK : vx_Back l R p e below s args y 3 W9 Pre Post PostX)
    {g : JFrame} (hg : g.method = m) (hsize : g.locals.size = c.maxLocals) {argsL rest : List Value} (hlen : ∀ sig, parseMethodDescriptor y.desc = some sig → argsL.length = sig.parameters.length)
    (hstack : g.stack = argsL.reverse ++ rest) (hW : 2 * g.monitorRoom + (rest.map fun v => v.category).sum ≤ W9) (hdg : decode c.code g.pc = .ok (.invokestatic index, 3))
    (hpre : ∀ vm₁, s.WarmedH vm₁ → Pre ⟨T.setVm vm₁, locs, cells, slots⟩ argsL.toArray) :
    (∃ (v : Option Value) (vm₁ : Vm) (B : Pt), s.WarmedH vm₁ ∧ Stand p l e R s m args below meth c B.U B.locs B.cells B.slots ∧ Post ⟨T.setVm vm₁, locs, cells, slots⟩ argsL.toArray v B ∧
      ∀ target, Steps p.tables e below (B.U.setTop { g with pc := g.pc + 3, stack := v.toList ++ rest }) target → Steps p.tables e below (T.setTop g) target) ∨
    (∃ (q : Addr) (vm₁ : Vm) (B : Pt), s.WarmedH vm₁ ∧ Stand p l e R s m args below meth c B.U B.locs B.cells B.slots ∧ PostX ⟨T.setVm vm₁, locs, cells, slots⟩ argsL.toArray q B ∧
      Steps p.tables e below (T.setTop g) ((B.U.setTop { g with stack := rest }).pushFrame (.throwing q))) := by
  obtain ⟨mk, hnamed⟩ := Cond.code_named hcode
  obtain ⟨methM, cM, hmethM, -, -, -, -, -, -, hsigM⟩ := Cond.code_spec hnamed hcode
  have hstatic : methM.isStatic = true := Cond.static_spec hnamed hmethM hstat
  obtain ⟨kP, hkP, -⟩ := className_of_methodNamed hnamed
  have hinitP : kP.init = .initialized := Cond.initialized_spec (findClass_of_methodNamed hnamed) hkP hinit
  obtain ⟨vm₁, X₁, hstep₁⟩ := X.invokestatic hexec hown hlink hnamed hmethM hstatic hkP hinitP hy (g := g) hg (argsL := argsL) (rest := rest) (hlen _ hsigM) hstack hdg
  rcases hK m meth c ⟨T.setVm vm₁, locs, cells, slots⟩ { g with stack := rest } (.invokestatic index) mk argsL.toArray X₁ hg hsize hdg hW (X₁.named hnamed) (hpre vm₁ X₁.warmed) with ⟨v, B, X', hpost, hsteps⟩ | ⟨q, B, X', hpost, hsteps⟩
  · exact Or.inl ⟨v, vm₁, B, X₁.warmed, X', hpost, fun target h => hstep₁ _ fun acts => by rw [doInvoke_state]; exact hsteps.trans h⟩
  · exact Or.inr ⟨q, vm₁, B, X₁.warmed, X', hpost, hstep₁ _ fun acts => by rw [doInvoke_state]; exact hsteps⟩
end Calls
theorem vx_cls {s : State} {T : State} {vm₁ : Vm} {E : String} {k : ClassId} (hW : s.WarmedH vm₁) (h : (T.setVm vm₁).vm.findClass E = some k) : s.vm.findClass E = some k := by
  have h1 : vm₁.findClass E = some k := h
  rw [hW.alike.findClass] at h1
  exact h1
/-- the method's frame g, with q thrown over it -/
def vx_W (p : Program) (l : Launch) (e : Env) (R : Room) (s : State) (m : MethodId) (args : Array Value) (below : List Frame) (meth : Method) (c : Code) (H : Heap) (locs : List Loc) (cells slots : Nat) (Q : State → Prop) (g : JFrame) (q : Addr) : Prop :=
  ∀ T : State, T.heap = H → Stand p l e R s m args below meth c T locs cells slots → ∃ t, Steps p.tables e below ((T.setTop g).pushFrame (.throwing q)) t ∧ Q t
def vx_Run (p : Program) (l : Launch) (e : Env) (R : Room) (s : State) (m : MethodId) (args : Array Value) (below : List Frame) (meth : Method) (c : Code) (H : Heap) (locs : List Loc) (cells slots mc ms : Nat) (g : JFrame) (rest : List Value) (Qa : State → Outcome → State → Prop) (XC : String → State → State → Prop) (free : Addr → Prop) : Prop :=
  ∀ T : State, T.heap = H → Stand p l e R s m args below meth c T locs cells slots →
    (∃ (v : Option Value) (st₀ t T' : State) (L : List Loc), st₀.heap = H ∧ Stand p l e R s m args below meth c T' (locs ++ L) (cells + mc) (slots + ms) ∧ (∀ q ∈ L, free q.base) ∧ T'.heap = t.heap ∧ T'.vm = t.vm ∧ Qa st₀ (.returned v) t ∧
      Goes p e below T g T' { g with pc := g.pc + 3, stack := v.toList ++ rest }) ∨
    (∃ (q : Addr) (st₀ t T' : State) (L : List Loc) (E : String) (ce : Cell), st₀.heap = H ∧ Stand p l e R s m args below meth c T' (locs ++ L) (cells + mc) (slots + ms) ∧ (∀ z ∈ L, free z.base) ∧ T'.heap = t.heap ∧ T'.vm = t.vm ∧ XC E st₀ t ∧ t.heap[q]? = some ce ∧ ce.vm = .none ∧ s.vm.findClass E = some ce.cls ∧
      Steps p.tables e below (T.setTop g) ((T'.setTop { g with stack := rest }).pushFrame (.throwing q)))
def vx_X {S : Type} (px : S → Prop) (B : String → S → State → Prop) (A : Nat → Prop) : String → State → State → Prop := fun E st t => ∃ u : S, px u ∧ B E u t ∧ va_F A st t
section Runs
variable {p : Program} {l : Launch} {e : Env} {R : Room} {s : State} {m : MethodId} {args : Array Value} {below : List Frame} {meth : Method} {c : Code} {H : Heap} {locs : List Loc} {cells slots : Nat}
variable {y : MethodName} {bytes cc : ByteArray} {maxL nL mc ms n index : Nat} {ret : Option FieldType} {ws : List Cond} {rm : Room} {Pc : Array Value → State → Prop} {Qc : Array Value → State → Outcome → State → Prop} {XC : String → State → State → Prop} {free : Addr → Prop} {Ts : List Cond} {own C : String} {b : Addr} {As rest : List Value} {g : JFrame}
theorem vx_callBack (cb : CallB R s args own index y bytes maxL ret ws rm mc ms n) (hM : vx_Met l y ws rm Pc Qc XC mc ms free) (hbl : FrameBlind Pc) : vx_Back l R p e below s args y 3 8 (PreOf R mc ms Pc) (PostOf Qc mc ms free) (vx_Post XC mc ms free) := by
  obtain ⟨hrc, hrs, hfr, hlo, hws, hcw, -, hini, -⟩ := cb
  exact vx_back (bytes := bytes) (maxL := maxL) (ret := ret) hM hbl hrc hrs hfr hlo hws hcw (fun a' U hW => word_at hW (Or.inl (by first | rfl | simp [Cond.onTables, Cond.keeps, Cond.steady])) hini)
theorem vx_runV (S : CallFix p m c cc nL s args Ts own) (hM : vx_Met l y ws rm Pc Qc XC mc ms free) (cw : CallW R s args own C index y bytes maxL ret ws rm mc ms n) (hp : PreV s H C b Pc As)
    (hg : g.method = m) (hn : As.length = n) (hsize : g.locals.size = nL) (hstack : g.stack = As.reverse ++ .ref b :: rest) (hW : 2 * g.monitorRoom + (rest.map fun v => v.category).sum ≤ 8) (hdg : decode cc g.pc = .ok (.invokevirtual index, 3)) (hf : cells + mc ≤ R.cells ∧ slots + ms ≤ R.slots) :
    vx_Run p l e R s m args below meth c H locs cells slots mc ms g rest (Qc (Value.ref b :: As).toArray) XC free := by
  have hK : vx_Back l R p e below s args y 3 8 (PreOf R mc ms Pc) (PostOf Qc mc ms free) (vx_Post XC mc ms free) := vx_callBack cw.1 hM hp.1
  obtain ⟨⟨-, -, -, -, -, -, hcode, -, hy, hlen, hl⟩, hin, hse⟩ := cw
  obtain ⟨hx, hb, hml, ho, -⟩ := S
  obtain ⟨-, ⟨cellB, hcB, hoB, hclB⟩, hPc⟩ := hp
  intro T hT X
  rcases vx_callV X hx (C := C) (bytes := bytes) (maxL := maxL) (ret := ret) ho hl hin hse hcode hy hK (by rw [hT]; exact hcB) hoB hclB hg (hsize.trans hml.symm) (argsL := As) (rest := rest) (fun sig h => hn.trans (hlen sig h)) hstack hW (by rw [hb]; exact hdg)
    (fun vm₁ hW₁ => ⟨hf.1, hf.2, hPc (T.setVm vm₁) hT hW₁⟩) with ⟨v, vm₁, ⟨U', l2, c2, s2⟩, hW₁, X', ⟨g', mk, t, L, e1, e2, hq, h1, hL, h2, h3⟩, st⟩ | ⟨q, vm₁, ⟨U', l2, c2, s2⟩, hW₁, X', ⟨g', mk, t, L, E, ce, e1, e2, hq, hce, hcv, hcl, h1, hL, h2, h3⟩, st⟩
  · dsimp only [Pt.U, Pt.locs, Pt.cells, Pt.slots] at X' e1 e2 h1 h2 h3 st
    subst h1; subst h2; subst h3
    exact Or.inl ⟨v, (T.setVm vm₁).calling g' mk (Value.ref b :: As).toArray, t, U', L, hT, X', hL, e1, e2, hq, st⟩
  · dsimp only [Pt.U, Pt.locs, Pt.cells, Pt.slots] at X' e1 e2 h1 h2 h3 st hcl
    subst h1; subst h2; subst h3
    exact Or.inr ⟨q, (T.setVm vm₁).calling g' mk (Value.ref b :: As).toArray, t, U', L, E, ce, hT, X', hL, e1, e2, hq, hce, hcv, vx_cls hW₁ hcl, st⟩
theorem vx_runS (S : CallFix p m c cc nL s args Ts own) (hM : vx_Met l y ws rm Pc Qc XC mc ms free) (cw : CallB R s args own index y bytes maxL ret ws rm mc ms n ∧ (Cond.static y).before args s = true) (hp : PreS s H Pc As)
    (hg : g.method = m) (hn : As.length = n) (hsize : g.locals.size = nL) (hstack : g.stack = As.reverse ++ rest) (hW : 2 * g.monitorRoom + (rest.map fun v => v.category).sum ≤ 8) (hdg : decode cc g.pc = .ok (.invokestatic index, 3)) (hf : cells + mc ≤ R.cells ∧ slots + ms ≤ R.slots) :
    vx_Run p l e R s m args below meth c H locs cells slots mc ms g rest (Qc As.toArray) XC free := by
  have hK : vx_Back l R p e below s args y 3 8 (PreOf R mc ms Pc) (PostOf Qc mc ms free) (vx_Post XC mc ms free) := vx_callBack cw.1 hM hp.1
  obtain ⟨⟨-, -, -, -, -, -, hcode, hini, hy, hlen, hl⟩, hstt⟩ := cw
  obtain ⟨hx, hb, hml, ho, -⟩ := S
  intro T hT X
  rcases vx_callS X hx (bytes := bytes) (maxL := maxL) (ret := ret) ho hl hstt hini hcode hy hK hg (hsize.trans hml.symm) (argsL := As) (rest := rest) (fun sig h => hn.trans (hlen sig h)) hstack hW (by rw [hb]; exact hdg)
    (fun vm₁ hW₁ => ⟨hf.1, hf.2, hp.2 (T.setVm vm₁) hT hW₁⟩) with ⟨v, vm₁, ⟨U', l2, c2, s2⟩, hW₁, X', ⟨g', mk, t, L, e1, e2, hq, h1, hL, h2, h3⟩, st⟩ | ⟨q, vm₁, ⟨U', l2, c2, s2⟩, hW₁, X', ⟨g', mk, t, L, E, ce, e1, e2, hq, hce, hcv, hcl, h1, hL, h2, h3⟩, st⟩
  · dsimp only [Pt.U, Pt.locs, Pt.cells, Pt.slots] at X' e1 e2 h1 h2 h3 st
    subst h1; subst h2; subst h3
    exact Or.inl ⟨v, (T.setVm vm₁).calling g' mk As.toArray, t, U', L, hT, X', hL, e1, e2, hq, st⟩
  · dsimp only [Pt.U, Pt.locs, Pt.cells, Pt.slots] at X' e1 e2 h1 h2 h3 st hcl
    subst h1; subst h2; subst h3
    exact Or.inr ⟨q, (T.setVm vm₁).calling g' mk As.toArray, t, U', L, E, ce, hT, X', hL, e1, e2, hq, hce, hcv, vx_cls hW₁ hcl, st⟩
end Runs
section Rows
variable {p : Program} {l : Launch} {e : Env} {R : Room} {s : State} {m : MethodId} {args : Array Value} {below : List Frame} {meth : Method} {c : Code} {H : Heap} {locs : List Loc} {cells slots : Nat} {Q : State → Prop}
variable {mc ms : Nat} {free : Addr → Prop} {A0 A1 : Nat → Prop} {H0 : Heap} {a : Array Value} {pc : Nat} {ls : Array Slot} {st0 rest : List Value}
theorem vx_keep {st₀ t T' : State} {L : List Loc} (h0 : st₀.heap = H) (e1 : T'.heap = t.heap) (hS : va_S A0 H0 H locs) (hA : ∀ q, q < H.size → A1 q → A0 q) (hf : ∀ q, free q → A0 q) (hL : ∀ q ∈ L, free q.base) (hF : va_F A1 st₀ t) :
    H.size ≤ T'.heap.size ∧ (∀ q : Nat, q < H.size → ¬ A1 q → T'.heap[q]? = H[q]?) ∧ va_S A0 H0 T'.heap (locs ++ L) := by
  obtain ⟨hz, hk⟩ := hF
  rw [h0] at hz hk
  exact ⟨by rw [e1]; exact hz, fun q h1 h2 => by rw [e1]; exact hk q h1 h2,
    ⟨Nat.le_trans hS.1 (by rw [e1]; exact hz), fun q h1 h2 => by rw [e1, hk q (Nat.lt_of_lt_of_le h1 hS.1) (fun z => h2 (hA q (Nat.lt_of_lt_of_le h1 hS.1) z))]; exact hS.2.1 q h1 h2, fun q hq => by
      rcases List.mem_append.mp hq with h | h
      · exact hS.2.2 q h
      · exact hf _ (hL q h)⟩⟩
theorem vx_calli {S SX : Type} {post : Int32 → S → Prop} {px : SX → Prop} {B : S → State → Prop} {BX : String → SX → State → Prop} {AX : Nat → Prop} (hr : vx_Run p l e R s m args below meth c H locs cells slots mc ms (F0 m pc ls st0) rest (va_Qi post B A1 a) (vx_X px BX AX) free) (hS : va_S A0 H0 H locs) (hA : ∀ q, q < H.size → A1 q → A0 q) (hf : ∀ q, free q → A0 q) (hAX : ∀ q, q < H.size → AX q → A0 q)
    (kx : ∀ (E : String) (ce : Cell) (q9 : Addr) (u : SX) (t : State) (H1 : Heap) (locs1 : List Loc), t.heap = H1 → s.vm.Alike t.vm → px u → BX E u t → H.size ≤ H1.size → (∀ q : Nat, q < H.size → ¬ AX q → H1[q]? = H[q]?) → va_S A0 H0 H1 locs1 → H1[q9]? = some ce → ce.vm = .none → s.vm.findClass E = some ce.cls → vx_W p l e R s m args below meth c H1 locs1 (cells + mc) (slots + ms) Q (F0 m pc ls rest) q9)
    (kk : ∀ (r : Int32) (u : S) (t : State) (H1 : Heap) (locs1 : List Loc), t.heap = H1 → s.vm.Alike t.vm → post r u → B u t → H.size ≤ H1.size → (∀ q : Nat, q < H.size → ¬ A1 q → H1[q]? = H[q]?) → va_S A0 H0 H1 locs1 → W p l e R s m args below meth c H1 locs1 (cells + mc) (slots + ms) Q (F0 m (pc + 3) ls (.int r :: rest))) : W p l e R s m args below meth c H locs cells slots Q (F0 m pc ls st0) := by
  intro T hT X
  rcases hr T hT X with ⟨v, st₀, t, T', L, h0, X', hL, e1, e2, ⟨⟨r, u, hv, hp, hb⟩, hF⟩, st⟩ | ⟨q, st₀, t, T', L, E, ce, h0, X', hL, e1, e2, ⟨u, hp, hb, hF⟩, hce, hcv, hcl, st⟩
  · cases hv
    obtain ⟨k1, k2, k3⟩ := vx_keep h0 e1 hS hA hf hL hF
    obtain ⟨t2, a1, b1⟩ := kk r u t T'.heap (locs ++ L) e1.symm (by rw [← e2]; exact X'.warmed.alike) hp hb k1 k2 k3 T' rfl X'
    exact ⟨t2, st t2 a1, b1⟩
  · obtain ⟨k1, k2, k3⟩ := vx_keep h0 e1 hS hAX hf hL hF
    obtain ⟨t2, a1, b1⟩ := kx E ce q u t T'.heap (locs ++ L) e1.symm (by rw [← e2]; exact X'.warmed.alike) hp hb k1 k2 k3 (by rw [e1]; exact hce) hcv hcl T' rfl X'
    exact ⟨t2, st.trans a1, b1⟩
theorem vx_calll {S SX : Type} {post : Int64 → S → Prop} {px : SX → Prop} {B : S → State → Prop} {BX : String → SX → State → Prop} {AX : Nat → Prop} (hr : vx_Run p l e R s m args below meth c H locs cells slots mc ms (F0 m pc ls st0) rest (va_Ql post B A1 a) (vx_X px BX AX) free) (hS : va_S A0 H0 H locs) (hA : ∀ q, q < H.size → A1 q → A0 q) (hf : ∀ q, free q → A0 q) (hAX : ∀ q, q < H.size → AX q → A0 q)
    (kx : ∀ (E : String) (ce : Cell) (q9 : Addr) (u : SX) (t : State) (H1 : Heap) (locs1 : List Loc), t.heap = H1 → s.vm.Alike t.vm → px u → BX E u t → H.size ≤ H1.size → (∀ q : Nat, q < H.size → ¬ AX q → H1[q]? = H[q]?) → va_S A0 H0 H1 locs1 → H1[q9]? = some ce → ce.vm = .none → s.vm.findClass E = some ce.cls → vx_W p l e R s m args below meth c H1 locs1 (cells + mc) (slots + ms) Q (F0 m pc ls rest) q9)
    (kk : ∀ (r : Int64) (u : S) (t : State) (H1 : Heap) (locs1 : List Loc), t.heap = H1 → s.vm.Alike t.vm → post r u → B u t → H.size ≤ H1.size → (∀ q : Nat, q < H.size → ¬ A1 q → H1[q]? = H[q]?) → va_S A0 H0 H1 locs1 → W p l e R s m args below meth c H1 locs1 (cells + mc) (slots + ms) Q (F0 m (pc + 3) ls (.long r :: rest))) : W p l e R s m args below meth c H locs cells slots Q (F0 m pc ls st0) := by
  intro T hT X
  rcases hr T hT X with ⟨v, st₀, t, T', L, h0, X', hL, e1, e2, ⟨⟨r, u, hv, hp, hb⟩, hF⟩, st⟩ | ⟨q, st₀, t, T', L, E, ce, h0, X', hL, e1, e2, ⟨u, hp, hb, hF⟩, hce, hcv, hcl, st⟩
  · cases hv
    obtain ⟨k1, k2, k3⟩ := vx_keep h0 e1 hS hA hf hL hF
    obtain ⟨t2, a1, b1⟩ := kk r u t T'.heap (locs ++ L) e1.symm (by rw [← e2]; exact X'.warmed.alike) hp hb k1 k2 k3 T' rfl X'
    exact ⟨t2, st t2 a1, b1⟩
  · obtain ⟨k1, k2, k3⟩ := vx_keep h0 e1 hS hAX hf hL hF
    obtain ⟨t2, a1, b1⟩ := kx E ce q u t T'.heap (locs ++ L) e1.symm (by rw [← e2]; exact X'.warmed.alike) hp hb k1 k2 k3 (by rw [e1]; exact hce) hcv hcl T' rfl X'
    exact ⟨t2, st.trans a1, b1⟩
theorem vx_callf {S SX : Type} {post : UInt32 → S → Prop} {px : SX → Prop} {B : S → State → Prop} {BX : String → SX → State → Prop} {AX : Nat → Prop} (hr : vx_Run p l e R s m args below meth c H locs cells slots mc ms (F0 m pc ls st0) rest (va_Qf post B A1 a) (vx_X px BX AX) free) (hS : va_S A0 H0 H locs) (hA : ∀ q, q < H.size → A1 q → A0 q) (hf : ∀ q, free q → A0 q) (hAX : ∀ q, q < H.size → AX q → A0 q)
    (kx : ∀ (E : String) (ce : Cell) (q9 : Addr) (u : SX) (t : State) (H1 : Heap) (locs1 : List Loc), t.heap = H1 → s.vm.Alike t.vm → px u → BX E u t → H.size ≤ H1.size → (∀ q : Nat, q < H.size → ¬ AX q → H1[q]? = H[q]?) → va_S A0 H0 H1 locs1 → H1[q9]? = some ce → ce.vm = .none → s.vm.findClass E = some ce.cls → vx_W p l e R s m args below meth c H1 locs1 (cells + mc) (slots + ms) Q (F0 m pc ls rest) q9)
    (kk : ∀ (r : UInt32) (u : S) (t : State) (H1 : Heap) (locs1 : List Loc), t.heap = H1 → s.vm.Alike t.vm → post r u → B u t → H.size ≤ H1.size → (∀ q : Nat, q < H.size → ¬ A1 q → H1[q]? = H[q]?) → va_S A0 H0 H1 locs1 → W p l e R s m args below meth c H1 locs1 (cells + mc) (slots + ms) Q (F0 m (pc + 3) ls (.float r :: rest))) : W p l e R s m args below meth c H locs cells slots Q (F0 m pc ls st0) := by
  intro T hT X
  rcases hr T hT X with ⟨v, st₀, t, T', L, h0, X', hL, e1, e2, ⟨⟨r, u, hv, hp, hb⟩, hF⟩, st⟩ | ⟨q, st₀, t, T', L, E, ce, h0, X', hL, e1, e2, ⟨u, hp, hb, hF⟩, hce, hcv, hcl, st⟩
  · cases hv
    obtain ⟨k1, k2, k3⟩ := vx_keep h0 e1 hS hA hf hL hF
    obtain ⟨t2, a1, b1⟩ := kk r u t T'.heap (locs ++ L) e1.symm (by rw [← e2]; exact X'.warmed.alike) hp hb k1 k2 k3 T' rfl X'
    exact ⟨t2, st t2 a1, b1⟩
  · obtain ⟨k1, k2, k3⟩ := vx_keep h0 e1 hS hAX hf hL hF
    obtain ⟨t2, a1, b1⟩ := kx E ce q u t T'.heap (locs ++ L) e1.symm (by rw [← e2]; exact X'.warmed.alike) hp hb k1 k2 k3 (by rw [e1]; exact hce) hcv hcl T' rfl X'
    exact ⟨t2, st.trans a1, b1⟩
theorem vx_calld {S SX : Type} {post : UInt64 → S → Prop} {px : SX → Prop} {B : S → State → Prop} {BX : String → SX → State → Prop} {AX : Nat → Prop} (hr : vx_Run p l e R s m args below meth c H locs cells slots mc ms (F0 m pc ls st0) rest (va_Qd post B A1 a) (vx_X px BX AX) free) (hS : va_S A0 H0 H locs) (hA : ∀ q, q < H.size → A1 q → A0 q) (hf : ∀ q, free q → A0 q) (hAX : ∀ q, q < H.size → AX q → A0 q)
    (kx : ∀ (E : String) (ce : Cell) (q9 : Addr) (u : SX) (t : State) (H1 : Heap) (locs1 : List Loc), t.heap = H1 → s.vm.Alike t.vm → px u → BX E u t → H.size ≤ H1.size → (∀ q : Nat, q < H.size → ¬ AX q → H1[q]? = H[q]?) → va_S A0 H0 H1 locs1 → H1[q9]? = some ce → ce.vm = .none → s.vm.findClass E = some ce.cls → vx_W p l e R s m args below meth c H1 locs1 (cells + mc) (slots + ms) Q (F0 m pc ls rest) q9)
    (kk : ∀ (r : UInt64) (u : S) (t : State) (H1 : Heap) (locs1 : List Loc), t.heap = H1 → s.vm.Alike t.vm → post r u → B u t → H.size ≤ H1.size → (∀ q : Nat, q < H.size → ¬ A1 q → H1[q]? = H[q]?) → va_S A0 H0 H1 locs1 → W p l e R s m args below meth c H1 locs1 (cells + mc) (slots + ms) Q (F0 m (pc + 3) ls (.double r :: rest))) : W p l e R s m args below meth c H locs cells slots Q (F0 m pc ls st0) := by
  intro T hT X
  rcases hr T hT X with ⟨v, st₀, t, T', L, h0, X', hL, e1, e2, ⟨⟨r, u, hv, hp, hb⟩, hF⟩, st⟩ | ⟨q, st₀, t, T', L, E, ce, h0, X', hL, e1, e2, ⟨u, hp, hb, hF⟩, hce, hcv, hcl, st⟩
  · cases hv
    obtain ⟨k1, k2, k3⟩ := vx_keep h0 e1 hS hA hf hL hF
    obtain ⟨t2, a1, b1⟩ := kk r u t T'.heap (locs ++ L) e1.symm (by rw [← e2]; exact X'.warmed.alike) hp hb k1 k2 k3 T' rfl X'
    exact ⟨t2, st t2 a1, b1⟩
  · obtain ⟨k1, k2, k3⟩ := vx_keep h0 e1 hS hAX hf hL hF
    obtain ⟨t2, a1, b1⟩ := kx E ce q u t T'.heap (locs ++ L) e1.symm (by rw [← e2]; exact X'.warmed.alike) hp hb k1 k2 k3 (by rw [e1]; exact hce) hcv hcl T' rfl X'
    exact ⟨t2, st.trans a1, b1⟩
theorem vx_callv {S SX : Type} {post : S → Prop} {px : SX → Prop} {B : S → State → Prop} {BX : String → SX → State → Prop} {AX : Nat → Prop} (hr : vx_Run p l e R s m args below meth c H locs cells slots mc ms (F0 m pc ls st0) rest (va_Qv post B A1 a) (vx_X px BX AX) free) (hS : va_S A0 H0 H locs) (hA : ∀ q, q < H.size → A1 q → A0 q) (hf : ∀ q, free q → A0 q) (hAX : ∀ q, q < H.size → AX q → A0 q)
    (kx : ∀ (E : String) (ce : Cell) (q9 : Addr) (u : SX) (t : State) (H1 : Heap) (locs1 : List Loc), t.heap = H1 → s.vm.Alike t.vm → px u → BX E u t → H.size ≤ H1.size → (∀ q : Nat, q < H.size → ¬ AX q → H1[q]? = H[q]?) → va_S A0 H0 H1 locs1 → H1[q9]? = some ce → ce.vm = .none → s.vm.findClass E = some ce.cls → vx_W p l e R s m args below meth c H1 locs1 (cells + mc) (slots + ms) Q (F0 m pc ls rest) q9)
    (kk : ∀ (u : S) (t : State) (H1 : Heap) (locs1 : List Loc), t.heap = H1 → s.vm.Alike t.vm → post u → B u t → H.size ≤ H1.size → (∀ q : Nat, q < H.size → ¬ A1 q → H1[q]? = H[q]?) → va_S A0 H0 H1 locs1 → W p l e R s m args below meth c H1 locs1 (cells + mc) (slots + ms) Q (F0 m (pc + 3) ls (rest))) : W p l e R s m args below meth c H locs cells slots Q (F0 m pc ls st0) := by
  intro T hT X
  rcases hr T hT X with ⟨v, st₀, t, T', L, h0, X', hL, e1, e2, ⟨⟨u, hv, hp, hb⟩, hF⟩, st⟩ | ⟨q, st₀, t, T', L, E, ce, h0, X', hL, e1, e2, ⟨u, hp, hb, hF⟩, hce, hcv, hcl, st⟩
  · cases hv
    obtain ⟨k1, k2, k3⟩ := vx_keep h0 e1 hS hA hf hL hF
    obtain ⟨t2, a1, b1⟩ := kk u t T'.heap (locs ++ L) e1.symm (by rw [← e2]; exact X'.warmed.alike) hp hb k1 k2 k3 T' rfl X'
    exact ⟨t2, st t2 a1, b1⟩
  · obtain ⟨k1, k2, k3⟩ := vx_keep h0 e1 hS hAX hf hL hF
    obtain ⟨t2, a1, b1⟩ := kx E ce q u t T'.heap (locs ++ L) e1.symm (by rw [← e2]; exact X'.warmed.alike) hp hb k1 k2 k3 (by rw [e1]; exact hce) hcv hcl T' rfl X'
    exact ⟨t2, st.trans a1, b1⟩
/-- caught by the row x of this method's table; the rows ahead don't take it -/
theorem vx_catch {own name : String} {E : String} {ce : Cell} {q : Addr} (hown : s.vm.findClass own = some m.cls) (pre : List ExceptionTableEntry) (x : ExceptionTableEntry) (suf : List ExceptionTableEntry) (hsplit : c.exceptionTable.toList = pre ++ x :: suf)
    (hpass : ∀ z ∈ pre, covers z pc = false ∨ (z.catchType ≠ 0 ∧ ∃ nm : String, (Cond.classLink own z.catchType nm).before args s = true ∧ va_Nc E nm s)) (hx : covers x pc = true) (h0 : x.catchType ≠ 0)
    (hlink : (Cond.classLink own x.catchType name).before args s = true) (hcast : (Cond.castable E name).before args s = true) (hcell : H[q]? = some ce) (hv : ce.vm = .none) (hcl : s.vm.findClass E = some ce.cls)
    (kk : W p l e R s m args below meth c H locs cells slots Q (F0 m x.handlerPc ls [.ref q])) : vx_W p l e R s m args below meth c H locs cells slots Q (F0 m pc ls rest) q := by
  intro T hT X
  have hpl : e.platform.magicAccessors = ({} : Platform).magicAccessors := by rw [X.admits.platform]
  obtain ⟨c3, c4, hc3, hc4, hasg⟩ := Cond.castable_spec hcast
  cases Option.some.inj (hc3.symm.trans hcl)
  obtain ⟨c5, hc5, hcl5⟩ := Cond.classLink_spec hown hlink e.platform hpl
  cases Option.some.inj (hc4.symm.trans hc5)
  obtain ⟨vm', X', st⟩ := X.thenCaughtThrough q (g := F0 m pc ls rest) rfl (Steps.refl _) (by rw [hT]; exact hcell) (by rw [hv]; rfl) (by obtain ⟨k9, h9, -⟩ := Vm.findClass_spec hcl; exact ⟨k9, h9⟩) pre x suf hsplit
    (fun z hz => by
      rcases hpass z hz with h | ⟨hz0, nm, hl1, hn1⟩
      · exact Or.inl h
      · obtain ⟨c6, hc6, hcl6⟩ := Cond.classLink_spec hown hl1 e.platform hpl
        obtain ⟨a8, b8, h1, h2, h3⟩ := hn1
        cases Option.some.inj (h1.symm.trans hcl)
        cases Option.some.inj (h2.symm.trans hc6)
        exact Or.inr ⟨hz0, _, hcl6, h3⟩) hx (Or.inr ⟨h0, c4, hcl5, hasg⟩)
  obtain ⟨t, a1, b1⟩ := kk (T.setVm vm') hT X'
  exact ⟨t, st.trans a1, b1⟩
end Rows
section Ends
variable {p : Program} {l : Launch} {e : Env} {R : Room} {s : State} {m : MethodId} {args : Array Value} {below : List Frame} {meth : Method} {c : Code} {H : Heap} {locs : List Loc} {cells slots : Nat} {Q : State → Prop}
variable {mc ms : Nat} {free : Addr → Prop} {A0 A1 : Nat → Prop} {H0 : Heap} {a : Array Value} {ls : Array Slot} {st0 rest : List Value}
variable {Qc : Array Value → State → Outcome → State → Prop} {XC : String → State → State → Prop}
/-- what a body that may throw owes at its end -/
def vx_MQ (below : List Frame) (Qc : Array Value → State → Outcome → State → Prop) (XC : String → State → State → Prop) (a : Array Value) (s : State) (mc ms : Nat) (free : Addr → Prop) : State → Prop := fun t =>
  ∃ o, t.status = .running ∧ Ended t below o ∧ vx_Q Qc XC mc ms free a s o t
theorem vx_ret {g : JFrame} {mc ms : Nat} (k : W p l e R s m args below meth c H locs cells slots (MQ below Qc args s mc ms free) g) : W p l e R s m args below meth c H locs cells slots (vx_MQ below Qc XC args s mc ms free) g := by
  intro T hT X
  obtain ⟨t, a1, o, b1, b2, b3, b4⟩ := k T hT X
  exact ⟨t, a1, o, b1, b2, Or.inl ⟨b3, b4⟩⟩
/-- not caught here: it goes on to the caller -/
theorem vx_widen {g : JFrame} {q : Addr} {k n : Nat} (h1 : cells ≤ k) (h2 : slots ≤ n) (kk : vx_W p l e R s m args below meth c H locs k n Q g q) : vx_W p l e R s m args below meth c H locs cells slots Q g q := fun T hT X => kk T hT (stand_widen X h1 h2)
theorem vx_out {pc : Nat} {E : String} {ce : Cell} {q : Addr} {mc ms : Nat} (hout : ∀ x ∈ c.exceptionTable.toList, covers x pc = false) (hlocks : meth.locks = false) (hcell : H[q]? = some ce) (hv : ce.vm = .none) (hcl : s.vm.findClass E = some ce.cls)
    (hx : ∀ t : State, t.heap = H → s.vm.Alike t.vm → XC E s t) (hf : ∀ z ∈ locs, free z.base) (hc : cells ≤ mc) (hs : slots ≤ ms) :
    vx_W p l e R s m args below meth c H locs cells slots (vx_MQ below Qc XC args s mc ms free) (F0 m pc ls rest) q := by
  intro T hT X
  obtain ⟨st1, hrun, hend, hW, hsm⟩ := X.leaveThrown q (g := F0 m pc ls rest) rfl rfl rfl hout hlocks
  have hcell9 : (T.setFrames (.throwing q :: below)).heap[q]? = some ce := by
    show T.heap[q]? = some ce
    rw [hT]; exact hcell
  exact ⟨_, st1, .threw q, hrun, hend, Or.inr ⟨q, rfl, E, ce, locs, hx _ hT hW.alike, hcell9, hv, hcl, hW, hsm.mono hc hs, hf⟩⟩
theorem vx_frame {U : State} {k n : Nat} (h : s.sameButNew ({ U with vm := s.vm } : State) locs k n) : s.heap.size ≤ U.heap.size ∧ ∀ q : Nat, q < s.heap.size → (∀ z ∈ locs, z.base ≠ q) → U.heap[q]? = s.heap[q]? := by
  obtain ⟨-, h2, -, -, -, h6⟩ := h
  refine ⟨h2, fun q hq hz => ?_⟩
  obtain ⟨c9, e1, e2, e3, e4⟩ := h6 q _ (Array.getElem?_eq_getElem hq)
  have hs : c9.slots = (s.heap[q]).slots := Array.ext_getElem? fun i => e4 i fun hm => hz _ hm rfl
  have h9 : c9 = s.heap[q] := by
    rw [hs] at e2
    exact e2
  have e5 : U.heap[q]? = some c9 := e1
  rw [e5, h9, Array.getElem?_eq_getElem hq]
/-- the words of a throw but the four that speak of the heap -/
def vx_no (w : Cond) : Bool := decide (w ≠ .isRef (.static Bundle.tN "UNASSIGNED_STACK" Bundle.steD)) && decide (w ≠ .isRef (.static Bundle.tN "SUPPRESSED_SENTINEL" Bundle.listD)) && decide (w ≠ .laysStatic Bundle.tN "UNASSIGNED_STACK" Bundle.steD) && decide (w ≠ .laysStatic Bundle.tN "SUPPRESSED_SENTINEL" Bundle.listD)
def vx_at0 (own : String) (ic : Nat) (X : String) (names : List String) : List Cond := (Bundle.ownAtoms0 own ic X names).filter vx_no
def vx_atS (own : String) (ic : Nat) (X : String) (names : List String) : List Cond := (Bundle.ownAtoms own ic X names).filter vx_no
/-- a word that the tables alone decide, or a good one -/
def vx_ot (w : Cond) : Bool := w.onTables || goodWord w
theorem vx_ot_at {args a' : Array Value} {s U : State} {w : Cond} (hW : s.WarmedH U.vm) (hvm : s.vm = U.vm) (hg : vx_ot w = true) (h : w.before args s = true) : w.before a' U = true := by
  simp only [vx_ot, Bool.or_eq_true] at hg
  rcases hg with hg | hg
  · exact va_tabs hg hvm h
  · exact word_at hW (good_of_word hg) h
/-- a list's words: the good ones out of the method's own list, the others by premises of their own -/
theorem vx_hat {args : Array Value} {s : State} {L B : List Cond} (h1 : ∀ w ∈ L.filter goodWord, w.before args s = true) (h2 : ∀ w ∈ L.filter (fun w => !goodWord w), w ∈ B) (h3 : ∀ w ∈ B, w.before args s = true) : ∀ w ∈ L, w.before args s = true := by
  intro w hw
  by_cases g : goodWord w = true
  · exact h1 w (List.mem_filter.mpr ⟨hw, g⟩)
  · refine h3 w (h2 w (List.mem_filter.mpr ⟨hw, ?_⟩))
    show (!goodWord w) = true
    cases hgw : goodWord w
    · rfl
    · exact absurd hgw g
theorem vx_c {args : Array Value} {s : State} {w : Cond} {B : List Cond} (h : w.before args s = true) (t : ∀ w ∈ B, w.before args s = true) : ∀ w' ∈ w :: B, w'.before args s = true := fun w' h' => (List.mem_cons.mp h').elim (fun e => by rw [e]; exact h) (t w')
theorem vx_n {args : Array Value} {s : State} : ∀ w ∈ ([] : List Cond), w.before args s = true := fun _ h => nomatch h
theorem vx_own {args : Array Value} {s : State} {L : List Cond} (h1 : ∀ w ∈ L.filter vx_no, w.before args s = true)
    (hU : (Cond.isRef (.static Bundle.tN "UNASSIGNED_STACK" Bundle.steD)).before args s = true) (hN : (Cond.isRef (.static Bundle.tN "SUPPRESSED_SENTINEL" Bundle.listD)).before args s = true)
    (lU : (Cond.laysStatic Bundle.tN "UNASSIGNED_STACK" Bundle.steD).before args s = true) (lN : (Cond.laysStatic Bundle.tN "SUPPRESSED_SENTINEL" Bundle.listD).before args s = true) : ∀ w ∈ L, w.before args s = true := by
  intro w hw
  by_cases e1 : w = .isRef (.static Bundle.tN "UNASSIGNED_STACK" Bundle.steD)
  · rw [e1]; exact hU
  · by_cases e2 : w = .isRef (.static Bundle.tN "SUPPRESSED_SENTINEL" Bundle.listD)
    · rw [e2]; exact hN
    · by_cases e3 : w = .laysStatic Bundle.tN "UNASSIGNED_STACK" Bundle.steD
      · rw [e3]; exact lU
      · by_cases e4 : w = .laysStatic Bundle.tN "SUPPRESSED_SENTINEL" Bundle.listD
        · rw [e4]; exact lN
        · exact h1 w (List.mem_filter.mpr ⟨hw, by unfold vx_no; rw [decide_eq_true e1, decide_eq_true e2, decide_eq_true e3, decide_eq_true e4]; rfl⟩)
/-- where a static field lies, its class's statics cell in H -/
def vx_L (C n d : String) (A : Nat → Prop) (U : State) (H : Heap) : Prop := ∃ (c : ClassId) (k : Class) (i : Nat) (f : Field) (a : Nat) (cell : Cell), U.vm.findClass C = some c ∧ U.fieldFound? C n d = some (c, k, i, f) ∧ f.isStatic = true ∧ k.statics = some a ∧ H[a]? = some cell ∧ cell.vm.isStatics = true ∧ cell.cls = c ∧ f.slot < cell.slots.size ∧ k.staticTypes[f.slot]? = some f.type ∧ ¬ A a
theorem vx_L.moved {C n d : String} {A : Nat → Prop} {u U : State} {H : Heap} (hvm : u.vm.Alike U.vm) (h : vx_L C n d A u H) : vx_L C n d A U H := by
  obtain ⟨c, k, i, f, a, cell, h1, h2, h3, h4, h5, h6, h7, h8, h9, h10⟩ := h
  obtain ⟨k', hi', he⟩ := State.fieldFound?_setVm hvm h2
  exact ⟨c, k', i, f, a, cell, by rw [hvm.findClass]; exact h1, hi', h3, by rw [he]; exact h4, h5, h6, h7, h8, by rw [he]; exact h9, h10⟩
theorem vx_L.kept {C n d : String} {A : Nat → Prop} {U : State} {H H1 : Heap} (h : vx_L C n d A U H) (hq : ∀ a : Nat, a < H.size → ¬ A a → H1[a]? = H[a]?) : vx_L C n d A U H1 := by
  obtain ⟨c, k, i, f, a, cell, h1, h2, h3, h4, h5, h6, h7, h8, h9, h10⟩ := h
  exact ⟨c, k, i, f, a, cell, h1, h2, h3, h4, by rw [hq a (Array.getElem?_eq_some_iff.mp h5).1 h10]; exact h5, h6, h7, h8, h9, h10⟩
theorem vx_L.narrow {C n d : String} {A B : Nat → Prop} {U : State} {H : Heap} (h : vx_L C n d A U H) (hAB : ∀ q, B q → A q) : vx_L C n d B U H := by
  obtain ⟨c, k, i, f, a, cell, h1, h2, h3, h4, h5, h6, h7, h8, h9, h10⟩ := h
  exact ⟨c, k, i, f, a, cell, h1, h2, h3, h4, h5, h6, h7, h8, h9, fun z => h10 (hAB _ z)⟩
theorem vx_L.word {C n d : String} {A : Nat → Prop} {s : State} {args : Array Value} (h : vx_L C n d A s s.heap) : (Cond.laysStatic C n d).before args s = true := by
  obtain ⟨c, k, i, f, a, cell, h1, h2, h3, h4, h5, h6, h7, h8, h9, -⟩ := h
  show (Cond.laysStatic C n d).holds args s none s [] = true
  exact Cond.laysStatic_of h1 h2 h3 h4 h5 h6 h7 h8 h9
/-- .. and what it holds: null or some reference -/
def vx_Zq (C n d : String) (A : Nat → Prop) (U : State) (H : Heap) : Prop := va_Zq C n d A U H ∧ vx_L C n d A U H
theorem vx_Zq.moved {C n d : String} {A : Nat → Prop} {u U : State} {H : Heap} (hvm : u.vm.Alike U.vm) (h : vx_Zq C n d A u H) : vx_Zq C n d A U H := ⟨va_Zq.moved hvm h.1, vx_L.moved hvm h.2⟩
theorem vx_Zq.kept {C n d : String} {A : Nat → Prop} {U : State} {H H1 : Heap} (h : vx_Zq C n d A U H) (hq : ∀ a : Nat, a < H.size → ¬ A a → H1[a]? = H[a]?) : vx_Zq C n d A U H1 := ⟨va_Zq.kept h.1 hq, vx_L.kept h.2 hq⟩
theorem vx_Zq.narrow {C n d : String} {A B : Nat → Prop} {U : State} {H : Heap} (h : vx_Zq C n d A U H) (hAB : ∀ q, B q → A q) : vx_Zq C n d B U H := ⟨va_Zq.narrow h.1 hAB, vx_L.narrow h.2 hAB⟩
theorem vx_Zqof {args : Array Value} {s : State} {C n d : String} {A : Nat → Prop} (hl : (Cond.laysStatic C n d).before args s = true) (hini : (Cond.initialized C).before args s = true) (h : (Cond.isRef (.static C n d)).before args s = true) (hA : ∀ a : Nat, a < s.heap.size → ¬ A a) : vx_Zq C n d A s s.heap := by
  refine ⟨va_Zqof hl hini h hA, ?_⟩
  obtain ⟨c, k, i, f, a, cell, h1, h2, h3, h4, h5, h6, h7, h8, h9⟩ := Cond.laysStatic_spec hl
  exact ⟨c, k, i, f, a, cell, h1, h2, h3, h4, h5, h6, h7, h8, h9, hA a (Array.getElem?_eq_some_iff.mp h5).1⟩
theorem vx_isRef {C n d : String} {v : Value} {A : Nat → Prop} {s : State} {args : Array Value} (h : va_Z C n d v A s s.heap) (hv : v.isRef = true) : (Cond.isRef (.static C n d)).before args s = true := by
  obtain ⟨cf, kf, fi, f, a, cell, h1, h2, h3, h4, h5, h6, h7, -⟩ := h
  have he : (Term.static C n d).eval args s none [] s = some v := by
    simp [Term.eval, State.fieldNamed?, h1, h2, h4, h5, h6, h7]
  simp only [Cond.before, Cond.holds, Cond.value, he]
  cases v <;> simp_all [Value.isRef]
theorem vx_isRefq {C n d : String} {A : Nat → Prop} {s : State} {args : Array Value} (h : va_Zq C n d A s s.heap) : (Cond.isRef (.static C n d)).before args s = true := by
  rcases h with h | ⟨t, h⟩
  · exact vx_isRef h rfl
  · exact vx_isRef h rfl
/-- the same frame, seen from here: as if the method were called anew in this heap -/
theorem vx_rebase {T : State} (X : Stand p l e R s m args below meth c T locs cells slots) {R' : Room} (hf : R'.frames ≤ R.frames) (hl : R'.locals ≤ R.locals) (hc : cells + R'.cells ≤ R.cells) (hs : slots + R'.slots ≤ R.slots) :
    Stand p l e R' ((T.setVm s.vm).setFrames (.invoking m args :: below)) m args below meth c T [] 0 0 := by
  have htop : (T.setVm s.vm).topJava?.isSome := X.here.top
  have hF : ((T.setVm s.vm).setFrames (.invoking m args :: below)).frames = .invoking m args :: below := State.frames_setFrames _ (State.cur_lt_of_top htop)
  obtain ⟨g₀, hg0⟩ := Option.isSome_iff_exists.mp htop
  obtain ⟨r, hr⟩ := State.topJava?_eq_some.mp hg0
  have hl9 : e.platform.stackLimits (T.setVm s.vm).me = e.platform.stackLimits s.me := X.limits
  have hb9 : (T.setVm s.vm).me.stackBytes = s.me.stackBytes := X.bytes
  refine ⟨X.admits, X.cas, X.clock, hF, ?_, X.hears, X.method, X.code, X.here, X.tail, X.warmed, ?_, ?_, ?_⟩
  · have h := X.room
    have hU : ((T.setVm s.vm).setFrames (.invoking m args :: below)).localsInUse = s.localsInUse := by
      rw [State.localsInUse_invoking hF (meth := meth) (c := c) X.method X.code, State.localsInUse_invoking X.frames X.method X.code]
    simp only [State.hasRoom, Bool.and_eq_true, decide_eq_true_eq] at h ⊢
    obtain ⟨⟨⟨⟨h1, h2, h3, h4, h5, h6⟩, h7⟩, h8⟩, h9⟩ := h
    rw [X.frames, List.length_cons] at h2 h3
    have q1 := X.heapSize
    have q2 := X.used
    simp only [hF, hU, List.length_cons, State.stackLimits_setFrames, State.stackBytes_setFrames, hl9, hb9]
    refine ⟨⟨⟨⟨by omega, by omega, by omega, by omega, by omega, h6⟩, ?_⟩, ?_⟩, X.book⟩
    · show T.heap.size + R'.cells ≤ e.platform.maxCells
      omega
    · show T.slotsUsed + R'.slots ≤ e.platform.maxSlots
      omega
  · rw [State.stackLimits_setFrames]; rfl
  · rw [State.stackBytes_setFrames]; rfl
  · refine ⟨?_, Nat.le_refl _, Nat.le_refl _, ?_, ?_, fun a c9 h9 => ⟨c9, h9, rfl, rfl, fun _ _ => rfl⟩⟩
    · obtain ⟨t, ht, -⟩ := State.frames_cons hr
      show T.setVm s.vm = { ((T.setVm s.vm).setFrames (.invoking m args :: below)).setFrames (T.setVm s.vm).frames with heap := T.heap, slotsUsed := T.slotsUsed }
      rw [State.setFrames_setFrames, State.setFrames_self ht]
      rfl
    · show T.slotsUsed = T.slotsUsed + ((T.heap.toList.drop T.heap.size).map (·.slots.size)).sum
      rw [List.drop_eq_nil_of_le (Nat.le_of_eq Array.length_toList)]
      rfl
    · show ((T.heap.toList.drop T.heap.size).map (·.slots.size)).sum ≤ 0
      rw [List.drop_eq_nil_of_le (Nat.le_of_eq Array.length_toList)]
      exact Nat.le_refl _
/-- 'throw new E()': new; dup; invokespecial; athrow -/
theorem vx_throw0 {cc : ByteArray} {pc : Nat} (hexec : p.tables.exec = Jvm.exec) (hb : c.code = cc) (hl : l.stackTraces = false) {own cls : String} {names : List String} {ik ic mc ms : Nat} {A : Nat → Prop}
    (hown : s.vm.findClass own = some m.cls) (hcls : Bundle.fit cls = true) (hnames : ∀ n ∈ names, Bundle.fit n = true)
    (hk : (Cond.classLink own ik cls).before args s = true) (hini : (Cond.initialized cls).before args s = true) (hat : ∀ w ∈ vx_at0 own ic cls names, w.before args s = true)
    (hgood : ∀ w ∈ Cond.classLink own ik cls :: Cond.initialized cls :: vx_at0 own ic cls names, vx_ot w = true)
    (hU : vx_Zq Bundle.tN "UNASSIGNED_STACK" Bundle.steD A s s.heap) (hN : vx_Zq Bundle.tN "SUPPRESSED_SENTINEL" Bundle.listD A s s.heap) (hS : va_S A s.heap H locs) (hsize : ls.size = c.maxLocals)
    (d0 : decode cc pc = .ok (.new ik, 3)) (d3 : decode cc (pc + 3) = .ok (.dup, 1)) (d4 : decode cc (pc + 4) = .ok (.invokespecial ic, 3)) (d7 : decode cc (pc + 7) = .ok (.athrow, 1))
    (hout : ∀ x ∈ c.exceptionTable.toList, covers x (pc + 7) = false)
    (hRframes : names.length + 3 < R.frames) (hRlocals : (rest.map fun v => v.category).sum + (13 * (names.length + 1) + 42) ≤ R.locals) (hRcells : cells + 1 ≤ R.cells) (hRslots : slots + 6 ≤ R.slots) (hlocks : meth.locks = false)
    (hx : ∀ t : State, s.vm.Alike t.vm → H.size ≤ t.heap.size → (∀ q : Nat, q < H.size → t.heap[q]? = H[q]?) → XC cls s t)
    (hf : ∀ z ∈ locs, free z.base) (hc : cells + 1 ≤ mc) (hs : slots + 6 ≤ ms) :
    W p l e R s m args below meth c H locs cells slots (vx_MQ below Qc XC args s mc ms free) (F0 m pc ls rest) := by
  intro T hT X
  have htr : e.platform.stackTraces = false := (show e.platform.stackTraces = l.stackTraces by rw [X.admits.platform]).trans hl
  have Y := vx_rebase X (R' := { frames := R.frames, locals := R.locals, cells := 1, slots := 6 }) (Nat.le_refl _) (Nat.le_refl _) hRcells hRslots
  obtain ⟨s', hA⟩ : ∃ z, z = (T.setVm s.vm).setFrames (.invoking m args :: below) := ⟨_, rfl⟩
  rw [← hA] at Y
  have hvm : s'.vm = s.vm := by rw [hA]; rfl
  have hhp : s'.heap = H := by rw [hA]; exact hT
  have hW0 : s.WarmedH s'.vm := by rw [hvm]; exact State.WarmedH.refl s
  have hat' : ∀ w ∈ vx_at0 own ic cls names, w.before args s' = true := fun w hw => vx_ot_at hW0 hvm.symm (hgood w (List.mem_cons_of_mem _ (List.mem_cons_of_mem _ hw))) (hat w hw)
  have hk' : (Cond.classLink own ik cls).before args s' = true := vx_ot_at hW0 hvm.symm (hgood _ List.mem_cons_self) hk
  have hini' : (Cond.initialized cls).before args s' = true := vx_ot_at hW0 hvm.symm (hgood _ (List.mem_cons_of_mem _ List.mem_cons_self)) hini
  have hU' : vx_Zq Bundle.tN "UNASSIGNED_STACK" Bundle.steD A s' s'.heap := by rw [hhp]; exact vx_Zq.moved hW0.alike (hU.kept hS.2.1)
  have hN' : vx_Zq Bundle.tN "SUPPRESSED_SENTINEL" Bundle.listD A s' s'.heap := by rw [hhp]; exact vx_Zq.moved hW0.alike (hN.kept hS.2.1)
  have h : ∀ w ∈ Bundle.ownAtoms0 own ic cls names, w.before args s' = true := vx_own hat' (vx_isRefq hU'.1) (vx_isRefq hN'.1) hU'.2.word hN'.2.word
  have hown' : s'.vm.findClass own = some m.cls := by rw [hvm]; exact hown
  have hins : (Cond.instantiable cls 6).before args s' = true := h _ (by simp [Bundle.ownAtoms0])
  obtain ⟨vm₁, cX, kX, hfX, hkX, -, -, X₁, st1⟩ := Y.newCold hexec (own := own) (C := cls) (index := ik) (n := 6) hown' hk' hins hini'
    (g := F0 m pc ls rest) rfl (by rw [hb]; exact d0) (Nat.le_refl _) (Nat.le_refl _)
  generalize hT1 : (T.setVm vm₁).pushCell { cls := cX, slots := kX.instanceTypes.map defaultValue, vm := .none } = T1 at X₁ st1
  have hcat : (Value.ref T.heap.size).category = 1 := rfl
  have hcellA : T1.heap[T.heap.size]? = some (freshCell cX kX) := by rw [← hT1]; exact State.heap_pushCell_size _ _
  have d3' : decode c.code (pc + 3) = .ok (.dup, 1) := by rw [hb]; exact d3
  obtain ⟨U, hsteps, hrun, hend, hW, hsame, ce, hce, hO⟩ := X₁.ctorThrow0 hexec htr (own := own) (cls := cls) (names := names) (ic := ic) hown' hcls hnames h (fun x hx => nomatch hx) hfX hkX hcellA (by rw [hhp, hT]; exact Nat.le_refl _)
    (g := { method := m, pc := pc + 4, locals := ls, stack := .ref T.heap.size :: .ref T.heap.size :: rest, locked := none }) rfl hsize rfl rfl (rest := rest) rfl
    (by rw [hb]; exact d4) (by rw [hb]; exact d7) hout hRframes (by simp only [List.map_cons, List.sum_cons, hcat]; omega) hlocks
  obtain ⟨f1, f2⟩ := vx_frame hsame
  rw [hhp] at f1 f2
  have hWs : s.WarmedH U.vm := State.WarmedH.trans hW0 hW
  have hcl : s.vm.findClass cls = some ce.cls := by
    have h9 := hO.cls
    rw [hvm] at h9
    exact h9
  have hall : s.sameButNew ({ U with vm := s.vm } : State) locs mc ms := by
    subst hA
    obtain ⟨e1, e2⟩ := hsame
    rw [State.setFrames_setFrames] at e1
    have h2 : (T.setVm s.vm).sameButNew ({ U with vm := s.vm } : State) [] (0 + 1) (0 + 6) := ⟨e1, e2⟩
    have h3 := X.same.trans h2
    rw [List.append_nil] at h3
    exact h3.mono hc hs
  refine ⟨U, ?_, .threw T.heap.size, hrun, hend, Or.inr ⟨T.heap.size, rfl, cls, ce, locs, hx U hWs.alike f1 (fun q hq => f2 q hq (fun z hz => nomatch hz)), hce, hO.vm, hcl, hWs, hall, hf⟩⟩
  refine st1 _ ?_
  show Steps p.tables e below (T1.setTop { method := m, pc := pc + 3, locals := ls, stack := .ref T.heap.size :: rest, locked := none }) _
  jvm_step X₁.here [X₁.here.top, hexec, d3', Value.category]
  exact hsteps
/-- 'throw new E("text")': new; dup; ldc; invokespecial; athrow -/
theorem vx_throwS {cc : ByteArray} {pc : Nat} (hexec : p.tables.exec = Jvm.exec) (hb : c.code = cc) (hl : l.stackTraces = false) {own cls text : String} {names : List String} {ik is ic mc ms sa : Nat} {A : Nat → Prop}
    (hown : s.vm.findClass own = some m.cls) (hcls : Bundle.fit cls = true) (hnames : ∀ n ∈ names, Bundle.fit n = true)
    (hk : (Cond.classLink own ik cls).before args s = true) (hini : (Cond.initialized cls).before args s = true) (hstr : vk_R own is text sa s) (hat : ∀ w ∈ vx_atS own ic cls names, w.before args s = true)
    (hgood : ∀ w ∈ Cond.classLink own ik cls :: Cond.initialized cls :: vx_atS own ic cls names, vx_ot w = true)
    (hU : vx_Zq Bundle.tN "UNASSIGNED_STACK" Bundle.steD A s s.heap) (hN : vx_Zq Bundle.tN "SUPPRESSED_SENTINEL" Bundle.listD A s s.heap) (hS : va_S A s.heap H locs) (hsize : ls.size = c.maxLocals)
    (d0 : decode cc pc = .ok (.new ik, 3)) (d3 : decode cc (pc + 3) = .ok (.dup, 1)) (d4 : decode cc (pc + 4) = .ok (.ldc is, 2)) (d6 : decode cc (pc + 6) = .ok (.invokespecial ic, 3)) (d9 : decode cc (pc + 9) = .ok (.athrow, 1))
    (hout : ∀ x ∈ c.exceptionTable.toList, covers x (pc + 9) = false)
    (hRframes : names.length + 3 < R.frames) (hRlocals : (rest.map fun v => v.category).sum + (13 * (names.length + 1) + 43) ≤ R.locals) (hRcells : cells + 1 ≤ R.cells) (hRslots : slots + 6 ≤ R.slots) (hlocks : meth.locks = false)
    (hx : ∀ t : State, s.vm.Alike t.vm → H.size ≤ t.heap.size → (∀ q : Nat, q < H.size → t.heap[q]? = H[q]?) → XC cls s t)
    (hf : ∀ z ∈ locs, free z.base) (hc : cells + 1 ≤ mc) (hs : slots + 6 ≤ ms) :
    W p l e R s m args below meth c H locs cells slots (vx_MQ below Qc XC args s mc ms free) (F0 m pc ls rest) := by
  intro T hT X
  have htr : e.platform.stackTraces = false := (show e.platform.stackTraces = l.stackTraces by rw [X.admits.platform]).trans hl
  have Y := vx_rebase X (R' := { frames := R.frames, locals := R.locals, cells := 1, slots := 6 }) (Nat.le_refl _) (Nat.le_refl _) hRcells hRslots
  obtain ⟨s', hA⟩ : ∃ z, z = (T.setVm s.vm).setFrames (.invoking m args :: below) := ⟨_, rfl⟩
  rw [← hA] at Y
  have hvm : s'.vm = s.vm := by rw [hA]; rfl
  have hhp : s'.heap = H := by rw [hA]; exact hT
  have hW0 : s.WarmedH s'.vm := by rw [hvm]; exact State.WarmedH.refl s
  have hat' : ∀ w ∈ vx_atS own ic cls names, w.before args s' = true := fun w hw => vx_ot_at hW0 hvm.symm (hgood w (List.mem_cons_of_mem _ (List.mem_cons_of_mem _ hw))) (hat w hw)
  have hk' : (Cond.classLink own ik cls).before args s' = true := vx_ot_at hW0 hvm.symm (hgood _ List.mem_cons_self) hk
  have hini' : (Cond.initialized cls).before args s' = true := vx_ot_at hW0 hvm.symm (hgood _ (List.mem_cons_of_mem _ List.mem_cons_self)) hini
  have hU' : vx_Zq Bundle.tN "UNASSIGNED_STACK" Bundle.steD A s' s'.heap := by rw [hhp]; exact vx_Zq.moved hW0.alike (hU.kept hS.2.1)
  have hN' : vx_Zq Bundle.tN "SUPPRESSED_SENTINEL" Bundle.listD A s' s'.heap := by rw [hhp]; exact vx_Zq.moved hW0.alike (hN.kept hS.2.1)
  have h : ∀ w ∈ Bundle.ownAtoms own ic cls names, w.before args s' = true := vx_own hat' (vx_isRefq hU'.1) (vx_isRefq hN'.1) hU'.2.word hN'.2.word
  have hown' : s'.vm.findClass own = some m.cls := by rw [hvm]; exact hown
  have hins : (Cond.instantiable cls 6).before args s' = true := h _ (by simp [Bundle.ownAtoms])
  obtain ⟨vm₁, cX, kX, hfX, hkX, -, -, X₁, st1⟩ := Y.newCold hexec (own := own) (C := cls) (index := ik) (n := 6) hown' hk' hins hini'
    (g := F0 m pc ls rest) rfl (by rw [hb]; exact d0) (Nat.le_refl _) (Nat.le_refl _)
  generalize hT1 : (T.setVm vm₁).pushCell { cls := cX, slots := kX.instanceTypes.map defaultValue, vm := .none } = T1 at X₁ st1
  have hcat : (Value.ref T.heap.size).category = 1 := rfl
  have hcellA : T1.heap[T.heap.size]? = some (freshCell cX kX) := by rw [← hT1]; exact State.heap_pushCell_size _ _
  have d3' : decode c.code (pc + 3) = .ok (.dup, 1) := by rw [hb]; exact d3
  have d4' : decode c.code (pc + 4) = .ok (.ldc is, 2) := by rw [hb]; exact d4
  have hstr' : vk_R own is text sa s' := vk_R.warm hW0 hstr
  obtain ⟨U, hsteps, hrun, hend, hW, hsame, ce, hce, hO⟩ := X₁.ctorThrowS hexec htr (own := own) (cls := cls) (names := names) (ic := ic) hown' hcls hnames h (fun x hx => nomatch hx) hfX hkX hcellA (by rw [hhp, hT]; exact Nat.le_refl _) (msg := .ref sa) rfl
    (g := { method := m, pc := pc + 6, locals := ls, stack := .ref sa :: .ref T.heap.size :: .ref T.heap.size :: rest, locked := none }) rfl hsize rfl rfl (rest := rest) rfl
    (by rw [hb]; exact d6) (by rw [hb]; exact d9) hout hRframes (by simp only [List.map_cons, List.sum_cons, hcat]; omega) hlocks
  obtain ⟨f1, f2⟩ := vx_frame hsame
  rw [hhp] at f1 f2
  have hWs : s.WarmedH U.vm := State.WarmedH.trans hW0 hW
  have hcl : s.vm.findClass cls = some ce.cls := by
    have h9 := hO.cls
    rw [hvm] at h9
    exact h9
  have hall : s.sameButNew ({ U with vm := s.vm } : State) locs mc ms := by
    subst hA
    obtain ⟨e1, e2⟩ := hsame
    rw [State.setFrames_setFrames] at e1
    have h2 : (T.setVm s.vm).sameButNew ({ U with vm := s.vm } : State) [] (0 + 1) (0 + 6) := ⟨e1, e2⟩
    have h3 := X.same.trans h2
    rw [List.append_nil] at h3
    exact h3.mono hc hs
  refine ⟨U, ?_, .threw T.heap.size, hrun, hend, Or.inr ⟨T.heap.size, rfl, cls, ce, locs, hx U hWs.alike f1 (fun q hq => f2 q hq (fun z hz => nomatch hz)), hce, hO.vm, hcl, hWs, hall, hf⟩⟩
  refine st1 _ ?_
  show Steps p.tables e below (T1.setTop { method := m, pc := pc + 3, locals := ls, stack := .ref T.heap.size :: rest, locked := none }) _
  jvm_step X₁.here [X₁.here.top, hexec, d3', Value.category]
  exact X₁.ldcString hexec (own := own) (text := text) (index := is) (a := sa) hown' hstr'.1 hstr'.2
    (g := { method := m, pc := pc + 4, locals := ls, stack := .ref T.heap.size :: .ref T.heap.size :: rest, locked := none }) rfl d4' _ hsteps
/-- 'throw new E("text")', the text by a wide index -/
theorem vx_throwSW {cc : ByteArray} {pc : Nat} (hexec : p.tables.exec = Jvm.exec) (hb : c.code = cc) (hl : l.stackTraces = false) {own cls text : String} {names : List String} {ik is ic mc ms sa : Nat} {A : Nat → Prop}
    (hown : s.vm.findClass own = some m.cls) (hcls : Bundle.fit cls = true) (hnames : ∀ n ∈ names, Bundle.fit n = true)
    (hk : (Cond.classLink own ik cls).before args s = true) (hini : (Cond.initialized cls).before args s = true) (hstr : vk_R own is text sa s) (hat : ∀ w ∈ vx_atS own ic cls names, w.before args s = true)
    (hgood : ∀ w ∈ Cond.classLink own ik cls :: Cond.initialized cls :: vx_atS own ic cls names, vx_ot w = true)
    (hU : vx_Zq Bundle.tN "UNASSIGNED_STACK" Bundle.steD A s s.heap) (hN : vx_Zq Bundle.tN "SUPPRESSED_SENTINEL" Bundle.listD A s s.heap) (hS : va_S A s.heap H locs) (hsize : ls.size = c.maxLocals)
    (d0 : decode cc pc = .ok (.new ik, 3)) (d3 : decode cc (pc + 3) = .ok (.dup, 1)) (d4 : decode cc (pc + 4) = .ok (.ldc_w is, 3)) (d7 : decode cc (pc + 7) = .ok (.invokespecial ic, 3)) (d10 : decode cc (pc + 10) = .ok (.athrow, 1))
    (hout : ∀ x ∈ c.exceptionTable.toList, covers x (pc + 10) = false)
    (hRframes : names.length + 3 < R.frames) (hRlocals : (rest.map fun v => v.category).sum + (13 * (names.length + 1) + 43) ≤ R.locals) (hRcells : cells + 1 ≤ R.cells) (hRslots : slots + 6 ≤ R.slots) (hlocks : meth.locks = false)
    (hx : ∀ t : State, s.vm.Alike t.vm → H.size ≤ t.heap.size → (∀ q : Nat, q < H.size → t.heap[q]? = H[q]?) → XC cls s t)
    (hf : ∀ z ∈ locs, free z.base) (hc : cells + 1 ≤ mc) (hs : slots + 6 ≤ ms) :
    W p l e R s m args below meth c H locs cells slots (vx_MQ below Qc XC args s mc ms free) (F0 m pc ls rest) := by
  intro T hT X
  have htr : e.platform.stackTraces = false := (show e.platform.stackTraces = l.stackTraces by rw [X.admits.platform]).trans hl
  have Y := vx_rebase X (R' := { frames := R.frames, locals := R.locals, cells := 1, slots := 6 }) (Nat.le_refl _) (Nat.le_refl _) hRcells hRslots
  obtain ⟨s', hA⟩ : ∃ z, z = (T.setVm s.vm).setFrames (.invoking m args :: below) := ⟨_, rfl⟩
  rw [← hA] at Y
  have hvm : s'.vm = s.vm := by rw [hA]; rfl
  have hhp : s'.heap = H := by rw [hA]; exact hT
  have hW0 : s.WarmedH s'.vm := by rw [hvm]; exact State.WarmedH.refl s
  have hat' : ∀ w ∈ vx_atS own ic cls names, w.before args s' = true := fun w hw => vx_ot_at hW0 hvm.symm (hgood w (List.mem_cons_of_mem _ (List.mem_cons_of_mem _ hw))) (hat w hw)
  have hk' : (Cond.classLink own ik cls).before args s' = true := vx_ot_at hW0 hvm.symm (hgood _ List.mem_cons_self) hk
  have hini' : (Cond.initialized cls).before args s' = true := vx_ot_at hW0 hvm.symm (hgood _ (List.mem_cons_of_mem _ List.mem_cons_self)) hini
  have hU' : vx_Zq Bundle.tN "UNASSIGNED_STACK" Bundle.steD A s' s'.heap := by rw [hhp]; exact vx_Zq.moved hW0.alike (hU.kept hS.2.1)
  have hN' : vx_Zq Bundle.tN "SUPPRESSED_SENTINEL" Bundle.listD A s' s'.heap := by rw [hhp]; exact vx_Zq.moved hW0.alike (hN.kept hS.2.1)
  have h : ∀ w ∈ Bundle.ownAtoms own ic cls names, w.before args s' = true := vx_own hat' (vx_isRefq hU'.1) (vx_isRefq hN'.1) hU'.2.word hN'.2.word
  have hown' : s'.vm.findClass own = some m.cls := by rw [hvm]; exact hown
  have hins : (Cond.instantiable cls 6).before args s' = true := h _ (by simp [Bundle.ownAtoms])
  obtain ⟨vm₁, cX, kX, hfX, hkX, -, -, X₁, st1⟩ := Y.newCold hexec (own := own) (C := cls) (index := ik) (n := 6) hown' hk' hins hini'
    (g := F0 m pc ls rest) rfl (by rw [hb]; exact d0) (Nat.le_refl _) (Nat.le_refl _)
  generalize hT1 : (T.setVm vm₁).pushCell { cls := cX, slots := kX.instanceTypes.map defaultValue, vm := .none } = T1 at X₁ st1
  have hcat : (Value.ref T.heap.size).category = 1 := rfl
  have hcellA : T1.heap[T.heap.size]? = some (freshCell cX kX) := by rw [← hT1]; exact State.heap_pushCell_size _ _
  have d3' : decode c.code (pc + 3) = .ok (.dup, 1) := by rw [hb]; exact d3
  have d4' : decode c.code (pc + 4) = .ok (.ldc_w is, 3) := by rw [hb]; exact d4
  have hstr' : vk_R own is text sa s' := vk_R.warm hW0 hstr
  obtain ⟨U, hsteps, hrun, hend, hW, hsame, ce, hce, hO⟩ := X₁.ctorThrowS hexec htr (own := own) (cls := cls) (names := names) (ic := ic) hown' hcls hnames h (fun x hx => nomatch hx) hfX hkX hcellA (by rw [hhp, hT]; exact Nat.le_refl _) (msg := .ref sa) rfl
    (g := { method := m, pc := pc + 7, locals := ls, stack := .ref sa :: .ref T.heap.size :: .ref T.heap.size :: rest, locked := none }) rfl hsize rfl rfl (rest := rest) rfl
    (by rw [hb]; exact d7) (by rw [hb]; exact d10) hout hRframes (by simp only [List.map_cons, List.sum_cons, hcat]; omega) hlocks
  obtain ⟨f1, f2⟩ := vx_frame hsame
  rw [hhp] at f1 f2
  have hWs : s.WarmedH U.vm := State.WarmedH.trans hW0 hW
  have hcl : s.vm.findClass cls = some ce.cls := by
    have h9 := hO.cls
    rw [hvm] at h9
    exact h9
  have hall : s.sameButNew ({ U with vm := s.vm } : State) locs mc ms := by
    subst hA
    obtain ⟨e1, e2⟩ := hsame
    rw [State.setFrames_setFrames] at e1
    have h2 : (T.setVm s.vm).sameButNew ({ U with vm := s.vm } : State) [] (0 + 1) (0 + 6) := ⟨e1, e2⟩
    have h3 := X.same.trans h2
    rw [List.append_nil] at h3
    exact h3.mono hc hs
  refine ⟨U, ?_, .threw T.heap.size, hrun, hend, Or.inr ⟨T.heap.size, rfl, cls, ce, locs, hx U hWs.alike f1 (fun q hq => f2 q hq (fun z hz => nomatch hz)), hce, hO.vm, hcl, hWs, hall, hf⟩⟩
  refine st1 _ ?_
  show Steps p.tables e below (T1.setTop { method := m, pc := pc + 3, locals := ls, stack := .ref T.heap.size :: rest, locked := none }) _
  jvm_step X₁.here [X₁.here.top, hexec, d3', Value.category]
  exact X₁.ldcStringW hexec (own := own) (text := text) (index := is) (a := sa) hown' hstr'.1 hstr'.2
    (g := { method := m, pc := pc + 4, locals := ls, stack := .ref T.heap.size :: .ref T.heap.size :: rest, locked := none }) rfl d4' _ hsteps
end Ends
section Bodies
variable {l : Launch}
theorem vx_ofW {y : MethodName} {ws ws' : List Cond} {rm : Room} {Pc : Array Value → State → Prop} {Qc : Array Value → State → Outcome → State → Prop} {XC : String → State → State → Prop} {mc ms : Nat} {free : Addr → Prop} {cc : ByteArray} {maxL : Nat} {ret : Option FieldType}
    (hy : plainName y.cls = true) (hw : ws = Cond.code y cc maxL ret :: ws')
    (body : ∀ p e s m args below meth c s₁, BodyLoose p l y (headSpec ws rm) cc maxL ret e s m args below meth c s₁ → c.maxLocals = maxL → (∀ x ∈ c.exceptionTable.toList, False) → Pc args s →
      W p l e (headSpec ws rm).room s m args below meth c s.heap [] 0 0 (vx_MQ below Qc XC args s mc ms free) (entryFrame m args maxL)) : vx_Met l y ws rm Pc Qc XC mc ms free := by
  refine MetFree.of_bodyS (code := cc) (maxLocals := maxL) (ret := ret) hy ?_ ?_
  · intro args s m h hn
    obtain ⟨meth, c, h1, h2, h3, h4, h5, h6, -, -⟩ := Cond.code_spec hn (atoms_spec (ws := ws) h _ (by rw [hw]; exact List.mem_cons_self))
    exact ⟨meth, c, h1, h2, h3, h4, h5, h6⟩
  · intro p e s m args below meth c s₁ B hml hP _
    have hh0 : s₁.heap = s.heap := by rw [B.state]; rfl
    have ht : ∀ x ∈ c.exceptionTable.toList, False := by
      obtain ⟨meth9, c9, h1, h2, -, -, -, -, h7, -⟩ := Cond.code_spec B.named (atoms_spec (ws := ws) B.pre _ (by rw [hw]; exact List.mem_cons_self))
      cases Option.some.inj (h1.symm.trans B.method)
      cases Option.some.inj (h2.symm.trans (Stand.of_body B).code)
      intro x hx
      rw [Array.isEmpty_iff.mp h7] at hx
      cases hx
    obtain ⟨t, a1, o, b1, b2, b3⟩ := body p e s m args below meth c s₁ B hml ht hP s₁ hh0 (Stand.of_body B)
    exact ⟨t, o, a1, b1, b2, b3⟩
/-- the table of a body with handlers -/
theorem vx_table {p : Program} {x y : MethodName} {S : Spec} {cc bytes : ByteArray} {maxL maxL' : Nat} {ret ret' : Option FieldType} {e : Env} {s s₁ : State} {m : MethodId} {args : Array Value} {below : List Frame} {meth : Method} {c : Code} {hh : List (Nat × Nat × Nat × Nat)}
    (B : BodyLoose p l y S cc maxL ret e s m args below meth c s₁) (h : (Cond.codeWith y bytes maxL' ret' hh).before args s = true) : c.exceptionTable.toList = tableOf hh := by
  obtain ⟨m9, meth9, c9, hn9, h1, h2, -, -, h6, -⟩ := Cond.codeWith_spec h
  cases Option.some.inj (hn9.symm.trans B.named)
  cases Option.some.inj (h1.symm.trans B.method)
  cases Option.some.inj (h2.symm.trans (Stand.of_body B).code)
  rw [← h6, table_eq]
end Bodies
end VXA
/-! ===== END ===== -/
/-! ===== BEGIN a static call of a method with an exception table ===== -/
section VXS
variable {p : Program} {l : Launch} {e : Env} {R : Room} {s : State} {m : MethodId} {args : Array Value} {below : List Frame} {meth : Method} {c : Code} {T : State} {H : Heap} {locs : List Loc} {cells slots : Nat}
abbrev vx_CSW (R : Room) (s : State) (args : Array Value) (own : String) (index : Nat) (y : MethodName) (bytes : ByteArray) (maxL : Nat) (ret : Option FieldType) (hh : List (Nat × Nat × Nat × Nat)) (ws : List Cond) (rm : Room) (mc ms n : Nat) : Prop :=
  (rm.cells = mc ∧ rm.slots = ms ∧ rm.frames + 1 ≤ R.frames ∧ 8 + (maxL + 11) + rm.locals ≤ R.locals ∧ (∀ w ∈ ws, ∀ (a' : Array Value) (U : State), s.WarmedH U.vm → w.before a' U = true) ∧ Cond.codeWith y bytes maxL ret hh ∈ ws) ∧
  (Cond.codeWith y bytes maxL ret hh).before args s = true ∧ (Cond.initialized y.cls).before args s = true ∧ (y.cls ≠ "java/lang/invoke/MethodHandle" ∧ y.cls ≠ "java/lang/invoke/VarHandle") ∧
  (∀ sig, parseMethodDescriptor y.desc = some sig → n = sig.parameters.length) ∧ (Cond.methodLink own index y).before args s = true ∧ (Cond.static y).before args s = true
theorem vx_cwSW {own : String} {index maxL mc ms : Nat} {y : MethodName} {bytes : ByteArray} {ret : Option FieldType} {hh : List (Nat × Nat × Nat × Nat)} {Ts ws ws' : List Cond} {rm : Room} (n : Nat) (ht : ∀ w ∈ Ts, w.before args s = true) (hT : GoodIn Ts (va_wsS own index y ws)) (hw : ws = Cond.codeWith y bytes maxL ret hh :: ws') (hrc : rm.cells = mc) (hrs : rm.slots = ms)
    (hd : y.cls ≠ "java/lang/invoke/MethodHandle" ∧ y.cls ≠ "java/lang/invoke/VarHandle" ∧ (parseMethodDescriptor y.desc).map (fun d => d.parameters.length) = some n) (hR : rm.frames + 1 ≤ R.frames ∧ 8 + (maxL + 11) + rm.locals ≤ R.locals) :
    vx_CSW R s args own index y bytes maxL ret hh ws rm mc ms n := by
  have ok : ∀ w ∈ va_wsS own index y ws, w.before args s = true := fun w h => ht w (hT w h).1
  have hG : GoodIn Ts ws := fun w h => hT w (by unfold va_wsS; exact List.mem_append_right _ h)
  have hc : Cond.codeWith y bytes maxL ret hh ∈ ws := by rw [hw]; exact List.mem_cons_self
  refine ⟨⟨hrc, hrs, hR.1, hR.2, pay_in ht hG, hc⟩, ht _ (hG _ hc).1, ok _ (by simp [va_wsS]), ⟨hd.1, hd.2.1⟩, fun sig h => ?_, ok _ (by simp [va_wsS]), ok _ (by simp [va_wsS])⟩
  have h2 := hd.2.2
  rw [h] at h2
  exact (Option.some.inj h2).symm
theorem vx_callSW (X : Stand p l e R s m args below meth c T locs cells slots) (hexec : p.tables.exec = Jvm.exec) {own : String} {index : Nat} {y : MethodName} {bytes : ByteArray} {maxL : Nat} {ret : Option FieldType} {hh : List (Nat × Nat × Nat × Nat)}
    (hown : s.vm.findClass own = some m.cls) (hlink : (Cond.methodLink own index y).before args s = true) (hstat : (Cond.static y).before args s = true) (hinit : (Cond.initialized y.cls).before args s = true)
    (hcode : (Cond.codeWith y bytes maxL ret hh).before args s = true) (hy : y.cls ≠ "java/lang/invoke/MethodHandle" ∧ y.cls ≠ "java/lang/invoke/VarHandle")
    {W9 : Nat} {Pre : Pt → Array Value → Prop} {Post : Pt → Array Value → Option Value → Pt → Prop} (hK : Back l R p e below s args y 3 W9 Pre Post)
    {g : JFrame} (hg : g.method = m) (hsize : g.locals.size = c.maxLocals) {argsL rest : List Value} (hlen : ∀ sig, parseMethodDescriptor y.desc = some sig → argsL.length = sig.parameters.length)
    (hstack : g.stack = argsL.reverse ++ rest) (hW : 2 * g.monitorRoom + (rest.map fun v => v.category).sum ≤ W9) (hdg : decode c.code g.pc = .ok (.invokestatic index, 3))
    (hpre : ∀ vm₁, s.WarmedH vm₁ → Pre ⟨T.setVm vm₁, locs, cells, slots⟩ argsL.toArray) :
    ∃ (v : Option Value) (vm₁ : Vm) (B : Pt), s.WarmedH vm₁ ∧ Stand p l e R s m args below meth c B.U B.locs B.cells B.slots ∧ Post ⟨T.setVm vm₁, locs, cells, slots⟩ argsL.toArray v B ∧
      ∀ target, Steps p.tables e below (B.U.setTop { g with pc := g.pc + 3, stack := v.toList ++ rest }) target → Steps p.tables e below (T.setTop g) target := by
  obtain ⟨mk, methM, cM, hnamed, hmethM, -, -, -, -, -, -, hsigM⟩ := Cond.codeWith_spec hcode
  have hstatic : methM.isStatic = true := Cond.static_spec hnamed hmethM hstat
  obtain ⟨kP, hkP, -⟩ := className_of_methodNamed hnamed
  have hinitP : kP.init = .initialized := Cond.initialized_spec (findClass_of_methodNamed hnamed) hkP hinit
  obtain ⟨vm₁, X₁, hstep₁⟩ := X.invokestatic hexec hown hlink hnamed hmethM hstatic hkP hinitP hy (g := g) hg (argsL := argsL) (rest := rest) (hlen _ hsigM) hstack hdg
  obtain ⟨v, B, X', hpost, hsteps⟩ := hK m meth c ⟨T.setVm vm₁, locs, cells, slots⟩ { g with stack := rest } (.invokestatic index) mk argsL.toArray X₁ hg hsize hdg hW (X₁.named hnamed) (hpre vm₁ X₁.warmed)
  exact ⟨v, vm₁, B, X₁.warmed, X', hpost, fun target h => hstep₁ _ fun acts => by rw [doInvoke_state]; exact hsteps.trans h⟩
theorem vx_runSW {y : MethodName} {bytes cc : ByteArray} {maxL nL mc ms n index : Nat} {ret : Option FieldType} {hh : List (Nat × Nat × Nat × Nat)} {ws : List Cond} {rm : Room} {Pc : Array Value → State → Prop} {Qc : Array Value → State → Outcome → State → Prop} {free : Addr → Prop} {Ts : List Cond} {own : String} {As rest : List Value} {g : JFrame}
    (S : CallFix p m c cc nL s args Ts own) (hM : Met l y ws rm Pc Qc mc ms free) (cw : vx_CSW R s args own index y bytes maxL ret hh ws rm mc ms n) (hp : PreS s H Pc As)
    (hg : g.method = m) (hn : As.length = n) (hsize : g.locals.size = nL) (hstack : g.stack = As.reverse ++ rest) (hW : 2 * g.monitorRoom + (rest.map fun v => v.category).sum ≤ 8) (hdg : decode cc g.pc = .ok (.invokestatic index, 3)) (hf : cells + mc ≤ R.cells ∧ slots + ms ≤ R.slots) :
    va_Run p l e R s m args below meth c H locs cells slots mc ms g rest (Qc As.toArray) (free) := by
  obtain ⟨⟨hrc, hrs, hfr, hlo, hws, hcw⟩, hcode, hini, hy, hlen, hl, hstt⟩ := cw
  have hK : Back l R p e below s args y 3 8 (PreOf R mc ms Pc) (PostOf Qc mc ms free) := va_backW (hh := hh) (bytes := bytes) (maxL := maxL) (ret := ret) hM hp.1 hrc hrs hfr hlo hws hcw (fun a' U hW => word_at hW (Or.inl (by first | rfl | simp [Cond.onTables, Cond.keeps, Cond.steady])) hini)
  obtain ⟨hx, hb, hml, ho, -⟩ := S
  intro T hT X
  obtain ⟨v, vm₁, ⟨U', l2, c2, s2⟩, hW₁, X', ⟨g', mk, t, L, e1, e2, hq, h1, hL, h2, h3⟩, st⟩ := vx_callSW X hx (hh := hh) (bytes := bytes) (maxL := maxL) (ret := ret) ho hl hstt hini hcode hy hK hg (hsize.trans hml.symm) (argsL := As) (rest := rest) (fun sig h => hn.trans (hlen sig h)) hstack hW (by rw [hb]; exact hdg)
    (fun vm₁ hW₁ => ⟨hf.1, hf.2, hp.2 (T.setVm vm₁) hT hW₁⟩)
  dsimp only [Pt.U, Pt.locs, Pt.cells, Pt.slots] at X' e1 e2 h1 h2 h3 st
  subst h1; subst h2; subst h3
  exact ⟨v, (T.setVm vm₁).calling g' mk As.toArray, t, U', L, hT, X', hL, e1, e2, hq, st⟩
/-- not caught here, past rows that name other classes: it goes on to the caller -/
theorem vx_outP {p : Program} {l : Launch} {e : Env} {R : Room} {s : State} {m : MethodId} {args : Array Value} {below : List Frame} {meth : Method} {c : Code} {H : Heap} {locs : List Loc} {cells slots : Nat} {free : Addr → Prop} {ls : Array Slot} {rest : List Value} {Qc : Array Value → State → Outcome → State → Prop} {XC : String → State → State → Prop}
    {pc : Nat} {own E : String} {ce : Cell} {q : Addr} {mc ms : Nat} (hown : s.vm.findClass own = some m.cls) (hlocks : meth.locks = false)
    (hpass : ∀ z ∈ c.exceptionTable.toList, covers z pc = false ∨ (z.catchType ≠ 0 ∧ ∃ nm : String, (Cond.classLink own z.catchType nm).before args s = true ∧ va_Nc E nm s)) (hcell : H[q]? = some ce) (hv : ce.vm = .none) (hcl : s.vm.findClass E = some ce.cls)
    (hx : ∀ t : State, t.heap = H → s.vm.Alike t.vm → XC E s t) (hf : ∀ z ∈ locs, free z.base) (hc : cells ≤ mc) (hs : slots ≤ ms) :
    vx_W p l e R s m args below meth c H locs cells slots (vx_MQ below Qc XC args s mc ms free) (F0 m pc ls rest) q := by
  intro T hT X
  have hpl : e.platform.magicAccessors = ({} : Platform).magicAccessors := by rw [X.admits.platform]
  obtain ⟨vm', hW', X', st⟩ := X.outThrough hlocks q (g := F0 m pc ls rest) rfl rfl rfl (cell := ce) (by rw [hT]; exact hcell) (by rw [hv]; rfl)
    (by obtain ⟨k9, h9, -⟩ := Vm.findClass_spec hcl; exact ⟨k9, h9⟩) (fun z hz => by
      rcases hpass z hz with h | ⟨hz0, nm, hl1, hn1⟩
      · exact Or.inl h
      · obtain ⟨c6, hc6, hcl6⟩ := Cond.classLink_spec hown hl1 e.platform hpl
        obtain ⟨a8, b8, h1, h2, h3⟩ := hn1
        cases Option.some.inj (h1.symm.trans hcl)
        cases Option.some.inj (h2.symm.trans hc6)
        exact Or.inr ⟨hz0, _, hcl6, h3⟩)
  obtain ⟨g₀, hfr⟩ := X'.frames_eq
  have hcell9 : ((T.setVm vm').setFrames (.throwing q :: below)).heap[q]? = some ce := by
    show T.heap[q]? = some ce
    rw [hT]; exact hcell
  have hend : Ended ((T.setVm vm').setFrames (.throwing q :: below)) below (.threw q) := State.frames_setFrames _ (State.cur_lt_of_frames hfr)
  refine ⟨(T.setVm vm').setFrames (.throwing q :: below), ?_, .threw q, X'.here.running, hend, Or.inr ⟨q, rfl, E, ce, locs, hx _ hT (X'.ends _).1.alike, hcell9, hv, hcl, (X'.ends _).1, (X'.ends _).2.mono hc hs, hf⟩⟩
  rw [X.pushThrowing_eq]
  exact st
/-- a thing of a world lies in the heap -/
theorem vx_lt {D : va_G} {cl : List vw_C} {ws : va_W} {H1 : Heap} (h : va_P D cl ws H1) {k : Nat} {q : Nat × va_E} (hk : ws[k]? = some q) : q.1 < H1.size := (h k q hk).lt
end VXS
/-! ===== END ===== -/
/-! ===== BEGIN methods with a table of their own: called by a name, returning or throwing ===== -/
section VXH
/-! vx_backW, vx_callVX, vx_callSX, vx_callVW, vx_runVW, vx_runVX, vx_runSX, vx_ofWH follow the same proofs as their sisters above (Free/Laws.lean, Shelf42/LK1.lean); vx_outP calls Shelf42/NT130.lean (outThrough). -/
section
variable {l : Launch} {R : Room} {p : Program} {e : Env} {below : List Frame} {s : State} {sargs : Array Value} {y : MethodName} {len W9 : Nat}
theorem vx_backW {ws : List Cond} {rm : Room} {Pc : Array Value → State → Prop} {Qc : Array Value → State → Outcome → State → Prop} {XC : String → State → State → Prop} {mc ms : Nat} {free : Addr → Prop} {bytes : ByteArray} {maxL : Nat} {ret : Option FieldType} {hh : List (Nat × Nat × Nat × Nat)}
    (hM : vx_Met l y ws rm Pc Qc XC mc ms free) (hblind : FrameBlind Pc) (hrc : rm.cells = mc) (hrs : rm.slots = ms)
    (hframes : rm.frames + 1 ≤ R.frames) (hlocals : W9 + (maxL + 11) + rm.locals ≤ R.locals)
    (hws : ∀ w ∈ ws, ∀ a' U, s.WarmedH U.vm → w.before a' U = true) (hcode : Cond.codeWith y bytes maxL ret hh ∈ ws) (hinit : ∀ a' U, s.WarmedH U.vm → (Cond.initialized y.cls).before a' U = true) :
    vx_Back l R p e below s sargs y len W9 (PreOf R mc ms Pc) (PostOf Qc mc ms free) (vx_Post XC mc ms free) := by
  intro m meth c A g ig mk a X hg hsize hdg hW hn hp
  have h1 : (headSpec ws rm).pre.before a A.U = true := atoms_intro fun w hw => hws w hw _ _ X.warmed
  have h2 : (Cond.codeWith y bytes maxL ret hh).before a A.U = true := hws _ hcode _ _ X.warmed
  have h3 : (Cond.initialized y.cls).before a A.U = true := hinit _ _ X.warmed
  have h4 : A.cells + (headSpec ws rm).room.cells ≤ R.cells := by rw [show (headSpec ws rm).room.cells = mc from hrc]; exact hp.1
  have h5 : A.slots + (headSpec ws rm).room.slots ≤ R.slots := by rw [show (headSpec ws rm).room.slots = ms from hrs]; exact hp.2.1
  have hPc : Pc a (A.U.calling g mk a) := hblind _ _ _ _ hp.2.2
  obtain ⟨U, Ls, c0, s0⟩ := A
  dsimp only [Pt.U, Pt.locs, Pt.cells, Pt.slots] at h1 h2 h3 h4 h5 X hn hPc ⊢
  obtain ⟨m9, methY, cY, hn9, hmY, hcY, -, hlY, -⟩ := Cond.codeWith_spec h2
  cases Option.some.inj (hn9.symm.trans hn)
  obtain ⟨kY, hkY, -⟩ := className_of_methodNamed hn
  have hinitY : kY.init = .initialized := Cond.initialized_spec (findClass_of_methodNamed hn) hkY h3
  have h : At U g.method c below := by rw [hg]; exact X.here
  have hlocals9 : W9 + (maxL + 11) + (headSpec ws rm).room.locals ≤ R.locals := hlocals
  have happ : (headSpec ws rm).appliesLoose y e.platform (U.calling g mk a) = true :=
    Spec.appliesLoose_calling (g := g) h hdg hn hkY hinitY
      (X.room_calling (g := g) (R' := (headSpec ws rm).room) hsize hmY hcY hframes (by rw [hlY]; omega) h4 h5) h1
  obtain ⟨mid, hmid⟩ := h.above
  have hfr : (U.setTop g).frames = (.java g :: mid) ++ below := by rw [State.frames_setTop' g h.top, hmid]; rfl
  obtain ⟨o, s₂, hsteps, -, hend, hq⟩ := Steps.callFree hM p X.admits X.cas X.clock (acts := []) hfr happ hPc trivial
  have hq' : vx_Q Qc XC mc ms free a (U.calling g mk a) o s₂ := hq
  rw [State.frames_setTop' g h.top] at hend
  obtain ⟨g₀, hg0⟩ := Option.isSome_iff_exists.mp h.top
  obtain ⟨r, hr⟩ := State.topJava?_eq_some.mp hg0
  have hr' : (({ U with heap := s₂.heap, slotsUsed := s₂.slotsUsed } : State).setVm s₂.vm).frames = .java g₀ :: r := hr
  rcases hq' with ⟨hqc, L, hfe, hL⟩ | ⟨q, rfl, E, ce, L, hx, hce, hcv, hcl, hW₂, hsm, hL⟩
  · obtain ⟨⟨v, rfl⟩, hW₂, e2, q2, q3, q4, q5, q6⟩ := id hfe
    have e3 : s₂ = ({ (U.calling g mk a).setFrames s₂.frames with heap := s₂.heap, slotsUsed := s₂.slotsUsed } : State).setVm s₂.vm := by
      have : s₂ = ({ s₂ with vm := (U.calling g mk a).vm } : State).setVm s₂.vm := rfl
      rw [e2] at this
      exact this
    obtain ⟨c₂, i₂, len₂, hc₂, hd₂, hf₂⟩ := hend
    have hW' : U.WarmedH s₂.vm := hW₂
    have hcc : c₂ = c := by
      have h1 : s₂.code? g.method = U.code? g.method := by
        rw [State.code?_eq, State.code?_eq, hW'.alike.method?]
      exact Option.some.inj (hc₂.symm.trans (h1.trans h.code))
    subst hcc
    have hlen : len₂ = len := by rw [hdg] at hd₂; cases hd₂; rfl
    subst hlen
    have hs₂ : s₂ = (({ U with heap := s₂.heap, slotsUsed := s₂.slotsUsed } : State).setVm s₂.vm).setTop { g with pc := g.pc + len₂, stack := v.toList ++ g.stack } := by
      refine e3.trans ?_
      rw [hf₂, State.calling_eq h.top, State.setFrames_setFrames, State.setTop_of_frames _ hr', hr]
      rfl
    have hsame : U.sameButNew ({ U with heap := s₂.heap, slotsUsed := s₂.slotsUsed } : State) L mc ms := by
      refine ⟨?_, q2, q3, q4, q5, q6⟩
      obtain ⟨t, ht, -⟩ := State.frames_cons hr
      show ({ U with heap := s₂.heap, slotsUsed := s₂.slotsUsed } : State) = { U.setFrames U.frames with heap := s₂.heap, slotsUsed := s₂.slotsUsed }
      rw [State.setFrames_self ht]
    subst hg
    refine Or.inl ⟨v, ⟨(({ U with heap := s₂.heap, slotsUsed := s₂.slotsUsed } : State).setVm s₂.vm), Ls ++ L, c0 + mc, s0 + ms⟩,
      ⟨X.admits, X.cas, X.clock, X.frames, X.room, X.hears, X.method, X.code, (X.here.setHeapUsed s₂.heap s₂.slotsUsed).setVm hW'.alike, X.tail, State.WarmedH.trans X.warmed hW', X.limits, X.bytes, X.same.trans (hsame.setVm s.vm)⟩,
      ⟨g, mk, s₂, L, rfl, rfl, hqc, rfl, hL, rfl, rfl⟩, ?_⟩
    show Steps p.tables e below _ ((({ U with heap := s₂.heap, slotsUsed := s₂.slotsUsed } : State).setVm s₂.vm).setTop { g with pc := g.pc + len₂, stack := v.toList ++ g.stack })
    rw [← hs₂]
    exact hsteps
  · obtain ⟨e2, q2, q3, q4, q5, q6⟩ := id hsm
    have e3 : s₂ = ({ (U.calling g mk a).setFrames s₂.frames with heap := s₂.heap, slotsUsed := s₂.slotsUsed } : State).setVm s₂.vm := by
      have : s₂ = ({ s₂ with vm := (U.calling g mk a).vm } : State).setVm s₂.vm := rfl
      rw [e2] at this
      exact this
    have hf₂ : s₂.frames = .throwing q :: .java g :: U.frames.tail := hend
    have hW' : U.WarmedH s₂.vm := hW₂
    have hs₂ : s₂ = ((({ U with heap := s₂.heap, slotsUsed := s₂.slotsUsed } : State).setVm s₂.vm).setTop g).pushFrame (.throwing q) := by
      refine e3.trans ?_
      rw [hf₂, State.calling_eq h.top, State.setFrames_setFrames, State.pushFrame, State.frames_setTop _ hr', State.setTop_of_frames _ hr', State.setFrames_setFrames, hr]
      rfl
    have hsame : U.sameButNew ({ U with heap := s₂.heap, slotsUsed := s₂.slotsUsed } : State) L mc ms := by
      refine ⟨?_, q2, q3, q4, q5, q6⟩
      obtain ⟨t, ht, -⟩ := State.frames_cons hr
      show ({ U with heap := s₂.heap, slotsUsed := s₂.slotsUsed } : State) = { U.setFrames U.frames with heap := s₂.heap, slotsUsed := s₂.slotsUsed }
      rw [State.setFrames_self ht]
    subst hg
    refine Or.inr ⟨q, ⟨(({ U with heap := s₂.heap, slotsUsed := s₂.slotsUsed } : State).setVm s₂.vm), Ls ++ L, c0 + mc, s0 + ms⟩,
      ⟨X.admits, X.cas, X.clock, X.frames, X.room, X.hears, X.method, X.code, (X.here.setHeapUsed s₂.heap s₂.slotsUsed).setVm hW'.alike, X.tail, State.WarmedH.trans X.warmed hW', X.limits, X.bytes, X.same.trans (hsame.setVm s.vm)⟩,
      ⟨g, mk, s₂, L, E, ce, rfl, rfl, hx, hce, hcv, hcl, rfl, hL, rfl, rfl⟩, ?_⟩
    show Steps p.tables e below _ (((({ U with heap := s₂.heap, slotsUsed := s₂.slotsUsed } : State).setVm s₂.vm).setTop g).pushFrame (.throwing q))
    rw [← hs₂]
    exact hsteps
end
variable {p : Program} {l : Launch} {e : Env} {R : Room} {s : State} {m : MethodId} {args : Array Value} {below : List Frame} {meth : Method} {c : Code} {T : State} {H : Heap} {locs : List Loc} {cells slots : Nat}
theorem vx_callVX (X : Stand p l e R s m args below meth c T locs cells slots) (hexec : p.tables.exec = Jvm.exec) {own C : String} {index : Nat} {y : MethodName} {bytes : ByteArray} {maxL : Nat} {ret : Option FieldType} {hh : List (Nat × Nat × Nat × Nat)}
    (hown : s.vm.findClass own = some m.cls) (hlink : (Cond.methodLink own index y).before args s = true) (hinst : (Cond.instanceMethod y).before args s = true) (hsel : (Cond.selects C y y).before args s = true)
    (hcode : (Cond.codeWith y bytes maxL ret hh).before args s = true) (hy : y.cls ≠ "java/lang/invoke/MethodHandle" ∧ y.cls ≠ "java/lang/invoke/VarHandle")
    {W9 : Nat} {Pre : Pt → Array Value → Prop} {Post : Pt → Array Value → Option Value → Pt → Prop} {PostX : Pt → Array Value → Addr → Pt → Prop} (hK : vx_Back l R p e below s args y 3 W9 Pre Post PostX)
    {b : Addr} {cellB : Cell} (hcell : T.heap[b]? = some cellB) (hobj : cellB.vm.isStatics = false) (hcls : s.vm.findClass C = some cellB.cls)
    {g : JFrame} (hg : g.method = m) (hsize : g.locals.size = c.maxLocals) {argsL rest : List Value} (hlen : ∀ sig, parseMethodDescriptor y.desc = some sig → argsL.length = sig.parameters.length)
    (hstack : g.stack = argsL.reverse ++ .ref b :: rest) (hW : 2 * g.monitorRoom + (rest.map fun v => v.category).sum ≤ W9) (hdg : decode c.code g.pc = .ok (.invokevirtual index, 3))
    (hpre : ∀ vm₁, s.WarmedH vm₁ → Pre ⟨T.setVm vm₁, locs, cells, slots⟩ (Value.ref b :: argsL).toArray) :
    (∃ (v : Option Value) (vm₁ : Vm) (B : Pt), s.WarmedH vm₁ ∧ Stand p l e R s m args below meth c B.U B.locs B.cells B.slots ∧ Post ⟨T.setVm vm₁, locs, cells, slots⟩ (Value.ref b :: argsL).toArray v B ∧
      ∀ target, Steps p.tables e below (B.U.setTop { g with pc := g.pc + 3, stack := v.toList ++ rest }) target → Steps p.tables e below (T.setTop g) target) ∨
    (∃ (q : Addr) (vm₁ : Vm) (B : Pt), s.WarmedH vm₁ ∧ Stand p l e R s m args below meth c B.U B.locs B.cells B.slots ∧ PostX ⟨T.setVm vm₁, locs, cells, slots⟩ (Value.ref b :: argsL).toArray q B ∧
      Steps p.tables e below (T.setTop g) ((B.U.setTop { g with stack := rest }).pushFrame (.throwing q))) := by
  obtain ⟨mk, methM, hnamed, hmethM, hstM, habM⟩ := Cond.instanceMethod_spec hinst
  obtain ⟨m8, methM', cM, hn8, hmethM', -, -, -, -, -, -, hsigM⟩ := Cond.codeWith_spec hcode
  cases Option.some.inj (hn8.symm.trans hnamed)
  cases hmethM.symm.trans hmethM'
  obtain ⟨c2, r2, m2, q1, q2, q3, q4, kP, hkP, hkPi⟩ := Cond.selects_spec hsel
  cases hcls.symm.trans q1
  cases (State.methodFound?_of_named hnamed hy).symm.trans q2
  cases hnamed.symm.trans q3
  have hselP : selectMethod e.platform s.vm cellB.cls mk = .method mk := by rw [Launch.admits_selectMethod X.admits]; exact q4
  obtain ⟨vm₁, X₁, hstep₁⟩ := X.invokevirtual hexec hown hlink hnamed hmethM hstM hkP hkPi hy (a := b) (cell := cellB) hcell
    (fun z h => by rw [h] at hobj; cases hobj) hselP hmethM habM hkP hkPi (g := g) hg (argsL := argsL) (rest := rest) (hlen _ hsigM) hstack hdg
  rcases hK m meth c ⟨T.setVm vm₁, locs, cells, slots⟩ { g with stack := rest } (.invokevirtual index) mk (Value.ref b :: argsL).toArray X₁ hg hsize hdg hW (X₁.named hnamed) (hpre vm₁ X₁.warmed) with ⟨v, B, X', hpost, hsteps⟩ | ⟨q, B, X', hpost, hsteps⟩
  · exact Or.inl ⟨v, vm₁, B, X₁.warmed, X', hpost, fun target h => hstep₁ _ fun acts => by rw [doInvoke_state]; exact hsteps.trans h⟩
  · exact Or.inr ⟨q, vm₁, B, X₁.warmed, X', hpost, hstep₁ _ fun acts => by rw [doInvoke_state]; exact hsteps⟩
theorem vx_callSX (X : Stand p l e R s m args below meth c T locs cells slots) (hexec : p.tables.exec = Jvm.exec) {own : String} {index : Nat} {y : MethodName} {bytes : ByteArray} {maxL : Nat} {ret : Option FieldType} {hh : List (Nat × Nat × Nat × Nat)}
    (hown : s.vm.findClass own = some m.cls) (hlink : (Cond.methodLink own index y).before args s = true) (hstat : (Cond.static y).before args s = true) (hinit : (Cond.initialized y.cls).before args s = true)
    (hcode : (Cond.codeWith y bytes maxL ret hh).before args s = true) (hy : y.cls ≠ "java/lang/invoke/MethodHandle" ∧ y.cls ≠ "java/lang/invoke/VarHandle")
    {W9 : Nat} {Pre : Pt → Array Value → Prop} {Post : Pt → Array Value → Option Value → Pt → Prop} {PostX : Pt → Array Value → Addr → Pt → Prop} (hK : vx_Back l R p e below s args y 3 W9 Pre Post PostX)
    {g : JFrame} (hg : g.method = m) (hsize : g.locals.size = c.maxLocals) {argsL rest : List Value} (hlen : ∀ sig, parseMethodDescriptor y.desc = some sig → argsL.length = sig.parameters.length)
    (hstack : g.stack = argsL.reverse ++ rest) (hW : 2 * g.monitorRoom + (rest.map fun v => v.category).sum ≤ W9) (hdg : decode c.code g.pc = .ok (.invokestatic index, 3))
    (hpre : ∀ vm₁, s.WarmedH vm₁ → Pre ⟨T.setVm vm₁, locs, cells, slots⟩ argsL.toArray) :
    (∃ (v : Option Value) (vm₁ : Vm) (B : Pt), s.WarmedH vm₁ ∧ Stand p l e R s m args below meth c B.U B.locs B.cells B.slots ∧ Post ⟨T.setVm vm₁, locs, cells, slots⟩ argsL.toArray v B ∧
      ∀ target, Steps p.tables e below (B.U.setTop { g with pc := g.pc + 3, stack := v.toList ++ rest }) target → Steps p.tables e below (T.setTop g) target) ∨
    (∃ (q : Addr) (vm₁ : Vm) (B : Pt), s.WarmedH vm₁ ∧ Stand p l e R s m args below meth c B.U B.locs B.cells B.slots ∧ PostX ⟨T.setVm vm₁, locs, cells, slots⟩ argsL.toArray q B ∧
      Steps p.tables e below (T.setTop g) ((B.U.setTop { g with stack := rest }).pushFrame (.throwing q))) := by
  obtain ⟨mk, methM, cM, hnamed, hmethM, -, -, -, -, -, -, hsigM⟩ := Cond.codeWith_spec hcode
  have hstatic : methM.isStatic = true := Cond.static_spec hnamed hmethM hstat
  obtain ⟨kP, hkP, -⟩ := className_of_methodNamed hnamed
  have hinitP : kP.init = .initialized := Cond.initialized_spec (findClass_of_methodNamed hnamed) hkP hinit
  obtain ⟨vm₁, X₁, hstep₁⟩ := X.invokestatic hexec hown hlink hnamed hmethM hstatic hkP hinitP hy (g := g) hg (argsL := argsL) (rest := rest) (hlen _ hsigM) hstack hdg
  rcases hK m meth c ⟨T.setVm vm₁, locs, cells, slots⟩ { g with stack := rest } (.invokestatic index) mk argsL.toArray X₁ hg hsize hdg hW (X₁.named hnamed) (hpre vm₁ X₁.warmed) with ⟨v, B, X', hpost, hsteps⟩ | ⟨q, B, X', hpost, hsteps⟩
  · exact Or.inl ⟨v, vm₁, B, X₁.warmed, X', hpost, fun target h => hstep₁ _ fun acts => by rw [doInvoke_state]; exact hsteps.trans h⟩
  · exact Or.inr ⟨q, vm₁, B, X₁.warmed, X', hpost, hstep₁ _ fun acts => by rw [doInvoke_state]; exact hsteps⟩
theorem vx_callVW (X : Stand p l e R s m args below meth c T locs cells slots) (hexec : p.tables.exec = Jvm.exec) {own C : String} {index : Nat} {y : MethodName} {bytes : ByteArray} {maxL : Nat} {ret : Option FieldType} {hh : List (Nat × Nat × Nat × Nat)}
    (hown : s.vm.findClass own = some m.cls) (hlink : (Cond.methodLink own index y).before args s = true) (hinst : (Cond.instanceMethod y).before args s = true) (hsel : (Cond.selects C y y).before args s = true)
    (hcode : (Cond.codeWith y bytes maxL ret hh).before args s = true) (hy : y.cls ≠ "java/lang/invoke/MethodHandle" ∧ y.cls ≠ "java/lang/invoke/VarHandle")
    {W9 : Nat} {Pre : Pt → Array Value → Prop} {Post : Pt → Array Value → Option Value → Pt → Prop} (hK : Back l R p e below s args y 3 W9 Pre Post)
    {b : Addr} {cellB : Cell} (hcell : T.heap[b]? = some cellB) (hobj : cellB.vm.isStatics = false) (hcls : s.vm.findClass C = some cellB.cls)
    {g : JFrame} (hg : g.method = m) (hsize : g.locals.size = c.maxLocals) {argsL rest : List Value} (hlen : ∀ sig, parseMethodDescriptor y.desc = some sig → argsL.length = sig.parameters.length)
    (hstack : g.stack = argsL.reverse ++ .ref b :: rest) (hW : 2 * g.monitorRoom + (rest.map fun v => v.category).sum ≤ W9) (hdg : decode c.code g.pc = .ok (.invokevirtual index, 3))
    (hpre : ∀ vm₁, s.WarmedH vm₁ → Pre ⟨T.setVm vm₁, locs, cells, slots⟩ (Value.ref b :: argsL).toArray) :
    ∃ (v : Option Value) (vm₁ : Vm) (B : Pt), s.WarmedH vm₁ ∧ Stand p l e R s m args below meth c B.U B.locs B.cells B.slots ∧ Post ⟨T.setVm vm₁, locs, cells, slots⟩ (Value.ref b :: argsL).toArray v B ∧
      ∀ target, Steps p.tables e below (B.U.setTop { g with pc := g.pc + 3, stack := v.toList ++ rest }) target → Steps p.tables e below (T.setTop g) target := by
  obtain ⟨mk, methM, hnamed, hmethM, hstM, habM⟩ := Cond.instanceMethod_spec hinst
  obtain ⟨m8, methM', cM, hn8, hmethM', -, -, -, -, -, -, hsigM⟩ := Cond.codeWith_spec hcode
  cases Option.some.inj (hn8.symm.trans hnamed)
  cases hmethM.symm.trans hmethM'
  obtain ⟨c2, r2, m2, q1, q2, q3, q4, kP, hkP, hkPi⟩ := Cond.selects_spec hsel
  cases hcls.symm.trans q1
  cases (State.methodFound?_of_named hnamed hy).symm.trans q2
  cases hnamed.symm.trans q3
  have hselP : selectMethod e.platform s.vm cellB.cls mk = .method mk := by rw [Launch.admits_selectMethod X.admits]; exact q4
  obtain ⟨vm₁, X₁, hstep₁⟩ := X.invokevirtual hexec hown hlink hnamed hmethM hstM hkP hkPi hy (a := b) (cell := cellB) hcell
    (fun z h => by rw [h] at hobj; cases hobj) hselP hmethM habM hkP hkPi (g := g) hg (argsL := argsL) (rest := rest) (hlen _ hsigM) hstack hdg
  obtain ⟨v, B, X', hpost, hsteps⟩ := hK m meth c ⟨T.setVm vm₁, locs, cells, slots⟩ { g with stack := rest } (.invokevirtual index) mk (Value.ref b :: argsL).toArray X₁ hg hsize hdg hW (X₁.named hnamed) (hpre vm₁ X₁.warmed)
  exact ⟨v, vm₁, B, X₁.warmed, X', hpost, fun target h => hstep₁ _ fun acts => by rw [doInvoke_state]; exact hsteps.trans h⟩
abbrev vx_CVW (R : Room) (s : State) (args : Array Value) (own C : String) (index : Nat) (y : MethodName) (bytes : ByteArray) (maxL : Nat) (ret : Option FieldType) (hh : List (Nat × Nat × Nat × Nat)) (ws : List Cond) (rm : Room) (mc ms n : Nat) : Prop :=
  (rm.cells = mc ∧ rm.slots = ms ∧ rm.frames + 1 ≤ R.frames ∧ 8 + (maxL + 11) + rm.locals ≤ R.locals ∧ (∀ w ∈ ws, ∀ (a' : Array Value) (U : State), s.WarmedH U.vm → w.before a' U = true) ∧ Cond.codeWith y bytes maxL ret hh ∈ ws) ∧
  (Cond.codeWith y bytes maxL ret hh).before args s = true ∧ (Cond.initialized y.cls).before args s = true ∧ (y.cls ≠ "java/lang/invoke/MethodHandle" ∧ y.cls ≠ "java/lang/invoke/VarHandle") ∧
  (∀ sig, parseMethodDescriptor y.desc = some sig → n = sig.parameters.length) ∧ (Cond.methodLink own index y).before args s = true ∧ (Cond.instanceMethod y).before args s = true ∧ (Cond.selects C y y).before args s = true
theorem vx_cwVW {own C : String} {index maxL mc ms : Nat} {y : MethodName} {bytes : ByteArray} {ret : Option FieldType} {hh : List (Nat × Nat × Nat × Nat)} {Ts ws ws' : List Cond} {rm : Room} (n : Nat) (ht : ∀ w ∈ Ts, w.before args s = true) (hT : GoodIn Ts (wsV own index C y ws)) (hw : ws = Cond.codeWith y bytes maxL ret hh :: ws') (hrc : rm.cells = mc) (hrs : rm.slots = ms)
    (hd : y.cls = C ∧ y.cls ≠ "java/lang/invoke/MethodHandle" ∧ y.cls ≠ "java/lang/invoke/VarHandle" ∧ (parseMethodDescriptor y.desc).map (fun d => d.parameters.length) = some n) (hR : rm.frames + 1 ≤ R.frames ∧ 8 + (maxL + 11) + rm.locals ≤ R.locals) :
    vx_CVW R s args own C index y bytes maxL ret hh ws rm mc ms n := by
  obtain ⟨hC, hd⟩ := hd
  subst hC
  have ok : ∀ w ∈ wsV own index y.cls y ws, w.before args s = true := fun w h => ht w (hT w h).1
  have hG : GoodIn Ts ws := fun w h => hT w (by unfold wsV; exact List.mem_append_right _ h)
  have hc : Cond.codeWith y bytes maxL ret hh ∈ ws := by rw [hw]; exact List.mem_cons_self
  refine ⟨⟨hrc, hrs, hR.1, hR.2, pay_in ht hG, hc⟩, ht _ (hG _ hc).1, ok _ (by simp [wsV]), ⟨hd.1, hd.2.1⟩, fun sig h => ?_, ok _ (by simp [wsV]), ok _ (by simp [wsV]), ok _ (by simp [wsV])⟩
  have h2 := hd.2.2
  rw [h] at h2
  exact (Option.some.inj h2).symm
theorem vx_runVW {y : MethodName} {bytes cc : ByteArray} {maxL nL mc ms n index : Nat} {ret : Option FieldType} {hh : List (Nat × Nat × Nat × Nat)} {ws : List Cond} {rm : Room} {Pc : Array Value → State → Prop} {Qc : Array Value → State → Outcome → State → Prop} {free : Addr → Prop} {Ts : List Cond} {own C : String} {b : Addr} {As rest : List Value} {g : JFrame}
    (S : CallFix p m c cc nL s args Ts own) (hM : Met l y ws rm Pc Qc mc ms free) (cw : vx_CVW R s args own C index y bytes maxL ret hh ws rm mc ms n) (hp : PreV s H C b Pc As)
    (hg : g.method = m) (hn : As.length = n) (hsize : g.locals.size = nL) (hstack : g.stack = As.reverse ++ .ref b :: rest) (hW : 2 * g.monitorRoom + (rest.map fun v => v.category).sum ≤ 8) (hdg : decode cc g.pc = .ok (.invokevirtual index, 3)) (hf : cells + mc ≤ R.cells ∧ slots + ms ≤ R.slots) :
    va_Run p l e R s m args below meth c H locs cells slots mc ms g rest (Qc (Value.ref b :: As).toArray) free := by
  obtain ⟨⟨hrc, hrs, hfr, hlo, hws, hcw⟩, hcode, hini, hy, hlen, hl, hin, hse⟩ := cw
  have hK : Back l R p e below s args y 3 8 (PreOf R mc ms Pc) (PostOf Qc mc ms free) := va_backW (hh := hh) (bytes := bytes) (maxL := maxL) (ret := ret) hM hp.1 hrc hrs hfr hlo hws hcw (fun a' U hW => word_at hW (Or.inl (by first | rfl | simp [Cond.onTables, Cond.keeps, Cond.steady])) hini)
  obtain ⟨hx, hb, hml, ho, -⟩ := S
  obtain ⟨-, ⟨cellB, hcB, hoB, hclB⟩, hPc⟩ := hp
  intro T hT X
  obtain ⟨v, vm₁, ⟨U', l2, c2, s2⟩, hW₁, X', ⟨g', mk, t, L, e1, e2, hq, h1, hL, h2, h3⟩, st⟩ := vx_callVW X hx (C := C) (hh := hh) (bytes := bytes) (maxL := maxL) (ret := ret) ho hl hin hse hcode hy hK (by rw [hT]; exact hcB) hoB hclB hg (hsize.trans hml.symm) (argsL := As) (rest := rest) (fun sig h => hn.trans (hlen sig h)) hstack hW (by rw [hb]; exact hdg)
    (fun vm₁ hW₁ => ⟨hf.1, hf.2, hPc (T.setVm vm₁) hT hW₁⟩)
  dsimp only [Pt.U, Pt.locs, Pt.cells, Pt.slots] at X' e1 e2 h1 h2 h3 st
  subst h1; subst h2; subst h3
  exact ⟨v, (T.setVm vm₁).calling g' mk (Value.ref b :: As).toArray, t, U', L, hT, X', hL, e1, e2, hq, st⟩
section
variable {y : MethodName} {bytes cc : ByteArray} {maxL nL mc ms n index : Nat} {ret : Option FieldType} {ws : List Cond} {rm : Room} {Pc : Array Value → State → Prop} {Qc : Array Value → State → Outcome → State → Prop} {XC : String → State → State → Prop} {free : Addr → Prop} {Ts : List Cond} {own C : String} {b : Addr} {As rest : List Value} {g : JFrame}
theorem vx_runVX {hh : List (Nat × Nat × Nat × Nat)} (S : CallFix p m c cc nL s args Ts own) (hM : vx_Met l y ws rm Pc Qc XC mc ms free) (cw : vx_CVW R s args own C index y bytes maxL ret hh ws rm mc ms n) (hp : PreV s H C b Pc As)
    (hg : g.method = m) (hn : As.length = n) (hsize : g.locals.size = nL) (hstack : g.stack = As.reverse ++ .ref b :: rest) (hW : 2 * g.monitorRoom + (rest.map fun v => v.category).sum ≤ 8) (hdg : decode cc g.pc = .ok (.invokevirtual index, 3)) (hf : cells + mc ≤ R.cells ∧ slots + ms ≤ R.slots) :
    vx_Run p l e R s m args below meth c H locs cells slots mc ms g rest (Qc (Value.ref b :: As).toArray) XC free := by
  obtain ⟨⟨hrc, hrs, hfr, hlo, hws, hcw⟩, hcode, hini, hy, hlen, hl, hin, hse⟩ := cw
  have hK : vx_Back l R p e below s args y 3 8 (PreOf R mc ms Pc) (PostOf Qc mc ms free) (vx_Post XC mc ms free) := vx_backW (hh := hh) (bytes := bytes) (maxL := maxL) (ret := ret) hM hp.1 hrc hrs hfr hlo hws hcw (fun a' U hW => word_at hW (Or.inl (by first | rfl | simp [Cond.onTables, Cond.keeps, Cond.steady])) hini)
  obtain ⟨hx, hb, hml, ho, -⟩ := S
  obtain ⟨-, ⟨cellB, hcB, hoB, hclB⟩, hPc⟩ := hp
  intro T hT X
  rcases vx_callVX X hx (C := C) (hh := hh) (bytes := bytes) (maxL := maxL) (ret := ret) ho hl hin hse hcode hy hK (by rw [hT]; exact hcB) hoB hclB hg (hsize.trans hml.symm) (argsL := As) (rest := rest) (fun sig h => hn.trans (hlen sig h)) hstack hW (by rw [hb]; exact hdg)
    (fun vm₁ hW₁ => ⟨hf.1, hf.2, hPc (T.setVm vm₁) hT hW₁⟩) with ⟨v, vm₁, ⟨U', l2, c2, s2⟩, hW₁, X', ⟨g', mk, t, L, e1, e2, hq, h1, hL, h2, h3⟩, st⟩ | ⟨q, vm₁, ⟨U', l2, c2, s2⟩, hW₁, X', ⟨g', mk, t, L, E, ce, e1, e2, hq, hce, hcv, hcl, h1, hL, h2, h3⟩, st⟩
  · dsimp only [Pt.U, Pt.locs, Pt.cells, Pt.slots] at X' e1 e2 h1 h2 h3 st
    subst h1; subst h2; subst h3
    exact Or.inl ⟨v, (T.setVm vm₁).calling g' mk (Value.ref b :: As).toArray, t, U', L, hT, X', hL, e1, e2, hq, st⟩
  · dsimp only [Pt.U, Pt.locs, Pt.cells, Pt.slots] at X' e1 e2 h1 h2 h3 st hcl
    subst h1; subst h2; subst h3
    exact Or.inr ⟨q, (T.setVm vm₁).calling g' mk (Value.ref b :: As).toArray, t, U', L, E, ce, hT, X', hL, e1, e2, hq, hce, hcv, vx_cls hW₁ hcl, st⟩
theorem vx_runSX {hh : List (Nat × Nat × Nat × Nat)} (S : CallFix p m c cc nL s args Ts own) (hM : vx_Met l y ws rm Pc Qc XC mc ms free) (cw : vx_CSW R s args own index y bytes maxL ret hh ws rm mc ms n) (hp : PreS s H Pc As)
    (hg : g.method = m) (hn : As.length = n) (hsize : g.locals.size = nL) (hstack : g.stack = As.reverse ++ rest) (hW : 2 * g.monitorRoom + (rest.map fun v => v.category).sum ≤ 8) (hdg : decode cc g.pc = .ok (.invokestatic index, 3)) (hf : cells + mc ≤ R.cells ∧ slots + ms ≤ R.slots) :
    vx_Run p l e R s m args below meth c H locs cells slots mc ms g rest (Qc As.toArray) XC free := by
  obtain ⟨⟨hrc, hrs, hfr, hlo, hws, hcw⟩, hcode, hini, hy, hlen, hl, hstt⟩ := cw
  have hK : vx_Back l R p e below s args y 3 8 (PreOf R mc ms Pc) (PostOf Qc mc ms free) (vx_Post XC mc ms free) := vx_backW (hh := hh) (bytes := bytes) (maxL := maxL) (ret := ret) hM hp.1 hrc hrs hfr hlo hws hcw (fun a' U hW => word_at hW (Or.inl (by first | rfl | simp [Cond.onTables, Cond.keeps, Cond.steady])) hini)
  obtain ⟨hx, hb, hml, ho, -⟩ := S
  intro T hT X
  rcases vx_callSX X hx (hh := hh) (bytes := bytes) (maxL := maxL) (ret := ret) ho hl hstt hini hcode hy hK hg (hsize.trans hml.symm) (argsL := As) (rest := rest) (fun sig h => hn.trans (hlen sig h)) hstack hW (by rw [hb]; exact hdg)
    (fun vm₁ hW₁ => ⟨hf.1, hf.2, hp.2 (T.setVm vm₁) hT hW₁⟩) with ⟨v, vm₁, ⟨U', l2, c2, s2⟩, hW₁, X', ⟨g', mk, t, L, e1, e2, hq, h1, hL, h2, h3⟩, st⟩ | ⟨q, vm₁, ⟨U', l2, c2, s2⟩, hW₁, X', ⟨g', mk, t, L, E, ce, e1, e2, hq, hce, hcv, hcl, h1, hL, h2, h3⟩, st⟩
  · dsimp only [Pt.U, Pt.locs, Pt.cells, Pt.slots] at X' e1 e2 h1 h2 h3 st
    subst h1; subst h2; subst h3
    exact Or.inl ⟨v, (T.setVm vm₁).calling g' mk As.toArray, t, U', L, hT, X', hL, e1, e2, hq, st⟩
  · dsimp only [Pt.U, Pt.locs, Pt.cells, Pt.slots] at X' e1 e2 h1 h2 h3 st hcl
    subst h1; subst h2; subst h3
    exact Or.inr ⟨q, (T.setVm vm₁).calling g' mk As.toArray, t, U', L, E, ce, hT, X', hL, e1, e2, hq, hce, hcv, vx_cls hW₁ hcl, st⟩
end
end VXH
theorem vx_ofWH {l : Launch} {y : MethodName} {ws ws' : List Cond} {rm : Room} {Pc : Array Value → State → Prop} {Qc : Array Value → State → Outcome → State → Prop} {XC : String → State → State → Prop} {mc ms : Nat} {free : Addr → Prop} {cc : ByteArray} {maxL : Nat} {ret : Option FieldType} {hh : List (Nat × Nat × Nat × Nat)}
    (hy : plainName y.cls = true) (hw : ws = Cond.codeWith y cc maxL ret hh :: ws')
    (body : ∀ p e s m args below meth c s₁, BodyLoose p l y (headSpec ws rm) cc maxL ret e s m args below meth c s₁ → c.maxLocals = maxL → Pc args s →
      W p l e (headSpec ws rm).room s m args below meth c s.heap [] 0 0 (vx_MQ below Qc XC args s mc ms free) (entryFrame m args maxL)) : vx_Met l y ws rm Pc Qc XC mc ms free := by
  refine MetFree.of_bodyS (code := cc) (maxLocals := maxL) (ret := ret) hy ?_ ?_
  · intro args s m h hn
    obtain ⟨m9, meth, c, hn9, h1, h2, h3, h4, -, h5, h6, -⟩ := Cond.codeWith_spec (atoms_spec (ws := ws) h _ (by rw [hw]; exact List.mem_cons_self))
    cases hn.symm.trans hn9
    exact ⟨meth, c, h1, h2, h3, h4, h5, h6⟩
  · intro p e s m args below meth c s₁ B hml hP _
    have hh0 : s₁.heap = s.heap := by rw [B.state]; rfl
    obtain ⟨t, a1, o, b1, b2, b3⟩ := body p e s m args below meth c s₁ B hml hP s₁ hh0 (Stand.of_body B)
    exact ⟨t, o, a1, b1, b2, b3⟩
/-! ===== END ===== -/
end
section
def RX0 : String := "DeepHole$Bench"
def TX0 : u_T := fun k => match k with
  | 0 => ("DeepHole$Bench", "offX", "[I", true)
  | 1 => ("DeepHole$Bench", "offY", "[I", true)
  | 2 => ("DeepHole$Bench", "moves", "[[I", true)
  | 3 => ("DeepHole$Bench", "strokes", "[I", true)
  | 4 => ("DeepHole$Bench", "strokeCount", "I", false)
  | _ => ("DeepHole$Bench", "last", "I", false)
def tyX0 : Nat → FieldType := fun k => match k with
  | 0 => .array .int
  | 1 => .array .int
  | 2 => .array (.array .int)
  | 3 => .array .int
  | 4 => .int
  | _ => .int
abbrev wsX00 : List Cond := u_ws RX0 TX0 6
theorem nmX0 : ∀ a, a < 6 → ∀ b, b < 6 → a ≠ b → (TX0 a).2.1 ≠ (TX0 b).2.1 := by decide +kernel
theorem tyX0_ok : ∀ k, k < 6 → parseFieldDescriptor (TX0 k).2.2.1 = some (tyX0 k) := by decide +kernel
abbrev cX0_init : ByteArray := prog_2_method_1_code
def yX0_init : MethodName := ⟨RX0, "<init>", "()V"⟩
abbrev cX0_drop : ByteArray := prog_2_method_2_code
def yX0_drop : MethodName := ⟨RX0, "drop", "()V"⟩
abbrev cX0_findFewest : ByteArray := prog_2_method_3_code
def yX0_findFewest : MethodName := ⟨RX0, "findFewest", "(LDeepHole$Hole;II)Z"⟩
abbrev cX0_prepare : ByteArray := prog_2_method_4_code
def yX0_prepare : MethodName := ⟨RX0, "prepare", "(LDeepHole$Hole;I)V"⟩
abbrev cX0_findOne : ByteArray := prog_2_method_5_code
def yX0_findOne : MethodName := ⟨RX0, "findOne", "(I)Z"⟩
abbrev cX0_findTwo : ByteArray := prog_2_method_6_code
def yX0_findTwo : MethodName := ⟨RX0, "findTwo", "(I)Z"⟩
abbrev cX0_told : ByteArray := prog_2_method_7_code
def yX0_told : MethodName := ⟨RX0, "told", "(I)I"⟩
abbrev cX0_isStraight : ByteArray := prog_2_method_8_code
def yX0_isStraight : MethodName := ⟨RX0, "isStraight", "(III)Z"⟩
abbrev cX0_moveBy : ByteArray := prog_2_method_9_code
def yX0_moveBy : MethodName := ⟨RX0, "moveBy", "(II)I"⟩
def RX1 : String := "DeepHole$Bit"
def TX1 : u_T := fun k => match k with
  | 0 => ("DeepHole$Bit", "done", "I", false)
  | 1 => ("DeepHole$Bit", "x", "I", false)
  | 2 => ("DeepHole$Bit", "y", "I", false)
  | 3 => ("DeepHole$Bit", "tiltX", "I", false)
  | 4 => ("DeepHole$Bit", "tiltY", "I", false)
  | 5 => ("DeepHole$Bit", "wear", "I", false)
  | 6 => ("DeepHole$Bit", "chips", "I", false)
  | 7 => ("DeepHole$Bit", "cost", "I", false)
  | 8 => ("DeepHole$Bit", "force", "I", false)
  | _ => ("DeepHole$Bit", "fate", "I", false)
def tyX1 : Nat → FieldType := fun k => match k with
  | 0 => .int
  | 1 => .int
  | 2 => .int
  | 3 => .int
  | 4 => .int
  | 5 => .int
  | 6 => .int
  | 7 => .int
  | 8 => .int
  | _ => .int
abbrev wsX10 : List Cond := u_ws RX1 TX1 10
theorem nmX1 : ∀ a, a < 10 → ∀ b, b < 10 → a ≠ b → (TX1 a).2.1 ≠ (TX1 b).2.1 := by decide +kernel
theorem tyX1_ok : ∀ k, k < 10 → parseFieldDescriptor (TX1 k).2.2.1 = some (tyX1 k) := by decide +kernel
abbrev cX1_init : ByteArray := prog_3_method_1_code
def yX1_init : MethodName := ⟨RX1, "<init>", "()V"⟩
abbrev cX1_begin : ByteArray := prog_3_method_2_code
def yX1_begin : MethodName := ⟨RX1, "begin", "(II)V"⟩
abbrev cX1_copy : ByteArray := prog_3_method_3_code
def yX1_copy : MethodName := ⟨RX1, "copy", "(LDeepHole$Bit;)V"⟩
abbrev cX1_isWhole : ByteArray := prog_3_method_4_code
def yX1_isWhole : MethodName := ⟨RX1, "isWhole", "()Z"⟩
abbrev cX1_isNear : ByteArray := prog_3_method_5_code
def yX1_isNear : MethodName := ⟨RX1, "isNear", "(I)Z"⟩
abbrev cX1_advance : ByteArray := prog_3_method_6_code
def yX1_advance : MethodName := ⟨RX1, "advance", "(LDeepHole$Shop;IIII)V"⟩
abbrev cX1_prepare : ByteArray := prog_3_method_7_code
def yX1_prepare : MethodName := ⟨RX1, "prepare", "(LDeepHole$Shop;I)V"⟩
def RX2 : String := "DeepHole$Ends"
def TX2 : u_T := fun k => match k with
  | 0 => ("DeepHole$Ends", "bit", "LDeepHole$Bit;", true)
  | 1 => ("DeepHole$Ends", "frontX", "[I", true)
  | 2 => ("DeepHole$Ends", "frontY", "[I", true)
  | 3 => ("DeepHole$Ends", "backX", "[I", true)
  | 4 => ("DeepHole$Ends", "backY", "[I", true)
  | 5 => ("DeepHole$Ends", "frontDone", "I", false)
  | _ => ("DeepHole$Ends", "backDone", "I", false)
def tyX2 : Nat → FieldType := fun k => match k with
  | 0 => .object "DeepHole$Bit"
  | 1 => .array .int
  | 2 => .array .int
  | 3 => .array .int
  | 4 => .array .int
  | 5 => .int
  | _ => .int
abbrev wsX20 : List Cond := u_ws RX2 TX2 7
theorem nmX2 : ∀ a, a < 7 → ∀ b, b < 7 → a ≠ b → (TX2 a).2.1 ≠ (TX2 b).2.1 := by decide +kernel
theorem tyX2_ok : ∀ k, k < 7 → parseFieldDescriptor (TX2 k).2.2.1 = some (tyX2 k) := by decide +kernel
abbrev cX2_init : ByteArray := prog_4_method_1_code
def yX2_init : MethodName := ⟨RX2, "<init>", "()V"⟩
abbrev cX2_goBothWays : ByteArray := prog_4_method_2_code
def yX2_goBothWays : MethodName := ⟨RX2, "goBothWays", "(LDeepHole$Shop;)V"⟩
abbrev cX2_goThrough : ByteArray := prog_4_method_3_code
def yX2_goThrough : MethodName := ⟨RX2, "goThrough", "(LDeepHole$Shop;Z[I[I)I"⟩
abbrev cX2_apartAt : ByteArray := prog_4_method_4_code
def yX2_apartAt : MethodName := ⟨RX2, "apartAt", "(LDeepHole$Shop;I)I"⟩
abbrev cX2_nearest : ByteArray := prog_4_method_5_code
def yX2_nearest : MethodName := ⟨RX2, "nearest", "(LDeepHole$Shop;)I"⟩
def RX3 : String := "DeepHole$Hole"
def TX3 : u_T := fun k => match k with
  | 0 => ("DeepHole$Hole", "bit", "LDeepHole$Bit;", true)
  | 1 => ("DeepHole$Hole", "kept", "[[I", true)
  | 2 => ("DeepHole$Hole", "blowInch", "[I", true)
  | 3 => ("DeepHole$Hole", "blowSide", "[I", true)
  | 4 => ("DeepHole$Hole", "blowBy", "[I", true)
  | 5 => ("DeepHole$Hole", "blows", "I", false)
  | _ => ("DeepHole$Hole", "isBackward", "Z", false)
def tyX3 : Nat → FieldType := fun k => match k with
  | 0 => .object "DeepHole$Bit"
  | 1 => .array (.array .int)
  | 2 => .array .int
  | 3 => .array .int
  | 4 => .array .int
  | 5 => .int
  | _ => .boolean
abbrev wsX30 : List Cond := u_ws RX3 TX3 7
theorem nmX3 : ∀ a, a < 7 → ∀ b, b < 7 → a ≠ b → (TX3 a).2.1 ≠ (TX3 b).2.1 := by decide +kernel
theorem tyX3_ok : ∀ k, k < 7 → parseFieldDescriptor (TX3 k).2.2.1 = some (tyX3 k) := by decide +kernel
abbrev cX3_init : ByteArray := prog_5_method_1_code
def yX3_init : MethodName := ⟨RX3, "<init>", "()V"⟩
abbrev cX3_begin : ByteArray := prog_5_method_2_code
def yX3_begin : MethodName := ⟨RX3, "begin", "(Z)V"⟩
abbrev cX3_isDone : ByteArray := prog_5_method_3_code
def yX3_isDone : MethodName := ⟨RX3, "isDone", "(I)Z"⟩
abbrev cX3_isLongEnough : ByteArray := prog_5_method_4_code
def yX3_isLongEnough : MethodName := ⟨RX3, "isLongEnough", "()Z"⟩
abbrev cX3_fateIn : ByteArray := prog_5_method_5_code
def yX3_fateIn : MethodName := ⟨RX3, "fateIn", "(LDeepHole$Shop;)I"⟩
abbrev cX3_goOn : ByteArray := prog_5_method_6_code
def yX3_goOn : MethodName := ⟨RX3, "goOn", "(LDeepHole$Shop;)V"⟩
abbrev cX3_hardInch : ByteArray := prog_5_method_7_code
def yX3_hardInch : MethodName := ⟨RX3, "hardInch", "(LDeepHole$Shop;I)I"⟩
abbrev cX3_offTrue : ByteArray := prog_5_method_8_code
def yX3_offTrue : MethodName := ⟨RX3, "offTrue", "(II)I"⟩
abbrev cX3_offAt : ByteArray := prog_5_method_9_code
def yX3_offAt : MethodName := ⟨RX3, "offAt", "(I)I"⟩
abbrev cX3_worstInch : ByteArray := prog_5_method_10_code
def yX3_worstInch : MethodName := ⟨RX3, "worstInch", "()I"⟩
abbrev cX3_sideAt : ByteArray := prog_5_method_11_code
def yX3_sideAt : MethodName := ⟨RX3, "sideAt", "(I)I"⟩
abbrev cX3_widestPart : ByteArray := prog_5_method_12_code
def yX3_widestPart : MethodName := ⟨RX3, "widestPart", "()I"⟩
abbrev cX3_moved : ByteArray := prog_5_method_13_code
def yX3_moved : MethodName := ⟨RX3, "moved", "(III)I"⟩
abbrev cX3_strike : ByteArray := prog_5_method_14_code
def yX3_strike : MethodName := ⟨RX3, "strike", "(III)V"⟩
abbrev cX3_springBack : ByteArray := prog_5_method_15_code
def yX3_springBack : MethodName := ⟨RX3, "springBack", "()I"⟩
abbrev cX3_moveAway : ByteArray := prog_5_method_16_code
def yX3_moveAway : MethodName := ⟨RX3, "moveAway", "(III)V"⟩
def RX4 : String := "DeepHole$Needle"
def TX4 : u_T := fun k => match k with
  | 0 => ("DeepHole$Needle", "bit", "LDeepHole$Bit;", true)
  | 1 => ("DeepHole$Needle", "feltInch", "[I", true)
  | 2 => ("DeepHole$Needle", "feltForce", "[I", true)
  | 3 => ("DeepHole$Needle", "found", "[[I", true)
  | 4 => ("DeepHole$Needle", "count", "I", false)
  | 5 => ("DeepHole$Needle", "fitting", "I", false)
  | _ => ("DeepHole$Needle", "isFresh", "Z", false)
def tyX4 : Nat → FieldType := fun k => match k with
  | 0 => .object "DeepHole$Bit"
  | 1 => .array .int
  | 2 => .array .int
  | 3 => .array (.array .int)
  | 4 => .int
  | 5 => .int
  | _ => .boolean
abbrev wsX40 : List Cond := u_ws RX4 TX4 7
theorem nmX4 : ∀ a, a < 7 → ∀ b, b < 7 → a ≠ b → (TX4 a).2.1 ≠ (TX4 b).2.1 := by decide +kernel
theorem tyX4_ok : ∀ k, k < 7 → parseFieldDescriptor (TX4 k).2.2.1 = some (tyX4 k) := by decide +kernel
abbrev cX4_init : ByteArray := prog_6_method_1_code
def yX4_init : MethodName := ⟨RX4, "<init>", "()V"⟩
abbrev cX4_drop : ByteArray := prog_6_method_2_code
def yX4_drop : MethodName := ⟨RX4, "drop", "()V"⟩
abbrev cX4_add : ByteArray := prog_6_method_3_code
def yX4_add : MethodName := ⟨RX4, "add", "(II)V"⟩
abbrev cX4_search : ByteArray := prog_6_method_4_code
def yX4_search : MethodName := ⟨RX4, "search", "(LDeepHole$Shop;)V"⟩
abbrev cX4_tryCause : ByteArray := prog_6_method_5_code
def yX4_tryCause : MethodName := ⟨RX4, "tryCause", "(LDeepHole$Shop;III)V"⟩
abbrev cX4_fits : ByteArray := prog_6_method_6_code
def yX4_fits : MethodName := ⟨RX4, "fits", "(LDeepHole$Shop;III)Z"⟩
abbrev cX4_behindLastFelt : ByteArray := prog_6_method_7_code
def yX4_behindLastFelt : MethodName := ⟨RX4, "behindLastFelt", "()I"⟩
abbrev cX4_agrees : ByteArray := prog_6_method_8_code
def yX4_agrees : MethodName := ⟨RX4, "agrees", "(II)Z"⟩
abbrev cX4_alike : ByteArray := prog_6_method_9_code
def yX4_alike : MethodName := ⟨RX4, "alike", "(I)I"⟩
def RX5 : String := "DeepHole$Plan"
def TX5 : u_T := fun k => match k with
  | 0 => ("DeepHole$Plan", "feed", "[I", true)
  | 1 => ("DeepHole$Plan", "way", "[I", true)
  | 2 => ("DeepHole$Plan", "draw", "[Z", true)
  | _ => ("DeepHole$Plan", "sharpen", "[Z", true)
def tyX5 : Nat → FieldType := fun k => match k with
  | 0 => .array .int
  | 1 => .array .int
  | 2 => .array .boolean
  | _ => .array .boolean
abbrev wsX50 : List Cond := u_ws RX5 TX5 4
theorem nmX5 : ∀ a, a < 4 → ∀ b, b < 4 → a ≠ b → (TX5 a).2.1 ≠ (TX5 b).2.1 := by decide +kernel
theorem tyX5_ok : ∀ k, k < 4 → parseFieldDescriptor (TX5 k).2.2.1 = some (tyX5 k) := by decide +kernel
abbrev cX5_init : ByteArray := prog_7_method_1_code
def yX5_init : MethodName := ⟨RX5, "<init>", "()V"⟩
abbrev cX5_empty : ByteArray := prog_7_method_2_code
def yX5_empty : MethodName := ⟨RX5, "empty", "()V"⟩
abbrev cX5_from : ByteArray := prog_7_method_3_code
def yX5_from : MethodName := ⟨RX5, "from", "(III)V"⟩
def RX6 : String := "DeepHole$Reader"
def TX6 : u_T := fun k => match k with
  | 0 => ("DeepHole$Reader", "tokens", "LDeepHole$Tokens;", true)
  | 1 => ("DeepHole$Reader", "told", "LDeepHole$Shop;", false)
  | 2 => ("DeepHole$Reader", "nameStart", "[I", true)
  | 3 => ("DeepHole$Reader", "nameLength", "[I", true)
  | 4 => ("DeepHole$Reader", "nameWay", "[I", true)
  | 5 => ("DeepHole$Reader", "names", "I", false)
  | 6 => ("DeepHole$Reader", "hards", "I", false)
  | 7 => ("DeepHole$Reader", "froms", "I", false)
  | 8 => ("DeepHole$Reader", "firstFrom", "I", false)
  | 9 => ("DeepHole$Reader", "lastFrom", "I", false)
  | 10 => ("DeepHole$Reader", "hasRod", "Z", false)
  | 11 => ("DeepHole$Reader", "hasLip", "Z", false)
  | 12 => ("DeepHole$Reader", "hasCosts", "Z", false)
  | 13 => ("DeepHole$Reader", "problem", "I", false)
  | _ => ("DeepHole$Reader", "faultAt", "I", false)
def tyX6 : Nat → FieldType := fun k => match k with
  | 0 => .object "DeepHole$Tokens"
  | 1 => .object "DeepHole$Shop"
  | 2 => .array .int
  | 3 => .array .int
  | 4 => .array .int
  | 5 => .int
  | 6 => .int
  | 7 => .int
  | 8 => .int
  | 9 => .int
  | 10 => .boolean
  | 11 => .boolean
  | 12 => .boolean
  | 13 => .int
  | _ => .int
abbrev wsX60 : List Cond := u_ws RX6 TX6 15
theorem nmX6 : ∀ a, a < 15 → ∀ b, b < 15 → a ≠ b → (TX6 a).2.1 ≠ (TX6 b).2.1 := by decide +kernel
theorem tyX6_ok : ∀ k, k < 15 → parseFieldDescriptor (TX6 k).2.2.1 = some (tyX6 k) := by decide +kernel
abbrev cX6_init : ByteArray := prog_8_method_1_code
def yX6_init : MethodName := ⟨RX6, "<init>", "()V"⟩
abbrev cX6_read : ByteArray := prog_8_method_2_code
def yX6_read : MethodName := ⟨RX6, "read", "(I)I"⟩
abbrev cX6_exchange : ByteArray := prog_8_method_3_code
def yX6_exchange : MethodName := ⟨RX6, "exchange", "(LDeepHole$Shop;)LDeepHole$Shop;"⟩
abbrev cX6_begin : ByteArray := prog_8_method_4_code
def yX6_begin : MethodName := ⟨RX6, "begin", "(I)V"⟩
abbrev cX6_blame : ByteArray := prog_8_method_5_code
def yX6_blame : MethodName := ⟨RX6, "blame", "(I)V"⟩
abbrev cX6_lookForLacks : ByteArray := prog_8_method_6_code
def yX6_lookForLacks : MethodName := ⟨RX6, "lookForLacks", "()V"⟩
abbrev cX6_readRod : ByteArray := prog_8_method_7_code
def yX6_readRod : MethodName := ⟨RX6, "readRod", "()V"⟩
abbrev cX6_readLip : ByteArray := prog_8_method_8_code
def yX6_readLip : MethodName := ⟨RX6, "readLip", "()V"⟩
abbrev cX6_readCosts : ByteArray := prog_8_method_9_code
def yX6_readCosts : MethodName := ⟨RX6, "readCosts", "()V"⟩
abbrev cX6_readWay : ByteArray := prog_8_method_10_code
def yX6_readWay : MethodName := ⟨RX6, "readWay", "()V"⟩
abbrev cX6_readHard : ByteArray := prog_8_method_11_code
def yX6_readHard : MethodName := ⟨RX6, "readHard", "()V"⟩
abbrev cX6_readFrom : ByteArray := prog_8_method_12_code
def yX6_readFrom : MethodName := ⟨RX6, "readFrom", "()V"⟩
abbrev cX6_readSeer : ByteArray := prog_8_method_13_code
def yX6_readSeer : MethodName := ⟨RX6, "readSeer", "()V"⟩
abbrev cX6_beginLine : ByteArray := prog_8_method_14_code
def yX6_beginLine : MethodName := ⟨RX6, "beginLine", "(ZI)V"⟩
abbrev cX6_takeWord : ByteArray := prog_8_method_15_code
def yX6_takeWord : MethodName := ⟨RX6, "takeWord", "(Ljava/lang/String;)V"⟩
abbrev cX6_takeIfWord : ByteArray := prog_8_method_16_code
def yX6_takeIfWord : MethodName := ⟨RX6, "takeIfWord", "(Ljava/lang/String;)Z"⟩
abbrev cX6_takeWhole : ByteArray := prog_8_method_17_code
def yX6_takeWhole : MethodName := ⟨RX6, "takeWhole", "(II)I"⟩
abbrev cX6_takeNumber : ByteArray := prog_8_method_18_code
def yX6_takeNumber : MethodName := ⟨RX6, "takeNumber", "(Ljava/lang/String;II)I"⟩
abbrev cX6_takeSide : ByteArray := prog_8_method_19_code
def yX6_takeSide : MethodName := ⟨RX6, "takeSide", "()I"⟩
abbrev cX6_takeNewName : ByteArray := prog_8_method_20_code
def yX6_takeNewName : MethodName := ⟨RX6, "takeNewName", "(I)V"⟩
abbrev cX6_takeWayName : ByteArray := prog_8_method_21_code
def yX6_takeWayName : MethodName := ⟨RX6, "takeWayName", "()I"⟩
abbrev cX6_isName : ByteArray := prog_8_method_22_code
def yX6_isName : MethodName := ⟨RX6, "isName", "()Z"⟩
abbrev cX6_findName : ByteArray := prog_8_method_23_code
def yX6_findName : MethodName := ⟨RX6, "findName", "()I"⟩
def RX7 : String := "DeepHole$Search"
def TX7 : u_T := fun k => match k with
  | 0 => ("DeepHole$Search", "line", "[LDeepHole$Bit;", true)
  | 1 => ("DeepHole$Search", "tried", "[I", true)
  | 2 => ("DeepHole$Search", "best", "[I", true)
  | 3 => ("DeepHole$Search", "bestCost", "I", false)
  | 4 => ("DeepHole$Search", "bestCount", "I", false)
  | 5 => ("DeepHole$Search", "least", "I", false)
  | _ => ("DeepHole$Search", "isFound", "Z", false)
def tyX7 : Nat → FieldType := fun k => match k with
  | 0 => .array (.object "DeepHole$Bit")
  | 1 => .array .int
  | 2 => .array .int
  | 3 => .int
  | 4 => .int
  | 5 => .int
  | _ => .boolean
abbrev wsX70 : List Cond := u_ws RX7 TX7 7
theorem nmX7 : ∀ a, a < 7 → ∀ b, b < 7 → a ≠ b → (TX7 a).2.1 ≠ (TX7 b).2.1 := by decide +kernel
theorem tyX7_ok : ∀ k, k < 7 → parseFieldDescriptor (TX7 k).2.2.1 = some (tyX7 k) := by decide +kernel
abbrev cX7_init : ByteArray := prog_9_method_1_code
def yX7_init : MethodName := ⟨RX7, "<init>", "()V"⟩
abbrev cX7_drop : ByteArray := prog_9_method_2_code
def yX7_drop : MethodName := ⟨RX7, "drop", "()V"⟩
abbrev cX7_countOdds : ByteArray := prog_9_method_3_code
def yX7_countOdds : MethodName := ⟨RX7, "countOdds", "(LDeepHole$Shop;II)I"⟩
abbrev cX7_oddsBehind : ByteArray := prog_9_method_4_code
def yX7_oddsBehind : MethodName := ⟨RX7, "oddsBehind", "(LDeepHole$Shop;III)I"⟩
abbrev cX7_findCheapest : ByteArray := prog_9_method_5_code
def yX7_findCheapest : MethodName := ⟨RX7, "findCheapest", "(LDeepHole$Shop;II)Z"⟩
abbrev cX7_feedsBehind : ByteArray := prog_9_method_6_code
def yX7_feedsBehind : MethodName := ⟨RX7, "feedsBehind", "(LDeepHole$Shop;III)V"⟩
abbrev cX7_keep : ByteArray := prog_9_method_7_code
def yX7_keep : MethodName := ⟨RX7, "keep", "(II)V"⟩
def RX8 : String := "DeepHole$Shop"
def TX8 : u_T := fun k => match k with
  | 0 => ("DeepHole$Shop", "inches", "I", false)
  | 1 => ("DeepHole$Shop", "wallThick", "I", false)
  | 2 => ("DeepHole$Shop", "bush", "I", false)
  | 3 => ("DeepHole$Shop", "lip", "I", false)
  | 4 => ("DeepHole$Shop", "oil", "I", false)
  | 5 => ("DeepHole$Shop", "room", "I", false)
  | 6 => ("DeepHole$Shop", "bears", "I", false)
  | 7 => ("DeepHole$Shop", "costInch", "I", false)
  | 8 => ("DeepHole$Shop", "costLip", "I", false)
  | 9 => ("DeepHole$Shop", "costDraw", "I", false)
  | 10 => ("DeepHole$Shop", "ways", "I", false)
  | 11 => ("DeepHole$Shop", "seers", "I", false)
  | 12 => ("DeepHole$Shop", "wayPush", "[I", true)
  | 13 => ("DeepHole$Shop", "wayHold", "[I", true)
  | 14 => ("DeepHole$Shop", "wayForce", "[I", true)
  | 15 => ("DeepHole$Shop", "hardBy", "[I", true)
  | 16 => ("DeepHole$Shop", "hardSide", "[I", true)
  | 17 => ("DeepHole$Shop", "seerSees", "[I", true)
  | _ => ("DeepHole$Shop", "plan", "LDeepHole$Plan;", true)
def tyX8 : Nat → FieldType := fun k => match k with
  | 0 => .int
  | 1 => .int
  | 2 => .int
  | 3 => .int
  | 4 => .int
  | 5 => .int
  | 6 => .int
  | 7 => .int
  | 8 => .int
  | 9 => .int
  | 10 => .int
  | 11 => .int
  | 12 => .array .int
  | 13 => .array .int
  | 14 => .array .int
  | 15 => .array .int
  | 16 => .array .int
  | 17 => .array .int
  | _ => .object "DeepHole$Plan"
abbrev wsX80 : List Cond := u_ws RX8 TX8 19
theorem nmX8 : ∀ a, a < 19 → ∀ b, b < 19 → a ≠ b → (TX8 a).2.1 ≠ (TX8 b).2.1 := by decide +kernel
theorem tyX8_ok : ∀ k, k < 19 → parseFieldDescriptor (TX8 k).2.2.1 = some (tyX8 k) := by decide +kernel
abbrev cX8_init : ByteArray := prog_10_method_1_code
def yX8_init : MethodName := ⟨RX8, "<init>", "()V"⟩
abbrev cX8_empty : ByteArray := prog_10_method_2_code
def yX8_empty : MethodName := ⟨RX8, "empty", "()V"⟩
abbrev cX8_hardAt : ByteArray := prog_10_method_3_code
def yX8_hardAt : MethodName := ⟨RX8, "hardAt", "(I)I"⟩
abbrev cX8_sideAt : ByteArray := prog_10_method_4_code
def yX8_sideAt : MethodName := ⟨RX8, "sideAt", "(I)I"⟩
abbrev cX8_spotOf : ByteArray := prog_10_method_5_code
def yX8_spotOf : MethodName := ⟨RX8, "spotOf", "(IZ)I"⟩
abbrev cX8_wayAt : ByteArray := prog_10_method_6_code
def yX8_wayAt : MethodName := ⟨RX8, "wayAt", "(I)I"⟩
abbrev cX8_feedFor : ByteArray := prog_10_method_7_code
def yX8_feedFor : MethodName := ⟨RX8, "feedFor", "(I)I"⟩
def RX9 : String := "DeepHole$Tokens"
def TX9 : u_T := fun k => match k with
  | 0 => ("DeepHole$Tokens", "bytes", "[B", true)
  | 1 => ("DeepHole$Tokens", "filled", "I", false)
  | 2 => ("DeepHole$Tokens", "limit", "I", false)
  | 3 => ("DeepHole$Tokens", "ahead", "I", false)
  | 4 => ("DeepHole$Tokens", "kind", "I", false)
  | 5 => ("DeepHole$Tokens", "start", "I", false)
  | 6 => ("DeepHole$Tokens", "length", "I", false)
  | _ => ("DeepHole$Tokens", "value", "I", false)
def tyX9 : Nat → FieldType := fun k => match k with
  | 0 => .array .byte
  | 1 => .int
  | 2 => .int
  | 3 => .int
  | 4 => .int
  | 5 => .int
  | 6 => .int
  | _ => .int
abbrev wsX90 : List Cond := u_ws RX9 TX9 8
theorem nmX9 : ∀ a, a < 8 → ∀ b, b < 8 → a ≠ b → (TX9 a).2.1 ≠ (TX9 b).2.1 := by decide +kernel
theorem tyX9_ok : ∀ k, k < 8 → parseFieldDescriptor (TX9 k).2.2.1 = some (tyX9 k) := by decide +kernel
abbrev cX9_init : ByteArray := prog_11_method_1_code
def yX9_init : MethodName := ⟨RX9, "<init>", "()V"⟩
abbrev cX9_put : ByteArray := prog_11_method_2_code
def yX9_put : MethodName := ⟨RX9, "put", "(I)V"⟩
abbrev cX9_begin : ByteArray := prog_11_method_3_code
def yX9_begin : MethodName := ⟨RX9, "begin", "(I)V"⟩
abbrev cX9_byteAt : ByteArray := prog_11_method_4_code
def yX9_byteAt : MethodName := ⟨RX9, "byteAt", "(I)I"⟩
abbrev cX9_advance : ByteArray := prog_11_method_5_code
def yX9_advance : MethodName := ⟨RX9, "advance", "()V"⟩
abbrev cX9_kindOf : ByteArray := prog_11_method_6_code
def yX9_kindOf : MethodName := ⟨RX9, "kindOf", "(I)I"⟩
abbrev cX9_isWord : ByteArray := prog_11_method_7_code
def yX9_isWord : MethodName := ⟨RX9, "isWord", "(Ljava/lang/String;)Z"⟩
abbrev cX9_isLike : ByteArray := prog_11_method_8_code
def yX9_isLike : MethodName := ⟨RX9, "isLike", "(II)Z"⟩
def RX10 : String := "DeepHole$Walls"
def TX10 : u_T := fun k => match k with
  | 0 => ("DeepHole$Walls", "isTold", "[Z", true)
  | 1 => ("DeepHole$Walls", "toldLow", "[I", true)
  | 2 => ("DeepHole$Walls", "toldHigh", "[I", true)
  | 3 => ("DeepHole$Walls", "spanLow", "[I", true)
  | 4 => ("DeepHole$Walls", "spanHigh", "[I", true)
  | 5 => ("DeepHole$Walls", "narrowedBy", "I", false)
  | 6 => ("DeepHole$Walls", "isPossible", "Z", false)
  | _ => ("DeepHole$Walls", "isChanged", "Z", false)
def tyX10 : Nat → FieldType := fun k => match k with
  | 0 => .array .boolean
  | 1 => .array .int
  | 2 => .array .int
  | 3 => .array .int
  | 4 => .array .int
  | 5 => .int
  | 6 => .boolean
  | _ => .boolean
abbrev wsX100 : List Cond := u_ws RX10 TX10 8
theorem nmX10 : ∀ a, a < 8 → ∀ b, b < 8 → a ≠ b → (TX10 a).2.1 ≠ (TX10 b).2.1 := by decide +kernel
theorem tyX10_ok : ∀ k, k < 8 → parseFieldDescriptor (TX10 k).2.2.1 = some (tyX10 k) := by decide +kernel
abbrev cX10_init : ByteArray := prog_12_method_1_code
def yX10_init : MethodName := ⟨RX10, "<init>", "()V"⟩
abbrev cX10_drop : ByteArray := prog_12_method_2_code
def yX10_drop : MethodName := ⟨RX10, "drop", "()V"⟩
abbrev cX10_tell : ByteArray := prog_12_method_3_code
def yX10_tell : MethodName := ⟨RX10, "tell", "(III)V"⟩
abbrev cX10_howMany : ByteArray := prog_12_method_4_code
def yX10_howMany : MethodName := ⟨RX10, "howMany", "()I"⟩
abbrev cX10_narrow : ByteArray := prog_12_method_5_code
def yX10_narrow : MethodName := ⟨RX10, "narrow", "(LDeepHole$Shop;I)Z"⟩
abbrev cX10_narrowThree : ByteArray := prog_12_method_6_code
def yX10_narrowThree : MethodName := ⟨RX10, "narrowThree", "(II)V"⟩
abbrev cX10_cut : ByteArray := prog_12_method_7_code
def yX10_cut : MethodName := ⟨RX10, "cut", "(III)V"⟩
abbrev cX10_widestInch : ByteArray := prog_12_method_8_code
def yX10_widestInch : MethodName := ⟨RX10, "widestInch", "(LDeepHole$Shop;)I"⟩
def RX11 : String := "DeepHole"
def TX11 : u_T := fun k => match k with
  | 0 => ("DeepHole", "reader", "LDeepHole$Reader;", true)
  | 1 => ("DeepHole", "hole", "LDeepHole$Hole;", true)
  | 2 => ("DeepHole", "search", "LDeepHole$Search;", true)
  | 3 => ("DeepHole", "ends", "LDeepHole$Ends;", true)
  | 4 => ("DeepHole", "needle", "LDeepHole$Needle;", true)
  | 5 => ("DeepHole", "bench", "LDeepHole$Bench;", true)
  | 6 => ("DeepHole", "walls", "LDeepHole$Walls;", true)
  | 7 => ("DeepHole", "current", "LDeepHole$Shop;", false)
  | 8 => ("DeepHole", "hasShop", "Z", false)
  | 9 => ("DeepHole", "latestTrouble", "I", false)
  | 10 => ("DeepHole", "latestFault", "I", false)
  | _ => ("DeepHole", "faultPlace", "I", false)
def tyX11 : Nat → FieldType := fun k => match k with
  | 0 => .object "DeepHole$Reader"
  | 1 => .object "DeepHole$Hole"
  | 2 => .object "DeepHole$Search"
  | 3 => .object "DeepHole$Ends"
  | 4 => .object "DeepHole$Needle"
  | 5 => .object "DeepHole$Bench"
  | 6 => .object "DeepHole$Walls"
  | 7 => .object "DeepHole$Shop"
  | 8 => .boolean
  | 9 => .int
  | 10 => .int
  | _ => .int
abbrev wsX110 : List Cond := u_ws RX11 TX11 12
theorem nmX11 : ∀ a, a < 12 → ∀ b, b < 12 → a ≠ b → (TX11 a).2.1 ≠ (TX11 b).2.1 := by decide +kernel
theorem tyX11_ok : ∀ k, k < 12 → parseFieldDescriptor (TX11 k).2.2.1 = some (tyX11 k) := by decide +kernel
abbrev cX11_init : ByteArray := prog_1_method_1_code
def yX11_init : MethodName := ⟨RX11, "<init>", "()V"⟩
abbrev cX11_feed : ByteArray := prog_1_method_2_code
def yX11_feed : MethodName := ⟨RX11, "feed", "(IIIII)I"⟩
abbrev cX11_shop : ByteArray := prog_1_method_3_code
def yX11_shop : MethodName := ⟨RX11, "shop", "(I)I"⟩
abbrev cX11_fault : ByteArray := prog_1_method_4_code
def yX11_fault : MethodName := ⟨RX11, "fault", "()I"⟩
abbrev cX11_where : ByteArray := prog_1_method_5_code
def yX11_where : MethodName := ⟨RX11, "where", "()I"⟩
abbrev cX11_rod : ByteArray := prog_1_method_6_code
def yX11_rod : MethodName := ⟨RX11, "rod", "(Z)Z"⟩
abbrev cX11_drill : ByteArray := prog_1_method_7_code
def yX11_drill : MethodName := ⟨RX11, "drill", "(I)I"⟩
abbrev cX11_inch : ByteArray := prog_1_method_8_code
def yX11_inch : MethodName := ⟨RX11, "inch", "(II)I"⟩
abbrev cX11_state : ByteArray := prog_1_method_9_code
def yX11_state : MethodName := ⟨RX11, "state", "(I)I"⟩
abbrev cX11_odds : ByteArray := prog_1_method_10_code
def yX11_odds : MethodName := ⟨RX11, "odds", "(II)I"⟩
abbrev cX11_rows : ByteArray := prog_1_method_11_code
def yX11_rows : MethodName := ⟨RX11, "rows", "(I)I"⟩
abbrev cX11_cheapest : ByteArray := prog_1_method_12_code
def yX11_cheapest : MethodName := ⟨RX11, "cheapest", "(II)I"⟩
abbrev cX11_feedAt : ByteArray := prog_1_method_13_code
def yX11_feedAt : MethodName := ⟨RX11, "feedAt", "(I)I"⟩
abbrev cX11_met : ByteArray := prog_1_method_14_code
def yX11_met : MethodName := ⟨RX11, "met", "(I)I"⟩
abbrev cX11_meet : ByteArray := prog_1_method_15_code
def yX11_meet : MethodName := ⟨RX11, "meet", "()I"⟩
abbrev cX11_felt : ByteArray := prog_1_method_16_code
def yX11_felt : MethodName := ⟨RX11, "felt", "(II)I"⟩
abbrev cX11_forget : ByteArray := prog_1_method_17_code
def yX11_forget : MethodName := ⟨RX11, "forget", "()I"⟩
abbrev cX11_causes : ByteArray := prog_1_method_18_code
def yX11_causes : MethodName := ⟨RX11, "causes", "()I"⟩
abbrev cX11_cause : ByteArray := prog_1_method_19_code
def yX11_cause : MethodName := ⟨RX11, "cause", "(II)I"⟩
abbrev cX11_sure : ByteArray := prog_1_method_20_code
def yX11_sure : MethodName := ⟨RX11, "sure", "(I)I"⟩
abbrev cX11_off : ByteArray := prog_1_method_21_code
def yX11_off : MethodName := ⟨RX11, "off", "(IZ)I"⟩
abbrev cX11_ring : ByteArray := prog_1_method_22_code
def yX11_ring : MethodName := ⟨RX11, "ring", "(I)I"⟩
abbrev cX11_sees : ByteArray := prog_1_method_23_code
def yX11_sees : MethodName := ⟨RX11, "sees", "(I)I"⟩
abbrev cX11_blow : ByteArray := prog_1_method_24_code
def yX11_blow : MethodName := ⟨RX11, "blow", "(III)I"⟩
abbrev cX11_fewest : ByteArray := prog_1_method_25_code
def yX11_fewest : MethodName := ⟨RX11, "fewest", "(II)I"⟩
abbrev cX11_stroke : ByteArray := prog_1_method_26_code
def yX11_stroke : MethodName := ⟨RX11, "stroke", "(I)I"⟩
abbrev cX11_heat : ByteArray := prog_1_method_27_code
def yX11_heat : MethodName := ⟨RX11, "heat", "()I"⟩
abbrev cX11_about : ByteArray := prog_1_method_28_code
def yX11_about : MethodName := ⟨RX11, "about", "()I"⟩
abbrev cX11_wall : ByteArray := prog_1_method_29_code
def yX11_wall : MethodName := ⟨RX11, "wall", "(III)Z"⟩
abbrev cX11_clear : ByteArray := prog_1_method_30_code
def yX11_clear : MethodName := ⟨RX11, "clear", "()I"⟩
abbrev cX11_lies : ByteArray := prog_1_method_31_code
def yX11_lies : MethodName := ⟨RX11, "lies", "(IIZ)I"⟩
abbrev cX11_next : ByteArray := prog_1_method_32_code
def yX11_next : MethodName := ⟨RX11, "next", "(I)I"⟩
abbrev cX11_led : ByteArray := prog_1_method_33_code
def yX11_led : MethodName := ⟨RX11, "led", "(I)I"⟩
abbrev cX11_trouble : ByteArray := prog_1_method_34_code
def yX11_trouble : MethodName := ⟨RX11, "trouble", "()I"⟩
abbrev cX11_accept : ByteArray := prog_1_method_35_code
def yX11_accept : MethodName := ⟨RX11, "accept", "(I)I"⟩
abbrev cX11_refuse : ByteArray := prog_1_method_36_code
def yX11_refuse : MethodName := ⟨RX11, "refuse", "(I)I"⟩
abbrev cX11_refuseNowhere : ByteArray := prog_1_method_37_code
def yX11_refuseNowhere : MethodName := ⟨RX11, "refuseNowhere", "(I)I"⟩
abbrev cX11_isInchOfRod : ByteArray := prog_1_method_38_code
def yX11_isInchOfRod : MethodName := ⟨RX11, "isInchOfRod", "(I)Z"⟩
abbrev cX11_oddsRefused : ByteArray := prog_1_method_39_code
def yX11_oddsRefused : MethodName := ⟨RX11, "oddsRefused", "(I)I"⟩
abbrev cX11_sizeOf : ByteArray := prog_1_method_40_code
def yX11_sizeOf : MethodName := ⟨RX11, "sizeOf", "(I)I"⟩
abbrev cX11_divided : ByteArray := prog_1_method_41_code
def yX11_divided : MethodName := ⟨RX11, "divided", "(II)I"⟩
abbrev cX11_sideX : ByteArray := prog_1_method_42_code
def yX11_sideX : MethodName := ⟨RX11, "sideX", "(I)I"⟩
abbrev cX11_sideY : ByteArray := prog_1_method_43_code
def yX11_sideY : MethodName := ⟨RX11, "sideY", "(I)I"⟩
def RX12 : String := "DeepHoleModel$Shop"
def TX12 : u_T := fun k => match k with
  | 0 => ("DeepHoleModel$Shop", "inches", "I", false)
  | 1 => ("DeepHoleModel$Shop", "wall", "I", false)
  | 2 => ("DeepHoleModel$Shop", "bush", "I", false)
  | 3 => ("DeepHoleModel$Shop", "lip", "I", false)
  | 4 => ("DeepHoleModel$Shop", "oil", "I", false)
  | 5 => ("DeepHoleModel$Shop", "room", "I", false)
  | 6 => ("DeepHoleModel$Shop", "bears", "I", false)
  | 7 => ("DeepHoleModel$Shop", "inchCost", "I", false)
  | 8 => ("DeepHoleModel$Shop", "lipCost", "I", false)
  | 9 => ("DeepHoleModel$Shop", "drawCost", "I", false)
  | 10 => ("DeepHoleModel$Shop", "ways", "I", false)
  | 11 => ("DeepHoleModel$Shop", "hards", "I", false)
  | 12 => ("DeepHoleModel$Shop", "froms", "I", false)
  | 13 => ("DeepHoleModel$Shop", "seers", "I", false)
  | 14 => ("DeepHoleModel$Shop", "names", "I", false)
  | 15 => ("DeepHoleModel$Shop", "push", "[I", true)
  | 16 => ("DeepHoleModel$Shop", "hold", "[I", true)
  | 17 => ("DeepHoleModel$Shop", "force", "[I", true)
  | 18 => ("DeepHoleModel$Shop", "sees", "[I", true)
  | 19 => ("DeepHoleModel$Shop", "hardAt", "[I", true)
  | 20 => ("DeepHoleModel$Shop", "hardBy", "[I", true)
  | 21 => ("DeepHoleModel$Shop", "hardSide", "[I", true)
  | 22 => ("DeepHoleModel$Shop", "from", "[I", true)
  | 23 => ("DeepHoleModel$Shop", "feed", "[I", true)
  | 24 => ("DeepHoleModel$Shop", "way", "[I", true)
  | 25 => ("DeepHoleModel$Shop", "draws", "[Z", true)
  | 26 => ("DeepHoleModel$Shop", "sharpens", "[Z", true)
  | 27 => ("DeepHoleModel$Shop", "name", "[J", true)
  | _ => ("DeepHoleModel$Shop", "sense", "[I", true)
def tyX12 : Nat → FieldType := fun k => match k with
  | 0 => .int
  | 1 => .int
  | 2 => .int
  | 3 => .int
  | 4 => .int
  | 5 => .int
  | 6 => .int
  | 7 => .int
  | 8 => .int
  | 9 => .int
  | 10 => .int
  | 11 => .int
  | 12 => .int
  | 13 => .int
  | 14 => .int
  | 15 => .array .int
  | 16 => .array .int
  | 17 => .array .int
  | 18 => .array .int
  | 19 => .array .int
  | 20 => .array .int
  | 21 => .array .int
  | 22 => .array .int
  | 23 => .array .int
  | 24 => .array .int
  | 25 => .array .boolean
  | 26 => .array .boolean
  | 27 => .array .long
  | _ => .array .int
abbrev wsX120 : List Cond := u_ws RX12 TX12 29
theorem nmX12 : ∀ a, a < 29 → ∀ b, b < 29 → a ≠ b → (TX12 a).2.1 ≠ (TX12 b).2.1 := by decide +kernel
theorem tyX12_ok : ∀ k, k < 29 → parseFieldDescriptor (TX12 k).2.2.1 = some (tyX12 k) := by decide +kernel
abbrev cX12_init : ByteArray := prog_15_method_1_code
def yX12_init : MethodName := ⟨RX12, "<init>", "()V"⟩
abbrev cX12_find : ByteArray := prog_15_method_2_code
def yX12_find : MethodName := ⟨RX12, "find", "(J)I"⟩
abbrev cX12_hardOf : ByteArray := prog_15_method_3_code
def yX12_hardOf : MethodName := ⟨RX12, "hardOf", "(I)I"⟩
abbrev cX12_fromOf : ByteArray := prog_15_method_4_code
def yX12_fromOf : MethodName := ⟨RX12, "fromOf", "(I)I"⟩
def RX13 : String := "DeepHoleModel"
def TX13 : u_T := fun k => match k with
  | 0 => ("DeepHoleModel", "thrown", "I", false)
  | 1 => ("DeepHoleModel", "trouble", "I", false)
  | 2 => ("DeepHoleModel", "where", "I", false)
  | 3 => ("DeepHoleModel", "shop", "LDeepHoleModel$Shop;", false)
  | 4 => ("DeepHoleModel", "fresh", "LDeepHoleModel$Shop;", false)
  | 5 => ("DeepHoleModel", "tape", "[B", true)
  | 6 => ("DeepHoleModel", "taped", "I", false)
  | 7 => ("DeepHoleModel", "size", "I", false)
  | 8 => ("DeepHoleModel", "at", "I", false)
  | 9 => ("DeepHoleModel", "sort", "I", false)
  | 10 => ("DeepHoleModel", "place", "I", false)
  | 11 => ("DeepHoleModel", "mark", "I", false)
  | 12 => ("DeepHoleModel", "number", "I", false)
  | 13 => ("DeepHoleModel", "fault", "I", false)
  | 14 => ("DeepHoleModel", "wrongAt", "I", false)
  | 15 => ("DeepHoleModel", "word", "J", false)
  | 16 => ("DeepHoleModel", "isBackward", "Z", false)
  | 17 => ("DeepHoleModel", "drill", "[I", true)
  | 18 => ("DeepHoleModel", "twin", "[I", true)
  | 19 => ("DeepHoleModel", "px", "[I", true)
  | 20 => ("DeepHoleModel", "py", "[I", true)
  | 21 => ("DeepHoleModel", "forces", "[I", true)
  | 22 => ("DeepHoleModel", "wears", "[I", true)
  | 23 => ("DeepHoleModel", "chips", "[I", true)
  | 24 => ("DeepHoleModel", "tiltX", "[I", true)
  | 25 => ("DeepHoleModel", "tiltY", "[I", true)
  | 26 => ("DeepHoleModel", "cheaps", "I", false)
  | 27 => ("DeepHoleModel", "cheap", "[I", true)
  | 28 => ("DeepHoleModel", "felts", "I", false)
  | 29 => ("DeepHoleModel", "feltAt", "[I", true)
  | 30 => ("DeepHoleModel", "feltForce", "[I", true)
  | 31 => ("DeepHoleModel", "blows", "I", false)
  | 32 => ("DeepHoleModel", "blowAt", "[I", true)
  | 33 => ("DeepHoleModel", "blowSide", "[I", true)
  | 34 => ("DeepHoleModel", "blowBy", "[I", true)
  | 35 => ("DeepHoleModel", "strokes", "I", false)
  | 36 => ("DeepHoleModel", "stroke", "[I", true)
  | 37 => ("DeepHoleModel", "walls", "I", false)
  | 38 => ("DeepHoleModel", "wallLow", "[I", true)
  | 39 => ("DeepHoleModel", "wallHigh", "[I", true)
  | 40 => ("DeepHoleModel", "low", "[I", true)
  | 41 => ("DeepHoleModel", "high", "[I", true)
  | _ => ("DeepHoleModel", "isWall", "[Z", true)
def tyX13 : Nat → FieldType := fun k => match k with
  | 0 => .int
  | 1 => .int
  | 2 => .int
  | 3 => .object "DeepHoleModel$Shop"
  | 4 => .object "DeepHoleModel$Shop"
  | 5 => .array .byte
  | 6 => .int
  | 7 => .int
  | 8 => .int
  | 9 => .int
  | 10 => .int
  | 11 => .int
  | 12 => .int
  | 13 => .int
  | 14 => .int
  | 15 => .long
  | 16 => .boolean
  | 17 => .array .int
  | 18 => .array .int
  | 19 => .array .int
  | 20 => .array .int
  | 21 => .array .int
  | 22 => .array .int
  | 23 => .array .int
  | 24 => .array .int
  | 25 => .array .int
  | 26 => .int
  | 27 => .array .int
  | 28 => .int
  | 29 => .array .int
  | 30 => .array .int
  | 31 => .int
  | 32 => .array .int
  | 33 => .array .int
  | 34 => .array .int
  | 35 => .int
  | 36 => .array .int
  | 37 => .int
  | 38 => .array .int
  | 39 => .array .int
  | 40 => .array .int
  | 41 => .array .int
  | _ => .array .boolean
abbrev wsX130 : List Cond := u_ws RX13 TX13 43
theorem nmX13 : ∀ a, a < 43 → ∀ b, b < 43 → a ≠ b → (TX13 a).2.1 ≠ (TX13 b).2.1 := by decide +kernel
theorem tyX13_ok : ∀ k, k < 43 → parseFieldDescriptor (TX13 k).2.2.1 = some (tyX13 k) := by decide +kernel
abbrev cX13_init : ByteArray := prog_14_method_1_code
def yX13_init : MethodName := ⟨RX13, "<init>", "()V"⟩
abbrev cX13_thrown : ByteArray := prog_14_method_2_code
def yX13_thrown : MethodName := ⟨RX13, "thrown", "()I"⟩
abbrev cX13_refused : ByteArray := prog_14_method_3_code
def yX13_refused : MethodName := ⟨RX13, "refused", "(I)I"⟩
abbrev cX13_lost : ByteArray := prog_14_method_4_code
def yX13_lost : MethodName := ⟨RX13, "lost", "(I)I"⟩
abbrev cX13_denied : ByteArray := prog_14_method_5_code
def yX13_denied : MethodName := ⟨RX13, "denied", "(I)Z"⟩
abbrev cX13_done : ByteArray := prog_14_method_6_code
def yX13_done : MethodName := ⟨RX13, "done", "(I)I"⟩
abbrev cX13_granted : ByteArray := prog_14_method_7_code
def yX13_granted : MethodName := ⟨RX13, "granted", "()Z"⟩
abbrev cX13_in : ByteArray := prog_14_method_8_code
def yX13_in : MethodName := ⟨RX13, "in", "(III)Z"⟩
abbrev cX13_plain : ByteArray := prog_14_method_9_code
def yX13_plain : MethodName := ⟨RX13, "plain", "(I)I"⟩
abbrev cX13_byteAt : ByteArray := prog_14_method_10_code
def yX13_byteAt : MethodName := ⟨RX13, "byteAt", "(I)I"⟩
abbrev cX13_isLetter : ByteArray := prog_14_method_11_code
def yX13_isLetter : MethodName := ⟨RX13, "isLetter", "(I)Z"⟩
abbrev cX13_isDigit : ByteArray := prog_14_method_12_code
def yX13_isDigit : MethodName := ⟨RX13, "isDigit", "(I)Z"⟩
abbrev cX13_wordOf : ByteArray := prog_14_method_13_code
def yX13_wordOf : MethodName := ⟨RX13, "wordOf", "(Ljava/lang/String;)J"⟩
abbrev cX13_goesOn : ByteArray := prog_14_method_14_code
def yX13_goesOn : MethodName := ⟨RX13, "goesOn", "()V"⟩
abbrev cX13_wrong : ByteArray := prog_14_method_15_code
def yX13_wrong : MethodName := ⟨RX13, "wrong", "(I)V"⟩
abbrev cX13_wrongHere : ByteArray := prog_14_method_16_code
def yX13_wrongHere : MethodName := ⟨RX13, "wrongHere", "(II)V"⟩
abbrev cX13_isWord : ByteArray := prog_14_method_17_code
def yX13_isWord : MethodName := ⟨RX13, "isWord", "(Ljava/lang/String;)Z"⟩
abbrev cX13_eats : ByteArray := prog_14_method_18_code
def yX13_eats : MethodName := ⟨RX13, "eats", "(Ljava/lang/String;)Z"⟩
abbrev cX13_readWhole : ByteArray := prog_14_method_19_code
def yX13_readWhole : MethodName := ⟨RX13, "readWhole", "(II)I"⟩
abbrev cX13_readPart : ByteArray := prog_14_method_20_code
def yX13_readPart : MethodName := ⟨RX13, "readPart", "(Ljava/lang/String;II)I"⟩
abbrev cX13_isName : ByteArray := prog_14_method_21_code
def yX13_isName : MethodName := ⟨RX13, "isName", "()Z"⟩
abbrev cX13_readShop : ByteArray := prog_14_method_22_code
def yX13_readShop : MethodName := ⟨RX13, "readShop", "()V"⟩
abbrev cX13_readLine : ByteArray := prog_14_method_23_code
def yX13_readLine : MethodName := ⟨RX13, "readLine", "()V"⟩
abbrev cX13_readRod : ByteArray := prog_14_method_24_code
def yX13_readRod : MethodName := ⟨RX13, "readRod", "()V"⟩
abbrev cX13_readLip : ByteArray := prog_14_method_25_code
def yX13_readLip : MethodName := ⟨RX13, "readLip", "()V"⟩
abbrev cX13_readCosts : ByteArray := prog_14_method_26_code
def yX13_readCosts : MethodName := ⟨RX13, "readCosts", "()V"⟩
abbrev cX13_readNamed : ByteArray := prog_14_method_27_code
def yX13_readNamed : MethodName := ⟨RX13, "readNamed", "(ZI)V"⟩
abbrev cX13_readWay : ByteArray := prog_14_method_28_code
def yX13_readWay : MethodName := ⟨RX13, "readWay", "()V"⟩
abbrev cX13_readHard : ByteArray := prog_14_method_29_code
def yX13_readHard : MethodName := ⟨RX13, "readHard", "()V"⟩
abbrev cX13_readFrom : ByteArray := prog_14_method_30_code
def yX13_readFrom : MethodName := ⟨RX13, "readFrom", "()V"⟩
abbrev cX13_readSeer : ByteArray := prog_14_method_31_code
def yX13_readSeer : MethodName := ⟨RX13, "readSeer", "()V"⟩
abbrev cX13_feed : ByteArray := prog_14_method_32_code
def yX13_feed : MethodName := ⟨RX13, "feed", "(IIIII)I"⟩
abbrev cX13_shop : ByteArray := prog_14_method_33_code
def yX13_shop : MethodName := ⟨RX13, "shop", "(I)I"⟩
abbrev cX13_fault : ByteArray := prog_14_method_34_code
def yX13_fault : MethodName := ⟨RX13, "fault", "()I"⟩
abbrev cX13_where : ByteArray := prog_14_method_35_code
def yX13_where : MethodName := ⟨RX13, "where", "()I"⟩
abbrev cX13_inchOf : ByteArray := prog_14_method_36_code
def yX13_inchOf : MethodName := ⟨RX13, "inchOf", "(IZ)I"⟩
abbrev cX13_bores : ByteArray := prog_14_method_37_code
def yX13_bores : MethodName := ⟨RX13, "bores", "([IZIII)V"⟩
abbrev cX13_tilts : ByteArray := prog_14_method_38_code
def yX13_tilts : MethodName := ⟨RX13, "tilts", "([IIIIII)V"⟩
abbrev cX13_clears : ByteArray := prog_14_method_39_code
def yX13_clears : MethodName := ⟨RX13, "clears", "([I)V"⟩
abbrev cX13_begins : ByteArray := prog_14_method_40_code
def yX13_begins : MethodName := ⟨RX13, "begins", "(Z)V"⟩
abbrev cX13_isThrough : ByteArray := prog_14_method_41_code
def yX13_isThrough : MethodName := ⟨RX13, "isThrough", "()Z"⟩
abbrev cX13_rod : ByteArray := prog_14_method_42_code
def yX13_rod : MethodName := ⟨RX13, "rod", "(Z)Z"⟩
abbrev cX13_drill : ByteArray := prog_14_method_43_code
def yX13_drill : MethodName := ⟨RX13, "drill", "(I)I"⟩
abbrev cX13_isDone : ByteArray := prog_14_method_44_code
def yX13_isDone : MethodName := ⟨RX13, "isDone", "(I)Z"⟩
abbrev cX13_inch : ByteArray := prog_14_method_45_code
def yX13_inch : MethodName := ⟨RX13, "inch", "(II)I"⟩
abbrev cX13_state : ByteArray := prog_14_method_46_code
def yX13_state : MethodName := ⟨RX13, "state", "(I)I"⟩
abbrev cX13_gets : ByteArray := prog_14_method_47_code
def yX13_gets : MethodName := ⟨RX13, "gets", "(II)Z"⟩
abbrev cX13_isNear : ByteArray := prog_14_method_48_code
def yX13_isNear : MethodName := ⟨RX13, "isNear", "(I)Z"⟩
abbrev cX13_scattered : ByteArray := prog_14_method_49_code
def yX13_scattered : MethodName := ⟨RX13, "scattered", "(I)I"⟩
abbrev cX13_isSpan : ByteArray := prog_14_method_50_code
def yX13_isSpan : MethodName := ⟨RX13, "isSpan", "(II)Z"⟩
abbrev cX13_odds : ByteArray := prog_14_method_51_code
def yX13_odds : MethodName := ⟨RX13, "odds", "(II)I"⟩
abbrev cX13_rows : ByteArray := prog_14_method_52_code
def yX13_rows : MethodName := ⟨RX13, "rows", "(I)I"⟩
abbrev cX13_cheapest : ByteArray := prog_14_method_53_code
def yX13_cheapest : MethodName := ⟨RX13, "cheapest", "(II)I"⟩
abbrev cX13_feedAt : ByteArray := prog_14_method_54_code
def yX13_feedAt : MethodName := ⟨RX13, "feedAt", "(I)I"⟩
abbrev cX13_comes : ByteArray := prog_14_method_55_code
def yX13_comes : MethodName := ⟨RX13, "comes", "(ZI)Z"⟩
abbrev cX13_apart : ByteArray := prog_14_method_56_code
def yX13_apart : MethodName := ⟨RX13, "apart", "(I)I"⟩
abbrev cX13_met : ByteArray := prog_14_method_57_code
def yX13_met : MethodName := ⟨RX13, "met", "(I)I"⟩
abbrev cX13_meet : ByteArray := prog_14_method_58_code
def yX13_meet : MethodName := ⟨RX13, "meet", "()I"⟩
abbrev cX13_felt : ByteArray := prog_14_method_59_code
def yX13_felt : MethodName := ⟨RX13, "felt", "(II)I"⟩
abbrev cX13_forget : ByteArray := prog_14_method_60_code
def yX13_forget : MethodName := ⟨RX13, "forget", "()I"⟩
abbrev cX13_causesOf : ByteArray := prog_14_method_61_code
def yX13_causesOf : MethodName := ⟨RX13, "causesOf", "()I"⟩
abbrev cX13_part : ByteArray := prog_14_method_62_code
def yX13_part : MethodName := ⟨RX13, "part", "(II)I"⟩
abbrev cX13_brings : ByteArray := prog_14_method_63_code
def yX13_brings : MethodName := ⟨RX13, "brings", "(I)Z"⟩
abbrev cX13_causes : ByteArray := prog_14_method_64_code
def yX13_causes : MethodName := ⟨RX13, "causes", "()I"⟩
abbrev cX13_cause : ByteArray := prog_14_method_65_code
def yX13_cause : MethodName := ⟨RX13, "cause", "(II)I"⟩
abbrev cX13_sure : ByteArray := prog_14_method_66_code
def yX13_sure : MethodName := ⟨RX13, "sure", "(I)I"⟩
abbrev cX13_last : ByteArray := prog_14_method_67_code
def yX13_last : MethodName := ⟨RX13, "last", "()I"⟩
abbrev cX13_offOf : ByteArray := prog_14_method_68_code
def yX13_offOf : MethodName := ⟨RX13, "offOf", "([II)I"⟩
abbrev cX13_isShort : ByteArray := prog_14_method_69_code
def yX13_isShort : MethodName := ⟨RX13, "isShort", "()Z"⟩
abbrev cX13_off : ByteArray := prog_14_method_70_code
def yX13_off : MethodName := ⟨RX13, "off", "(IZ)I"⟩
abbrev cX13_ringOf : ByteArray := prog_14_method_71_code
def yX13_ringOf : MethodName := ⟨RX13, "ringOf", "(I)I"⟩
abbrev cX13_ringAt : ByteArray := prog_14_method_72_code
def yX13_ringAt : MethodName := ⟨RX13, "ringAt", "()I"⟩
abbrev cX13_sideOf : ByteArray := prog_14_method_73_code
def yX13_sideOf : MethodName := ⟨RX13, "sideOf", "(I)I"⟩
abbrev cX13_ring : ByteArray := prog_14_method_74_code
def yX13_ring : MethodName := ⟨RX13, "ring", "(I)I"⟩
abbrev cX13_sees : ByteArray := prog_14_method_75_code
def yX13_sees : MethodName := ⟨RX13, "sees", "(I)I"⟩
abbrev cX13_moved : ByteArray := prog_14_method_76_code
def yX13_moved : MethodName := ⟨RX13, "moved", "(III)I"⟩
abbrev cX13_strikes : ByteArray := prog_14_method_77_code
def yX13_strikes : MethodName := ⟨RX13, "strikes", "([I[IIIIZ)V"⟩
abbrev cX13_blow : ByteArray := prog_14_method_78_code
def yX13_blow : MethodName := ⟨RX13, "blow", "(III)I"⟩
abbrev cX13_isStraight : ByteArray := prog_14_method_79_code
def yX13_isStraight : MethodName := ⟨RX13, "isStraight", "(I)Z"⟩
abbrev cX13_straightens : ByteArray := prog_14_method_80_code
def yX13_straightens : MethodName := ⟨RX13, "straightens", "(III)Z"⟩
abbrev cX13_strokesOf : ByteArray := prog_14_method_81_code
def yX13_strokesOf : MethodName := ⟨RX13, "strokesOf", "()I"⟩
abbrev cX13_secondDoes : ByteArray := prog_14_method_82_code
def yX13_secondDoes : MethodName := ⟨RX13, "secondDoes", "(II)Z"⟩
abbrev cX13_fewest : ByteArray := prog_14_method_83_code
def yX13_fewest : MethodName := ⟨RX13, "fewest", "(II)I"⟩
abbrev cX13_stroke : ByteArray := prog_14_method_84_code
def yX13_stroke : MethodName := ⟨RX13, "stroke", "(I)I"⟩
abbrev cX13_heat : ByteArray := prog_14_method_85_code
def yX13_heat : MethodName := ⟨RX13, "heat", "()I"⟩
abbrev cX13_about : ByteArray := prog_14_method_86_code
def yX13_about : MethodName := ⟨RX13, "about", "()I"⟩
abbrev cX13_wall : ByteArray := prog_14_method_87_code
def yX13_wall : MethodName := ⟨RX13, "wall", "(III)Z"⟩
abbrev cX13_clear : ByteArray := prog_14_method_88_code
def yX13_clear : MethodName := ⟨RX13, "clear", "()I"⟩
abbrev cX13_narrowed : ByteArray := prog_14_method_89_code
def yX13_narrowed : MethodName := ⟨RX13, "narrowed", "(III)Z"⟩
abbrev cX13_spans : ByteArray := prog_14_method_90_code
def yX13_spans : MethodName := ⟨RX13, "spans", "(I)Z"⟩
abbrev cX13_lies : ByteArray := prog_14_method_91_code
def yX13_lies : MethodName := ⟨RX13, "lies", "(IIZ)I"⟩
abbrev cX13_next : ByteArray := prog_14_method_92_code
def yX13_next : MethodName := ⟨RX13, "next", "(I)I"⟩
abbrev cX13_led : ByteArray := prog_14_method_93_code
def yX13_led : MethodName := ⟨RX13, "led", "(I)I"⟩
abbrev cX13_trouble : ByteArray := prog_14_method_94_code
def yX13_trouble : MethodName := ⟨RX13, "trouble", "()I"⟩
def RJx145de : String := "java/io/Serializable"
def TJx145de : u_T := fun k => match k with
  | _ => ("", "", "", false)
def tyJx145de : Nat → FieldType := fun k => match k with
  | _ => .int
def RJx9f9b0 : String := "java/lang/CharSequence"
def TJx9f9b0 : u_T := fun k => match k with
  | _ => ("", "", "", false)
def tyJx9f9b0 : Nat → FieldType := fun k => match k with
  | _ => .int
def RJxb160c : String := "java/lang/Comparable"
def TJxb160c : u_T := fun k => match k with
  | _ => ("", "", "", false)
def tyJxb160c : Nat → FieldType := fun k => match k with
  | _ => .int
def RJ9 : String := "java/lang/Math"
def TJ9 : u_T := fun k => match k with
  | _ => ("", "", "", false)
def tyJ9 : Nat → FieldType := fun k => match k with
  | _ => .int
abbrev wsJ90 : List Cond := u_ws RJ9 TJ9 0
theorem nmJ9 : ∀ a, a < 0 → ∀ b, b < 0 → a ≠ b → (TJ9 a).2.1 ≠ (TJ9 b).2.1 := by decide +kernel
theorem tyJ9_ok : ∀ k, k < 0 → parseFieldDescriptor (TJ9 k).2.2.1 = some (tyJ9 k) := by decide +kernel
abbrev cJ9_floorDiv_7cf53 : ByteArray := prog_20_method_47_code
def yJ9_floorDiv_7cf53 : MethodName := ⟨RJ9, "floorDiv", "(II)I"⟩
def RJ0 : String := "java/lang/String"
def TJ0 : u_T := fun k => match k with
  | _ => ("", "", "", false)
def tyJ0 : Nat → FieldType := fun k => match k with
  | _ => .int
abbrev wsJ00 : List Cond := u_ws RJ0 TJ0 0
theorem nmJ0 : ∀ a, a < 0 → ∀ b, b < 0 → a ≠ b → (TJ0 a).2.1 ≠ (TJ0 b).2.1 := by decide +kernel
theorem tyJ0_ok : ∀ k, k < 0 → parseFieldDescriptor (TJ0 k).2.2.1 = some (tyJ0 k) := by decide +kernel
abbrev cJ0_length_8abf5 : ByteArray := prog_22_method_54_code
def yJ0_length_8abf5 : MethodName := ⟨RJ0, "length", "()I"⟩
abbrev cJ0_charAt_5068e : ByteArray := prog_22_method_56_code
def yJ0_charAt_5068e : MethodName := ⟨RJ0, "charAt", "(I)C"⟩
abbrev cJ0_coder_7d493 : ByteArray := prog_22_method_152_code
def yJ0_coder_7d493 : MethodName := ⟨RJ0, "coder", "()B"⟩
abbrev cJ0_isLatin1_aae02 : ByteArray := prog_22_method_154_code
def yJ0_isLatin1_aae02 : MethodName := ⟨RJ0, "isLatin1", "()Z"⟩
abbrev cJ0_checkIndex_df160 : ByteArray := prog_22_method_155_code
def yJ0_checkIndex_df160 : MethodName := ⟨RJ0, "checkIndex", "(II)V"⟩
def RJ1 : String := "java/lang/StringLatin1"
def TJ1 : u_T := fun k => match k with
  | _ => ("", "", "", false)
def tyJ1 : Nat → FieldType := fun k => match k with
  | _ => .int
abbrev wsJ10 : List Cond := u_ws RJ1 TJ1 0
theorem nmJ1 : ∀ a, a < 0 → ∀ b, b < 0 → a ≠ b → (TJ1 a).2.1 ≠ (TJ1 b).2.1 := by decide +kernel
theorem tyJ1_ok : ∀ k, k < 0 → parseFieldDescriptor (TJ1 k).2.2.1 = some (tyJ1 k) := by decide +kernel
abbrev cJ1_charAt_3b067 : ByteArray := prog_23_method_2_code
def yJ1_charAt_3b067 : MethodName := ⟨RJ1, "charAt", "([BI)C"⟩
def RJ2 : String := "java/lang/StringUTF16"
def TJ2 : u_T := fun k => match k with
  | _ => ("", "", "", false)
def tyJ2 : Nat → FieldType := fun k => match k with
  | _ => .int
abbrev wsJ20 : List Cond := u_ws RJ2 TJ2 0
theorem nmJ2 : ∀ a, a < 0 → ∀ b, b < 0 → a ≠ b → (TJ2 a).2.1 ≠ (TJ2 b).2.1 := by decide +kernel
theorem tyJ2_ok : ∀ k, k < 0 → parseFieldDescriptor (TJ2 k).2.2.1 = some (tyJ2 k) := by decide +kernel
abbrev cJ2_getChar_3b067 : ByteArray := prog_24_method_5_code
def yJ2_getChar_3b067 : MethodName := ⟨RJ2, "getChar", "([BI)C"⟩
abbrev cJ2_length_9d52b : ByteArray := prog_24_method_6_code
def yJ2_length_9d52b : MethodName := ⟨RJ2, "length", "([B)I"⟩
abbrev cJ2_charAt_3b067 : ByteArray := prog_24_method_83_code
def yJ2_charAt_3b067 : MethodName := ⟨RJ2, "charAt", "([BI)C"⟩
abbrev cJ2_checkIndex_2214a : ByteArray := prog_24_method_91_code
def yJ2_checkIndex_2214a : MethodName := ⟨RJ2, "checkIndex", "(I[B)V"⟩
def RJxfd54e : String := "java/lang/constant/Constable"
def TJxfd54e : u_T := fun k => match k with
  | _ => ("", "", "", false)
def tyJxfd54e : Nat → FieldType := fun k => match k with
  | _ => .int
def RJx3cf43 : String := "java/lang/constant/ConstantDesc"
def TJx3cf43 : u_T := fun k => match k with
  | _ => ("", "", "", false)
def tyJx3cf43 : Nat → FieldType := fun k => match k with
  | _ => .int
def RJ3 : String := "jdk/internal/util/Preconditions"
def TJ3 : u_T := fun k => match k with
  | _ => ("", "", "", false)
def tyJ3 : Nat → FieldType := fun k => match k with
  | _ => .int
abbrev wsJ30 : List Cond := u_ws RJ3 TJ3 0
theorem nmJ3 : ∀ a, a < 0 → ∀ b, b < 0 → a ≠ b → (TJ3 a).2.1 ≠ (TJ3 b).2.1 := by decide +kernel
theorem tyJ3_ok : ∀ k, k < 0 → parseFieldDescriptor (TJ3 k).2.2.1 = some (tyJ3 k) := by decide +kernel
abbrev cJ3_checkIndex_8e157 : ByteArray := prog_29_method_11_code
def yJ3_checkIndex_8e157 : MethodName := ⟨RJ3, "checkIndex", "(IILjava/util/function/BiFunction;)I"⟩
def RL : String := "DeepHoleLaw"
abbrev cL_led : ByteArray := method_3_code
def yL_led : MethodName := ⟨RL, "led", "(LDeepHole;I[J)I"⟩
abbrev cL_law : ByteArray := code
def yL_law : MethodName := ⟨RL, "law", "([I)Z"⟩
abbrev vwCl : List vw_C := [(RX0, TX0, 6), (RX1, TX1, 10), (RX2, TX2, 7), (RX3, TX3, 7), (RX4, TX4, 7), (RX5, TX5, 4), (RX6, TX6, 15), (RX7, TX7, 7), (RX8, TX8, 19), (RX9, TX9, 8), (RX10, TX10, 8), (RX11, TX11, 12), (RX12, TX12, 29), (RX13, TX13, 43)]
/-- the slots of each kind of object: 0 an int, 1 a long, 2 a reference -/
def lyt (c : Nat) : List Nat := match c with
  | 0 => [2, 2, 2, 2, 0, 0]
  | 1 => [0, 0, 0, 0, 0, 0, 0, 0, 0, 0]
  | 2 => [2, 2, 2, 2, 2, 0, 0]
  | 3 => [2, 2, 2, 2, 2, 0, 0]
  | 4 => [2, 2, 2, 2, 0, 0, 0]
  | 5 => [2, 2, 2, 2]
  | 6 => [2, 2, 2, 2, 2, 0, 0, 0, 0, 0, 0, 0, 0, 0, 0]
  | 7 => [2, 2, 2, 0, 0, 0, 0]
  | 8 => [0, 0, 0, 0, 0, 0, 0, 0, 0, 0, 0, 0, 2, 2, 2, 2, 2, 2, 2]
  | 9 => [2, 0, 0, 0, 0, 0, 0, 0]
  | 10 => [2, 2, 2, 2, 2, 0, 0, 0]
  | 11 => [2, 2, 2, 2, 2, 2, 2, 2, 0, 0, 0, 0]
  | 12 => [0, 0, 0, 0, 0, 0, 0, 0, 0, 0, 0, 0, 0, 0, 0, 2, 2, 2, 2, 2, 2, 2, 2, 2, 2, 2, 2, 2, 2]
  | 13 => [0, 0, 0, 2, 2, 2, 0, 0, 0, 0, 0, 0, 0, 0, 0, 1, 0, 2, 2, 2, 2, 2, 2, 2, 2, 2, 0, 2, 0, 2, 2, 0, 2, 2, 2, 0, 2, 0, 2, 2, 2, 2, 2]
  | _ => []
def TB : List Cond := lw_tbl.filter goodWord
theorem tbm {w : Cond} (i : Nat) (h : lw_tbl[i]? = some w) (g : goodWord w = true) : w ∈ TB := List.mem_filter.mpr ⟨List.mem_of_getElem? h, g⟩
theorem inT0 : ∀ w ∈ u_ws RX0 TX0 6, w ∈ TB := by decide +kernel
theorem inT1 : ∀ w ∈ u_ws RX1 TX1 10, w ∈ TB := by decide +kernel
theorem inT2 : ∀ w ∈ u_ws RX2 TX2 7, w ∈ TB := by decide +kernel
theorem inT3 : ∀ w ∈ u_ws RX3 TX3 7, w ∈ TB := by decide +kernel
theorem inT4 : ∀ w ∈ u_ws RX4 TX4 7, w ∈ TB := by decide +kernel
theorem inT5 : ∀ w ∈ u_ws RX5 TX5 4, w ∈ TB := by decide +kernel
theorem inT6 : ∀ w ∈ u_ws RX6 TX6 15, w ∈ TB := by decide +kernel
theorem inT7 : ∀ w ∈ u_ws RX7 TX7 7, w ∈ TB := by decide +kernel
theorem inT8 : ∀ w ∈ u_ws RX8 TX8 19, w ∈ TB := by decide +kernel
theorem inT9 : ∀ w ∈ u_ws RX9 TX9 8, w ∈ TB := by decide +kernel
theorem inT10 : ∀ w ∈ u_ws RX10 TX10 8, w ∈ TB := by decide +kernel
theorem inT11 : ∀ w ∈ u_ws RX11 TX11 12, w ∈ TB := by decide +kernel
theorem inT12 : ∀ w ∈ u_ws RX12 TX12 29, w ∈ TB := by decide +kernel
theorem inT13 : ∀ w ∈ u_ws RX13 TX13 43, w ∈ TB := by decide +kernel
def strT : List (String × Nat × String × Nat) := [("DeepHole$Reader", 43, "rod", 0), ("DeepHole$Reader", 133, "inches", 1), ("DeepHole$Reader", 141, "wall", 2), ("DeepHole$Reader", 146, "bush", 3), ("DeepHole$Reader", 52, "lip", 4), ("DeepHole$Reader", 156, "oil", 5), ("DeepHole$Reader", 160, "room", 6), ("DeepHole$Reader", 164, "bears", 7), ("DeepHole$Reader", 57, "costs", 8), ("DeepHole$Reader", 168, "inch", 9), ("DeepHole$Reader", 176, "draw", 10), ("DeepHole$Reader", 62, "way", 11), ("DeepHole$Reader", 67, "hard", 12), ("DeepHole$Reader", 72, "from", 13), ("DeepHole$Reader", 77, "seer", 14), ("DeepHole$Reader", 226, "sharpen", 15), ("DeepHole$Reader", 187, "push", 16), ("DeepHole$Reader", 189, "hold", 17), ("DeepHole$Reader", 191, "force", 18), ("DeepHole$Reader", 202, "by", 19), ("DeepHole$Reader", 253, "right", 20), ("DeepHole$Reader", 255, "up", 21), ("DeepHole$Reader", 257, "left", 22), ("DeepHole$Reader", 259, "down", 23), ("DeepHole$Reader", 214, "feed", 24), ("DeepHole$Reader", 245, "sees", 25), ("DeepHoleModel", 167, "rod", 26), ("DeepHoleModel", 228, "inches", 27), ("DeepHoleModel", 233, "wall", 28), ("DeepHoleModel", 235, "bush", 29), ("DeepHoleModel", 169, "lip", 30), ("DeepHoleModel", 241, "oil", 31), ("DeepHoleModel", 245, "room", 32), ("DeepHoleModel", 249, "bears", 33), ("DeepHoleModel", 171, "costs", 34), ("DeepHoleModel", 253, "inch", 35), ("DeepHoleModel", 181, "draw", 36), ("DeepHoleModel", 173, "way", 37), ("DeepHoleModel", 175, "hard", 38), ("DeepHoleModel", 177, "from", 39), ("DeepHoleModel", 179, "seer", 40), ("DeepHoleModel", 183, "sharpen", 41), ("DeepHoleModel", 286, "push", 42), ("DeepHoleModel", 288, "hold", 43), ("DeepHoleModel", 290, "force", 44), ("DeepHoleModel", 301, "by", 45), ("DeepHoleModel", 303, "right", 46), ("DeepHoleModel", 305, "up", 47), ("DeepHoleModel", 307, "left", 48), ("DeepHoleModel", 309, "down", 49), ("DeepHoleModel", 320, "feed", 50), ("DeepHoleModel", 338, "sees", 51)]
def isNest (w : Cond) : Bool := match w with
  | .fieldLinkNest .. => true
  | .methodLinkNest .. => true
  | _ => false
/-- the words that the nest's links are -/
def NW : List Cond := lw_tbl.filter isNest
theorem nwm {w : Cond} (i : Nat) (h : lw_tbl[i]? = some w) (g : isNest w = true) : w ∈ NW := List.mem_filter.mpr ⟨List.mem_of_getElem? h, g⟩
end
section
/-! Tables: printed by wip/gen/gen.py. -/
theorem ch_0 {w : Cond} (h : w ∈ k2_sels lw_privs) : w ∈ lw_tbl := List.mem_append_left _ h
theorem ch_1 {w : Cond} (h : w ∈ tables_1_1) : w ∈ lw_tbl := List.mem_append_right _ (List.mem_append_left _ h)
theorem ch_2 {w : Cond} (h : w ∈ tables_1_2) : w ∈ lw_tbl := List.mem_append_right _ (List.mem_append_right _ (List.mem_append_left _ h))
theorem ch_3 {w : Cond} (h : w ∈ tables_1_3) : w ∈ lw_tbl := List.mem_append_right _ (List.mem_append_right _ (List.mem_append_right _ (List.mem_append_left _ h)))
theorem ch_4 {w : Cond} (h : w ∈ tables_1_4) : w ∈ lw_tbl := List.mem_append_right _ (List.mem_append_right _ (List.mem_append_right _ (List.mem_append_right _ (List.mem_append_left _ h))))
theorem ch_5 {w : Cond} (h : w ∈ tables_1_5) : w ∈ lw_tbl := List.mem_append_right _ (List.mem_append_right _ (List.mem_append_right _ (List.mem_append_right _ (List.mem_append_right _ (List.mem_append_left _ h)))))
theorem ch_6 {w : Cond} (h : w ∈ tables_1_6) : w ∈ lw_tbl := List.mem_append_right _ (List.mem_append_right _ (List.mem_append_right _ (List.mem_append_right _ (List.mem_append_right _ (List.mem_append_right _ (List.mem_append_left _ h))))))
theorem ch_7 {w : Cond} (h : w ∈ tables_1_7) : w ∈ lw_tbl := List.mem_append_right _ (List.mem_append_right _ (List.mem_append_right _ (List.mem_append_right _ (List.mem_append_right _ (List.mem_append_right _ (List.mem_append_right _ (List.mem_append_left _ h)))))))
theorem ch_8 {w : Cond} (h : w ∈ tables_1_8) : w ∈ lw_tbl := List.mem_append_right _ (List.mem_append_right _ (List.mem_append_right _ (List.mem_append_right _ (List.mem_append_right _ (List.mem_append_right _ (List.mem_append_right _ (List.mem_append_right _ (h))))))))
theorem tw_0 : Cond.selects "DeepHole" ⟨"DeepHole", "refuse", "(I)I"⟩ ⟨"DeepHole", "refuse", "(I)I"⟩ ∈ TB := List.mem_filter.mpr ⟨(ch_0 (List.mem_of_getElem? (i := 0) (by decide +kernel))), by decide +kernel⟩
theorem tw_1 : Cond.selects "DeepHole$Reader" ⟨"DeepHole$Reader", "begin", "(I)V"⟩ ⟨"DeepHole$Reader", "begin", "(I)V"⟩ ∈ TB := List.mem_filter.mpr ⟨(ch_0 (List.mem_of_getElem? (i := 1) (by decide +kernel))), by decide +kernel⟩
theorem tw_2 : Cond.selects "DeepHole$Reader" ⟨"DeepHole$Reader", "readRod", "()V"⟩ ⟨"DeepHole$Reader", "readRod", "()V"⟩ ∈ TB := List.mem_filter.mpr ⟨(ch_0 (List.mem_of_getElem? (i := 2) (by decide +kernel))), by decide +kernel⟩
theorem tw_3 : Cond.selects "DeepHole$Reader" ⟨"DeepHole$Reader", "beginLine", "(ZI)V"⟩ ⟨"DeepHole$Reader", "beginLine", "(ZI)V"⟩ ∈ TB := List.mem_filter.mpr ⟨(ch_0 (List.mem_of_getElem? (i := 3) (by decide +kernel))), by decide +kernel⟩
theorem tw_4 : Cond.selects "DeepHole$Reader" ⟨"DeepHole$Reader", "blame", "(I)V"⟩ ⟨"DeepHole$Reader", "blame", "(I)V"⟩ ∈ TB := List.mem_filter.mpr ⟨(ch_0 (List.mem_of_getElem? (i := 4) (by decide +kernel))), by decide +kernel⟩
theorem tw_5 : Cond.selects "DeepHole$Reader" ⟨"DeepHole$Reader", "takeNumber", "(Ljava/lang/String;II)I"⟩ ⟨"DeepHole$Reader", "takeNumber", "(Ljava/lang/String;II)I"⟩ ∈ TB := List.mem_filter.mpr ⟨(ch_0 (List.mem_of_getElem? (i := 5) (by decide +kernel))), by decide +kernel⟩
theorem tw_6 : Cond.selects "DeepHole$Reader" ⟨"DeepHole$Reader", "takeWord", "(Ljava/lang/String;)V"⟩ ⟨"DeepHole$Reader", "takeWord", "(Ljava/lang/String;)V"⟩ ∈ TB := List.mem_filter.mpr ⟨(ch_0 (List.mem_of_getElem? (i := 6) (by decide +kernel))), by decide +kernel⟩
theorem tw_7 : Cond.selects "DeepHole$Reader" ⟨"DeepHole$Reader", "takeWhole", "(II)I"⟩ ⟨"DeepHole$Reader", "takeWhole", "(II)I"⟩ ∈ TB := List.mem_filter.mpr ⟨(ch_0 (List.mem_of_getElem? (i := 7) (by decide +kernel))), by decide +kernel⟩
theorem tw_8 : Cond.selects "DeepHole$Reader" ⟨"DeepHole$Reader", "readLip", "()V"⟩ ⟨"DeepHole$Reader", "readLip", "()V"⟩ ∈ TB := List.mem_filter.mpr ⟨(ch_0 (List.mem_of_getElem? (i := 8) (by decide +kernel))), by decide +kernel⟩
theorem tw_9 : Cond.selects "DeepHole$Reader" ⟨"DeepHole$Reader", "readCosts", "()V"⟩ ⟨"DeepHole$Reader", "readCosts", "()V"⟩ ∈ TB := List.mem_filter.mpr ⟨(ch_0 (List.mem_of_getElem? (i := 9) (by decide +kernel))), by decide +kernel⟩
theorem tw_10 : Cond.selects "DeepHole$Reader" ⟨"DeepHole$Reader", "readWay", "()V"⟩ ⟨"DeepHole$Reader", "readWay", "()V"⟩ ∈ TB := List.mem_filter.mpr ⟨(ch_0 (List.mem_of_getElem? (i := 10) (by decide +kernel))), by decide +kernel⟩
theorem tw_11 : Cond.selects "DeepHole$Reader" ⟨"DeepHole$Reader", "takeNewName", "(I)V"⟩ ⟨"DeepHole$Reader", "takeNewName", "(I)V"⟩ ∈ TB := List.mem_filter.mpr ⟨(ch_0 (List.mem_of_getElem? (i := 11) (by decide +kernel))), by decide +kernel⟩
theorem tw_12 : Cond.selects "DeepHole$Reader" ⟨"DeepHole$Reader", "isName", "()Z"⟩ ⟨"DeepHole$Reader", "isName", "()Z"⟩ ∈ TB := List.mem_filter.mpr ⟨(ch_0 (List.mem_of_getElem? (i := 12) (by decide +kernel))), by decide +kernel⟩
theorem tw_13 : Cond.selects "DeepHole$Reader" ⟨"DeepHole$Reader", "findName", "()I"⟩ ⟨"DeepHole$Reader", "findName", "()I"⟩ ∈ TB := List.mem_filter.mpr ⟨(ch_0 (List.mem_of_getElem? (i := 13) (by decide +kernel))), by decide +kernel⟩
theorem tw_14 : Cond.selects "DeepHole$Reader" ⟨"DeepHole$Reader", "readHard", "()V"⟩ ⟨"DeepHole$Reader", "readHard", "()V"⟩ ∈ TB := List.mem_filter.mpr ⟨(ch_0 (List.mem_of_getElem? (i := 14) (by decide +kernel))), by decide +kernel⟩
theorem tw_15 : Cond.selects "DeepHole$Reader" ⟨"DeepHole$Reader", "takeSide", "()I"⟩ ⟨"DeepHole$Reader", "takeSide", "()I"⟩ ∈ TB := List.mem_filter.mpr ⟨(ch_0 (List.mem_of_getElem? (i := 15) (by decide +kernel))), by decide +kernel⟩
theorem tw_16 : Cond.selects "DeepHole$Reader" ⟨"DeepHole$Reader", "readFrom", "()V"⟩ ⟨"DeepHole$Reader", "readFrom", "()V"⟩ ∈ TB := List.mem_filter.mpr ⟨(ch_0 (List.mem_of_getElem? (i := 16) (by decide +kernel))), by decide +kernel⟩
theorem tw_17 : Cond.selects "DeepHole$Reader" ⟨"DeepHole$Reader", "takeWayName", "()I"⟩ ⟨"DeepHole$Reader", "takeWayName", "()I"⟩ ∈ TB := List.mem_filter.mpr ⟨(ch_0 (List.mem_of_getElem? (i := 17) (by decide +kernel))), by decide +kernel⟩
theorem tw_18 : Cond.selects "DeepHole$Reader" ⟨"DeepHole$Reader", "takeIfWord", "(Ljava/lang/String;)Z"⟩ ⟨"DeepHole$Reader", "takeIfWord", "(Ljava/lang/String;)Z"⟩ ∈ TB := List.mem_filter.mpr ⟨(ch_0 (List.mem_of_getElem? (i := 18) (by decide +kernel))), by decide +kernel⟩
theorem tw_19 : Cond.selects "DeepHole$Reader" ⟨"DeepHole$Reader", "readSeer", "()V"⟩ ⟨"DeepHole$Reader", "readSeer", "()V"⟩ ∈ TB := List.mem_filter.mpr ⟨(ch_0 (List.mem_of_getElem? (i := 19) (by decide +kernel))), by decide +kernel⟩
theorem tw_20 : Cond.selects "DeepHole$Reader" ⟨"DeepHole$Reader", "lookForLacks", "()V"⟩ ⟨"DeepHole$Reader", "lookForLacks", "()V"⟩ ∈ TB := List.mem_filter.mpr ⟨(ch_0 (List.mem_of_getElem? (i := 20) (by decide +kernel))), by decide +kernel⟩
theorem tw_21 : Cond.selects "DeepHole" ⟨"DeepHole", "accept", "(I)I"⟩ ⟨"DeepHole", "accept", "(I)I"⟩ ∈ TB := List.mem_filter.mpr ⟨(ch_0 (List.mem_of_getElem? (i := 21) (by decide +kernel))), by decide +kernel⟩
theorem tw_22 : Cond.selects "DeepHole$Bit" ⟨"DeepHole$Bit", "prepare", "(LDeepHole$Shop;I)V"⟩ ⟨"DeepHole$Bit", "prepare", "(LDeepHole$Shop;I)V"⟩ ∈ TB := List.mem_filter.mpr ⟨(ch_0 (List.mem_of_getElem? (i := 22) (by decide +kernel))), by decide +kernel⟩
theorem tw_23 : Cond.selects "DeepHole" ⟨"DeepHole", "refuseNowhere", "(I)I"⟩ ⟨"DeepHole", "refuseNowhere", "(I)I"⟩ ∈ TB := List.mem_filter.mpr ⟨(ch_0 (List.mem_of_getElem? (i := 23) (by decide +kernel))), by decide +kernel⟩
theorem tw_24 : Cond.selects "DeepHole" ⟨"DeepHole", "oddsRefused", "(I)I"⟩ ⟨"DeepHole", "oddsRefused", "(I)I"⟩ ∈ TB := List.mem_filter.mpr ⟨(ch_0 (List.mem_of_getElem? (i := 24) (by decide +kernel))), by decide +kernel⟩
theorem tw_25 : Cond.selects "DeepHole$Search" ⟨"DeepHole$Search", "oddsBehind", "(LDeepHole$Shop;III)I"⟩ ⟨"DeepHole$Search", "oddsBehind", "(LDeepHole$Shop;III)I"⟩ ∈ TB := List.mem_filter.mpr ⟨(ch_0 (List.mem_of_getElem? (i := 25) (by decide +kernel))), by decide +kernel⟩
theorem tw_26 : Cond.selects "DeepHole$Search" ⟨"DeepHole$Search", "feedsBehind", "(LDeepHole$Shop;III)V"⟩ ⟨"DeepHole$Search", "feedsBehind", "(LDeepHole$Shop;III)V"⟩ ∈ TB := List.mem_filter.mpr ⟨(ch_0 (List.mem_of_getElem? (i := 26) (by decide +kernel))), by decide +kernel⟩
theorem tw_27 : Cond.selects "DeepHole$Search" ⟨"DeepHole$Search", "keep", "(II)V"⟩ ⟨"DeepHole$Search", "keep", "(II)V"⟩ ∈ TB := List.mem_filter.mpr ⟨(ch_0 (List.mem_of_getElem? (i := 27) (by decide +kernel))), by decide +kernel⟩
theorem tw_28 : Cond.selects "DeepHole$Ends" ⟨"DeepHole$Ends", "goThrough", "(LDeepHole$Shop;Z[I[I)I"⟩ ⟨"DeepHole$Ends", "goThrough", "(LDeepHole$Shop;Z[I[I)I"⟩ ∈ TB := List.mem_filter.mpr ⟨(ch_0 (List.mem_of_getElem? (i := 28) (by decide +kernel))), by decide +kernel⟩
theorem tw_29 : Cond.selects "DeepHole" ⟨"DeepHole", "isInchOfRod", "(I)Z"⟩ ⟨"DeepHole", "isInchOfRod", "(I)Z"⟩ ∈ TB := List.mem_filter.mpr ⟨(ch_0 (List.mem_of_getElem? (i := 29) (by decide +kernel))), by decide +kernel⟩
theorem tw_30 : Cond.selects "DeepHole$Needle" ⟨"DeepHole$Needle", "tryCause", "(LDeepHole$Shop;III)V"⟩ ⟨"DeepHole$Needle", "tryCause", "(LDeepHole$Shop;III)V"⟩ ∈ TB := List.mem_filter.mpr ⟨(ch_0 (List.mem_of_getElem? (i := 30) (by decide +kernel))), by decide +kernel⟩
theorem tw_31 : Cond.selects "DeepHole$Needle" ⟨"DeepHole$Needle", "fits", "(LDeepHole$Shop;III)Z"⟩ ⟨"DeepHole$Needle", "fits", "(LDeepHole$Shop;III)Z"⟩ ∈ TB := List.mem_filter.mpr ⟨(ch_0 (List.mem_of_getElem? (i := 31) (by decide +kernel))), by decide +kernel⟩
theorem tw_32 : Cond.selects "DeepHole$Needle" ⟨"DeepHole$Needle", "behindLastFelt", "()I"⟩ ⟨"DeepHole$Needle", "behindLastFelt", "()I"⟩ ∈ TB := List.mem_filter.mpr ⟨(ch_0 (List.mem_of_getElem? (i := 32) (by decide +kernel))), by decide +kernel⟩
theorem tw_33 : Cond.selects "DeepHole$Needle" ⟨"DeepHole$Needle", "agrees", "(II)Z"⟩ ⟨"DeepHole$Needle", "agrees", "(II)Z"⟩ ∈ TB := List.mem_filter.mpr ⟨(ch_0 (List.mem_of_getElem? (i := 33) (by decide +kernel))), by decide +kernel⟩
theorem tw_34 : Cond.selects "DeepHole$Hole" ⟨"DeepHole$Hole", "moveAway", "(III)V"⟩ ⟨"DeepHole$Hole", "moveAway", "(III)V"⟩ ∈ TB := List.mem_filter.mpr ⟨(ch_0 (List.mem_of_getElem? (i := 34) (by decide +kernel))), by decide +kernel⟩
theorem tw_35 : Cond.selects "DeepHole$Bench" ⟨"DeepHole$Bench", "prepare", "(LDeepHole$Hole;I)V"⟩ ⟨"DeepHole$Bench", "prepare", "(LDeepHole$Hole;I)V"⟩ ∈ TB := List.mem_filter.mpr ⟨(ch_0 (List.mem_of_getElem? (i := 35) (by decide +kernel))), by decide +kernel⟩
theorem tw_36 : Cond.selects "DeepHole$Bench" ⟨"DeepHole$Bench", "isStraight", "(III)Z"⟩ ⟨"DeepHole$Bench", "isStraight", "(III)Z"⟩ ∈ TB := List.mem_filter.mpr ⟨(ch_0 (List.mem_of_getElem? (i := 36) (by decide +kernel))), by decide +kernel⟩
theorem tw_37 : Cond.selects "DeepHole$Bench" ⟨"DeepHole$Bench", "moveBy", "(II)I"⟩ ⟨"DeepHole$Bench", "moveBy", "(II)I"⟩ ∈ TB := List.mem_filter.mpr ⟨(ch_0 (List.mem_of_getElem? (i := 37) (by decide +kernel))), by decide +kernel⟩
theorem tw_38 : Cond.selects "DeepHole$Bench" ⟨"DeepHole$Bench", "findOne", "(I)Z"⟩ ⟨"DeepHole$Bench", "findOne", "(I)Z"⟩ ∈ TB := List.mem_filter.mpr ⟨(ch_0 (List.mem_of_getElem? (i := 38) (by decide +kernel))), by decide +kernel⟩
theorem tw_39 : Cond.selects "DeepHole$Bench" ⟨"DeepHole$Bench", "findTwo", "(I)Z"⟩ ⟨"DeepHole$Bench", "findTwo", "(I)Z"⟩ ∈ TB := List.mem_filter.mpr ⟨(ch_0 (List.mem_of_getElem? (i := 39) (by decide +kernel))), by decide +kernel⟩
theorem tw_40 : Cond.selects "DeepHole$Walls" ⟨"DeepHole$Walls", "narrowThree", "(II)V"⟩ ⟨"DeepHole$Walls", "narrowThree", "(II)V"⟩ ∈ TB := List.mem_filter.mpr ⟨(ch_0 (List.mem_of_getElem? (i := 40) (by decide +kernel))), by decide +kernel⟩
theorem tw_41 : Cond.selects "DeepHole$Walls" ⟨"DeepHole$Walls", "cut", "(III)V"⟩ ⟨"DeepHole$Walls", "cut", "(III)V"⟩ ∈ TB := List.mem_filter.mpr ⟨(ch_0 (List.mem_of_getElem? (i := 41) (by decide +kernel))), by decide +kernel⟩
theorem tw_43 : Cond.selects "DeepHoleModel" ⟨"DeepHoleModel", "refused", "(I)I"⟩ ⟨"DeepHoleModel", "refused", "(I)I"⟩ ∈ TB := List.mem_filter.mpr ⟨(ch_0 (List.mem_of_getElem? (i := 43) (by decide +kernel))), by decide +kernel⟩
theorem tw_44 : Cond.selects "DeepHoleModel" ⟨"DeepHoleModel", "goesOn", "()V"⟩ ⟨"DeepHoleModel", "goesOn", "()V"⟩ ∈ TB := List.mem_filter.mpr ⟨(ch_0 (List.mem_of_getElem? (i := 44) (by decide +kernel))), by decide +kernel⟩
theorem tw_45 : Cond.selects "DeepHoleModel" ⟨"DeepHoleModel", "byteAt", "(I)I"⟩ ⟨"DeepHoleModel", "byteAt", "(I)I"⟩ ∈ TB := List.mem_filter.mpr ⟨(ch_0 (List.mem_of_getElem? (i := 45) (by decide +kernel))), by decide +kernel⟩
theorem tw_46 : Cond.selects "DeepHoleModel" ⟨"DeepHoleModel", "readShop", "()V"⟩ ⟨"DeepHoleModel", "readShop", "()V"⟩ ∈ TB := List.mem_filter.mpr ⟨(ch_0 (List.mem_of_getElem? (i := 46) (by decide +kernel))), by decide +kernel⟩
theorem tw_47 : Cond.selects "DeepHoleModel" ⟨"DeepHoleModel", "readLine", "()V"⟩ ⟨"DeepHoleModel", "readLine", "()V"⟩ ∈ TB := List.mem_filter.mpr ⟨(ch_0 (List.mem_of_getElem? (i := 47) (by decide +kernel))), by decide +kernel⟩
theorem tw_48 : Cond.selects "DeepHoleModel" ⟨"DeepHoleModel", "isWord", "(Ljava/lang/String;)Z"⟩ ⟨"DeepHoleModel", "isWord", "(Ljava/lang/String;)Z"⟩ ∈ TB := List.mem_filter.mpr ⟨(ch_0 (List.mem_of_getElem? (i := 48) (by decide +kernel))), by decide +kernel⟩
theorem tw_49 : Cond.selects "DeepHoleModel" ⟨"DeepHoleModel", "readRod", "()V"⟩ ⟨"DeepHoleModel", "readRod", "()V"⟩ ∈ TB := List.mem_filter.mpr ⟨(ch_0 (List.mem_of_getElem? (i := 49) (by decide +kernel))), by decide +kernel⟩
theorem tw_50 : Cond.selects "DeepHoleModel" ⟨"DeepHoleModel", "wrong", "(I)V"⟩ ⟨"DeepHoleModel", "wrong", "(I)V"⟩ ∈ TB := List.mem_filter.mpr ⟨(ch_0 (List.mem_of_getElem? (i := 50) (by decide +kernel))), by decide +kernel⟩
theorem tw_51 : Cond.selects "DeepHoleModel" ⟨"DeepHoleModel", "wrongHere", "(II)V"⟩ ⟨"DeepHoleModel", "wrongHere", "(II)V"⟩ ∈ TB := List.mem_filter.mpr ⟨(ch_0 (List.mem_of_getElem? (i := 51) (by decide +kernel))), by decide +kernel⟩
theorem tw_52 : Cond.selects "DeepHoleModel" ⟨"DeepHoleModel", "readPart", "(Ljava/lang/String;II)I"⟩ ⟨"DeepHoleModel", "readPart", "(Ljava/lang/String;II)I"⟩ ∈ TB := List.mem_filter.mpr ⟨(ch_0 (List.mem_of_getElem? (i := 52) (by decide +kernel))), by decide +kernel⟩
theorem tw_53 : Cond.selects "DeepHoleModel" ⟨"DeepHoleModel", "readWhole", "(II)I"⟩ ⟨"DeepHoleModel", "readWhole", "(II)I"⟩ ∈ TB := List.mem_filter.mpr ⟨(ch_0 (List.mem_of_getElem? (i := 53) (by decide +kernel))), by decide +kernel⟩
theorem tw_54 : Cond.selects "DeepHoleModel" ⟨"DeepHoleModel", "readLip", "()V"⟩ ⟨"DeepHoleModel", "readLip", "()V"⟩ ∈ TB := List.mem_filter.mpr ⟨(ch_0 (List.mem_of_getElem? (i := 54) (by decide +kernel))), by decide +kernel⟩
theorem tw_55 : Cond.selects "DeepHoleModel" ⟨"DeepHoleModel", "readCosts", "()V"⟩ ⟨"DeepHoleModel", "readCosts", "()V"⟩ ∈ TB := List.mem_filter.mpr ⟨(ch_0 (List.mem_of_getElem? (i := 55) (by decide +kernel))), by decide +kernel⟩
theorem tw_56 : Cond.selects "DeepHoleModel" ⟨"DeepHoleModel", "readWay", "()V"⟩ ⟨"DeepHoleModel", "readWay", "()V"⟩ ∈ TB := List.mem_filter.mpr ⟨(ch_0 (List.mem_of_getElem? (i := 56) (by decide +kernel))), by decide +kernel⟩
theorem tw_57 : Cond.selects "DeepHoleModel" ⟨"DeepHoleModel", "readNamed", "(ZI)V"⟩ ⟨"DeepHoleModel", "readNamed", "(ZI)V"⟩ ∈ TB := List.mem_filter.mpr ⟨(ch_0 (List.mem_of_getElem? (i := 57) (by decide +kernel))), by decide +kernel⟩
theorem tw_58 : Cond.selects "DeepHoleModel" ⟨"DeepHoleModel", "isName", "()Z"⟩ ⟨"DeepHoleModel", "isName", "()Z"⟩ ∈ TB := List.mem_filter.mpr ⟨(ch_0 (List.mem_of_getElem? (i := 58) (by decide +kernel))), by decide +kernel⟩
theorem tw_59 : Cond.selects "DeepHoleModel" ⟨"DeepHoleModel", "readHard", "()V"⟩ ⟨"DeepHoleModel", "readHard", "()V"⟩ ∈ TB := List.mem_filter.mpr ⟨(ch_0 (List.mem_of_getElem? (i := 59) (by decide +kernel))), by decide +kernel⟩
theorem tw_60 : Cond.selects "DeepHoleModel" ⟨"DeepHoleModel", "readFrom", "()V"⟩ ⟨"DeepHoleModel", "readFrom", "()V"⟩ ∈ TB := List.mem_filter.mpr ⟨(ch_0 (List.mem_of_getElem? (i := 60) (by decide +kernel))), by decide +kernel⟩
theorem tw_61 : Cond.selects "DeepHoleModel" ⟨"DeepHoleModel", "eats", "(Ljava/lang/String;)Z"⟩ ⟨"DeepHoleModel", "eats", "(Ljava/lang/String;)Z"⟩ ∈ TB := List.mem_filter.mpr ⟨(ch_0 (List.mem_of_getElem? (i := 61) (by decide +kernel))), by decide +kernel⟩
theorem tw_62 : Cond.selects "DeepHoleModel" ⟨"DeepHoleModel", "readSeer", "()V"⟩ ⟨"DeepHoleModel", "readSeer", "()V"⟩ ∈ TB := List.mem_filter.mpr ⟨(ch_0 (List.mem_of_getElem? (i := 62) (by decide +kernel))), by decide +kernel⟩
theorem tw_63 : Cond.selects "DeepHoleModel" ⟨"DeepHoleModel", "begins", "(Z)V"⟩ ⟨"DeepHoleModel", "begins", "(Z)V"⟩ ∈ TB := List.mem_filter.mpr ⟨(ch_0 (List.mem_of_getElem? (i := 63) (by decide +kernel))), by decide +kernel⟩
theorem tw_64 : Cond.selects "DeepHoleModel" ⟨"DeepHoleModel", "done", "(I)I"⟩ ⟨"DeepHoleModel", "done", "(I)I"⟩ ∈ TB := List.mem_filter.mpr ⟨(ch_0 (List.mem_of_getElem? (i := 64) (by decide +kernel))), by decide +kernel⟩
theorem tw_65 : Cond.selects "DeepHoleModel" ⟨"DeepHoleModel", "denied", "(I)Z"⟩ ⟨"DeepHoleModel", "denied", "(I)Z"⟩ ∈ TB := List.mem_filter.mpr ⟨(ch_0 (List.mem_of_getElem? (i := 65) (by decide +kernel))), by decide +kernel⟩
theorem tw_66 : Cond.selects "DeepHoleModel" ⟨"DeepHoleModel", "granted", "()Z"⟩ ⟨"DeepHoleModel", "granted", "()Z"⟩ ∈ TB := List.mem_filter.mpr ⟨(ch_0 (List.mem_of_getElem? (i := 66) (by decide +kernel))), by decide +kernel⟩
theorem tw_67 : Cond.selects "DeepHoleModel" ⟨"DeepHoleModel", "isThrough", "()Z"⟩ ⟨"DeepHoleModel", "isThrough", "()Z"⟩ ∈ TB := List.mem_filter.mpr ⟨(ch_0 (List.mem_of_getElem? (i := 67) (by decide +kernel))), by decide +kernel⟩
theorem tw_68 : Cond.selects "DeepHoleModel" ⟨"DeepHoleModel", "bores", "([IZIII)V"⟩ ⟨"DeepHoleModel", "bores", "([IZIII)V"⟩ ∈ TB := List.mem_filter.mpr ⟨(ch_0 (List.mem_of_getElem? (i := 68) (by decide +kernel))), by decide +kernel⟩
theorem tw_69 : Cond.selects "DeepHoleModel" ⟨"DeepHoleModel", "inchOf", "(IZ)I"⟩ ⟨"DeepHoleModel", "inchOf", "(IZ)I"⟩ ∈ TB := List.mem_filter.mpr ⟨(ch_0 (List.mem_of_getElem? (i := 69) (by decide +kernel))), by decide +kernel⟩
theorem tw_70 : Cond.selects "DeepHoleModel" ⟨"DeepHoleModel", "tilts", "([IIIIII)V"⟩ ⟨"DeepHoleModel", "tilts", "([IIIIII)V"⟩ ∈ TB := List.mem_filter.mpr ⟨(ch_0 (List.mem_of_getElem? (i := 70) (by decide +kernel))), by decide +kernel⟩
theorem tw_71 : Cond.selects "DeepHoleModel" ⟨"DeepHoleModel", "isDone", "(I)Z"⟩ ⟨"DeepHoleModel", "isDone", "(I)Z"⟩ ∈ TB := List.mem_filter.mpr ⟨(ch_0 (List.mem_of_getElem? (i := 71) (by decide +kernel))), by decide +kernel⟩
theorem tw_72 : Cond.selects "DeepHoleModel" ⟨"DeepHoleModel", "lost", "(I)I"⟩ ⟨"DeepHoleModel", "lost", "(I)I"⟩ ∈ TB := List.mem_filter.mpr ⟨(ch_0 (List.mem_of_getElem? (i := 72) (by decide +kernel))), by decide +kernel⟩
theorem tw_73 : Cond.selects "DeepHoleModel" ⟨"DeepHoleModel", "isSpan", "(II)Z"⟩ ⟨"DeepHoleModel", "isSpan", "(II)Z"⟩ ∈ TB := List.mem_filter.mpr ⟨(ch_0 (List.mem_of_getElem? (i := 73) (by decide +kernel))), by decide +kernel⟩
theorem tw_74 : Cond.selects "DeepHoleModel" ⟨"DeepHoleModel", "scattered", "(I)I"⟩ ⟨"DeepHoleModel", "scattered", "(I)I"⟩ ∈ TB := List.mem_filter.mpr ⟨(ch_0 (List.mem_of_getElem? (i := 74) (by decide +kernel))), by decide +kernel⟩
theorem tw_75 : Cond.selects "DeepHoleModel" ⟨"DeepHoleModel", "gets", "(II)Z"⟩ ⟨"DeepHoleModel", "gets", "(II)Z"⟩ ∈ TB := List.mem_filter.mpr ⟨(ch_0 (List.mem_of_getElem? (i := 75) (by decide +kernel))), by decide +kernel⟩
theorem tw_76 : Cond.selects "DeepHoleModel" ⟨"DeepHoleModel", "isNear", "(I)Z"⟩ ⟨"DeepHoleModel", "isNear", "(I)Z"⟩ ∈ TB := List.mem_filter.mpr ⟨(ch_0 (List.mem_of_getElem? (i := 76) (by decide +kernel))), by decide +kernel⟩
theorem tw_77 : Cond.selects "DeepHoleModel" ⟨"DeepHoleModel", "apart", "(I)I"⟩ ⟨"DeepHoleModel", "apart", "(I)I"⟩ ∈ TB := List.mem_filter.mpr ⟨(ch_0 (List.mem_of_getElem? (i := 77) (by decide +kernel))), by decide +kernel⟩
theorem tw_78 : Cond.selects "DeepHoleModel" ⟨"DeepHoleModel", "comes", "(ZI)Z"⟩ ⟨"DeepHoleModel", "comes", "(ZI)Z"⟩ ∈ TB := List.mem_filter.mpr ⟨(ch_0 (List.mem_of_getElem? (i := 78) (by decide +kernel))), by decide +kernel⟩
theorem tw_79 : Cond.selects "DeepHoleModel" ⟨"DeepHoleModel", "causesOf", "()I"⟩ ⟨"DeepHoleModel", "causesOf", "()I"⟩ ∈ TB := List.mem_filter.mpr ⟨(ch_0 (List.mem_of_getElem? (i := 79) (by decide +kernel))), by decide +kernel⟩
theorem tw_80 : Cond.selects "DeepHoleModel" ⟨"DeepHoleModel", "brings", "(I)Z"⟩ ⟨"DeepHoleModel", "brings", "(I)Z"⟩ ∈ TB := List.mem_filter.mpr ⟨(ch_0 (List.mem_of_getElem? (i := 80) (by decide +kernel))), by decide +kernel⟩
theorem tw_81 : Cond.selects "DeepHoleModel" ⟨"DeepHoleModel", "part", "(II)I"⟩ ⟨"DeepHoleModel", "part", "(II)I"⟩ ∈ TB := List.mem_filter.mpr ⟨(ch_0 (List.mem_of_getElem? (i := 81) (by decide +kernel))), by decide +kernel⟩
theorem tw_82 : Cond.selects "DeepHoleModel" ⟨"DeepHoleModel", "isShort", "()Z"⟩ ⟨"DeepHoleModel", "isShort", "()Z"⟩ ∈ TB := List.mem_filter.mpr ⟨(ch_0 (List.mem_of_getElem? (i := 82) (by decide +kernel))), by decide +kernel⟩
theorem tw_83 : Cond.selects "DeepHoleModel" ⟨"DeepHoleModel", "offOf", "([II)I"⟩ ⟨"DeepHoleModel", "offOf", "([II)I"⟩ ∈ TB := List.mem_filter.mpr ⟨(ch_0 (List.mem_of_getElem? (i := 83) (by decide +kernel))), by decide +kernel⟩
theorem tw_84 : Cond.selects "DeepHoleModel" ⟨"DeepHoleModel", "last", "()I"⟩ ⟨"DeepHoleModel", "last", "()I"⟩ ∈ TB := List.mem_filter.mpr ⟨(ch_0 (List.mem_of_getElem? (i := 84) (by decide +kernel))), by decide +kernel⟩
theorem tw_85 : Cond.selects "DeepHoleModel" ⟨"DeepHoleModel", "ringAt", "()I"⟩ ⟨"DeepHoleModel", "ringAt", "()I"⟩ ∈ TB := List.mem_filter.mpr ⟨(ch_0 (List.mem_of_getElem? (i := 85) (by decide +kernel))), by decide +kernel⟩
theorem tw_86 : Cond.selects "DeepHoleModel" ⟨"DeepHoleModel", "ringOf", "(I)I"⟩ ⟨"DeepHoleModel", "ringOf", "(I)I"⟩ ∈ TB := List.mem_filter.mpr ⟨(ch_0 (List.mem_of_getElem? (i := 86) (by decide +kernel))), by decide +kernel⟩
theorem tw_87 : Cond.selects "DeepHoleModel" ⟨"DeepHoleModel", "sideOf", "(I)I"⟩ ⟨"DeepHoleModel", "sideOf", "(I)I"⟩ ∈ TB := List.mem_filter.mpr ⟨(ch_0 (List.mem_of_getElem? (i := 87) (by decide +kernel))), by decide +kernel⟩
theorem tw_88 : Cond.selects "DeepHoleModel" ⟨"DeepHoleModel", "strikes", "([I[IIIIZ)V"⟩ ⟨"DeepHoleModel", "strikes", "([I[IIIIZ)V"⟩ ∈ TB := List.mem_filter.mpr ⟨(ch_0 (List.mem_of_getElem? (i := 88) (by decide +kernel))), by decide +kernel⟩
theorem tw_89 : Cond.selects "DeepHoleModel" ⟨"DeepHoleModel", "moved", "(III)I"⟩ ⟨"DeepHoleModel", "moved", "(III)I"⟩ ∈ TB := List.mem_filter.mpr ⟨(ch_0 (List.mem_of_getElem? (i := 89) (by decide +kernel))), by decide +kernel⟩
theorem tw_90 : Cond.selects "DeepHoleModel" ⟨"DeepHoleModel", "straightens", "(III)Z"⟩ ⟨"DeepHoleModel", "straightens", "(III)Z"⟩ ∈ TB := List.mem_filter.mpr ⟨(ch_0 (List.mem_of_getElem? (i := 90) (by decide +kernel))), by decide +kernel⟩
theorem tw_91 : Cond.selects "DeepHoleModel" ⟨"DeepHoleModel", "isStraight", "(I)Z"⟩ ⟨"DeepHoleModel", "isStraight", "(I)Z"⟩ ∈ TB := List.mem_filter.mpr ⟨(ch_0 (List.mem_of_getElem? (i := 91) (by decide +kernel))), by decide +kernel⟩
theorem tw_92 : Cond.selects "DeepHoleModel" ⟨"DeepHoleModel", "strokesOf", "()I"⟩ ⟨"DeepHoleModel", "strokesOf", "()I"⟩ ∈ TB := List.mem_filter.mpr ⟨(ch_0 (List.mem_of_getElem? (i := 92) (by decide +kernel))), by decide +kernel⟩
theorem tw_93 : Cond.selects "DeepHoleModel" ⟨"DeepHoleModel", "secondDoes", "(II)Z"⟩ ⟨"DeepHoleModel", "secondDoes", "(II)Z"⟩ ∈ TB := List.mem_filter.mpr ⟨(ch_0 (List.mem_of_getElem? (i := 93) (by decide +kernel))), by decide +kernel⟩
theorem tw_94 : Cond.selects "DeepHoleModel" ⟨"DeepHoleModel", "spans", "(I)Z"⟩ ⟨"DeepHoleModel", "spans", "(I)Z"⟩ ∈ TB := List.mem_filter.mpr ⟨(ch_0 (List.mem_of_getElem? (i := 94) (by decide +kernel))), by decide +kernel⟩
theorem tw_95 : Cond.selects "DeepHoleModel" ⟨"DeepHoleModel", "narrowed", "(III)Z"⟩ ⟨"DeepHoleModel", "narrowed", "(III)Z"⟩ ∈ TB := List.mem_filter.mpr ⟨(ch_0 (List.mem_of_getElem? (i := 95) (by decide +kernel))), by decide +kernel⟩
theorem tw_97 : Jvm.Cond.initialized "DeepHole" ∈ TB := List.mem_filter.mpr ⟨(ch_1 (List.mem_of_getElem? (i := 1) (by decide +kernel))), by decide +kernel⟩
theorem tw_98 : Jvm.Cond.initialized "DeepHole$Reader" ∈ TB := List.mem_filter.mpr ⟨(ch_1 (List.mem_of_getElem? (i := 2) (by decide +kernel))), by decide +kernel⟩
theorem tw_99 : Jvm.Cond.initialized "DeepHole$Tokens" ∈ TB := List.mem_filter.mpr ⟨(ch_1 (List.mem_of_getElem? (i := 3) (by decide +kernel))), by decide +kernel⟩
theorem tw_100 : Jvm.Cond.initialized "DeepHole$Shop" ∈ TB := List.mem_filter.mpr ⟨(ch_1 (List.mem_of_getElem? (i := 4) (by decide +kernel))), by decide +kernel⟩
theorem tw_101 : Jvm.Cond.initialized "DeepHole$Plan" ∈ TB := List.mem_filter.mpr ⟨(ch_1 (List.mem_of_getElem? (i := 5) (by decide +kernel))), by decide +kernel⟩
theorem tw_102 : Jvm.Cond.initialized "DeepHole$Hole" ∈ TB := List.mem_filter.mpr ⟨(ch_1 (List.mem_of_getElem? (i := 6) (by decide +kernel))), by decide +kernel⟩
theorem tw_103 : Jvm.Cond.initialized "DeepHole$Bit" ∈ TB := List.mem_filter.mpr ⟨(ch_1 (List.mem_of_getElem? (i := 7) (by decide +kernel))), by decide +kernel⟩
theorem tw_104 : Jvm.Cond.initialized "DeepHole$Search" ∈ TB := List.mem_filter.mpr ⟨(ch_1 (List.mem_of_getElem? (i := 8) (by decide +kernel))), by decide +kernel⟩
theorem tw_105 : Jvm.Cond.initialized "DeepHole$Ends" ∈ TB := List.mem_filter.mpr ⟨(ch_1 (List.mem_of_getElem? (i := 9) (by decide +kernel))), by decide +kernel⟩
theorem tw_106 : Jvm.Cond.initialized "DeepHole$Needle" ∈ TB := List.mem_filter.mpr ⟨(ch_1 (List.mem_of_getElem? (i := 10) (by decide +kernel))), by decide +kernel⟩
theorem tw_107 : Jvm.Cond.initialized "DeepHole$Bench" ∈ TB := List.mem_filter.mpr ⟨(ch_1 (List.mem_of_getElem? (i := 11) (by decide +kernel))), by decide +kernel⟩
theorem tw_108 : Jvm.Cond.initialized "DeepHole$Walls" ∈ TB := List.mem_filter.mpr ⟨(ch_1 (List.mem_of_getElem? (i := 12) (by decide +kernel))), by decide +kernel⟩
theorem tw_109 : Jvm.Cond.initialized "DeepHoleModel" ∈ TB := List.mem_filter.mpr ⟨(ch_1 (List.mem_of_getElem? (i := 13) (by decide +kernel))), by decide +kernel⟩
theorem tw_114 : Jvm.Cond.initialized "DeepHoleModel$Shop" ∈ TB := List.mem_filter.mpr ⟨(ch_1 (List.mem_of_getElem? (i := 18) (by decide +kernel))), by decide +kernel⟩
theorem tw_115 : Jvm.Cond.initialized "java/lang/Math" ∈ TB := List.mem_filter.mpr ⟨(ch_1 (List.mem_of_getElem? (i := 19) (by decide +kernel))), by decide +kernel⟩
theorem tw_120 : Jvm.Cond.classLink "DeepHoleLaw" (8 : Nat) "DeepHole" ∈ TB := List.mem_filter.mpr ⟨(ch_1 (List.mem_of_getElem? (i := 24) (by decide +kernel))), by decide +kernel⟩
theorem tw_121 : Jvm.Cond.instantiable "DeepHole" (12 : Nat) ∈ TB := List.mem_filter.mpr ⟨(ch_1 (List.mem_of_getElem? (i := 25) (by decide +kernel))), by decide +kernel⟩
theorem tw_122 : Jvm.Cond.methodLink "DeepHoleLaw" (15 : Nat) ({ cls := "DeepHole", name := "<init>", desc := "()V" } : Jvm.MethodName) ∈ TB := List.mem_filter.mpr ⟨(ch_1 (List.mem_of_getElem? (i := 26) (by decide +kernel))), by decide +kernel⟩
theorem tw_123 : Jvm.Cond.instanceMethod ({ cls := "DeepHole", name := "<init>", desc := "()V" } : Jvm.MethodName) ∈ TB := List.mem_filter.mpr ⟨(ch_1 (List.mem_of_getElem? (i := 27) (by decide +kernel))), by decide +kernel⟩
theorem tw_124 : Jvm.Cond.code ({ cls := "DeepHole", name := "<init>", desc := "()V" } : Jvm.MethodName) prog_1_method_1_code (1 : Nat) (Option.none : Option Jvm.ClassFile.FieldType) ∈ TB := List.mem_filter.mpr ⟨(ch_1 (List.mem_of_getElem? (i := 28) (by decide +kernel))), by decide +kernel⟩
theorem tw_125 : Jvm.Cond.methodLink "DeepHole" (1 : Nat) ({ cls := "java/lang/Object", name := "<init>", desc := "()V" } : Jvm.MethodName) ∈ TB := List.mem_filter.mpr ⟨(ch_1 (List.mem_of_getElem? (i := 29) (by decide +kernel))), by decide +kernel⟩
theorem tw_126 : Jvm.Cond.instanceMethod ({ cls := "java/lang/Object", name := "<init>", desc := "()V" } : Jvm.MethodName) ∈ TB := List.mem_filter.mpr ⟨(ch_1 (List.mem_of_getElem? (i := 30) (by decide +kernel))), by decide +kernel⟩
theorem tw_127 : Jvm.Cond.code ({ cls := "java/lang/Object", name := "<init>", desc := "()V" } : Jvm.MethodName) object_method_1_code (1 : Nat) (Option.none : Option Jvm.ClassFile.FieldType) ∈ TB := List.mem_filter.mpr ⟨(ch_1 (List.mem_of_getElem? (i := 31) (by decide +kernel))), by decide +kernel⟩
theorem tw_128 : Jvm.Cond.classLink "DeepHole" (7 : Nat) "DeepHole$Reader" ∈ TB := List.mem_filter.mpr ⟨(ch_1 (List.mem_of_getElem? (i := 32) (by decide +kernel))), by decide +kernel⟩
theorem tw_129 : Jvm.Cond.instantiable "DeepHole$Reader" (15 : Nat) ∈ TB := List.mem_filter.mpr ⟨(ch_1 (List.mem_of_getElem? (i := 33) (by decide +kernel))), by decide +kernel⟩
theorem nw_130 : Jvm.Cond.methodLinkNest "DeepHole" (9 : Nat) ({ cls := "DeepHole$Reader", name := "<init>", desc := "()V" } : Jvm.MethodName) "DeepHole" ∈ NW := List.mem_filter.mpr ⟨(ch_1 (List.mem_of_getElem? (i := 34) (by decide +kernel))), rfl⟩
theorem tw_131 : Jvm.Cond.instanceMethod ({ cls := "DeepHole$Reader", name := "<init>", desc := "()V" } : Jvm.MethodName) ∈ TB := List.mem_filter.mpr ⟨(ch_1 (List.mem_of_getElem? (i := 35) (by decide +kernel))), by decide +kernel⟩
theorem tw_132 : Jvm.Cond.code ({ cls := "DeepHole$Reader", name := "<init>", desc := "()V" } : Jvm.MethodName) prog_8_method_1_code (1 : Nat) (Option.none : Option Jvm.ClassFile.FieldType) ∈ TB := List.mem_filter.mpr ⟨(ch_1 (List.mem_of_getElem? (i := 36) (by decide +kernel))), by decide +kernel⟩
theorem tw_133 : Jvm.Cond.methodLink "DeepHole$Reader" (3 : Nat) ({ cls := "java/lang/Object", name := "<init>", desc := "()V" } : Jvm.MethodName) ∈ TB := List.mem_filter.mpr ⟨(ch_1 (List.mem_of_getElem? (i := 37) (by decide +kernel))), by decide +kernel⟩
theorem tw_134 : Jvm.Cond.classLink "DeepHole$Reader" (9 : Nat) "DeepHole$Tokens" ∈ TB := List.mem_filter.mpr ⟨(ch_1 (List.mem_of_getElem? (i := 38) (by decide +kernel))), by decide +kernel⟩
theorem tw_135 : Jvm.Cond.instantiable "DeepHole$Tokens" (8 : Nat) ∈ TB := List.mem_filter.mpr ⟨(ch_1 (List.mem_of_getElem? (i := 39) (by decide +kernel))), by decide +kernel⟩
theorem nw_136 : Jvm.Cond.methodLinkNest "DeepHole$Reader" (11 : Nat) ({ cls := "DeepHole$Tokens", name := "<init>", desc := "()V" } : Jvm.MethodName) "DeepHole" ∈ NW := List.mem_filter.mpr ⟨(ch_1 (List.mem_of_getElem? (i := 40) (by decide +kernel))), rfl⟩
theorem tw_137 : Jvm.Cond.instanceMethod ({ cls := "DeepHole$Tokens", name := "<init>", desc := "()V" } : Jvm.MethodName) ∈ TB := List.mem_filter.mpr ⟨(ch_1 (List.mem_of_getElem? (i := 41) (by decide +kernel))), by decide +kernel⟩
theorem tw_138 : Jvm.Cond.code ({ cls := "DeepHole$Tokens", name := "<init>", desc := "()V" } : Jvm.MethodName) prog_11_method_1_code (1 : Nat) (Option.none : Option Jvm.ClassFile.FieldType) ∈ TB := List.mem_filter.mpr ⟨(ch_1 (List.mem_of_getElem? (i := 42) (by decide +kernel))), by decide +kernel⟩
theorem tw_139 : Jvm.Cond.methodLink "DeepHole$Tokens" (3 : Nat) ({ cls := "java/lang/Object", name := "<init>", desc := "()V" } : Jvm.MethodName) ∈ TB := List.mem_filter.mpr ⟨(ch_1 (List.mem_of_getElem? (i := 43) (by decide +kernel))), by decide +kernel⟩
theorem tw_140 : Jvm.Cond.fieldLink "DeepHole$Tokens" (9 : Nat) "DeepHole$Tokens" "bytes" "[B" ∈ TB := List.mem_filter.mpr ⟨(ch_1 (List.mem_of_getElem? (i := 44) (by decide +kernel))), by decide +kernel⟩
theorem tw_141 : Jvm.Cond.fieldLink "DeepHole$Tokens" (15 : Nat) "DeepHole$Tokens" "filled" "I" ∈ TB := List.mem_filter.mpr ⟨(ch_1 (List.mem_of_getElem? (i := 45) (by decide +kernel))), by decide +kernel⟩
theorem tw_142 : Jvm.Cond.fieldLink "DeepHole" (83 : Nat) "DeepHole$Tokens" "filled" "I" ∈ TB := List.mem_filter.mpr ⟨(ch_1 (List.mem_of_getElem? (i := 46) (by decide +kernel))), by decide +kernel⟩
theorem tw_143 : Jvm.Cond.fieldLink "DeepHole$Tokens" (19 : Nat) "DeepHole$Tokens" "limit" "I" ∈ TB := List.mem_filter.mpr ⟨(ch_1 (List.mem_of_getElem? (i := 47) (by decide +kernel))), by decide +kernel⟩
theorem tw_144 : Jvm.Cond.fieldLink "DeepHole$Tokens" (22 : Nat) "DeepHole$Tokens" "ahead" "I" ∈ TB := List.mem_filter.mpr ⟨(ch_1 (List.mem_of_getElem? (i := 48) (by decide +kernel))), by decide +kernel⟩
theorem tw_145 : Jvm.Cond.fieldLink "DeepHole$Reader" (85 : Nat) "DeepHole$Tokens" "kind" "I" ∈ TB := List.mem_filter.mpr ⟨(ch_1 (List.mem_of_getElem? (i := 49) (by decide +kernel))), by decide +kernel⟩
theorem tw_146 : Jvm.Cond.fieldLink "DeepHole$Tokens" (38 : Nat) "DeepHole$Tokens" "kind" "I" ∈ TB := List.mem_filter.mpr ⟨(ch_1 (List.mem_of_getElem? (i := 50) (by decide +kernel))), by decide +kernel⟩
theorem tw_147 : Jvm.Cond.fieldLink "DeepHole$Reader" (126 : Nat) "DeepHole$Tokens" "start" "I" ∈ TB := List.mem_filter.mpr ⟨(ch_1 (List.mem_of_getElem? (i := 51) (by decide +kernel))), by decide +kernel⟩
theorem tw_148 : Jvm.Cond.fieldLink "DeepHole$Tokens" (32 : Nat) "DeepHole$Tokens" "start" "I" ∈ TB := List.mem_filter.mpr ⟨(ch_1 (List.mem_of_getElem? (i := 52) (by decide +kernel))), by decide +kernel⟩
theorem tw_149 : Jvm.Cond.fieldLink "DeepHole$Tokens" (44 : Nat) "DeepHole$Tokens" "length" "I" ∈ TB := List.mem_filter.mpr ⟨(ch_1 (List.mem_of_getElem? (i := 53) (by decide +kernel))), by decide +kernel⟩
theorem tw_150 : Jvm.Cond.fieldLink "DeepHole$Reader" (268 : Nat) "DeepHole$Tokens" "length" "I" ∈ TB := List.mem_filter.mpr ⟨(ch_1 (List.mem_of_getElem? (i := 54) (by decide +kernel))), by decide +kernel⟩
theorem tw_151 : Jvm.Cond.fieldLink "DeepHole$Tokens" (41 : Nat) "DeepHole$Tokens" "value" "I" ∈ TB := List.mem_filter.mpr ⟨(ch_1 (List.mem_of_getElem? (i := 55) (by decide +kernel))), by decide +kernel⟩
theorem tw_152 : Jvm.Cond.fieldLink "DeepHole$Reader" (250 : Nat) "DeepHole$Tokens" "value" "I" ∈ TB := List.mem_filter.mpr ⟨(ch_1 (List.mem_of_getElem? (i := 56) (by decide +kernel))), by decide +kernel⟩
theorem tw_170 : Jvm.Cond.arrayClass Jvm.ClassFile.FieldType.byte ∈ TB := List.mem_filter.mpr ⟨(ch_1 (List.mem_of_getElem? (i := 74) (by decide +kernel))), by decide +kernel⟩
theorem tw_171 : Jvm.Cond.classLink "DeepHole$Reader" (18 : Nat) "DeepHole$Shop" ∈ TB := List.mem_filter.mpr ⟨(ch_1 (List.mem_of_getElem? (i := 75) (by decide +kernel))), by decide +kernel⟩
theorem tw_172 : Jvm.Cond.instantiable "DeepHole$Shop" (19 : Nat) ∈ TB := List.mem_filter.mpr ⟨(ch_1 (List.mem_of_getElem? (i := 76) (by decide +kernel))), by decide +kernel⟩
theorem nw_173 : Jvm.Cond.methodLinkNest "DeepHole$Reader" (20 : Nat) ({ cls := "DeepHole$Shop", name := "<init>", desc := "()V" } : Jvm.MethodName) "DeepHole" ∈ NW := List.mem_filter.mpr ⟨(ch_1 (List.mem_of_getElem? (i := 77) (by decide +kernel))), rfl⟩
theorem tw_174 : Jvm.Cond.instanceMethod ({ cls := "DeepHole$Shop", name := "<init>", desc := "()V" } : Jvm.MethodName) ∈ TB := List.mem_filter.mpr ⟨(ch_1 (List.mem_of_getElem? (i := 78) (by decide +kernel))), by decide +kernel⟩
theorem tw_175 : Jvm.Cond.code ({ cls := "DeepHole$Shop", name := "<init>", desc := "()V" } : Jvm.MethodName) prog_10_method_1_code (1 : Nat) (Option.none : Option Jvm.ClassFile.FieldType) ∈ TB := List.mem_filter.mpr ⟨(ch_1 (List.mem_of_getElem? (i := 79) (by decide +kernel))), by decide +kernel⟩
theorem tw_176 : Jvm.Cond.methodLink "DeepHole$Shop" (3 : Nat) ({ cls := "java/lang/Object", name := "<init>", desc := "()V" } : Jvm.MethodName) ∈ TB := List.mem_filter.mpr ⟨(ch_1 (List.mem_of_getElem? (i := 80) (by decide +kernel))), by decide +kernel⟩
theorem tw_177 : Jvm.Cond.classLink "DeepHole$Shop" (30 : Nat) "DeepHole$Plan" ∈ TB := List.mem_filter.mpr ⟨(ch_1 (List.mem_of_getElem? (i := 81) (by decide +kernel))), by decide +kernel⟩
theorem tw_178 : Jvm.Cond.instantiable "DeepHole$Plan" (4 : Nat) ∈ TB := List.mem_filter.mpr ⟨(ch_1 (List.mem_of_getElem? (i := 82) (by decide +kernel))), by decide +kernel⟩
theorem nw_179 : Jvm.Cond.methodLinkNest "DeepHole$Shop" (32 : Nat) ({ cls := "DeepHole$Plan", name := "<init>", desc := "()V" } : Jvm.MethodName) "DeepHole" ∈ NW := List.mem_filter.mpr ⟨(ch_1 (List.mem_of_getElem? (i := 83) (by decide +kernel))), rfl⟩
theorem tw_180 : Jvm.Cond.instanceMethod ({ cls := "DeepHole$Plan", name := "<init>", desc := "()V" } : Jvm.MethodName) ∈ TB := List.mem_filter.mpr ⟨(ch_1 (List.mem_of_getElem? (i := 84) (by decide +kernel))), by decide +kernel⟩
theorem tw_181 : Jvm.Cond.code ({ cls := "DeepHole$Plan", name := "<init>", desc := "()V" } : Jvm.MethodName) prog_7_method_1_code (1 : Nat) (Option.none : Option Jvm.ClassFile.FieldType) ∈ TB := List.mem_filter.mpr ⟨(ch_1 (List.mem_of_getElem? (i := 85) (by decide +kernel))), by decide +kernel⟩
theorem tw_182 : Jvm.Cond.methodLink "DeepHole$Plan" (3 : Nat) ({ cls := "java/lang/Object", name := "<init>", desc := "()V" } : Jvm.MethodName) ∈ TB := List.mem_filter.mpr ⟨(ch_1 (List.mem_of_getElem? (i := 86) (by decide +kernel))), by decide +kernel⟩
theorem tw_183 : Jvm.Cond.fieldLink "DeepHole$Plan" (9 : Nat) "DeepHole$Plan" "feed" "[I" ∈ TB := List.mem_filter.mpr ⟨(ch_1 (List.mem_of_getElem? (i := 87) (by decide +kernel))), by decide +kernel⟩
theorem tw_184 : Jvm.Cond.fieldLink "DeepHole$Shop" (53 : Nat) "DeepHole$Plan" "feed" "[I" ∈ TB := List.mem_filter.mpr ⟨(ch_1 (List.mem_of_getElem? (i := 88) (by decide +kernel))), by decide +kernel⟩
theorem tw_185 : Jvm.Cond.fieldLink "DeepHole$Plan" (15 : Nat) "DeepHole$Plan" "way" "[I" ∈ TB := List.mem_filter.mpr ⟨(ch_1 (List.mem_of_getElem? (i := 89) (by decide +kernel))), by decide +kernel⟩
theorem tw_186 : Jvm.Cond.fieldLink "DeepHole$Shop" (50 : Nat) "DeepHole$Plan" "way" "[I" ∈ TB := List.mem_filter.mpr ⟨(ch_1 (List.mem_of_getElem? (i := 90) (by decide +kernel))), by decide +kernel⟩
theorem tw_187 : Jvm.Cond.fieldLink "DeepHole$Plan" (18 : Nat) "DeepHole$Plan" "draw" "[Z" ∈ TB := List.mem_filter.mpr ⟨(ch_1 (List.mem_of_getElem? (i := 91) (by decide +kernel))), by decide +kernel⟩
theorem tw_188 : Jvm.Cond.fieldLink "DeepHole$Bit" (112 : Nat) "DeepHole$Plan" "draw" "[Z" ∈ TB := List.mem_filter.mpr ⟨(ch_1 (List.mem_of_getElem? (i := 92) (by decide +kernel))), by decide +kernel⟩
theorem tw_189 : Jvm.Cond.fieldLink "DeepHole$Reader" (237 : Nat) "DeepHole$Plan" "draw" "[Z" ∈ TB := List.mem_filter.mpr ⟨(ch_1 (List.mem_of_getElem? (i := 93) (by decide +kernel))), by decide +kernel⟩
theorem tw_190 : Jvm.Cond.fieldLink "DeepHole$Plan" (22 : Nat) "DeepHole$Plan" "sharpen" "[Z" ∈ TB := List.mem_filter.mpr ⟨(ch_1 (List.mem_of_getElem? (i := 94) (by decide +kernel))), by decide +kernel⟩
theorem tw_191 : Jvm.Cond.fieldLink "DeepHole$Bit" (103 : Nat) "DeepHole$Plan" "sharpen" "[Z" ∈ TB := List.mem_filter.mpr ⟨(ch_1 (List.mem_of_getElem? (i := 95) (by decide +kernel))), by decide +kernel⟩
theorem tw_192 : Jvm.Cond.fieldLink "DeepHole$Reader" (240 : Nat) "DeepHole$Plan" "sharpen" "[Z" ∈ TB := List.mem_filter.mpr ⟨(ch_1 (List.mem_of_getElem? (i := 96) (by decide +kernel))), by decide +kernel⟩
theorem tw_202 : Jvm.Cond.arrayClass Jvm.ClassFile.FieldType.int ∈ TB := List.mem_filter.mpr ⟨(ch_1 (List.mem_of_getElem? (i := 106) (by decide +kernel))), by decide +kernel⟩
theorem tw_203 : Jvm.Cond.arrayClass Jvm.ClassFile.FieldType.boolean ∈ TB := List.mem_filter.mpr ⟨(ch_1 (List.mem_of_getElem? (i := 107) (by decide +kernel))), by decide +kernel⟩
theorem tw_204 : Jvm.Cond.fieldLink "DeepHole$Shop" (37 : Nat) "DeepHole$Shop" "inches" "I" ∈ TB := List.mem_filter.mpr ⟨(ch_1 (List.mem_of_getElem? (i := 108) (by decide +kernel))), by decide +kernel⟩
theorem tw_205 : Jvm.Cond.fieldLink "DeepHole$Ends" (46 : Nat) "DeepHole$Shop" "inches" "I" ∈ TB := List.mem_filter.mpr ⟨(ch_1 (List.mem_of_getElem? (i := 109) (by decide +kernel))), by decide +kernel⟩
theorem tw_206 : Jvm.Cond.fieldLink "DeepHole$Needle" (45 : Nat) "DeepHole$Shop" "inches" "I" ∈ TB := List.mem_filter.mpr ⟨(ch_1 (List.mem_of_getElem? (i := 110) (by decide +kernel))), by decide +kernel⟩
theorem tw_207 : Jvm.Cond.fieldLink "DeepHole$Hole" (52 : Nat) "DeepHole$Shop" "inches" "I" ∈ TB := List.mem_filter.mpr ⟨(ch_1 (List.mem_of_getElem? (i := 111) (by decide +kernel))), by decide +kernel⟩
theorem tw_208 : Jvm.Cond.fieldLink "DeepHole$Walls" (45 : Nat) "DeepHole$Shop" "inches" "I" ∈ TB := List.mem_filter.mpr ⟨(ch_1 (List.mem_of_getElem? (i := 112) (by decide +kernel))), by decide +kernel⟩
theorem tw_209 : Jvm.Cond.fieldLink "DeepHole$Reader" (139 : Nat) "DeepHole$Shop" "inches" "I" ∈ TB := List.mem_filter.mpr ⟨(ch_1 (List.mem_of_getElem? (i := 113) (by decide +kernel))), by decide +kernel⟩
theorem tw_210 : Jvm.Cond.fieldLink "DeepHole" (159 : Nat) "DeepHole$Shop" "inches" "I" ∈ TB := List.mem_filter.mpr ⟨(ch_1 (List.mem_of_getElem? (i := 114) (by decide +kernel))), by decide +kernel⟩
theorem tw_211 : Jvm.Cond.fieldLink "DeepHole$Walls" (36 : Nat) "DeepHole$Shop" "wallThick" "I" ∈ TB := List.mem_filter.mpr ⟨(ch_1 (List.mem_of_getElem? (i := 115) (by decide +kernel))), by decide +kernel⟩
theorem tw_212 : Jvm.Cond.fieldLink "DeepHole$Bit" (96 : Nat) "DeepHole$Shop" "wallThick" "I" ∈ TB := List.mem_filter.mpr ⟨(ch_1 (List.mem_of_getElem? (i := 116) (by decide +kernel))), by decide +kernel⟩
theorem tw_213 : Jvm.Cond.fieldLink "DeepHole$Reader" (143 : Nat) "DeepHole$Shop" "wallThick" "I" ∈ TB := List.mem_filter.mpr ⟨(ch_1 (List.mem_of_getElem? (i := 117) (by decide +kernel))), by decide +kernel⟩
theorem tw_214 : Jvm.Cond.fieldLink "DeepHole" (162 : Nat) "DeepHole$Shop" "wallThick" "I" ∈ TB := List.mem_filter.mpr ⟨(ch_1 (List.mem_of_getElem? (i := 118) (by decide +kernel))), by decide +kernel⟩
theorem tw_215 : Jvm.Cond.fieldLink "DeepHole$Search" (40 : Nat) "DeepHole$Shop" "bush" "I" ∈ TB := List.mem_filter.mpr ⟨(ch_1 (List.mem_of_getElem? (i := 119) (by decide +kernel))), by decide +kernel⟩
theorem tw_216 : Jvm.Cond.fieldLink "DeepHole$Bit" (71 : Nat) "DeepHole$Shop" "bush" "I" ∈ TB := List.mem_filter.mpr ⟨(ch_1 (List.mem_of_getElem? (i := 120) (by decide +kernel))), by decide +kernel⟩
theorem tw_217 : Jvm.Cond.fieldLink "DeepHole$Reader" (148 : Nat) "DeepHole$Shop" "bush" "I" ∈ TB := List.mem_filter.mpr ⟨(ch_1 (List.mem_of_getElem? (i := 121) (by decide +kernel))), by decide +kernel⟩
theorem tw_218 : Jvm.Cond.fieldLink "DeepHole" (181 : Nat) "DeepHole$Shop" "bush" "I" ∈ TB := List.mem_filter.mpr ⟨(ch_1 (List.mem_of_getElem? (i := 122) (by decide +kernel))), by decide +kernel⟩
theorem tw_219 : Jvm.Cond.fieldLink "DeepHole$Bit" (89 : Nat) "DeepHole$Shop" "lip" "I" ∈ TB := List.mem_filter.mpr ⟨(ch_1 (List.mem_of_getElem? (i := 123) (by decide +kernel))), by decide +kernel⟩
theorem tw_220 : Jvm.Cond.fieldLink "DeepHole$Reader" (154 : Nat) "DeepHole$Shop" "lip" "I" ∈ TB := List.mem_filter.mpr ⟨(ch_1 (List.mem_of_getElem? (i := 124) (by decide +kernel))), by decide +kernel⟩
theorem tw_221 : Jvm.Cond.fieldLink "DeepHole$Bit" (58 : Nat) "DeepHole$Shop" "oil" "I" ∈ TB := List.mem_filter.mpr ⟨(ch_1 (List.mem_of_getElem? (i := 125) (by decide +kernel))), by decide +kernel⟩
theorem tw_222 : Jvm.Cond.fieldLink "DeepHole$Reader" (158 : Nat) "DeepHole$Shop" "oil" "I" ∈ TB := List.mem_filter.mpr ⟨(ch_1 (List.mem_of_getElem? (i := 126) (by decide +kernel))), by decide +kernel⟩
theorem tw_223 : Jvm.Cond.fieldLink "DeepHole$Bit" (61 : Nat) "DeepHole$Shop" "room" "I" ∈ TB := List.mem_filter.mpr ⟨(ch_1 (List.mem_of_getElem? (i := 127) (by decide +kernel))), by decide +kernel⟩
theorem tw_224 : Jvm.Cond.fieldLink "DeepHole$Reader" (162 : Nat) "DeepHole$Shop" "room" "I" ∈ TB := List.mem_filter.mpr ⟨(ch_1 (List.mem_of_getElem? (i := 128) (by decide +kernel))), by decide +kernel⟩
theorem tw_225 : Jvm.Cond.fieldLink "DeepHole$Bit" (68 : Nat) "DeepHole$Shop" "bears" "I" ∈ TB := List.mem_filter.mpr ⟨(ch_1 (List.mem_of_getElem? (i := 129) (by decide +kernel))), by decide +kernel⟩
theorem tw_226 : Jvm.Cond.fieldLink "DeepHole$Reader" (166 : Nat) "DeepHole$Shop" "bears" "I" ∈ TB := List.mem_filter.mpr ⟨(ch_1 (List.mem_of_getElem? (i := 130) (by decide +kernel))), by decide +kernel⟩
theorem tw_227 : Jvm.Cond.fieldLink "DeepHole$Bit" (118 : Nat) "DeepHole$Shop" "costInch" "I" ∈ TB := List.mem_filter.mpr ⟨(ch_1 (List.mem_of_getElem? (i := 131) (by decide +kernel))), by decide +kernel⟩
theorem tw_228 : Jvm.Cond.fieldLink "DeepHole$Reader" (170 : Nat) "DeepHole$Shop" "costInch" "I" ∈ TB := List.mem_filter.mpr ⟨(ch_1 (List.mem_of_getElem? (i := 132) (by decide +kernel))), by decide +kernel⟩
theorem tw_229 : Jvm.Cond.fieldLink "DeepHole$Bit" (109 : Nat) "DeepHole$Shop" "costLip" "I" ∈ TB := List.mem_filter.mpr ⟨(ch_1 (List.mem_of_getElem? (i := 133) (by decide +kernel))), by decide +kernel⟩
theorem tw_230 : Jvm.Cond.fieldLink "DeepHole$Reader" (173 : Nat) "DeepHole$Shop" "costLip" "I" ∈ TB := List.mem_filter.mpr ⟨(ch_1 (List.mem_of_getElem? (i := 134) (by decide +kernel))), by decide +kernel⟩
theorem tw_231 : Jvm.Cond.fieldLink "DeepHole$Bit" (115 : Nat) "DeepHole$Shop" "costDraw" "I" ∈ TB := List.mem_filter.mpr ⟨(ch_1 (List.mem_of_getElem? (i := 135) (by decide +kernel))), by decide +kernel⟩
theorem tw_232 : Jvm.Cond.fieldLink "DeepHole$Reader" (178 : Nat) "DeepHole$Shop" "costDraw" "I" ∈ TB := List.mem_filter.mpr ⟨(ch_1 (List.mem_of_getElem? (i := 136) (by decide +kernel))), by decide +kernel⟩
theorem tw_233 : Jvm.Cond.fieldLink "DeepHole$Shop" (41 : Nat) "DeepHole$Shop" "ways" "I" ∈ TB := List.mem_filter.mpr ⟨(ch_1 (List.mem_of_getElem? (i := 137) (by decide +kernel))), by decide +kernel⟩
theorem tw_234 : Jvm.Cond.fieldLink "DeepHole" (116 : Nat) "DeepHole$Shop" "ways" "I" ∈ TB := List.mem_filter.mpr ⟨(ch_1 (List.mem_of_getElem? (i := 138) (by decide +kernel))), by decide +kernel⟩
theorem tw_235 : Jvm.Cond.fieldLink "DeepHole$Reader" (181 : Nat) "DeepHole$Shop" "ways" "I" ∈ TB := List.mem_filter.mpr ⟨(ch_1 (List.mem_of_getElem? (i := 139) (by decide +kernel))), by decide +kernel⟩
theorem tw_236 : Jvm.Cond.fieldLink "DeepHole$Shop" (44 : Nat) "DeepHole$Shop" "seers" "I" ∈ TB := List.mem_filter.mpr ⟨(ch_1 (List.mem_of_getElem? (i := 140) (by decide +kernel))), by decide +kernel⟩
theorem tw_237 : Jvm.Cond.fieldLink "DeepHole" (165 : Nat) "DeepHole$Shop" "seers" "I" ∈ TB := List.mem_filter.mpr ⟨(ch_1 (List.mem_of_getElem? (i := 141) (by decide +kernel))), by decide +kernel⟩
theorem tw_238 : Jvm.Cond.fieldLink "DeepHole$Reader" (242 : Nat) "DeepHole$Shop" "seers" "I" ∈ TB := List.mem_filter.mpr ⟨(ch_1 (List.mem_of_getElem? (i := 142) (by decide +kernel))), by decide +kernel⟩
theorem tw_239 : Jvm.Cond.fieldLink "DeepHole$Shop" (9 : Nat) "DeepHole$Shop" "wayPush" "[I" ∈ TB := List.mem_filter.mpr ⟨(ch_1 (List.mem_of_getElem? (i := 143) (by decide +kernel))), by decide +kernel⟩
theorem tw_240 : Jvm.Cond.fieldLink "DeepHole$Bit" (74 : Nat) "DeepHole$Shop" "wayPush" "[I" ∈ TB := List.mem_filter.mpr ⟨(ch_1 (List.mem_of_getElem? (i := 144) (by decide +kernel))), by decide +kernel⟩
theorem tw_241 : Jvm.Cond.fieldLink "DeepHole$Reader" (193 : Nat) "DeepHole$Shop" "wayPush" "[I" ∈ TB := List.mem_filter.mpr ⟨(ch_1 (List.mem_of_getElem? (i := 145) (by decide +kernel))), by decide +kernel⟩
theorem tw_242 : Jvm.Cond.fieldLink "DeepHole$Shop" (15 : Nat) "DeepHole$Shop" "wayHold" "[I" ∈ TB := List.mem_filter.mpr ⟨(ch_1 (List.mem_of_getElem? (i := 146) (by decide +kernel))), by decide +kernel⟩
theorem tw_243 : Jvm.Cond.fieldLink "DeepHole$Bit" (80 : Nat) "DeepHole$Shop" "wayHold" "[I" ∈ TB := List.mem_filter.mpr ⟨(ch_1 (List.mem_of_getElem? (i := 147) (by decide +kernel))), by decide +kernel⟩
theorem tw_244 : Jvm.Cond.fieldLink "DeepHole$Reader" (196 : Nat) "DeepHole$Shop" "wayHold" "[I" ∈ TB := List.mem_filter.mpr ⟨(ch_1 (List.mem_of_getElem? (i := 148) (by decide +kernel))), by decide +kernel⟩
theorem tw_245 : Jvm.Cond.fieldLink "DeepHole$Shop" (18 : Nat) "DeepHole$Shop" "wayForce" "[I" ∈ TB := List.mem_filter.mpr ⟨(ch_1 (List.mem_of_getElem? (i := 149) (by decide +kernel))), by decide +kernel⟩
theorem tw_246 : Jvm.Cond.fieldLink "DeepHole$Bit" (64 : Nat) "DeepHole$Shop" "wayForce" "[I" ∈ TB := List.mem_filter.mpr ⟨(ch_1 (List.mem_of_getElem? (i := 150) (by decide +kernel))), by decide +kernel⟩
theorem tw_247 : Jvm.Cond.fieldLink "DeepHole$Reader" (199 : Nat) "DeepHole$Shop" "wayForce" "[I" ∈ TB := List.mem_filter.mpr ⟨(ch_1 (List.mem_of_getElem? (i := 151) (by decide +kernel))), by decide +kernel⟩
theorem tw_248 : Jvm.Cond.fieldLink "DeepHole$Shop" (21 : Nat) "DeepHole$Shop" "hardBy" "[I" ∈ TB := List.mem_filter.mpr ⟨(ch_1 (List.mem_of_getElem? (i := 152) (by decide +kernel))), by decide +kernel⟩
theorem tw_249 : Jvm.Cond.fieldLink "DeepHole$Reader" (208 : Nat) "DeepHole$Shop" "hardBy" "[I" ∈ TB := List.mem_filter.mpr ⟨(ch_1 (List.mem_of_getElem? (i := 153) (by decide +kernel))), by decide +kernel⟩
theorem tw_250 : Jvm.Cond.fieldLink "DeepHole$Shop" (24 : Nat) "DeepHole$Shop" "hardSide" "[I" ∈ TB := List.mem_filter.mpr ⟨(ch_1 (List.mem_of_getElem? (i := 154) (by decide +kernel))), by decide +kernel⟩
theorem tw_251 : Jvm.Cond.fieldLink "DeepHole$Reader" (211 : Nat) "DeepHole$Shop" "hardSide" "[I" ∈ TB := List.mem_filter.mpr ⟨(ch_1 (List.mem_of_getElem? (i := 155) (by decide +kernel))), by decide +kernel⟩
theorem tw_252 : Jvm.Cond.fieldLink "DeepHole$Shop" (27 : Nat) "DeepHole$Shop" "seerSees" "[I" ∈ TB := List.mem_filter.mpr ⟨(ch_1 (List.mem_of_getElem? (i := 156) (by decide +kernel))), by decide +kernel⟩
theorem tw_253 : Jvm.Cond.fieldLink "DeepHole$Reader" (247 : Nat) "DeepHole$Shop" "seerSees" "[I" ∈ TB := List.mem_filter.mpr ⟨(ch_1 (List.mem_of_getElem? (i := 157) (by decide +kernel))), by decide +kernel⟩
theorem tw_254 : Jvm.Cond.fieldLink "DeepHole" (244 : Nat) "DeepHole$Shop" "seerSees" "[I" ∈ TB := List.mem_filter.mpr ⟨(ch_1 (List.mem_of_getElem? (i := 158) (by decide +kernel))), by decide +kernel⟩
theorem tw_255 : Jvm.Cond.fieldLink "DeepHole$Shop" (33 : Nat) "DeepHole$Shop" "plan" "LDeepHole$Plan;" ∈ TB := List.mem_filter.mpr ⟨(ch_1 (List.mem_of_getElem? (i := 159) (by decide +kernel))), by decide +kernel⟩
theorem tw_256 : Jvm.Cond.fieldLink "DeepHole$Bit" (99 : Nat) "DeepHole$Shop" "plan" "LDeepHole$Plan;" ∈ TB := List.mem_filter.mpr ⟨(ch_1 (List.mem_of_getElem? (i := 160) (by decide +kernel))), by decide +kernel⟩
theorem tw_257 : Jvm.Cond.fieldLink "DeepHole$Reader" (228 : Nat) "DeepHole$Shop" "plan" "LDeepHole$Plan;" ∈ TB := List.mem_filter.mpr ⟨(ch_1 (List.mem_of_getElem? (i := 161) (by decide +kernel))), by decide +kernel⟩
theorem tw_297 : Jvm.Cond.fieldLink "DeepHole$Reader" (12 : Nat) "DeepHole$Reader" "tokens" "LDeepHole$Tokens;" ∈ TB := List.mem_filter.mpr ⟨(ch_1 (List.mem_of_getElem? (i := 201) (by decide +kernel))), by decide +kernel⟩
theorem tw_298 : Jvm.Cond.fieldLink "DeepHole" (79 : Nat) "DeepHole$Reader" "tokens" "LDeepHole$Tokens;" ∈ TB := List.mem_filter.mpr ⟨(ch_1 (List.mem_of_getElem? (i := 202) (by decide +kernel))), by decide +kernel⟩
theorem tw_299 : Jvm.Cond.fieldLink "DeepHole$Reader" (21 : Nat) "DeepHole$Reader" "told" "LDeepHole$Shop;" ∈ TB := List.mem_filter.mpr ⟨(ch_1 (List.mem_of_getElem? (i := 203) (by decide +kernel))), by decide +kernel⟩
theorem tw_300 : Jvm.Cond.fieldLink "DeepHole$Reader" (25 : Nat) "DeepHole$Reader" "nameStart" "[I" ∈ TB := List.mem_filter.mpr ⟨(ch_1 (List.mem_of_getElem? (i := 204) (by decide +kernel))), by decide +kernel⟩
theorem tw_301 : Jvm.Cond.fieldLink "DeepHole$Reader" (29 : Nat) "DeepHole$Reader" "nameLength" "[I" ∈ TB := List.mem_filter.mpr ⟨(ch_1 (List.mem_of_getElem? (i := 205) (by decide +kernel))), by decide +kernel⟩
theorem tw_302 : Jvm.Cond.fieldLink "DeepHole$Reader" (32 : Nat) "DeepHole$Reader" "nameWay" "[I" ∈ TB := List.mem_filter.mpr ⟨(ch_1 (List.mem_of_getElem? (i := 206) (by decide +kernel))), by decide +kernel⟩
theorem tw_303 : Jvm.Cond.fieldLink "DeepHole$Reader" (97 : Nat) "DeepHole$Reader" "names" "I" ∈ TB := List.mem_filter.mpr ⟨(ch_1 (List.mem_of_getElem? (i := 207) (by decide +kernel))), by decide +kernel⟩
theorem tw_304 : Jvm.Cond.fieldLink "DeepHole$Reader" (100 : Nat) "DeepHole$Reader" "hards" "I" ∈ TB := List.mem_filter.mpr ⟨(ch_1 (List.mem_of_getElem? (i := 208) (by decide +kernel))), by decide +kernel⟩
theorem tw_305 : Jvm.Cond.fieldLink "DeepHole$Reader" (103 : Nat) "DeepHole$Reader" "froms" "I" ∈ TB := List.mem_filter.mpr ⟨(ch_1 (List.mem_of_getElem? (i := 209) (by decide +kernel))), by decide +kernel⟩
theorem tw_306 : Jvm.Cond.fieldLink "DeepHole$Reader" (106 : Nat) "DeepHole$Reader" "firstFrom" "I" ∈ TB := List.mem_filter.mpr ⟨(ch_1 (List.mem_of_getElem? (i := 210) (by decide +kernel))), by decide +kernel⟩
theorem tw_307 : Jvm.Cond.fieldLink "DeepHole$Reader" (109 : Nat) "DeepHole$Reader" "lastFrom" "I" ∈ TB := List.mem_filter.mpr ⟨(ch_1 (List.mem_of_getElem? (i := 211) (by decide +kernel))), by decide +kernel⟩
theorem tw_308 : Jvm.Cond.fieldLink "DeepHole$Reader" (112 : Nat) "DeepHole$Reader" "hasRod" "Z" ∈ TB := List.mem_filter.mpr ⟨(ch_1 (List.mem_of_getElem? (i := 212) (by decide +kernel))), by decide +kernel⟩
theorem tw_309 : Jvm.Cond.fieldLink "DeepHole$Reader" (116 : Nat) "DeepHole$Reader" "hasLip" "Z" ∈ TB := List.mem_filter.mpr ⟨(ch_1 (List.mem_of_getElem? (i := 213) (by decide +kernel))), by decide +kernel⟩
theorem tw_310 : Jvm.Cond.fieldLink "DeepHole$Reader" (119 : Nat) "DeepHole$Reader" "hasCosts" "Z" ∈ TB := List.mem_filter.mpr ⟨(ch_1 (List.mem_of_getElem? (i := 214) (by decide +kernel))), by decide +kernel⟩
theorem tw_311 : Jvm.Cond.fieldLink "DeepHole$Reader" (39 : Nat) "DeepHole$Reader" "problem" "I" ∈ TB := List.mem_filter.mpr ⟨(ch_1 (List.mem_of_getElem? (i := 215) (by decide +kernel))), by decide +kernel⟩
theorem tw_312 : Jvm.Cond.fieldLink "DeepHole" (99 : Nat) "DeepHole$Reader" "faultAt" "I" ∈ TB := List.mem_filter.mpr ⟨(ch_1 (List.mem_of_getElem? (i := 216) (by decide +kernel))), by decide +kernel⟩
theorem tw_313 : Jvm.Cond.fieldLink "DeepHole$Reader" (122 : Nat) "DeepHole$Reader" "faultAt" "I" ∈ TB := List.mem_filter.mpr ⟨(ch_1 (List.mem_of_getElem? (i := 217) (by decide +kernel))), by decide +kernel⟩
theorem tw_345 : Jvm.Cond.classLink "DeepHole" (16 : Nat) "DeepHole$Hole" ∈ TB := List.mem_filter.mpr ⟨(ch_2 (List.mem_of_getElem? (i := 9) (by decide +kernel))), by decide +kernel⟩
theorem tw_346 : Jvm.Cond.instantiable "DeepHole$Hole" (7 : Nat) ∈ TB := List.mem_filter.mpr ⟨(ch_2 (List.mem_of_getElem? (i := 10) (by decide +kernel))), by decide +kernel⟩
theorem nw_347 : Jvm.Cond.methodLinkNest "DeepHole" (18 : Nat) ({ cls := "DeepHole$Hole", name := "<init>", desc := "()V" } : Jvm.MethodName) "DeepHole" ∈ NW := List.mem_filter.mpr ⟨(ch_2 (List.mem_of_getElem? (i := 11) (by decide +kernel))), rfl⟩
theorem tw_348 : Jvm.Cond.instanceMethod ({ cls := "DeepHole$Hole", name := "<init>", desc := "()V" } : Jvm.MethodName) ∈ TB := List.mem_filter.mpr ⟨(ch_2 (List.mem_of_getElem? (i := 12) (by decide +kernel))), by decide +kernel⟩
theorem tw_349 : Jvm.Cond.code ({ cls := "DeepHole$Hole", name := "<init>", desc := "()V" } : Jvm.MethodName) prog_5_method_1_code (1 : Nat) (Option.none : Option Jvm.ClassFile.FieldType) ∈ TB := List.mem_filter.mpr ⟨(ch_2 (List.mem_of_getElem? (i := 13) (by decide +kernel))), by decide +kernel⟩
theorem tw_350 : Jvm.Cond.methodLink "DeepHole$Hole" (3 : Nat) ({ cls := "java/lang/Object", name := "<init>", desc := "()V" } : Jvm.MethodName) ∈ TB := List.mem_filter.mpr ⟨(ch_2 (List.mem_of_getElem? (i := 14) (by decide +kernel))), by decide +kernel⟩
theorem tw_351 : Jvm.Cond.classLink "DeepHole$Hole" (9 : Nat) "DeepHole$Bit" ∈ TB := List.mem_filter.mpr ⟨(ch_2 (List.mem_of_getElem? (i := 15) (by decide +kernel))), by decide +kernel⟩
theorem tw_352 : Jvm.Cond.instantiable "DeepHole$Bit" (10 : Nat) ∈ TB := List.mem_filter.mpr ⟨(ch_2 (List.mem_of_getElem? (i := 16) (by decide +kernel))), by decide +kernel⟩
theorem nw_353 : Jvm.Cond.methodLinkNest "DeepHole$Hole" (11 : Nat) ({ cls := "DeepHole$Bit", name := "<init>", desc := "()V" } : Jvm.MethodName) "DeepHole" ∈ NW := List.mem_filter.mpr ⟨(ch_2 (List.mem_of_getElem? (i := 17) (by decide +kernel))), rfl⟩
theorem tw_354 : Jvm.Cond.instanceMethod ({ cls := "DeepHole$Bit", name := "<init>", desc := "()V" } : Jvm.MethodName) ∈ TB := List.mem_filter.mpr ⟨(ch_2 (List.mem_of_getElem? (i := 18) (by decide +kernel))), by decide +kernel⟩
theorem tw_355 : Jvm.Cond.code ({ cls := "DeepHole$Bit", name := "<init>", desc := "()V" } : Jvm.MethodName) prog_3_method_1_code (1 : Nat) (Option.none : Option Jvm.ClassFile.FieldType) ∈ TB := List.mem_filter.mpr ⟨(ch_2 (List.mem_of_getElem? (i := 19) (by decide +kernel))), by decide +kernel⟩
theorem tw_356 : Jvm.Cond.methodLink "DeepHole$Bit" (3 : Nat) ({ cls := "java/lang/Object", name := "<init>", desc := "()V" } : Jvm.MethodName) ∈ TB := List.mem_filter.mpr ⟨(ch_2 (List.mem_of_getElem? (i := 20) (by decide +kernel))), by decide +kernel⟩
theorem tw_357 : Jvm.Cond.fieldLink "DeepHole$Bit" (9 : Nat) "DeepHole$Bit" "done" "I" ∈ TB := List.mem_filter.mpr ⟨(ch_2 (List.mem_of_getElem? (i := 21) (by decide +kernel))), by decide +kernel⟩
theorem tw_358 : Jvm.Cond.fieldLink "DeepHole$Hole" (45 : Nat) "DeepHole$Bit" "done" "I" ∈ TB := List.mem_filter.mpr ⟨(ch_2 (List.mem_of_getElem? (i := 22) (by decide +kernel))), by decide +kernel⟩
theorem tw_359 : Jvm.Cond.fieldLink "DeepHole$Ends" (67 : Nat) "DeepHole$Bit" "done" "I" ∈ TB := List.mem_filter.mpr ⟨(ch_2 (List.mem_of_getElem? (i := 23) (by decide +kernel))), by decide +kernel⟩
theorem tw_360 : Jvm.Cond.fieldLink "DeepHole$Bench" (51 : Nat) "DeepHole$Bit" "done" "I" ∈ TB := List.mem_filter.mpr ⟨(ch_2 (List.mem_of_getElem? (i := 24) (by decide +kernel))), by decide +kernel⟩
theorem tw_361 : Jvm.Cond.fieldLink "DeepHole" (133 : Nat) "DeepHole$Bit" "done" "I" ∈ TB := List.mem_filter.mpr ⟨(ch_2 (List.mem_of_getElem? (i := 25) (by decide +kernel))), by decide +kernel⟩
theorem tw_362 : Jvm.Cond.fieldLink "DeepHole$Bit" (15 : Nat) "DeepHole$Bit" "x" "I" ∈ TB := List.mem_filter.mpr ⟨(ch_2 (List.mem_of_getElem? (i := 26) (by decide +kernel))), by decide +kernel⟩
theorem tw_363 : Jvm.Cond.fieldLink "DeepHole$Ends" (70 : Nat) "DeepHole$Bit" "x" "I" ∈ TB := List.mem_filter.mpr ⟨(ch_2 (List.mem_of_getElem? (i := 27) (by decide +kernel))), by decide +kernel⟩
theorem tw_364 : Jvm.Cond.fieldLink "DeepHole$Hole" (72 : Nat) "DeepHole$Bit" "x" "I" ∈ TB := List.mem_filter.mpr ⟨(ch_2 (List.mem_of_getElem? (i := 28) (by decide +kernel))), by decide +kernel⟩
theorem tw_365 : Jvm.Cond.fieldLink "DeepHole$Bit" (18 : Nat) "DeepHole$Bit" "y" "I" ∈ TB := List.mem_filter.mpr ⟨(ch_2 (List.mem_of_getElem? (i := 29) (by decide +kernel))), by decide +kernel⟩
theorem tw_366 : Jvm.Cond.fieldLink "DeepHole$Ends" (73 : Nat) "DeepHole$Bit" "y" "I" ∈ TB := List.mem_filter.mpr ⟨(ch_2 (List.mem_of_getElem? (i := 30) (by decide +kernel))), by decide +kernel⟩
theorem tw_367 : Jvm.Cond.fieldLink "DeepHole$Hole" (75 : Nat) "DeepHole$Bit" "y" "I" ∈ TB := List.mem_filter.mpr ⟨(ch_2 (List.mem_of_getElem? (i := 31) (by decide +kernel))), by decide +kernel⟩
theorem tw_368 : Jvm.Cond.fieldLink "DeepHole$Bit" (21 : Nat) "DeepHole$Bit" "tiltX" "I" ∈ TB := List.mem_filter.mpr ⟨(ch_2 (List.mem_of_getElem? (i := 32) (by decide +kernel))), by decide +kernel⟩
theorem tw_369 : Jvm.Cond.fieldLink "DeepHole$Hole" (87 : Nat) "DeepHole$Bit" "tiltX" "I" ∈ TB := List.mem_filter.mpr ⟨(ch_2 (List.mem_of_getElem? (i := 33) (by decide +kernel))), by decide +kernel⟩
theorem tw_370 : Jvm.Cond.fieldLink "DeepHole$Bit" (24 : Nat) "DeepHole$Bit" "tiltY" "I" ∈ TB := List.mem_filter.mpr ⟨(ch_2 (List.mem_of_getElem? (i := 34) (by decide +kernel))), by decide +kernel⟩
theorem tw_371 : Jvm.Cond.fieldLink "DeepHole$Hole" (90 : Nat) "DeepHole$Bit" "tiltY" "I" ∈ TB := List.mem_filter.mpr ⟨(ch_2 (List.mem_of_getElem? (i := 35) (by decide +kernel))), by decide +kernel⟩
theorem tw_372 : Jvm.Cond.fieldLink "DeepHole$Bit" (27 : Nat) "DeepHole$Bit" "wear" "I" ∈ TB := List.mem_filter.mpr ⟨(ch_2 (List.mem_of_getElem? (i := 36) (by decide +kernel))), by decide +kernel⟩
theorem tw_373 : Jvm.Cond.fieldLink "DeepHole$Hole" (81 : Nat) "DeepHole$Bit" "wear" "I" ∈ TB := List.mem_filter.mpr ⟨(ch_2 (List.mem_of_getElem? (i := 37) (by decide +kernel))), by decide +kernel⟩
theorem tw_374 : Jvm.Cond.fieldLink "DeepHole$Bit" (30 : Nat) "DeepHole$Bit" "chips" "I" ∈ TB := List.mem_filter.mpr ⟨(ch_2 (List.mem_of_getElem? (i := 38) (by decide +kernel))), by decide +kernel⟩
theorem tw_375 : Jvm.Cond.fieldLink "DeepHole$Hole" (84 : Nat) "DeepHole$Bit" "chips" "I" ∈ TB := List.mem_filter.mpr ⟨(ch_2 (List.mem_of_getElem? (i := 39) (by decide +kernel))), by decide +kernel⟩
theorem tw_376 : Jvm.Cond.fieldLink "DeepHole$Bit" (33 : Nat) "DeepHole$Bit" "cost" "I" ∈ TB := List.mem_filter.mpr ⟨(ch_2 (List.mem_of_getElem? (i := 40) (by decide +kernel))), by decide +kernel⟩
theorem tw_377 : Jvm.Cond.fieldLink "DeepHole$Search" (76 : Nat) "DeepHole$Bit" "cost" "I" ∈ TB := List.mem_filter.mpr ⟨(ch_2 (List.mem_of_getElem? (i := 41) (by decide +kernel))), by decide +kernel⟩
theorem tw_378 : Jvm.Cond.fieldLink "DeepHole" (153 : Nat) "DeepHole$Bit" "cost" "I" ∈ TB := List.mem_filter.mpr ⟨(ch_2 (List.mem_of_getElem? (i := 42) (by decide +kernel))), by decide +kernel⟩
theorem tw_379 : Jvm.Cond.fieldLink "DeepHole$Bit" (36 : Nat) "DeepHole$Bit" "force" "I" ∈ TB := List.mem_filter.mpr ⟨(ch_2 (List.mem_of_getElem? (i := 43) (by decide +kernel))), by decide +kernel⟩
theorem tw_380 : Jvm.Cond.fieldLink "DeepHole$Needle" (74 : Nat) "DeepHole$Bit" "force" "I" ∈ TB := List.mem_filter.mpr ⟨(ch_2 (List.mem_of_getElem? (i := 44) (by decide +kernel))), by decide +kernel⟩
theorem tw_381 : Jvm.Cond.fieldLink "DeepHole$Hole" (78 : Nat) "DeepHole$Bit" "force" "I" ∈ TB := List.mem_filter.mpr ⟨(ch_2 (List.mem_of_getElem? (i := 45) (by decide +kernel))), by decide +kernel⟩
theorem tw_382 : Jvm.Cond.fieldLink "DeepHole" (171 : Nat) "DeepHole$Bit" "force" "I" ∈ TB := List.mem_filter.mpr ⟨(ch_2 (List.mem_of_getElem? (i := 46) (by decide +kernel))), by decide +kernel⟩
theorem tw_383 : Jvm.Cond.fieldLink "DeepHole$Bit" (39 : Nat) "DeepHole$Bit" "fate" "I" ∈ TB := List.mem_filter.mpr ⟨(ch_2 (List.mem_of_getElem? (i := 47) (by decide +kernel))), by decide +kernel⟩
theorem tw_384 : Jvm.Cond.fieldLink "DeepHole$Hole" (57 : Nat) "DeepHole$Bit" "fate" "I" ∈ TB := List.mem_filter.mpr ⟨(ch_2 (List.mem_of_getElem? (i := 48) (by decide +kernel))), by decide +kernel⟩
theorem tw_385 : Jvm.Cond.fieldLink "DeepHole" (168 : Nat) "DeepHole$Bit" "fate" "I" ∈ TB := List.mem_filter.mpr ⟨(ch_2 (List.mem_of_getElem? (i := 49) (by decide +kernel))), by decide +kernel⟩
theorem tw_407 : Jvm.Cond.classLink "DeepHole$Hole" (18 : Nat) "[[I" ∈ TB := List.mem_filter.mpr ⟨(ch_2 (List.mem_of_getElem? (i := 71) (by decide +kernel))), by decide +kernel⟩
theorem tw_409 : Jvm.Cond.fieldLink "DeepHole$Hole" (12 : Nat) "DeepHole$Hole" "bit" "LDeepHole$Bit;" ∈ TB := List.mem_filter.mpr ⟨(ch_2 (List.mem_of_getElem? (i := 73) (by decide +kernel))), by decide +kernel⟩
theorem tw_410 : Jvm.Cond.fieldLink "DeepHole$Bench" (45 : Nat) "DeepHole$Hole" "bit" "LDeepHole$Bit;" ∈ TB := List.mem_filter.mpr ⟨(ch_2 (List.mem_of_getElem? (i := 74) (by decide +kernel))), by decide +kernel⟩
theorem tw_411 : Jvm.Cond.fieldLink "DeepHole" (129 : Nat) "DeepHole$Hole" "bit" "LDeepHole$Bit;" ∈ TB := List.mem_filter.mpr ⟨(ch_2 (List.mem_of_getElem? (i := 75) (by decide +kernel))), by decide +kernel⟩
theorem tw_412 : Jvm.Cond.fieldLink "DeepHole$Hole" (20 : Nat) "DeepHole$Hole" "kept" "[[I" ∈ TB := List.mem_filter.mpr ⟨(ch_2 (List.mem_of_getElem? (i := 76) (by decide +kernel))), by decide +kernel⟩
theorem tw_413 : Jvm.Cond.fieldLink "DeepHole" (149 : Nat) "DeepHole$Hole" "kept" "[[I" ∈ TB := List.mem_filter.mpr ⟨(ch_2 (List.mem_of_getElem? (i := 77) (by decide +kernel))), by decide +kernel⟩
theorem tw_414 : Jvm.Cond.fieldLink "DeepHole$Hole" (23 : Nat) "DeepHole$Hole" "blowInch" "[I" ∈ TB := List.mem_filter.mpr ⟨(ch_2 (List.mem_of_getElem? (i := 78) (by decide +kernel))), by decide +kernel⟩
theorem tw_415 : Jvm.Cond.fieldLink "DeepHole$Hole" (27 : Nat) "DeepHole$Hole" "blowSide" "[I" ∈ TB := List.mem_filter.mpr ⟨(ch_2 (List.mem_of_getElem? (i := 79) (by decide +kernel))), by decide +kernel⟩
theorem tw_416 : Jvm.Cond.fieldLink "DeepHole$Hole" (30 : Nat) "DeepHole$Hole" "blowBy" "[I" ∈ TB := List.mem_filter.mpr ⟨(ch_2 (List.mem_of_getElem? (i := 80) (by decide +kernel))), by decide +kernel⟩
theorem tw_417 : Jvm.Cond.fieldLink "DeepHole$Hole" (37 : Nat) "DeepHole$Hole" "blows" "I" ∈ TB := List.mem_filter.mpr ⟨(ch_2 (List.mem_of_getElem? (i := 81) (by decide +kernel))), by decide +kernel⟩
theorem tw_418 : Jvm.Cond.fieldLink "DeepHole" (126 : Nat) "DeepHole$Hole" "blows" "I" ∈ TB := List.mem_filter.mpr ⟨(ch_2 (List.mem_of_getElem? (i := 82) (by decide +kernel))), by decide +kernel⟩
theorem tw_419 : Jvm.Cond.fieldLink "DeepHole$Hole" (41 : Nat) "DeepHole$Hole" "isBackward" "Z" ∈ TB := List.mem_filter.mpr ⟨(ch_2 (List.mem_of_getElem? (i := 83) (by decide +kernel))), by decide +kernel⟩
theorem tw_435 : Jvm.Cond.classLink "DeepHole" (23 : Nat) "DeepHole$Search" ∈ TB := List.mem_filter.mpr ⟨(ch_2 (List.mem_of_getElem? (i := 99) (by decide +kernel))), by decide +kernel⟩
theorem tw_436 : Jvm.Cond.instantiable "DeepHole$Search" (7 : Nat) ∈ TB := List.mem_filter.mpr ⟨(ch_2 (List.mem_of_getElem? (i := 100) (by decide +kernel))), by decide +kernel⟩
theorem tw_437 : Jvm.Cond.methodLink "DeepHole" (25 : Nat) ({ cls := "DeepHole$Search", name := "<init>", desc := "()V" } : Jvm.MethodName) ∈ TB := List.mem_filter.mpr ⟨(ch_2 (List.mem_of_getElem? (i := 101) (by decide +kernel))), by decide +kernel⟩
theorem tw_438 : Jvm.Cond.instanceMethod ({ cls := "DeepHole$Search", name := "<init>", desc := "()V" } : Jvm.MethodName) ∈ TB := List.mem_filter.mpr ⟨(ch_2 (List.mem_of_getElem? (i := 102) (by decide +kernel))), by decide +kernel⟩
theorem tw_439 : Jvm.Cond.code ({ cls := "DeepHole$Search", name := "<init>", desc := "()V" } : Jvm.MethodName) prog_9_method_1_code (2 : Nat) (Option.none : Option Jvm.ClassFile.FieldType) ∈ TB := List.mem_filter.mpr ⟨(ch_2 (List.mem_of_getElem? (i := 103) (by decide +kernel))), by decide +kernel⟩
theorem tw_440 : Jvm.Cond.methodLink "DeepHole$Search" (3 : Nat) ({ cls := "java/lang/Object", name := "<init>", desc := "()V" } : Jvm.MethodName) ∈ TB := List.mem_filter.mpr ⟨(ch_2 (List.mem_of_getElem? (i := 104) (by decide +kernel))), by decide +kernel⟩
theorem tw_441 : Jvm.Cond.classLink "DeepHole$Search" (9 : Nat) "DeepHole$Bit" ∈ TB := List.mem_filter.mpr ⟨(ch_2 (List.mem_of_getElem? (i := 105) (by decide +kernel))), by decide +kernel⟩
theorem nw_443 : Jvm.Cond.methodLinkNest "DeepHole$Search" (24 : Nat) ({ cls := "DeepHole$Bit", name := "<init>", desc := "()V" } : Jvm.MethodName) "DeepHole" ∈ NW := List.mem_filter.mpr ⟨(ch_2 (List.mem_of_getElem? (i := 107) (by decide +kernel))), rfl⟩
theorem tw_444 : Jvm.Cond.fieldLink "DeepHole$Search" (11 : Nat) "DeepHole$Search" "line" "[LDeepHole$Bit;" ∈ TB := List.mem_filter.mpr ⟨(ch_2 (List.mem_of_getElem? (i := 108) (by decide +kernel))), by decide +kernel⟩
theorem tw_445 : Jvm.Cond.fieldLink "DeepHole$Search" (17 : Nat) "DeepHole$Search" "tried" "[I" ∈ TB := List.mem_filter.mpr ⟨(ch_2 (List.mem_of_getElem? (i := 109) (by decide +kernel))), by decide +kernel⟩
theorem tw_446 : Jvm.Cond.fieldLink "DeepHole$Search" (21 : Nat) "DeepHole$Search" "best" "[I" ∈ TB := List.mem_filter.mpr ⟨(ch_2 (List.mem_of_getElem? (i := 110) (by decide +kernel))), by decide +kernel⟩
theorem tw_447 : Jvm.Cond.fieldLink "DeepHole" (194 : Nat) "DeepHole$Search" "best" "[I" ∈ TB := List.mem_filter.mpr ⟨(ch_2 (List.mem_of_getElem? (i := 111) (by decide +kernel))), by decide +kernel⟩
theorem tw_448 : Jvm.Cond.fieldLink "DeepHole$Search" (29 : Nat) "DeepHole$Search" "bestCost" "I" ∈ TB := List.mem_filter.mpr ⟨(ch_2 (List.mem_of_getElem? (i := 112) (by decide +kernel))), by decide +kernel⟩
theorem tw_449 : Jvm.Cond.fieldLink "DeepHole" (188 : Nat) "DeepHole$Search" "bestCost" "I" ∈ TB := List.mem_filter.mpr ⟨(ch_2 (List.mem_of_getElem? (i := 113) (by decide +kernel))), by decide +kernel⟩
theorem tw_450 : Jvm.Cond.fieldLink "DeepHole$Search" (25 : Nat) "DeepHole$Search" "bestCount" "I" ∈ TB := List.mem_filter.mpr ⟨(ch_2 (List.mem_of_getElem? (i := 114) (by decide +kernel))), by decide +kernel⟩
theorem tw_451 : Jvm.Cond.fieldLink "DeepHole" (191 : Nat) "DeepHole$Search" "bestCount" "I" ∈ TB := List.mem_filter.mpr ⟨(ch_2 (List.mem_of_getElem? (i := 115) (by decide +kernel))), by decide +kernel⟩
theorem tw_452 : Jvm.Cond.fieldLink "DeepHole$Search" (69 : Nat) "DeepHole$Search" "least" "I" ∈ TB := List.mem_filter.mpr ⟨(ch_2 (List.mem_of_getElem? (i := 116) (by decide +kernel))), by decide +kernel⟩
theorem tw_453 : Jvm.Cond.fieldLink "DeepHole$Search" (65 : Nat) "DeepHole$Search" "isFound" "Z" ∈ TB := List.mem_filter.mpr ⟨(ch_2 (List.mem_of_getElem? (i := 117) (by decide +kernel))), by decide +kernel⟩
theorem tw_469 : Jvm.Cond.classLink "DeepHole" (30 : Nat) "DeepHole$Ends" ∈ TB := List.mem_filter.mpr ⟨(ch_2 (List.mem_of_getElem? (i := 133) (by decide +kernel))), by decide +kernel⟩
theorem tw_470 : Jvm.Cond.instantiable "DeepHole$Ends" (7 : Nat) ∈ TB := List.mem_filter.mpr ⟨(ch_2 (List.mem_of_getElem? (i := 134) (by decide +kernel))), by decide +kernel⟩
theorem nw_471 : Jvm.Cond.methodLinkNest "DeepHole" (32 : Nat) ({ cls := "DeepHole$Ends", name := "<init>", desc := "()V" } : Jvm.MethodName) "DeepHole" ∈ NW := List.mem_filter.mpr ⟨(ch_2 (List.mem_of_getElem? (i := 135) (by decide +kernel))), rfl⟩
theorem tw_472 : Jvm.Cond.instanceMethod ({ cls := "DeepHole$Ends", name := "<init>", desc := "()V" } : Jvm.MethodName) ∈ TB := List.mem_filter.mpr ⟨(ch_2 (List.mem_of_getElem? (i := 136) (by decide +kernel))), by decide +kernel⟩
theorem tw_473 : Jvm.Cond.code ({ cls := "DeepHole$Ends", name := "<init>", desc := "()V" } : Jvm.MethodName) prog_4_method_1_code (1 : Nat) (Option.none : Option Jvm.ClassFile.FieldType) ∈ TB := List.mem_filter.mpr ⟨(ch_2 (List.mem_of_getElem? (i := 137) (by decide +kernel))), by decide +kernel⟩
theorem tw_474 : Jvm.Cond.methodLink "DeepHole$Ends" (3 : Nat) ({ cls := "java/lang/Object", name := "<init>", desc := "()V" } : Jvm.MethodName) ∈ TB := List.mem_filter.mpr ⟨(ch_2 (List.mem_of_getElem? (i := 138) (by decide +kernel))), by decide +kernel⟩
theorem tw_475 : Jvm.Cond.classLink "DeepHole$Ends" (9 : Nat) "DeepHole$Bit" ∈ TB := List.mem_filter.mpr ⟨(ch_2 (List.mem_of_getElem? (i := 139) (by decide +kernel))), by decide +kernel⟩
theorem nw_476 : Jvm.Cond.methodLinkNest "DeepHole$Ends" (11 : Nat) ({ cls := "DeepHole$Bit", name := "<init>", desc := "()V" } : Jvm.MethodName) "DeepHole" ∈ NW := List.mem_filter.mpr ⟨(ch_2 (List.mem_of_getElem? (i := 140) (by decide +kernel))), rfl⟩
theorem tw_477 : Jvm.Cond.fieldLink "DeepHole$Ends" (12 : Nat) "DeepHole$Ends" "bit" "LDeepHole$Bit;" ∈ TB := List.mem_filter.mpr ⟨(ch_2 (List.mem_of_getElem? (i := 141) (by decide +kernel))), by decide +kernel⟩
theorem tw_478 : Jvm.Cond.fieldLink "DeepHole$Ends" (18 : Nat) "DeepHole$Ends" "frontX" "[I" ∈ TB := List.mem_filter.mpr ⟨(ch_2 (List.mem_of_getElem? (i := 142) (by decide +kernel))), by decide +kernel⟩
theorem tw_479 : Jvm.Cond.fieldLink "DeepHole$Ends" (22 : Nat) "DeepHole$Ends" "frontY" "[I" ∈ TB := List.mem_filter.mpr ⟨(ch_2 (List.mem_of_getElem? (i := 143) (by decide +kernel))), by decide +kernel⟩
theorem tw_480 : Jvm.Cond.fieldLink "DeepHole$Ends" (25 : Nat) "DeepHole$Ends" "backX" "[I" ∈ TB := List.mem_filter.mpr ⟨(ch_2 (List.mem_of_getElem? (i := 144) (by decide +kernel))), by decide +kernel⟩
theorem tw_481 : Jvm.Cond.fieldLink "DeepHole$Ends" (28 : Nat) "DeepHole$Ends" "backY" "[I" ∈ TB := List.mem_filter.mpr ⟨(ch_2 (List.mem_of_getElem? (i := 145) (by decide +kernel))), by decide +kernel⟩
theorem tw_482 : Jvm.Cond.fieldLink "DeepHole$Ends" (35 : Nat) "DeepHole$Ends" "frontDone" "I" ∈ TB := List.mem_filter.mpr ⟨(ch_2 (List.mem_of_getElem? (i := 146) (by decide +kernel))), by decide +kernel⟩
theorem tw_483 : Jvm.Cond.fieldLink "DeepHole$Ends" (39 : Nat) "DeepHole$Ends" "backDone" "I" ∈ TB := List.mem_filter.mpr ⟨(ch_2 (List.mem_of_getElem? (i := 147) (by decide +kernel))), by decide +kernel⟩
theorem tw_499 : Jvm.Cond.classLink "DeepHole" (37 : Nat) "DeepHole$Needle" ∈ TB := List.mem_filter.mpr ⟨(ch_2 (List.mem_of_getElem? (i := 163) (by decide +kernel))), by decide +kernel⟩
theorem tw_500 : Jvm.Cond.instantiable "DeepHole$Needle" (7 : Nat) ∈ TB := List.mem_filter.mpr ⟨(ch_2 (List.mem_of_getElem? (i := 164) (by decide +kernel))), by decide +kernel⟩
theorem nw_501 : Jvm.Cond.methodLinkNest "DeepHole" (39 : Nat) ({ cls := "DeepHole$Needle", name := "<init>", desc := "()V" } : Jvm.MethodName) "DeepHole" ∈ NW := List.mem_filter.mpr ⟨(ch_2 (List.mem_of_getElem? (i := 165) (by decide +kernel))), rfl⟩
theorem tw_502 : Jvm.Cond.instanceMethod ({ cls := "DeepHole$Needle", name := "<init>", desc := "()V" } : Jvm.MethodName) ∈ TB := List.mem_filter.mpr ⟨(ch_2 (List.mem_of_getElem? (i := 166) (by decide +kernel))), by decide +kernel⟩
theorem tw_503 : Jvm.Cond.code ({ cls := "DeepHole$Needle", name := "<init>", desc := "()V" } : Jvm.MethodName) prog_6_method_1_code (1 : Nat) (Option.none : Option Jvm.ClassFile.FieldType) ∈ TB := List.mem_filter.mpr ⟨(ch_2 (List.mem_of_getElem? (i := 167) (by decide +kernel))), by decide +kernel⟩
theorem tw_504 : Jvm.Cond.methodLink "DeepHole$Needle" (5 : Nat) ({ cls := "java/lang/Object", name := "<init>", desc := "()V" } : Jvm.MethodName) ∈ TB := List.mem_filter.mpr ⟨(ch_2 (List.mem_of_getElem? (i := 168) (by decide +kernel))), by decide +kernel⟩
theorem tw_505 : Jvm.Cond.classLink "DeepHole$Needle" (11 : Nat) "DeepHole$Bit" ∈ TB := List.mem_filter.mpr ⟨(ch_2 (List.mem_of_getElem? (i := 169) (by decide +kernel))), by decide +kernel⟩
theorem nw_506 : Jvm.Cond.methodLinkNest "DeepHole$Needle" (13 : Nat) ({ cls := "DeepHole$Bit", name := "<init>", desc := "()V" } : Jvm.MethodName) "DeepHole" ∈ NW := List.mem_filter.mpr ⟨(ch_2 (List.mem_of_getElem? (i := 170) (by decide +kernel))), rfl⟩
theorem tw_507 : Jvm.Cond.classLink "DeepHole$Needle" (25 : Nat) "[[I" ∈ TB := List.mem_filter.mpr ⟨(ch_2 (List.mem_of_getElem? (i := 171) (by decide +kernel))), by decide +kernel⟩
theorem tw_508 : Jvm.Cond.fieldLink "DeepHole$Needle" (14 : Nat) "DeepHole$Needle" "bit" "LDeepHole$Bit;" ∈ TB := List.mem_filter.mpr ⟨(ch_2 (List.mem_of_getElem? (i := 172) (by decide +kernel))), by decide +kernel⟩
theorem tw_509 : Jvm.Cond.fieldLink "DeepHole$Needle" (18 : Nat) "DeepHole$Needle" "feltInch" "[I" ∈ TB := List.mem_filter.mpr ⟨(ch_2 (List.mem_of_getElem? (i := 173) (by decide +kernel))), by decide +kernel⟩
theorem tw_510 : Jvm.Cond.fieldLink "DeepHole$Needle" (22 : Nat) "DeepHole$Needle" "feltForce" "[I" ∈ TB := List.mem_filter.mpr ⟨(ch_2 (List.mem_of_getElem? (i := 174) (by decide +kernel))), by decide +kernel⟩
theorem tw_511 : Jvm.Cond.fieldLink "DeepHole$Needle" (27 : Nat) "DeepHole$Needle" "found" "[[I" ∈ TB := List.mem_filter.mpr ⟨(ch_2 (List.mem_of_getElem? (i := 175) (by decide +kernel))), by decide +kernel⟩
theorem tw_512 : Jvm.Cond.fieldLink "DeepHole" (220 : Nat) "DeepHole$Needle" "found" "[[I" ∈ TB := List.mem_filter.mpr ⟨(ch_2 (List.mem_of_getElem? (i := 176) (by decide +kernel))), by decide +kernel⟩
theorem tw_513 : Jvm.Cond.fieldLink "DeepHole$Needle" (30 : Nat) "DeepHole$Needle" "count" "I" ∈ TB := List.mem_filter.mpr ⟨(ch_2 (List.mem_of_getElem? (i := 177) (by decide +kernel))), by decide +kernel⟩
theorem tw_514 : Jvm.Cond.fieldLink "DeepHole" (156 : Nat) "DeepHole$Needle" "count" "I" ∈ TB := List.mem_filter.mpr ⟨(ch_2 (List.mem_of_getElem? (i := 178) (by decide +kernel))), by decide +kernel⟩
theorem tw_515 : Jvm.Cond.fieldLink "DeepHole$Needle" (38 : Nat) "DeepHole$Needle" "fitting" "I" ∈ TB := List.mem_filter.mpr ⟨(ch_2 (List.mem_of_getElem? (i := 179) (by decide +kernel))), by decide +kernel⟩
theorem tw_516 : Jvm.Cond.fieldLink "DeepHole" (217 : Nat) "DeepHole$Needle" "fitting" "I" ∈ TB := List.mem_filter.mpr ⟨(ch_2 (List.mem_of_getElem? (i := 180) (by decide +kernel))), by decide +kernel⟩
theorem tw_517 : Jvm.Cond.fieldLink "DeepHole$Needle" (34 : Nat) "DeepHole$Needle" "isFresh" "Z" ∈ TB := List.mem_filter.mpr ⟨(ch_2 (List.mem_of_getElem? (i := 181) (by decide +kernel))), by decide +kernel⟩
theorem tw_533 : Jvm.Cond.classLink "DeepHole" (44 : Nat) "DeepHole$Bench" ∈ TB := List.mem_filter.mpr ⟨(ch_2 (List.mem_of_getElem? (i := 197) (by decide +kernel))), by decide +kernel⟩
theorem tw_534 : Jvm.Cond.instantiable "DeepHole$Bench" (6 : Nat) ∈ TB := List.mem_filter.mpr ⟨(ch_2 (List.mem_of_getElem? (i := 198) (by decide +kernel))), by decide +kernel⟩
theorem nw_535 : Jvm.Cond.methodLinkNest "DeepHole" (46 : Nat) ({ cls := "DeepHole$Bench", name := "<init>", desc := "()V" } : Jvm.MethodName) "DeepHole" ∈ NW := List.mem_filter.mpr ⟨(ch_2 (List.mem_of_getElem? (i := 199) (by decide +kernel))), rfl⟩
theorem tw_536 : Jvm.Cond.instanceMethod ({ cls := "DeepHole$Bench", name := "<init>", desc := "()V" } : Jvm.MethodName) ∈ TB := List.mem_filter.mpr ⟨(ch_2 (List.mem_of_getElem? (i := 200) (by decide +kernel))), by decide +kernel⟩
theorem tw_537 : Jvm.Cond.code ({ cls := "DeepHole$Bench", name := "<init>", desc := "()V" } : Jvm.MethodName) prog_2_method_1_code (1 : Nat) (Option.none : Option Jvm.ClassFile.FieldType) ∈ TB := List.mem_filter.mpr ⟨(ch_2 (List.mem_of_getElem? (i := 201) (by decide +kernel))), by decide +kernel⟩
theorem tw_538 : Jvm.Cond.methodLink "DeepHole$Bench" (3 : Nat) ({ cls := "java/lang/Object", name := "<init>", desc := "()V" } : Jvm.MethodName) ∈ TB := List.mem_filter.mpr ⟨(ch_2 (List.mem_of_getElem? (i := 202) (by decide +kernel))), by decide +kernel⟩
theorem tw_539 : Jvm.Cond.classLink "DeepHole$Bench" (18 : Nat) "[[I" ∈ TB := List.mem_filter.mpr ⟨(ch_2 (List.mem_of_getElem? (i := 203) (by decide +kernel))), by decide +kernel⟩
theorem tw_540 : Jvm.Cond.fieldLink "DeepHole$Bench" (9 : Nat) "DeepHole$Bench" "offX" "[I" ∈ TB := List.mem_filter.mpr ⟨(ch_2 (List.mem_of_getElem? (i := 204) (by decide +kernel))), by decide +kernel⟩
theorem tw_541 : Jvm.Cond.fieldLink "DeepHole$Bench" (15 : Nat) "DeepHole$Bench" "offY" "[I" ∈ TB := List.mem_filter.mpr ⟨(ch_2 (List.mem_of_getElem? (i := 205) (by decide +kernel))), by decide +kernel⟩
theorem tw_542 : Jvm.Cond.fieldLink "DeepHole$Bench" (20 : Nat) "DeepHole$Bench" "moves" "[[I" ∈ TB := List.mem_filter.mpr ⟨(ch_2 (List.mem_of_getElem? (i := 206) (by decide +kernel))), by decide +kernel⟩
theorem tw_543 : Jvm.Cond.fieldLink "DeepHole$Bench" (23 : Nat) "DeepHole$Bench" "strokes" "[I" ∈ TB := List.mem_filter.mpr ⟨(ch_2 (List.mem_of_getElem? (i := 207) (by decide +kernel))), by decide +kernel⟩
theorem tw_544 : Jvm.Cond.fieldLink "DeepHole" (258 : Nat) "DeepHole$Bench" "strokes" "[I" ∈ TB := List.mem_filter.mpr ⟨(ch_2 (List.mem_of_getElem? (i := 208) (by decide +kernel))), by decide +kernel⟩
theorem tw_545 : Jvm.Cond.fieldLink "DeepHole$Bench" (26 : Nat) "DeepHole$Bench" "strokeCount" "I" ∈ TB := List.mem_filter.mpr ⟨(ch_2 (List.mem_of_getElem? (i := 209) (by decide +kernel))), by decide +kernel⟩
theorem tw_546 : Jvm.Cond.fieldLink "DeepHole" (255 : Nat) "DeepHole$Bench" "strokeCount" "I" ∈ TB := List.mem_filter.mpr ⟨(ch_2 (List.mem_of_getElem? (i := 210) (by decide +kernel))), by decide +kernel⟩
theorem tw_547 : Jvm.Cond.fieldLink "DeepHole$Bench" (56 : Nat) "DeepHole$Bench" "last" "I" ∈ TB := List.mem_filter.mpr ⟨(ch_2 (List.mem_of_getElem? (i := 211) (by decide +kernel))), by decide +kernel⟩
theorem tw_561 : Jvm.Cond.classLink "DeepHole" (51 : Nat) "DeepHole$Walls" ∈ TB := List.mem_filter.mpr ⟨(ch_2 (List.mem_of_getElem? (i := 225) (by decide +kernel))), by decide +kernel⟩
theorem tw_562 : Jvm.Cond.instantiable "DeepHole$Walls" (8 : Nat) ∈ TB := List.mem_filter.mpr ⟨(ch_2 (List.mem_of_getElem? (i := 226) (by decide +kernel))), by decide +kernel⟩
theorem nw_563 : Jvm.Cond.methodLinkNest "DeepHole" (53 : Nat) ({ cls := "DeepHole$Walls", name := "<init>", desc := "()V" } : Jvm.MethodName) "DeepHole" ∈ NW := List.mem_filter.mpr ⟨(ch_2 (List.mem_of_getElem? (i := 227) (by decide +kernel))), rfl⟩
theorem tw_564 : Jvm.Cond.instanceMethod ({ cls := "DeepHole$Walls", name := "<init>", desc := "()V" } : Jvm.MethodName) ∈ TB := List.mem_filter.mpr ⟨(ch_2 (List.mem_of_getElem? (i := 228) (by decide +kernel))), by decide +kernel⟩
theorem tw_565 : Jvm.Cond.code ({ cls := "DeepHole$Walls", name := "<init>", desc := "()V" } : Jvm.MethodName) prog_12_method_1_code (1 : Nat) (Option.none : Option Jvm.ClassFile.FieldType) ∈ TB := List.mem_filter.mpr ⟨(ch_2 (List.mem_of_getElem? (i := 229) (by decide +kernel))), by decide +kernel⟩
theorem tw_566 : Jvm.Cond.methodLink "DeepHole$Walls" (3 : Nat) ({ cls := "java/lang/Object", name := "<init>", desc := "()V" } : Jvm.MethodName) ∈ TB := List.mem_filter.mpr ⟨(ch_2 (List.mem_of_getElem? (i := 230) (by decide +kernel))), by decide +kernel⟩
theorem tw_567 : Jvm.Cond.fieldLink "DeepHole$Walls" (9 : Nat) "DeepHole$Walls" "isTold" "[Z" ∈ TB := List.mem_filter.mpr ⟨(ch_2 (List.mem_of_getElem? (i := 231) (by decide +kernel))), by decide +kernel⟩
theorem tw_568 : Jvm.Cond.fieldLink "DeepHole$Walls" (15 : Nat) "DeepHole$Walls" "toldLow" "[I" ∈ TB := List.mem_filter.mpr ⟨(ch_2 (List.mem_of_getElem? (i := 232) (by decide +kernel))), by decide +kernel⟩
theorem tw_569 : Jvm.Cond.fieldLink "DeepHole$Walls" (19 : Nat) "DeepHole$Walls" "toldHigh" "[I" ∈ TB := List.mem_filter.mpr ⟨(ch_2 (List.mem_of_getElem? (i := 233) (by decide +kernel))), by decide +kernel⟩
theorem tw_570 : Jvm.Cond.fieldLink "DeepHole$Walls" (22 : Nat) "DeepHole$Walls" "spanLow" "[I" ∈ TB := List.mem_filter.mpr ⟨(ch_2 (List.mem_of_getElem? (i := 234) (by decide +kernel))), by decide +kernel⟩
theorem tw_571 : Jvm.Cond.fieldLink "DeepHole" (280 : Nat) "DeepHole$Walls" "spanLow" "[I" ∈ TB := List.mem_filter.mpr ⟨(ch_2 (List.mem_of_getElem? (i := 235) (by decide +kernel))), by decide +kernel⟩
theorem tw_572 : Jvm.Cond.fieldLink "DeepHole$Walls" (25 : Nat) "DeepHole$Walls" "spanHigh" "[I" ∈ TB := List.mem_filter.mpr ⟨(ch_2 (List.mem_of_getElem? (i := 236) (by decide +kernel))), by decide +kernel⟩
theorem tw_573 : Jvm.Cond.fieldLink "DeepHole" (277 : Nat) "DeepHole$Walls" "spanHigh" "[I" ∈ TB := List.mem_filter.mpr ⟨(ch_2 (List.mem_of_getElem? (i := 237) (by decide +kernel))), by decide +kernel⟩
theorem tw_574 : Jvm.Cond.fieldLink "DeepHole$Walls" (28 : Nat) "DeepHole$Walls" "narrowedBy" "I" ∈ TB := List.mem_filter.mpr ⟨(ch_2 (List.mem_of_getElem? (i := 238) (by decide +kernel))), by decide +kernel⟩
theorem tw_575 : Jvm.Cond.fieldLink "DeepHole$Walls" (32 : Nat) "DeepHole$Walls" "isPossible" "Z" ∈ TB := List.mem_filter.mpr ⟨(ch_2 (List.mem_of_getElem? (i := 239) (by decide +kernel))), by decide +kernel⟩
theorem tw_576 : Jvm.Cond.fieldLink "DeepHole$Walls" (41 : Nat) "DeepHole$Walls" "isChanged" "Z" ∈ TB := List.mem_filter.mpr ⟨(ch_3 (List.mem_of_getElem? (i := 0) (by decide +kernel))), by decide +kernel⟩
theorem tw_594 : Jvm.Cond.classLink "DeepHole" (58 : Nat) "DeepHole$Shop" ∈ TB := List.mem_filter.mpr ⟨(ch_3 (List.mem_of_getElem? (i := 18) (by decide +kernel))), by decide +kernel⟩
theorem nw_595 : Jvm.Cond.methodLinkNest "DeepHole" (60 : Nat) ({ cls := "DeepHole$Shop", name := "<init>", desc := "()V" } : Jvm.MethodName) "DeepHole" ∈ NW := List.mem_filter.mpr ⟨(ch_3 (List.mem_of_getElem? (i := 19) (by decide +kernel))), rfl⟩
theorem tw_596 : Jvm.Cond.fieldLink "DeepHole" (10 : Nat) "DeepHole" "reader" "LDeepHole$Reader;" ∈ TB := List.mem_filter.mpr ⟨(ch_3 (List.mem_of_getElem? (i := 20) (by decide +kernel))), by decide +kernel⟩
theorem tw_597 : Jvm.Cond.fieldLink "DeepHole" (19 : Nat) "DeepHole" "hole" "LDeepHole$Hole;" ∈ TB := List.mem_filter.mpr ⟨(ch_3 (List.mem_of_getElem? (i := 21) (by decide +kernel))), by decide +kernel⟩
theorem tw_598 : Jvm.Cond.fieldLink "DeepHole" (26 : Nat) "DeepHole" "search" "LDeepHole$Search;" ∈ TB := List.mem_filter.mpr ⟨(ch_3 (List.mem_of_getElem? (i := 22) (by decide +kernel))), by decide +kernel⟩
theorem tw_599 : Jvm.Cond.fieldLink "DeepHole" (33 : Nat) "DeepHole" "ends" "LDeepHole$Ends;" ∈ TB := List.mem_filter.mpr ⟨(ch_3 (List.mem_of_getElem? (i := 23) (by decide +kernel))), by decide +kernel⟩
theorem tw_600 : Jvm.Cond.fieldLink "DeepHole" (40 : Nat) "DeepHole" "needle" "LDeepHole$Needle;" ∈ TB := List.mem_filter.mpr ⟨(ch_3 (List.mem_of_getElem? (i := 24) (by decide +kernel))), by decide +kernel⟩
theorem tw_601 : Jvm.Cond.fieldLink "DeepHole" (47 : Nat) "DeepHole" "bench" "LDeepHole$Bench;" ∈ TB := List.mem_filter.mpr ⟨(ch_3 (List.mem_of_getElem? (i := 25) (by decide +kernel))), by decide +kernel⟩
theorem tw_602 : Jvm.Cond.fieldLink "DeepHole" (54 : Nat) "DeepHole" "walls" "LDeepHole$Walls;" ∈ TB := List.mem_filter.mpr ⟨(ch_3 (List.mem_of_getElem? (i := 26) (by decide +kernel))), by decide +kernel⟩
theorem tw_603 : Jvm.Cond.fieldLink "DeepHole" (61 : Nat) "DeepHole" "current" "LDeepHole$Shop;" ∈ TB := List.mem_filter.mpr ⟨(ch_3 (List.mem_of_getElem? (i := 27) (by decide +kernel))), by decide +kernel⟩
theorem tw_604 : Jvm.Cond.fieldLink "DeepHole" (65 : Nat) "DeepHole" "hasShop" "Z" ∈ TB := List.mem_filter.mpr ⟨(ch_3 (List.mem_of_getElem? (i := 28) (by decide +kernel))), by decide +kernel⟩
theorem tw_605 : Jvm.Cond.fieldLink "DeepHole" (69 : Nat) "DeepHole" "latestTrouble" "I" ∈ TB := List.mem_filter.mpr ⟨(ch_3 (List.mem_of_getElem? (i := 29) (by decide +kernel))), by decide +kernel⟩
theorem tw_606 : Jvm.Cond.fieldLink "DeepHole" (73 : Nat) "DeepHole" "latestFault" "I" ∈ TB := List.mem_filter.mpr ⟨(ch_3 (List.mem_of_getElem? (i := 30) (by decide +kernel))), by decide +kernel⟩
theorem tw_607 : Jvm.Cond.fieldLink "DeepHole" (76 : Nat) "DeepHole" "faultPlace" "I" ∈ TB := List.mem_filter.mpr ⟨(ch_3 (List.mem_of_getElem? (i := 31) (by decide +kernel))), by decide +kernel⟩
theorem tw_633 : Jvm.Cond.methodLink "DeepHoleLaw" (19 : Nat) ({ cls := "DeepHole", name := "feed", desc := "(IIIII)I" } : Jvm.MethodName) ∈ TB := List.mem_filter.mpr ⟨(ch_3 (List.mem_of_getElem? (i := 57) (by decide +kernel))), by decide +kernel⟩
theorem tw_634 : Jvm.Cond.instanceMethod ({ cls := "DeepHole", name := "feed", desc := "(IIIII)I" } : Jvm.MethodName) ∈ TB := List.mem_filter.mpr ⟨(ch_3 (List.mem_of_getElem? (i := 58) (by decide +kernel))), by decide +kernel⟩
theorem tw_635 : Jvm.Cond.selects "DeepHole" ({ cls := "DeepHole", name := "feed", desc := "(IIIII)I" } : Jvm.MethodName) ({ cls := "DeepHole", name := "feed", desc := "(IIIII)I" } : Jvm.MethodName) ∈ TB := List.mem_filter.mpr ⟨(ch_3 (List.mem_of_getElem? (i := 59) (by decide +kernel))), by decide +kernel⟩
theorem tw_636 : Jvm.Cond.code ({ cls := "DeepHole", name := "feed", desc := "(IIIII)I" } : Jvm.MethodName) prog_1_method_2_code (7 : Nat) (Option.some Jvm.ClassFile.FieldType.int) ∈ TB := List.mem_filter.mpr ⟨(ch_3 (List.mem_of_getElem? (i := 60) (by decide +kernel))), by decide +kernel⟩
theorem tw_637 : Jvm.Cond.methodLink "DeepHole" (88 : Nat) ({ cls := "DeepHole$Tokens", name := "put", desc := "(I)V" } : Jvm.MethodName) ∈ TB := List.mem_filter.mpr ⟨(ch_3 (List.mem_of_getElem? (i := 61) (by decide +kernel))), by decide +kernel⟩
theorem tw_638 : Jvm.Cond.instanceMethod ({ cls := "DeepHole$Tokens", name := "put", desc := "(I)V" } : Jvm.MethodName) ∈ TB := List.mem_filter.mpr ⟨(ch_3 (List.mem_of_getElem? (i := 62) (by decide +kernel))), by decide +kernel⟩
theorem tw_639 : Jvm.Cond.selects "DeepHole$Tokens" ({ cls := "DeepHole$Tokens", name := "put", desc := "(I)V" } : Jvm.MethodName) ({ cls := "DeepHole$Tokens", name := "put", desc := "(I)V" } : Jvm.MethodName) ∈ TB := List.mem_filter.mpr ⟨(ch_3 (List.mem_of_getElem? (i := 63) (by decide +kernel))), by decide +kernel⟩
theorem tw_640 : Jvm.Cond.code ({ cls := "DeepHole$Tokens", name := "put", desc := "(I)V" } : Jvm.MethodName) prog_11_method_2_code (3 : Nat) (Option.none : Option Jvm.ClassFile.FieldType) ∈ TB := List.mem_filter.mpr ⟨(ch_3 (List.mem_of_getElem? (i := 64) (by decide +kernel))), by decide +kernel⟩
theorem tw_641 : Jvm.Cond.methodLink "DeepHoleLaw" (24 : Nat) ({ cls := "DeepHole", name := "shop", desc := "(I)I" } : Jvm.MethodName) ∈ TB := List.mem_filter.mpr ⟨(ch_3 (List.mem_of_getElem? (i := 65) (by decide +kernel))), by decide +kernel⟩
theorem tw_642 : Jvm.Cond.instanceMethod ({ cls := "DeepHole", name := "shop", desc := "(I)I" } : Jvm.MethodName) ∈ TB := List.mem_filter.mpr ⟨(ch_3 (List.mem_of_getElem? (i := 66) (by decide +kernel))), by decide +kernel⟩
theorem tw_643 : Jvm.Cond.selects "DeepHole" ({ cls := "DeepHole", name := "shop", desc := "(I)I" } : Jvm.MethodName) ({ cls := "DeepHole", name := "shop", desc := "(I)I" } : Jvm.MethodName) ∈ TB := List.mem_filter.mpr ⟨(ch_3 (List.mem_of_getElem? (i := 67) (by decide +kernel))), by decide +kernel⟩
theorem tw_644 : Jvm.Cond.code ({ cls := "DeepHole", name := "shop", desc := "(I)I" } : Jvm.MethodName) prog_1_method_3_code (2 : Nat) (Option.some Jvm.ClassFile.FieldType.int) ∈ TB := List.mem_filter.mpr ⟨(ch_3 (List.mem_of_getElem? (i := 68) (by decide +kernel))), by decide +kernel⟩
theorem tw_645 : Jvm.Cond.methodLink "DeepHole" (92 : Nat) ({ cls := "DeepHole", name := "refuse", desc := "(I)I" } : Jvm.MethodName) ∈ TB := List.mem_filter.mpr ⟨(ch_3 (List.mem_of_getElem? (i := 69) (by decide +kernel))), by decide +kernel⟩
theorem tw_647 : Jvm.Cond.instanceMethod ({ cls := "DeepHole", name := "refuse", desc := "(I)I" } : Jvm.MethodName) ∈ TB := List.mem_filter.mpr ⟨(ch_3 (List.mem_of_getElem? (i := 71) (by decide +kernel))), by decide +kernel⟩
theorem tw_648 : Jvm.Cond.code ({ cls := "DeepHole", name := "refuse", desc := "(I)I" } : Jvm.MethodName) prog_1_method_36_code (2 : Nat) (Option.some Jvm.ClassFile.FieldType.int) ∈ TB := List.mem_filter.mpr ⟨(ch_3 (List.mem_of_getElem? (i := 72) (by decide +kernel))), by decide +kernel⟩
theorem tw_649 : Jvm.Cond.methodLink "DeepHole" (96 : Nat) ({ cls := "DeepHole$Reader", name := "read", desc := "(I)I" } : Jvm.MethodName) ∈ TB := List.mem_filter.mpr ⟨(ch_3 (List.mem_of_getElem? (i := 73) (by decide +kernel))), by decide +kernel⟩
theorem tw_650 : Jvm.Cond.instanceMethod ({ cls := "DeepHole$Reader", name := "read", desc := "(I)I" } : Jvm.MethodName) ∈ TB := List.mem_filter.mpr ⟨(ch_3 (List.mem_of_getElem? (i := 74) (by decide +kernel))), by decide +kernel⟩
theorem tw_651 : Jvm.Cond.selects "DeepHole$Reader" ({ cls := "DeepHole$Reader", name := "read", desc := "(I)I" } : Jvm.MethodName) ({ cls := "DeepHole$Reader", name := "read", desc := "(I)I" } : Jvm.MethodName) ∈ TB := List.mem_filter.mpr ⟨(ch_3 (List.mem_of_getElem? (i := 75) (by decide +kernel))), by decide +kernel⟩
theorem tw_652 : Jvm.Cond.code ({ cls := "DeepHole$Reader", name := "read", desc := "(I)I" } : Jvm.MethodName) prog_8_method_2_code (3 : Nat) (Option.some Jvm.ClassFile.FieldType.int) ∈ TB := List.mem_filter.mpr ⟨(ch_3 (List.mem_of_getElem? (i := 76) (by decide +kernel))), by decide +kernel⟩
theorem tw_653 : Jvm.Cond.methodLink "DeepHole$Reader" (35 : Nat) ({ cls := "DeepHole$Reader", name := "begin", desc := "(I)V" } : Jvm.MethodName) ∈ TB := List.mem_filter.mpr ⟨(ch_3 (List.mem_of_getElem? (i := 77) (by decide +kernel))), by decide +kernel⟩
theorem tw_655 : Jvm.Cond.instanceMethod ({ cls := "DeepHole$Reader", name := "begin", desc := "(I)V" } : Jvm.MethodName) ∈ TB := List.mem_filter.mpr ⟨(ch_3 (List.mem_of_getElem? (i := 79) (by decide +kernel))), by decide +kernel⟩
theorem tw_656 : Jvm.Cond.code ({ cls := "DeepHole$Reader", name := "begin", desc := "(I)V" } : Jvm.MethodName) prog_8_method_4_code (2 : Nat) (Option.none : Option Jvm.ClassFile.FieldType) ∈ TB := List.mem_filter.mpr ⟨(ch_3 (List.mem_of_getElem? (i := 80) (by decide +kernel))), by decide +kernel⟩
theorem tw_657 : Jvm.Cond.methodLink "DeepHole$Reader" (94 : Nat) ({ cls := "DeepHole$Shop", name := "empty", desc := "()V" } : Jvm.MethodName) ∈ TB := List.mem_filter.mpr ⟨(ch_3 (List.mem_of_getElem? (i := 81) (by decide +kernel))), by decide +kernel⟩
theorem tw_658 : Jvm.Cond.instanceMethod ({ cls := "DeepHole$Shop", name := "empty", desc := "()V" } : Jvm.MethodName) ∈ TB := List.mem_filter.mpr ⟨(ch_3 (List.mem_of_getElem? (i := 82) (by decide +kernel))), by decide +kernel⟩
theorem tw_659 : Jvm.Cond.selects "DeepHole$Shop" ({ cls := "DeepHole$Shop", name := "empty", desc := "()V" } : Jvm.MethodName) ({ cls := "DeepHole$Shop", name := "empty", desc := "()V" } : Jvm.MethodName) ∈ TB := List.mem_filter.mpr ⟨(ch_3 (List.mem_of_getElem? (i := 83) (by decide +kernel))), by decide +kernel⟩
theorem tw_660 : Jvm.Cond.code ({ cls := "DeepHole$Shop", name := "empty", desc := "()V" } : Jvm.MethodName) prog_10_method_2_code (2 : Nat) (Option.none : Option Jvm.ClassFile.FieldType) ∈ TB := List.mem_filter.mpr ⟨(ch_3 (List.mem_of_getElem? (i := 84) (by decide +kernel))), by decide +kernel⟩
theorem tw_661 : Jvm.Cond.methodLink "DeepHole$Shop" (47 : Nat) ({ cls := "DeepHole$Plan", name := "empty", desc := "()V" } : Jvm.MethodName) ∈ TB := List.mem_filter.mpr ⟨(ch_3 (List.mem_of_getElem? (i := 85) (by decide +kernel))), by decide +kernel⟩
theorem tw_662 : Jvm.Cond.instanceMethod ({ cls := "DeepHole$Plan", name := "empty", desc := "()V" } : Jvm.MethodName) ∈ TB := List.mem_filter.mpr ⟨(ch_3 (List.mem_of_getElem? (i := 86) (by decide +kernel))), by decide +kernel⟩
theorem tw_663 : Jvm.Cond.selects "DeepHole$Plan" ({ cls := "DeepHole$Plan", name := "empty", desc := "()V" } : Jvm.MethodName) ({ cls := "DeepHole$Plan", name := "empty", desc := "()V" } : Jvm.MethodName) ∈ TB := List.mem_filter.mpr ⟨(ch_3 (List.mem_of_getElem? (i := 87) (by decide +kernel))), by decide +kernel⟩
theorem tw_664 : Jvm.Cond.code ({ cls := "DeepHole$Plan", name := "empty", desc := "()V" } : Jvm.MethodName) prog_7_method_2_code (2 : Nat) (Option.none : Option Jvm.ClassFile.FieldType) ∈ TB := List.mem_filter.mpr ⟨(ch_3 (List.mem_of_getElem? (i := 88) (by decide +kernel))), by decide +kernel⟩
theorem tw_665 : Jvm.Cond.methodLink "DeepHole$Reader" (125 : Nat) ({ cls := "DeepHole$Tokens", name := "begin", desc := "(I)V" } : Jvm.MethodName) ∈ TB := List.mem_filter.mpr ⟨(ch_3 (List.mem_of_getElem? (i := 89) (by decide +kernel))), by decide +kernel⟩
theorem tw_666 : Jvm.Cond.instanceMethod ({ cls := "DeepHole$Tokens", name := "begin", desc := "(I)V" } : Jvm.MethodName) ∈ TB := List.mem_filter.mpr ⟨(ch_3 (List.mem_of_getElem? (i := 90) (by decide +kernel))), by decide +kernel⟩
theorem tw_667 : Jvm.Cond.selects "DeepHole$Tokens" ({ cls := "DeepHole$Tokens", name := "begin", desc := "(I)V" } : Jvm.MethodName) ({ cls := "DeepHole$Tokens", name := "begin", desc := "(I)V" } : Jvm.MethodName) ∈ TB := List.mem_filter.mpr ⟨(ch_3 (List.mem_of_getElem? (i := 91) (by decide +kernel))), by decide +kernel⟩
theorem tw_668 : Jvm.Cond.code ({ cls := "DeepHole$Tokens", name := "begin", desc := "(I)V" } : Jvm.MethodName) prog_11_method_3_code (2 : Nat) (Option.none : Option Jvm.ClassFile.FieldType) ∈ TB := List.mem_filter.mpr ⟨(ch_3 (List.mem_of_getElem? (i := 92) (by decide +kernel))), by decide +kernel⟩
theorem tw_669 : Jvm.Cond.methodLink "DeepHole$Tokens" (25 : Nat) ({ cls := "DeepHole$Tokens", name := "advance", desc := "()V" } : Jvm.MethodName) ∈ TB := List.mem_filter.mpr ⟨(ch_3 (List.mem_of_getElem? (i := 93) (by decide +kernel))), by decide +kernel⟩
theorem tw_670 : Jvm.Cond.instanceMethod ({ cls := "DeepHole$Tokens", name := "advance", desc := "()V" } : Jvm.MethodName) ∈ TB := List.mem_filter.mpr ⟨(ch_3 (List.mem_of_getElem? (i := 94) (by decide +kernel))), by decide +kernel⟩
theorem tw_671 : Jvm.Cond.selects "DeepHole$Tokens" ({ cls := "DeepHole$Tokens", name := "advance", desc := "()V" } : Jvm.MethodName) ({ cls := "DeepHole$Tokens", name := "advance", desc := "()V" } : Jvm.MethodName) ∈ TB := List.mem_filter.mpr ⟨(ch_3 (List.mem_of_getElem? (i := 95) (by decide +kernel))), by decide +kernel⟩
theorem tw_672 : Jvm.Cond.code ({ cls := "DeepHole$Tokens", name := "advance", desc := "()V" } : Jvm.MethodName) prog_11_method_5_code (2 : Nat) (Option.none : Option Jvm.ClassFile.FieldType) ∈ TB := List.mem_filter.mpr ⟨(ch_3 (List.mem_of_getElem? (i := 96) (by decide +kernel))), by decide +kernel⟩
theorem tw_673 : Jvm.Cond.methodLink "DeepHole$Tokens" (28 : Nat) ({ cls := "DeepHole$Tokens", name := "byteAt", desc := "(I)I" } : Jvm.MethodName) ∈ TB := List.mem_filter.mpr ⟨(ch_3 (List.mem_of_getElem? (i := 97) (by decide +kernel))), by decide +kernel⟩
theorem tw_674 : Jvm.Cond.instanceMethod ({ cls := "DeepHole$Tokens", name := "byteAt", desc := "(I)I" } : Jvm.MethodName) ∈ TB := List.mem_filter.mpr ⟨(ch_3 (List.mem_of_getElem? (i := 98) (by decide +kernel))), by decide +kernel⟩
theorem tw_675 : Jvm.Cond.selects "DeepHole$Tokens" ({ cls := "DeepHole$Tokens", name := "byteAt", desc := "(I)I" } : Jvm.MethodName) ({ cls := "DeepHole$Tokens", name := "byteAt", desc := "(I)I" } : Jvm.MethodName) ∈ TB := List.mem_filter.mpr ⟨(ch_3 (List.mem_of_getElem? (i := 99) (by decide +kernel))), by decide +kernel⟩
theorem tw_676 : Jvm.Cond.code ({ cls := "DeepHole$Tokens", name := "byteAt", desc := "(I)I" } : Jvm.MethodName) prog_11_method_4_code (2 : Nat) (Option.some Jvm.ClassFile.FieldType.int) ∈ TB := List.mem_filter.mpr ⟨(ch_3 (List.mem_of_getElem? (i := 100) (by decide +kernel))), by decide +kernel⟩
theorem tw_677 : Jvm.Cond.methodLink "DeepHole$Tokens" (35 : Nat) ({ cls := "DeepHole$Tokens", name := "kindOf", desc := "(I)I" } : Jvm.MethodName) ∈ TB := List.mem_filter.mpr ⟨(ch_3 (List.mem_of_getElem? (i := 101) (by decide +kernel))), by decide +kernel⟩
theorem tw_678 : Jvm.Cond.static ({ cls := "DeepHole$Tokens", name := "kindOf", desc := "(I)I" } : Jvm.MethodName) ∈ TB := List.mem_filter.mpr ⟨(ch_3 (List.mem_of_getElem? (i := 102) (by decide +kernel))), by decide +kernel⟩
theorem tw_679 : Jvm.Cond.code ({ cls := "DeepHole$Tokens", name := "kindOf", desc := "(I)I" } : Jvm.MethodName) prog_11_method_6_code (1 : Nat) (Option.some Jvm.ClassFile.FieldType.int) ∈ TB := List.mem_filter.mpr ⟨(ch_3 (List.mem_of_getElem? (i := 103) (by decide +kernel))), by decide +kernel⟩
theorem tw_681 : Jvm.Cond.methodLink "DeepHole$Reader" (45 : Nat) ({ cls := "DeepHole$Tokens", name := "isWord", desc := "(Ljava/lang/String;)Z" } : Jvm.MethodName) ∈ TB := List.mem_filter.mpr ⟨(ch_3 (List.mem_of_getElem? (i := 105) (by decide +kernel))), by decide +kernel⟩
theorem tw_682 : Jvm.Cond.instanceMethod ({ cls := "DeepHole$Tokens", name := "isWord", desc := "(Ljava/lang/String;)Z" } : Jvm.MethodName) ∈ TB := List.mem_filter.mpr ⟨(ch_3 (List.mem_of_getElem? (i := 106) (by decide +kernel))), by decide +kernel⟩
theorem tw_683 : Jvm.Cond.selects "DeepHole$Tokens" ({ cls := "DeepHole$Tokens", name := "isWord", desc := "(Ljava/lang/String;)Z" } : Jvm.MethodName) ({ cls := "DeepHole$Tokens", name := "isWord", desc := "(Ljava/lang/String;)Z" } : Jvm.MethodName) ∈ TB := List.mem_filter.mpr ⟨(ch_3 (List.mem_of_getElem? (i := 107) (by decide +kernel))), by decide +kernel⟩
theorem tw_684 : Jvm.Cond.code ({ cls := "DeepHole$Tokens", name := "isWord", desc := "(Ljava/lang/String;)Z" } : Jvm.MethodName) prog_11_method_7_code (3 : Nat) (Option.some Jvm.ClassFile.FieldType.boolean) ∈ TB := List.mem_filter.mpr ⟨(ch_3 (List.mem_of_getElem? (i := 108) (by decide +kernel))), by decide +kernel⟩
theorem tw_733 : Jvm.Cond.methodLink "DeepHole$Reader" (49 : Nat) ({ cls := "DeepHole$Reader", name := "readRod", desc := "()V" } : Jvm.MethodName) ∈ TB := List.mem_filter.mpr ⟨(ch_3 (List.mem_of_getElem? (i := 157) (by decide +kernel))), by decide +kernel⟩
theorem tw_735 : Jvm.Cond.instanceMethod ({ cls := "DeepHole$Reader", name := "readRod", desc := "()V" } : Jvm.MethodName) ∈ TB := List.mem_filter.mpr ⟨(ch_3 (List.mem_of_getElem? (i := 159) (by decide +kernel))), by decide +kernel⟩
theorem tw_736 : Jvm.Cond.code ({ cls := "DeepHole$Reader", name := "readRod", desc := "()V" } : Jvm.MethodName) prog_8_method_7_code (1 : Nat) (Option.none : Option Jvm.ClassFile.FieldType) ∈ TB := List.mem_filter.mpr ⟨(ch_3 (List.mem_of_getElem? (i := 160) (by decide +kernel))), by decide +kernel⟩
theorem tw_737 : Jvm.Cond.methodLink "DeepHole$Reader" (129 : Nat) ({ cls := "DeepHole$Reader", name := "beginLine", desc := "(ZI)V" } : Jvm.MethodName) ∈ TB := List.mem_filter.mpr ⟨(ch_3 (List.mem_of_getElem? (i := 161) (by decide +kernel))), by decide +kernel⟩
theorem tw_739 : Jvm.Cond.instanceMethod ({ cls := "DeepHole$Reader", name := "beginLine", desc := "(ZI)V" } : Jvm.MethodName) ∈ TB := List.mem_filter.mpr ⟨(ch_3 (List.mem_of_getElem? (i := 163) (by decide +kernel))), by decide +kernel⟩
theorem tw_740 : Jvm.Cond.code ({ cls := "DeepHole$Reader", name := "beginLine", desc := "(ZI)V" } : Jvm.MethodName) prog_8_method_14_code (3 : Nat) (Option.none : Option Jvm.ClassFile.FieldType) ∈ TB := List.mem_filter.mpr ⟨(ch_3 (List.mem_of_getElem? (i := 164) (by decide +kernel))), by decide +kernel⟩
theorem tw_741 : Jvm.Cond.methodLink "DeepHole$Reader" (82 : Nat) ({ cls := "DeepHole$Reader", name := "blame", desc := "(I)V" } : Jvm.MethodName) ∈ TB := List.mem_filter.mpr ⟨(ch_3 (List.mem_of_getElem? (i := 165) (by decide +kernel))), by decide +kernel⟩
theorem tw_743 : Jvm.Cond.instanceMethod ({ cls := "DeepHole$Reader", name := "blame", desc := "(I)V" } : Jvm.MethodName) ∈ TB := List.mem_filter.mpr ⟨(ch_3 (List.mem_of_getElem? (i := 167) (by decide +kernel))), by decide +kernel⟩
theorem tw_744 : Jvm.Cond.code ({ cls := "DeepHole$Reader", name := "blame", desc := "(I)V" } : Jvm.MethodName) prog_8_method_5_code (2 : Nat) (Option.none : Option Jvm.ClassFile.FieldType) ∈ TB := List.mem_filter.mpr ⟨(ch_3 (List.mem_of_getElem? (i := 168) (by decide +kernel))), by decide +kernel⟩
theorem tw_745 : Jvm.Cond.methodLink "DeepHole$Reader" (91 : Nat) ({ cls := "DeepHole$Tokens", name := "advance", desc := "()V" } : Jvm.MethodName) ∈ TB := List.mem_filter.mpr ⟨(ch_3 (List.mem_of_getElem? (i := 169) (by decide +kernel))), by decide +kernel⟩
theorem tw_747 : Jvm.Cond.methodLink "DeepHole$Reader" (135 : Nat) ({ cls := "DeepHole$Reader", name := "takeNumber", desc := "(Ljava/lang/String;II)I" } : Jvm.MethodName) ∈ TB := List.mem_filter.mpr ⟨(ch_3 (List.mem_of_getElem? (i := 171) (by decide +kernel))), by decide +kernel⟩
theorem tw_749 : Jvm.Cond.instanceMethod ({ cls := "DeepHole$Reader", name := "takeNumber", desc := "(Ljava/lang/String;II)I" } : Jvm.MethodName) ∈ TB := List.mem_filter.mpr ⟨(ch_3 (List.mem_of_getElem? (i := 173) (by decide +kernel))), by decide +kernel⟩
theorem tw_750 : Jvm.Cond.code ({ cls := "DeepHole$Reader", name := "takeNumber", desc := "(Ljava/lang/String;II)I" } : Jvm.MethodName) prog_8_method_18_code (4 : Nat) (Option.some Jvm.ClassFile.FieldType.int) ∈ TB := List.mem_filter.mpr ⟨(ch_3 (List.mem_of_getElem? (i := 174) (by decide +kernel))), by decide +kernel⟩
theorem tw_751 : Jvm.Cond.methodLink "DeepHole$Reader" (216 : Nat) ({ cls := "DeepHole$Reader", name := "takeWord", desc := "(Ljava/lang/String;)V" } : Jvm.MethodName) ∈ TB := List.mem_filter.mpr ⟨(ch_3 (List.mem_of_getElem? (i := 175) (by decide +kernel))), by decide +kernel⟩
theorem tw_753 : Jvm.Cond.instanceMethod ({ cls := "DeepHole$Reader", name := "takeWord", desc := "(Ljava/lang/String;)V" } : Jvm.MethodName) ∈ TB := List.mem_filter.mpr ⟨(ch_3 (List.mem_of_getElem? (i := 177) (by decide +kernel))), by decide +kernel⟩
theorem tw_754 : Jvm.Cond.code ({ cls := "DeepHole$Reader", name := "takeWord", desc := "(Ljava/lang/String;)V" } : Jvm.MethodName) prog_8_method_15_code (2 : Nat) (Option.none : Option Jvm.ClassFile.FieldType) ∈ TB := List.mem_filter.mpr ⟨(ch_3 (List.mem_of_getElem? (i := 178) (by decide +kernel))), by decide +kernel⟩
theorem tw_755 : Jvm.Cond.methodLink "DeepHole$Reader" (150 : Nat) ({ cls := "DeepHole$Reader", name := "takeWhole", desc := "(II)I" } : Jvm.MethodName) ∈ TB := List.mem_filter.mpr ⟨(ch_3 (List.mem_of_getElem? (i := 179) (by decide +kernel))), by decide +kernel⟩
theorem tw_757 : Jvm.Cond.instanceMethod ({ cls := "DeepHole$Reader", name := "takeWhole", desc := "(II)I" } : Jvm.MethodName) ∈ TB := List.mem_filter.mpr ⟨(ch_3 (List.mem_of_getElem? (i := 181) (by decide +kernel))), by decide +kernel⟩
theorem tw_758 : Jvm.Cond.code ({ cls := "DeepHole$Reader", name := "takeWhole", desc := "(II)I" } : Jvm.MethodName) prog_8_method_17_code (4 : Nat) (Option.some Jvm.ClassFile.FieldType.int) ∈ TB := List.mem_filter.mpr ⟨(ch_3 (List.mem_of_getElem? (i := 182) (by decide +kernel))), by decide +kernel⟩
theorem tw_762 : Jvm.Cond.methodLink "DeepHole$Reader" (54 : Nat) ({ cls := "DeepHole$Reader", name := "readLip", desc := "()V" } : Jvm.MethodName) ∈ TB := List.mem_filter.mpr ⟨(ch_3 (List.mem_of_getElem? (i := 186) (by decide +kernel))), by decide +kernel⟩
theorem tw_764 : Jvm.Cond.instanceMethod ({ cls := "DeepHole$Reader", name := "readLip", desc := "()V" } : Jvm.MethodName) ∈ TB := List.mem_filter.mpr ⟨(ch_3 (List.mem_of_getElem? (i := 188) (by decide +kernel))), by decide +kernel⟩
theorem tw_765 : Jvm.Cond.code ({ cls := "DeepHole$Reader", name := "readLip", desc := "()V" } : Jvm.MethodName) prog_8_method_8_code (1 : Nat) (Option.none : Option Jvm.ClassFile.FieldType) ∈ TB := List.mem_filter.mpr ⟨(ch_3 (List.mem_of_getElem? (i := 189) (by decide +kernel))), by decide +kernel⟩
theorem tw_770 : Jvm.Cond.methodLink "DeepHole$Reader" (59 : Nat) ({ cls := "DeepHole$Reader", name := "readCosts", desc := "()V" } : Jvm.MethodName) ∈ TB := List.mem_filter.mpr ⟨(ch_3 (List.mem_of_getElem? (i := 194) (by decide +kernel))), by decide +kernel⟩
theorem tw_772 : Jvm.Cond.instanceMethod ({ cls := "DeepHole$Reader", name := "readCosts", desc := "()V" } : Jvm.MethodName) ∈ TB := List.mem_filter.mpr ⟨(ch_3 (List.mem_of_getElem? (i := 196) (by decide +kernel))), by decide +kernel⟩
theorem tw_773 : Jvm.Cond.code ({ cls := "DeepHole$Reader", name := "readCosts", desc := "()V" } : Jvm.MethodName) prog_8_method_9_code (1 : Nat) (Option.none : Option Jvm.ClassFile.FieldType) ∈ TB := List.mem_filter.mpr ⟨(ch_3 (List.mem_of_getElem? (i := 197) (by decide +kernel))), by decide +kernel⟩
theorem tw_777 : Jvm.Cond.methodLink "DeepHole$Reader" (64 : Nat) ({ cls := "DeepHole$Reader", name := "readWay", desc := "()V" } : Jvm.MethodName) ∈ TB := List.mem_filter.mpr ⟨(ch_3 (List.mem_of_getElem? (i := 201) (by decide +kernel))), by decide +kernel⟩
theorem tw_779 : Jvm.Cond.instanceMethod ({ cls := "DeepHole$Reader", name := "readWay", desc := "()V" } : Jvm.MethodName) ∈ TB := List.mem_filter.mpr ⟨(ch_3 (List.mem_of_getElem? (i := 203) (by decide +kernel))), by decide +kernel⟩
theorem tw_780 : Jvm.Cond.code ({ cls := "DeepHole$Reader", name := "readWay", desc := "()V" } : Jvm.MethodName) prog_8_method_10_code (5 : Nat) (Option.none : Option Jvm.ClassFile.FieldType) ∈ TB := List.mem_filter.mpr ⟨(ch_3 (List.mem_of_getElem? (i := 204) (by decide +kernel))), by decide +kernel⟩
theorem tw_781 : Jvm.Cond.methodLink "DeepHole$Reader" (184 : Nat) ({ cls := "DeepHole$Reader", name := "takeNewName", desc := "(I)V" } : Jvm.MethodName) ∈ TB := List.mem_filter.mpr ⟨(ch_3 (List.mem_of_getElem? (i := 205) (by decide +kernel))), by decide +kernel⟩
theorem tw_783 : Jvm.Cond.instanceMethod ({ cls := "DeepHole$Reader", name := "takeNewName", desc := "(I)V" } : Jvm.MethodName) ∈ TB := List.mem_filter.mpr ⟨(ch_3 (List.mem_of_getElem? (i := 207) (by decide +kernel))), by decide +kernel⟩
theorem tw_784 : Jvm.Cond.code ({ cls := "DeepHole$Reader", name := "takeNewName", desc := "(I)V" } : Jvm.MethodName) prog_8_method_20_code (2 : Nat) (Option.none : Option Jvm.ClassFile.FieldType) ∈ TB := List.mem_filter.mpr ⟨(ch_3 (List.mem_of_getElem? (i := 208) (by decide +kernel))), by decide +kernel⟩
theorem tw_785 : Jvm.Cond.methodLink "DeepHole$Reader" (261 : Nat) ({ cls := "DeepHole$Reader", name := "isName", desc := "()Z" } : Jvm.MethodName) ∈ TB := List.mem_filter.mpr ⟨(ch_3 (List.mem_of_getElem? (i := 209) (by decide +kernel))), by decide +kernel⟩
theorem tw_787 : Jvm.Cond.instanceMethod ({ cls := "DeepHole$Reader", name := "isName", desc := "()Z" } : Jvm.MethodName) ∈ TB := List.mem_filter.mpr ⟨(ch_3 (List.mem_of_getElem? (i := 211) (by decide +kernel))), by decide +kernel⟩
theorem tw_788 : Jvm.Cond.code ({ cls := "DeepHole$Reader", name := "isName", desc := "()Z" } : Jvm.MethodName) prog_8_method_22_code (1 : Nat) (Option.some Jvm.ClassFile.FieldType.boolean) ∈ TB := List.mem_filter.mpr ⟨(ch_3 (List.mem_of_getElem? (i := 212) (by decide +kernel))), by decide +kernel⟩
theorem tw_793 : Jvm.Cond.methodLink "DeepHole$Reader" (265 : Nat) ({ cls := "DeepHole$Reader", name := "findName", desc := "()I" } : Jvm.MethodName) ∈ TB := List.mem_filter.mpr ⟨(ch_3 (List.mem_of_getElem? (i := 217) (by decide +kernel))), by decide +kernel⟩
theorem tw_795 : Jvm.Cond.instanceMethod ({ cls := "DeepHole$Reader", name := "findName", desc := "()I" } : Jvm.MethodName) ∈ TB := List.mem_filter.mpr ⟨(ch_3 (List.mem_of_getElem? (i := 219) (by decide +kernel))), by decide +kernel⟩
theorem tw_796 : Jvm.Cond.code ({ cls := "DeepHole$Reader", name := "findName", desc := "()I" } : Jvm.MethodName) prog_8_method_23_code (2 : Nat) (Option.some Jvm.ClassFile.FieldType.int) ∈ TB := List.mem_filter.mpr ⟨(ch_3 (List.mem_of_getElem? (i := 220) (by decide +kernel))), by decide +kernel⟩
theorem tw_797 : Jvm.Cond.methodLink "DeepHole$Reader" (271 : Nat) ({ cls := "DeepHole$Tokens", name := "isLike", desc := "(II)Z" } : Jvm.MethodName) ∈ TB := List.mem_filter.mpr ⟨(ch_3 (List.mem_of_getElem? (i := 221) (by decide +kernel))), by decide +kernel⟩
theorem tw_798 : Jvm.Cond.instanceMethod ({ cls := "DeepHole$Tokens", name := "isLike", desc := "(II)Z" } : Jvm.MethodName) ∈ TB := List.mem_filter.mpr ⟨(ch_3 (List.mem_of_getElem? (i := 222) (by decide +kernel))), by decide +kernel⟩
theorem tw_799 : Jvm.Cond.selects "DeepHole$Tokens" ({ cls := "DeepHole$Tokens", name := "isLike", desc := "(II)Z" } : Jvm.MethodName) ({ cls := "DeepHole$Tokens", name := "isLike", desc := "(II)Z" } : Jvm.MethodName) ∈ TB := List.mem_filter.mpr ⟨(ch_3 (List.mem_of_getElem? (i := 223) (by decide +kernel))), by decide +kernel⟩
theorem tw_800 : Jvm.Cond.code ({ cls := "DeepHole$Tokens", name := "isLike", desc := "(II)Z" } : Jvm.MethodName) prog_11_method_8_code (4 : Nat) (Option.some Jvm.ClassFile.FieldType.boolean) ∈ TB := List.mem_filter.mpr ⟨(ch_3 (List.mem_of_getElem? (i := 224) (by decide +kernel))), by decide +kernel⟩
theorem tw_804 : Jvm.Cond.methodLink "DeepHole$Reader" (69 : Nat) ({ cls := "DeepHole$Reader", name := "readHard", desc := "()V" } : Jvm.MethodName) ∈ TB := List.mem_filter.mpr ⟨(ch_3 (List.mem_of_getElem? (i := 228) (by decide +kernel))), by decide +kernel⟩
theorem tw_806 : Jvm.Cond.instanceMethod ({ cls := "DeepHole$Reader", name := "readHard", desc := "()V" } : Jvm.MethodName) ∈ TB := List.mem_filter.mpr ⟨(ch_3 (List.mem_of_getElem? (i := 230) (by decide +kernel))), by decide +kernel⟩
theorem tw_807 : Jvm.Cond.code ({ cls := "DeepHole$Reader", name := "readHard", desc := "()V" } : Jvm.MethodName) prog_8_method_11_code (4 : Nat) (Option.none : Option Jvm.ClassFile.FieldType) ∈ TB := List.mem_filter.mpr ⟨(ch_3 (List.mem_of_getElem? (i := 231) (by decide +kernel))), by decide +kernel⟩
theorem tw_809 : Jvm.Cond.methodLink "DeepHole$Reader" (204 : Nat) ({ cls := "DeepHole$Reader", name := "takeSide", desc := "()I" } : Jvm.MethodName) ∈ TB := List.mem_filter.mpr ⟨(ch_3 (List.mem_of_getElem? (i := 233) (by decide +kernel))), by decide +kernel⟩
theorem tw_811 : Jvm.Cond.instanceMethod ({ cls := "DeepHole$Reader", name := "takeSide", desc := "()I" } : Jvm.MethodName) ∈ TB := List.mem_filter.mpr ⟨(ch_3 (List.mem_of_getElem? (i := 235) (by decide +kernel))), by decide +kernel⟩
theorem tw_812 : Jvm.Cond.code ({ cls := "DeepHole$Reader", name := "takeSide", desc := "()I" } : Jvm.MethodName) prog_8_method_19_code (2 : Nat) (Option.some Jvm.ClassFile.FieldType.int) ∈ TB := List.mem_filter.mpr ⟨(ch_3 (List.mem_of_getElem? (i := 236) (by decide +kernel))), by decide +kernel⟩
theorem tw_817 : Jvm.Cond.methodLink "DeepHole$Reader" (74 : Nat) ({ cls := "DeepHole$Reader", name := "readFrom", desc := "()V" } : Jvm.MethodName) ∈ TB := List.mem_filter.mpr ⟨(ch_4 (List.mem_of_getElem? (i := 1) (by decide +kernel))), by decide +kernel⟩
theorem tw_819 : Jvm.Cond.instanceMethod ({ cls := "DeepHole$Reader", name := "readFrom", desc := "()V" } : Jvm.MethodName) ∈ TB := List.mem_filter.mpr ⟨(ch_4 (List.mem_of_getElem? (i := 3) (by decide +kernel))), by decide +kernel⟩
theorem tw_820 : Jvm.Cond.code ({ cls := "DeepHole$Reader", name := "readFrom", desc := "()V" } : Jvm.MethodName) prog_8_method_12_code (6 : Nat) (Option.none : Option Jvm.ClassFile.FieldType) ∈ TB := List.mem_filter.mpr ⟨(ch_4 (List.mem_of_getElem? (i := 4) (by decide +kernel))), by decide +kernel⟩
theorem tw_822 : Jvm.Cond.methodLink "DeepHole$Reader" (220 : Nat) ({ cls := "DeepHole$Reader", name := "takeWayName", desc := "()I" } : Jvm.MethodName) ∈ TB := List.mem_filter.mpr ⟨(ch_4 (List.mem_of_getElem? (i := 6) (by decide +kernel))), by decide +kernel⟩
theorem tw_824 : Jvm.Cond.instanceMethod ({ cls := "DeepHole$Reader", name := "takeWayName", desc := "()I" } : Jvm.MethodName) ∈ TB := List.mem_filter.mpr ⟨(ch_4 (List.mem_of_getElem? (i := 8) (by decide +kernel))), by decide +kernel⟩
theorem tw_825 : Jvm.Cond.code ({ cls := "DeepHole$Reader", name := "takeWayName", desc := "()I" } : Jvm.MethodName) prog_8_method_21_code (3 : Nat) (Option.some Jvm.ClassFile.FieldType.int) ∈ TB := List.mem_filter.mpr ⟨(ch_4 (List.mem_of_getElem? (i := 9) (by decide +kernel))), by decide +kernel⟩
theorem tw_826 : Jvm.Cond.methodLink "DeepHole$Reader" (223 : Nat) ({ cls := "DeepHole$Reader", name := "takeIfWord", desc := "(Ljava/lang/String;)Z" } : Jvm.MethodName) ∈ TB := List.mem_filter.mpr ⟨(ch_4 (List.mem_of_getElem? (i := 10) (by decide +kernel))), by decide +kernel⟩
theorem tw_828 : Jvm.Cond.instanceMethod ({ cls := "DeepHole$Reader", name := "takeIfWord", desc := "(Ljava/lang/String;)Z" } : Jvm.MethodName) ∈ TB := List.mem_filter.mpr ⟨(ch_4 (List.mem_of_getElem? (i := 12) (by decide +kernel))), by decide +kernel⟩
theorem tw_829 : Jvm.Cond.code ({ cls := "DeepHole$Reader", name := "takeIfWord", desc := "(Ljava/lang/String;)Z" } : Jvm.MethodName) prog_8_method_16_code (2 : Nat) (Option.some Jvm.ClassFile.FieldType.boolean) ∈ TB := List.mem_filter.mpr ⟨(ch_4 (List.mem_of_getElem? (i := 13) (by decide +kernel))), by decide +kernel⟩
theorem tw_830 : Jvm.Cond.methodLink "DeepHole$Reader" (232 : Nat) ({ cls := "DeepHole$Plan", name := "from", desc := "(III)V" } : Jvm.MethodName) ∈ TB := List.mem_filter.mpr ⟨(ch_4 (List.mem_of_getElem? (i := 14) (by decide +kernel))), by decide +kernel⟩
theorem tw_831 : Jvm.Cond.instanceMethod ({ cls := "DeepHole$Plan", name := "from", desc := "(III)V" } : Jvm.MethodName) ∈ TB := List.mem_filter.mpr ⟨(ch_4 (List.mem_of_getElem? (i := 15) (by decide +kernel))), by decide +kernel⟩
theorem tw_832 : Jvm.Cond.selects "DeepHole$Plan" ({ cls := "DeepHole$Plan", name := "from", desc := "(III)V" } : Jvm.MethodName) ({ cls := "DeepHole$Plan", name := "from", desc := "(III)V" } : Jvm.MethodName) ∈ TB := List.mem_filter.mpr ⟨(ch_4 (List.mem_of_getElem? (i := 16) (by decide +kernel))), by decide +kernel⟩
theorem tw_833 : Jvm.Cond.code ({ cls := "DeepHole$Plan", name := "from", desc := "(III)V" } : Jvm.MethodName) prog_7_method_3_code (5 : Nat) (Option.none : Option Jvm.ClassFile.FieldType) ∈ TB := List.mem_filter.mpr ⟨(ch_4 (List.mem_of_getElem? (i := 17) (by decide +kernel))), by decide +kernel⟩
theorem tw_834 : Jvm.Cond.methodLink "DeepHole$Reader" (79 : Nat) ({ cls := "DeepHole$Reader", name := "readSeer", desc := "()V" } : Jvm.MethodName) ∈ TB := List.mem_filter.mpr ⟨(ch_4 (List.mem_of_getElem? (i := 18) (by decide +kernel))), by decide +kernel⟩
theorem tw_836 : Jvm.Cond.instanceMethod ({ cls := "DeepHole$Reader", name := "readSeer", desc := "()V" } : Jvm.MethodName) ∈ TB := List.mem_filter.mpr ⟨(ch_4 (List.mem_of_getElem? (i := 20) (by decide +kernel))), by decide +kernel⟩
theorem tw_837 : Jvm.Cond.code ({ cls := "DeepHole$Reader", name := "readSeer", desc := "()V" } : Jvm.MethodName) prog_8_method_13_code (3 : Nat) (Option.none : Option Jvm.ClassFile.FieldType) ∈ TB := List.mem_filter.mpr ⟨(ch_4 (List.mem_of_getElem? (i := 21) (by decide +kernel))), by decide +kernel⟩
theorem tw_839 : Jvm.Cond.methodLink "DeepHole$Reader" (88 : Nat) ({ cls := "DeepHole$Reader", name := "lookForLacks", desc := "()V" } : Jvm.MethodName) ∈ TB := List.mem_filter.mpr ⟨(ch_4 (List.mem_of_getElem? (i := 23) (by decide +kernel))), by decide +kernel⟩
theorem tw_841 : Jvm.Cond.instanceMethod ({ cls := "DeepHole$Reader", name := "lookForLacks", desc := "()V" } : Jvm.MethodName) ∈ TB := List.mem_filter.mpr ⟨(ch_4 (List.mem_of_getElem? (i := 25) (by decide +kernel))), by decide +kernel⟩
theorem tw_842 : Jvm.Cond.code ({ cls := "DeepHole$Reader", name := "lookForLacks", desc := "()V" } : Jvm.MethodName) prog_8_method_6_code (1 : Nat) (Option.none : Option Jvm.ClassFile.FieldType) ∈ TB := List.mem_filter.mpr ⟨(ch_4 (List.mem_of_getElem? (i := 26) (by decide +kernel))), by decide +kernel⟩
theorem tw_843 : Jvm.Cond.methodLink "DeepHole" (102 : Nat) ({ cls := "DeepHole$Reader", name := "exchange", desc := "(LDeepHole$Shop;)LDeepHole$Shop;" } : Jvm.MethodName) ∈ TB := List.mem_filter.mpr ⟨(ch_4 (List.mem_of_getElem? (i := 27) (by decide +kernel))), by decide +kernel⟩
theorem tw_844 : Jvm.Cond.instanceMethod ({ cls := "DeepHole$Reader", name := "exchange", desc := "(LDeepHole$Shop;)LDeepHole$Shop;" } : Jvm.MethodName) ∈ TB := List.mem_filter.mpr ⟨(ch_4 (List.mem_of_getElem? (i := 28) (by decide +kernel))), by decide +kernel⟩
theorem tw_845 : Jvm.Cond.selects "DeepHole$Reader" ({ cls := "DeepHole$Reader", name := "exchange", desc := "(LDeepHole$Shop;)LDeepHole$Shop;" } : Jvm.MethodName) ({ cls := "DeepHole$Reader", name := "exchange", desc := "(LDeepHole$Shop;)LDeepHole$Shop;" } : Jvm.MethodName) ∈ TB := List.mem_filter.mpr ⟨(ch_4 (List.mem_of_getElem? (i := 29) (by decide +kernel))), by decide +kernel⟩
theorem tw_846 : Jvm.Cond.code ({ cls := "DeepHole$Reader", name := "exchange", desc := "(LDeepHole$Shop;)LDeepHole$Shop;" } : Jvm.MethodName) prog_8_method_3_code (3 : Nat) (Option.some (Jvm.ClassFile.FieldType.object "DeepHole$Shop")) ∈ TB := List.mem_filter.mpr ⟨(ch_4 (List.mem_of_getElem? (i := 30) (by decide +kernel))), by decide +kernel⟩
theorem tw_847 : Jvm.Cond.methodLink "DeepHole" (106 : Nat) ({ cls := "DeepHole$Hole", name := "begin", desc := "(Z)V" } : Jvm.MethodName) ∈ TB := List.mem_filter.mpr ⟨(ch_4 (List.mem_of_getElem? (i := 31) (by decide +kernel))), by decide +kernel⟩
theorem tw_848 : Jvm.Cond.instanceMethod ({ cls := "DeepHole$Hole", name := "begin", desc := "(Z)V" } : Jvm.MethodName) ∈ TB := List.mem_filter.mpr ⟨(ch_4 (List.mem_of_getElem? (i := 32) (by decide +kernel))), by decide +kernel⟩
theorem tw_849 : Jvm.Cond.selects "DeepHole$Hole" ({ cls := "DeepHole$Hole", name := "begin", desc := "(Z)V" } : Jvm.MethodName) ({ cls := "DeepHole$Hole", name := "begin", desc := "(Z)V" } : Jvm.MethodName) ∈ TB := List.mem_filter.mpr ⟨(ch_4 (List.mem_of_getElem? (i := 33) (by decide +kernel))), by decide +kernel⟩
theorem tw_850 : Jvm.Cond.code ({ cls := "DeepHole$Hole", name := "begin", desc := "(Z)V" } : Jvm.MethodName) prog_5_method_2_code (2 : Nat) (Option.none : Option Jvm.ClassFile.FieldType) ∈ TB := List.mem_filter.mpr ⟨(ch_4 (List.mem_of_getElem? (i := 34) (by decide +kernel))), by decide +kernel⟩
theorem tw_851 : Jvm.Cond.methodLink "DeepHole$Hole" (33 : Nat) ({ cls := "DeepHole$Bit", name := "begin", desc := "(II)V" } : Jvm.MethodName) ∈ TB := List.mem_filter.mpr ⟨(ch_4 (List.mem_of_getElem? (i := 35) (by decide +kernel))), by decide +kernel⟩
theorem tw_852 : Jvm.Cond.instanceMethod ({ cls := "DeepHole$Bit", name := "begin", desc := "(II)V" } : Jvm.MethodName) ∈ TB := List.mem_filter.mpr ⟨(ch_4 (List.mem_of_getElem? (i := 36) (by decide +kernel))), by decide +kernel⟩
theorem tw_853 : Jvm.Cond.selects "DeepHole$Bit" ({ cls := "DeepHole$Bit", name := "begin", desc := "(II)V" } : Jvm.MethodName) ({ cls := "DeepHole$Bit", name := "begin", desc := "(II)V" } : Jvm.MethodName) ∈ TB := List.mem_filter.mpr ⟨(ch_4 (List.mem_of_getElem? (i := 37) (by decide +kernel))), by decide +kernel⟩
theorem tw_854 : Jvm.Cond.code ({ cls := "DeepHole$Bit", name := "begin", desc := "(II)V" } : Jvm.MethodName) prog_3_method_2_code (3 : Nat) (Option.none : Option Jvm.ClassFile.FieldType) ∈ TB := List.mem_filter.mpr ⟨(ch_4 (List.mem_of_getElem? (i := 38) (by decide +kernel))), by decide +kernel⟩
theorem tw_855 : Jvm.Cond.methodLink "DeepHole" (110 : Nat) ({ cls := "DeepHole$Search", name := "drop", desc := "()V" } : Jvm.MethodName) ∈ TB := List.mem_filter.mpr ⟨(ch_4 (List.mem_of_getElem? (i := 39) (by decide +kernel))), by decide +kernel⟩
theorem tw_856 : Jvm.Cond.instanceMethod ({ cls := "DeepHole$Search", name := "drop", desc := "()V" } : Jvm.MethodName) ∈ TB := List.mem_filter.mpr ⟨(ch_4 (List.mem_of_getElem? (i := 40) (by decide +kernel))), by decide +kernel⟩
theorem tw_857 : Jvm.Cond.selects "DeepHole$Search" ({ cls := "DeepHole$Search", name := "drop", desc := "()V" } : Jvm.MethodName) ({ cls := "DeepHole$Search", name := "drop", desc := "()V" } : Jvm.MethodName) ∈ TB := List.mem_filter.mpr ⟨(ch_4 (List.mem_of_getElem? (i := 41) (by decide +kernel))), by decide +kernel⟩
theorem tw_858 : Jvm.Cond.code ({ cls := "DeepHole$Search", name := "drop", desc := "()V" } : Jvm.MethodName) prog_9_method_2_code (1 : Nat) (Option.none : Option Jvm.ClassFile.FieldType) ∈ TB := List.mem_filter.mpr ⟨(ch_4 (List.mem_of_getElem? (i := 42) (by decide +kernel))), by decide +kernel⟩
theorem tw_859 : Jvm.Cond.methodLink "DeepHole" (113 : Nat) ({ cls := "DeepHole$Needle", name := "drop", desc := "()V" } : Jvm.MethodName) ∈ TB := List.mem_filter.mpr ⟨(ch_4 (List.mem_of_getElem? (i := 43) (by decide +kernel))), by decide +kernel⟩
theorem tw_860 : Jvm.Cond.instanceMethod ({ cls := "DeepHole$Needle", name := "drop", desc := "()V" } : Jvm.MethodName) ∈ TB := List.mem_filter.mpr ⟨(ch_4 (List.mem_of_getElem? (i := 44) (by decide +kernel))), by decide +kernel⟩
theorem tw_861 : Jvm.Cond.selects "DeepHole$Needle" ({ cls := "DeepHole$Needle", name := "drop", desc := "()V" } : Jvm.MethodName) ({ cls := "DeepHole$Needle", name := "drop", desc := "()V" } : Jvm.MethodName) ∈ TB := List.mem_filter.mpr ⟨(ch_4 (List.mem_of_getElem? (i := 45) (by decide +kernel))), by decide +kernel⟩
theorem tw_862 : Jvm.Cond.code ({ cls := "DeepHole$Needle", name := "drop", desc := "()V" } : Jvm.MethodName) prog_6_method_2_code (1 : Nat) (Option.none : Option Jvm.ClassFile.FieldType) ∈ TB := List.mem_filter.mpr ⟨(ch_4 (List.mem_of_getElem? (i := 46) (by decide +kernel))), by decide +kernel⟩
theorem tw_863 : Jvm.Cond.methodLink "DeepHole" (114 : Nat) ({ cls := "DeepHole$Bench", name := "drop", desc := "()V" } : Jvm.MethodName) ∈ TB := List.mem_filter.mpr ⟨(ch_4 (List.mem_of_getElem? (i := 47) (by decide +kernel))), by decide +kernel⟩
theorem tw_864 : Jvm.Cond.instanceMethod ({ cls := "DeepHole$Bench", name := "drop", desc := "()V" } : Jvm.MethodName) ∈ TB := List.mem_filter.mpr ⟨(ch_4 (List.mem_of_getElem? (i := 48) (by decide +kernel))), by decide +kernel⟩
theorem tw_865 : Jvm.Cond.selects "DeepHole$Bench" ({ cls := "DeepHole$Bench", name := "drop", desc := "()V" } : Jvm.MethodName) ({ cls := "DeepHole$Bench", name := "drop", desc := "()V" } : Jvm.MethodName) ∈ TB := List.mem_filter.mpr ⟨(ch_4 (List.mem_of_getElem? (i := 49) (by decide +kernel))), by decide +kernel⟩
theorem tw_866 : Jvm.Cond.code ({ cls := "DeepHole$Bench", name := "drop", desc := "()V" } : Jvm.MethodName) prog_2_method_2_code (1 : Nat) (Option.none : Option Jvm.ClassFile.FieldType) ∈ TB := List.mem_filter.mpr ⟨(ch_4 (List.mem_of_getElem? (i := 50) (by decide +kernel))), by decide +kernel⟩
theorem tw_867 : Jvm.Cond.methodLink "DeepHole" (115 : Nat) ({ cls := "DeepHole$Walls", name := "drop", desc := "()V" } : Jvm.MethodName) ∈ TB := List.mem_filter.mpr ⟨(ch_4 (List.mem_of_getElem? (i := 51) (by decide +kernel))), by decide +kernel⟩
theorem tw_868 : Jvm.Cond.instanceMethod ({ cls := "DeepHole$Walls", name := "drop", desc := "()V" } : Jvm.MethodName) ∈ TB := List.mem_filter.mpr ⟨(ch_4 (List.mem_of_getElem? (i := 52) (by decide +kernel))), by decide +kernel⟩
theorem tw_869 : Jvm.Cond.selects "DeepHole$Walls" ({ cls := "DeepHole$Walls", name := "drop", desc := "()V" } : Jvm.MethodName) ({ cls := "DeepHole$Walls", name := "drop", desc := "()V" } : Jvm.MethodName) ∈ TB := List.mem_filter.mpr ⟨(ch_4 (List.mem_of_getElem? (i := 53) (by decide +kernel))), by decide +kernel⟩
theorem tw_870 : Jvm.Cond.code ({ cls := "DeepHole$Walls", name := "drop", desc := "()V" } : Jvm.MethodName) prog_12_method_2_code (2 : Nat) (Option.none : Option Jvm.ClassFile.FieldType) ∈ TB := List.mem_filter.mpr ⟨(ch_4 (List.mem_of_getElem? (i := 54) (by decide +kernel))), by decide +kernel⟩
theorem tw_871 : Jvm.Cond.methodLink "DeepHole" (119 : Nat) ({ cls := "DeepHole", name := "accept", desc := "(I)I" } : Jvm.MethodName) ∈ TB := List.mem_filter.mpr ⟨(ch_4 (List.mem_of_getElem? (i := 55) (by decide +kernel))), by decide +kernel⟩
theorem tw_873 : Jvm.Cond.instanceMethod ({ cls := "DeepHole", name := "accept", desc := "(I)I" } : Jvm.MethodName) ∈ TB := List.mem_filter.mpr ⟨(ch_4 (List.mem_of_getElem? (i := 57) (by decide +kernel))), by decide +kernel⟩
theorem tw_874 : Jvm.Cond.code ({ cls := "DeepHole", name := "accept", desc := "(I)I" } : Jvm.MethodName) prog_1_method_35_code (2 : Nat) (Option.some Jvm.ClassFile.FieldType.int) ∈ TB := List.mem_filter.mpr ⟨(ch_4 (List.mem_of_getElem? (i := 58) (by decide +kernel))), by decide +kernel⟩
theorem tw_875 : Jvm.Cond.methodLink "DeepHoleLaw" (28 : Nat) ({ cls := "DeepHole", name := "fault", desc := "()I" } : Jvm.MethodName) ∈ TB := List.mem_filter.mpr ⟨(ch_4 (List.mem_of_getElem? (i := 59) (by decide +kernel))), by decide +kernel⟩
theorem tw_876 : Jvm.Cond.instanceMethod ({ cls := "DeepHole", name := "fault", desc := "()I" } : Jvm.MethodName) ∈ TB := List.mem_filter.mpr ⟨(ch_4 (List.mem_of_getElem? (i := 60) (by decide +kernel))), by decide +kernel⟩
theorem tw_877 : Jvm.Cond.selects "DeepHole" ({ cls := "DeepHole", name := "fault", desc := "()I" } : Jvm.MethodName) ({ cls := "DeepHole", name := "fault", desc := "()I" } : Jvm.MethodName) ∈ TB := List.mem_filter.mpr ⟨(ch_4 (List.mem_of_getElem? (i := 61) (by decide +kernel))), by decide +kernel⟩
theorem tw_878 : Jvm.Cond.code ({ cls := "DeepHole", name := "fault", desc := "()I" } : Jvm.MethodName) prog_1_method_4_code (1 : Nat) (Option.some Jvm.ClassFile.FieldType.int) ∈ TB := List.mem_filter.mpr ⟨(ch_4 (List.mem_of_getElem? (i := 62) (by decide +kernel))), by decide +kernel⟩
theorem tw_879 : Jvm.Cond.methodLink "DeepHoleLaw" (33 : Nat) ({ cls := "DeepHole", name := "where", desc := "()I" } : Jvm.MethodName) ∈ TB := List.mem_filter.mpr ⟨(ch_4 (List.mem_of_getElem? (i := 63) (by decide +kernel))), by decide +kernel⟩
theorem tw_880 : Jvm.Cond.instanceMethod ({ cls := "DeepHole", name := "where", desc := "()I" } : Jvm.MethodName) ∈ TB := List.mem_filter.mpr ⟨(ch_4 (List.mem_of_getElem? (i := 64) (by decide +kernel))), by decide +kernel⟩
theorem tw_881 : Jvm.Cond.selects "DeepHole" ({ cls := "DeepHole", name := "where", desc := "()I" } : Jvm.MethodName) ({ cls := "DeepHole", name := "where", desc := "()I" } : Jvm.MethodName) ∈ TB := List.mem_filter.mpr ⟨(ch_4 (List.mem_of_getElem? (i := 65) (by decide +kernel))), by decide +kernel⟩
theorem tw_882 : Jvm.Cond.code ({ cls := "DeepHole", name := "where", desc := "()I" } : Jvm.MethodName) prog_1_method_5_code (1 : Nat) (Option.some Jvm.ClassFile.FieldType.int) ∈ TB := List.mem_filter.mpr ⟨(ch_4 (List.mem_of_getElem? (i := 66) (by decide +kernel))), by decide +kernel⟩
theorem tw_883 : Jvm.Cond.methodLink "DeepHoleLaw" (37 : Nat) ({ cls := "DeepHole", name := "rod", desc := "(Z)Z" } : Jvm.MethodName) ∈ TB := List.mem_filter.mpr ⟨(ch_4 (List.mem_of_getElem? (i := 67) (by decide +kernel))), by decide +kernel⟩
theorem tw_884 : Jvm.Cond.instanceMethod ({ cls := "DeepHole", name := "rod", desc := "(Z)Z" } : Jvm.MethodName) ∈ TB := List.mem_filter.mpr ⟨(ch_4 (List.mem_of_getElem? (i := 68) (by decide +kernel))), by decide +kernel⟩
theorem tw_885 : Jvm.Cond.selects "DeepHole" ({ cls := "DeepHole", name := "rod", desc := "(Z)Z" } : Jvm.MethodName) ({ cls := "DeepHole", name := "rod", desc := "(Z)Z" } : Jvm.MethodName) ∈ TB := List.mem_filter.mpr ⟨(ch_4 (List.mem_of_getElem? (i := 69) (by decide +kernel))), by decide +kernel⟩
theorem tw_886 : Jvm.Cond.code ({ cls := "DeepHole", name := "rod", desc := "(Z)Z" } : Jvm.MethodName) prog_1_method_6_code (2 : Nat) (Option.some Jvm.ClassFile.FieldType.boolean) ∈ TB := List.mem_filter.mpr ⟨(ch_4 (List.mem_of_getElem? (i := 70) (by decide +kernel))), by decide +kernel⟩
theorem tw_887 : Jvm.Cond.methodLink "DeepHoleLaw" (42 : Nat) ({ cls := "DeepHole", name := "drill", desc := "(I)I" } : Jvm.MethodName) ∈ TB := List.mem_filter.mpr ⟨(ch_4 (List.mem_of_getElem? (i := 71) (by decide +kernel))), by decide +kernel⟩
theorem tw_888 : Jvm.Cond.instanceMethod ({ cls := "DeepHole", name := "drill", desc := "(I)I" } : Jvm.MethodName) ∈ TB := List.mem_filter.mpr ⟨(ch_4 (List.mem_of_getElem? (i := 72) (by decide +kernel))), by decide +kernel⟩
theorem tw_889 : Jvm.Cond.selects "DeepHole" ({ cls := "DeepHole", name := "drill", desc := "(I)I" } : Jvm.MethodName) ({ cls := "DeepHole", name := "drill", desc := "(I)I" } : Jvm.MethodName) ∈ TB := List.mem_filter.mpr ⟨(ch_4 (List.mem_of_getElem? (i := 73) (by decide +kernel))), by decide +kernel⟩
theorem tw_890 : Jvm.Cond.code ({ cls := "DeepHole", name := "drill", desc := "(I)I" } : Jvm.MethodName) prog_1_method_7_code (4 : Nat) (Option.some Jvm.ClassFile.FieldType.int) ∈ TB := List.mem_filter.mpr ⟨(ch_4 (List.mem_of_getElem? (i := 74) (by decide +kernel))), by decide +kernel⟩
theorem tw_891 : Jvm.Cond.methodLink "DeepHole" (122 : Nat) ({ cls := "DeepHole$Hole", name := "fateIn", desc := "(LDeepHole$Shop;)I" } : Jvm.MethodName) ∈ TB := List.mem_filter.mpr ⟨(ch_4 (List.mem_of_getElem? (i := 75) (by decide +kernel))), by decide +kernel⟩
theorem tw_892 : Jvm.Cond.instanceMethod ({ cls := "DeepHole$Hole", name := "fateIn", desc := "(LDeepHole$Shop;)I" } : Jvm.MethodName) ∈ TB := List.mem_filter.mpr ⟨(ch_4 (List.mem_of_getElem? (i := 76) (by decide +kernel))), by decide +kernel⟩
theorem tw_893 : Jvm.Cond.selects "DeepHole$Hole" ({ cls := "DeepHole$Hole", name := "fateIn", desc := "(LDeepHole$Shop;)I" } : Jvm.MethodName) ({ cls := "DeepHole$Hole", name := "fateIn", desc := "(LDeepHole$Shop;)I" } : Jvm.MethodName) ∈ TB := List.mem_filter.mpr ⟨(ch_4 (List.mem_of_getElem? (i := 77) (by decide +kernel))), by decide +kernel⟩
theorem tw_894 : Jvm.Cond.code ({ cls := "DeepHole$Hole", name := "fateIn", desc := "(LDeepHole$Shop;)I" } : Jvm.MethodName) prog_5_method_5_code (2 : Nat) (Option.some Jvm.ClassFile.FieldType.int) ∈ TB := List.mem_filter.mpr ⟨(ch_4 (List.mem_of_getElem? (i := 78) (by decide +kernel))), by decide +kernel⟩
theorem tw_895 : Jvm.Cond.methodLink "DeepHole$Hole" (48 : Nat) ({ cls := "DeepHole$Bit", name := "isWhole", desc := "()Z" } : Jvm.MethodName) ∈ TB := List.mem_filter.mpr ⟨(ch_4 (List.mem_of_getElem? (i := 79) (by decide +kernel))), by decide +kernel⟩
theorem tw_896 : Jvm.Cond.instanceMethod ({ cls := "DeepHole$Bit", name := "isWhole", desc := "()Z" } : Jvm.MethodName) ∈ TB := List.mem_filter.mpr ⟨(ch_4 (List.mem_of_getElem? (i := 80) (by decide +kernel))), by decide +kernel⟩
theorem tw_897 : Jvm.Cond.selects "DeepHole$Bit" ({ cls := "DeepHole$Bit", name := "isWhole", desc := "()Z" } : Jvm.MethodName) ({ cls := "DeepHole$Bit", name := "isWhole", desc := "()Z" } : Jvm.MethodName) ∈ TB := List.mem_filter.mpr ⟨(ch_4 (List.mem_of_getElem? (i := 81) (by decide +kernel))), by decide +kernel⟩
theorem tw_898 : Jvm.Cond.code ({ cls := "DeepHole$Bit", name := "isWhole", desc := "()Z" } : Jvm.MethodName) prog_3_method_4_code (1 : Nat) (Option.some Jvm.ClassFile.FieldType.boolean) ∈ TB := List.mem_filter.mpr ⟨(ch_4 (List.mem_of_getElem? (i := 82) (by decide +kernel))), by decide +kernel⟩
theorem tw_899 : Jvm.Cond.methodLink "DeepHole" (138 : Nat) ({ cls := "DeepHole$Hole", name := "goOn", desc := "(LDeepHole$Shop;)V" } : Jvm.MethodName) ∈ TB := List.mem_filter.mpr ⟨(ch_4 (List.mem_of_getElem? (i := 83) (by decide +kernel))), by decide +kernel⟩
theorem tw_900 : Jvm.Cond.instanceMethod ({ cls := "DeepHole$Hole", name := "goOn", desc := "(LDeepHole$Shop;)V" } : Jvm.MethodName) ∈ TB := List.mem_filter.mpr ⟨(ch_4 (List.mem_of_getElem? (i := 84) (by decide +kernel))), by decide +kernel⟩
theorem tw_901 : Jvm.Cond.selects "DeepHole$Hole" ({ cls := "DeepHole$Hole", name := "goOn", desc := "(LDeepHole$Shop;)V" } : Jvm.MethodName) ({ cls := "DeepHole$Hole", name := "goOn", desc := "(LDeepHole$Shop;)V" } : Jvm.MethodName) ∈ TB := List.mem_filter.mpr ⟨(ch_4 (List.mem_of_getElem? (i := 85) (by decide +kernel))), by decide +kernel⟩
theorem tw_902 : Jvm.Cond.code ({ cls := "DeepHole$Hole", name := "goOn", desc := "(LDeepHole$Shop;)V" } : Jvm.MethodName) prog_5_method_6_code (3 : Nat) (Option.none : Option Jvm.ClassFile.FieldType) ∈ TB := List.mem_filter.mpr ⟨(ch_4 (List.mem_of_getElem? (i := 86) (by decide +kernel))), by decide +kernel⟩
theorem tw_903 : Jvm.Cond.methodLink "DeepHole$Hole" (60 : Nat) ({ cls := "DeepHole$Shop", name := "spotOf", desc := "(IZ)I" } : Jvm.MethodName) ∈ TB := List.mem_filter.mpr ⟨(ch_4 (List.mem_of_getElem? (i := 87) (by decide +kernel))), by decide +kernel⟩
theorem tw_904 : Jvm.Cond.instanceMethod ({ cls := "DeepHole$Shop", name := "spotOf", desc := "(IZ)I" } : Jvm.MethodName) ∈ TB := List.mem_filter.mpr ⟨(ch_4 (List.mem_of_getElem? (i := 88) (by decide +kernel))), by decide +kernel⟩
theorem tw_905 : Jvm.Cond.selects "DeepHole$Shop" ({ cls := "DeepHole$Shop", name := "spotOf", desc := "(IZ)I" } : Jvm.MethodName) ({ cls := "DeepHole$Shop", name := "spotOf", desc := "(IZ)I" } : Jvm.MethodName) ∈ TB := List.mem_filter.mpr ⟨(ch_4 (List.mem_of_getElem? (i := 89) (by decide +kernel))), by decide +kernel⟩
theorem tw_906 : Jvm.Cond.code ({ cls := "DeepHole$Shop", name := "spotOf", desc := "(IZ)I" } : Jvm.MethodName) prog_10_method_5_code (3 : Nat) (Option.some Jvm.ClassFile.FieldType.int) ∈ TB := List.mem_filter.mpr ⟨(ch_4 (List.mem_of_getElem? (i := 90) (by decide +kernel))), by decide +kernel⟩
theorem tw_907 : Jvm.Cond.methodLink "DeepHole$Hole" (64 : Nat) ({ cls := "DeepHole$Shop", name := "feedFor", desc := "(I)I" } : Jvm.MethodName) ∈ TB := List.mem_filter.mpr ⟨(ch_4 (List.mem_of_getElem? (i := 91) (by decide +kernel))), by decide +kernel⟩
theorem tw_908 : Jvm.Cond.instanceMethod ({ cls := "DeepHole$Shop", name := "feedFor", desc := "(I)I" } : Jvm.MethodName) ∈ TB := List.mem_filter.mpr ⟨(ch_4 (List.mem_of_getElem? (i := 92) (by decide +kernel))), by decide +kernel⟩
theorem tw_909 : Jvm.Cond.selects "DeepHole$Shop" ({ cls := "DeepHole$Shop", name := "feedFor", desc := "(I)I" } : Jvm.MethodName) ({ cls := "DeepHole$Shop", name := "feedFor", desc := "(I)I" } : Jvm.MethodName) ∈ TB := List.mem_filter.mpr ⟨(ch_4 (List.mem_of_getElem? (i := 93) (by decide +kernel))), by decide +kernel⟩
theorem tw_910 : Jvm.Cond.code ({ cls := "DeepHole$Shop", name := "feedFor", desc := "(I)I" } : Jvm.MethodName) prog_10_method_7_code (2 : Nat) (Option.some Jvm.ClassFile.FieldType.int) ∈ TB := List.mem_filter.mpr ⟨(ch_4 (List.mem_of_getElem? (i := 94) (by decide +kernel))), by decide +kernel⟩
theorem tw_911 : Jvm.Cond.methodLink "DeepHole$Hole" (68 : Nat) ({ cls := "DeepHole$Bit", name := "advance", desc := "(LDeepHole$Shop;IIII)V" } : Jvm.MethodName) ∈ TB := List.mem_filter.mpr ⟨(ch_4 (List.mem_of_getElem? (i := 95) (by decide +kernel))), by decide +kernel⟩
theorem tw_912 : Jvm.Cond.instanceMethod ({ cls := "DeepHole$Bit", name := "advance", desc := "(LDeepHole$Shop;IIII)V" } : Jvm.MethodName) ∈ TB := List.mem_filter.mpr ⟨(ch_4 (List.mem_of_getElem? (i := 96) (by decide +kernel))), by decide +kernel⟩
theorem tw_913 : Jvm.Cond.selects "DeepHole$Bit" ({ cls := "DeepHole$Bit", name := "advance", desc := "(LDeepHole$Shop;IIII)V" } : Jvm.MethodName) ({ cls := "DeepHole$Bit", name := "advance", desc := "(LDeepHole$Shop;IIII)V" } : Jvm.MethodName) ∈ TB := List.mem_filter.mpr ⟨(ch_4 (List.mem_of_getElem? (i := 97) (by decide +kernel))), by decide +kernel⟩
theorem tw_914 : Jvm.Cond.code ({ cls := "DeepHole$Bit", name := "advance", desc := "(LDeepHole$Shop;IIII)V" } : Jvm.MethodName) prog_3_method_6_code (13 : Nat) (Option.none : Option Jvm.ClassFile.FieldType) ∈ TB := List.mem_filter.mpr ⟨(ch_4 (List.mem_of_getElem? (i := 98) (by decide +kernel))), by decide +kernel⟩
theorem tw_915 : Jvm.Cond.methodLink "DeepHole$Bit" (46 : Nat) ({ cls := "DeepHole$Bit", name := "prepare", desc := "(LDeepHole$Shop;I)V" } : Jvm.MethodName) ∈ TB := List.mem_filter.mpr ⟨(ch_4 (List.mem_of_getElem? (i := 99) (by decide +kernel))), by decide +kernel⟩
theorem tw_917 : Jvm.Cond.instanceMethod ({ cls := "DeepHole$Bit", name := "prepare", desc := "(LDeepHole$Shop;I)V" } : Jvm.MethodName) ∈ TB := List.mem_filter.mpr ⟨(ch_4 (List.mem_of_getElem? (i := 101) (by decide +kernel))), by decide +kernel⟩
theorem tw_918 : Jvm.Cond.code ({ cls := "DeepHole$Bit", name := "prepare", desc := "(LDeepHole$Shop;I)V" } : Jvm.MethodName) prog_3_method_7_code (4 : Nat) (Option.none : Option Jvm.ClassFile.FieldType) ∈ TB := List.mem_filter.mpr ⟨(ch_4 (List.mem_of_getElem? (i := 102) (by decide +kernel))), by decide +kernel⟩
theorem nw_919 : Jvm.Cond.methodLinkNest "DeepHole$Bit" (92 : Nat) ({ cls := "DeepHole", name := "divided", desc := "(II)I" } : Jvm.MethodName) "DeepHole" ∈ NW := List.mem_filter.mpr ⟨(ch_4 (List.mem_of_getElem? (i := 103) (by decide +kernel))), rfl⟩
theorem tw_920 : Jvm.Cond.static ({ cls := "DeepHole", name := "divided", desc := "(II)I" } : Jvm.MethodName) ∈ TB := List.mem_filter.mpr ⟨(ch_4 (List.mem_of_getElem? (i := 104) (by decide +kernel))), by decide +kernel⟩
theorem tw_921 : Jvm.Cond.code ({ cls := "DeepHole", name := "divided", desc := "(II)I" } : Jvm.MethodName) prog_1_method_41_code (2 : Nat) (Option.some Jvm.ClassFile.FieldType.int) ∈ TB := List.mem_filter.mpr ⟨(ch_4 (List.mem_of_getElem? (i := 105) (by decide +kernel))), by decide +kernel⟩
theorem tw_922 : Jvm.Cond.methodLink "DeepHole$Bit" (50 : Nat) ({ cls := "DeepHole$Shop", name := "hardAt", desc := "(I)I" } : Jvm.MethodName) ∈ TB := List.mem_filter.mpr ⟨(ch_4 (List.mem_of_getElem? (i := 106) (by decide +kernel))), by decide +kernel⟩
theorem tw_923 : Jvm.Cond.instanceMethod ({ cls := "DeepHole$Shop", name := "hardAt", desc := "(I)I" } : Jvm.MethodName) ∈ TB := List.mem_filter.mpr ⟨(ch_4 (List.mem_of_getElem? (i := 107) (by decide +kernel))), by decide +kernel⟩
theorem tw_924 : Jvm.Cond.selects "DeepHole$Shop" ({ cls := "DeepHole$Shop", name := "hardAt", desc := "(I)I" } : Jvm.MethodName) ({ cls := "DeepHole$Shop", name := "hardAt", desc := "(I)I" } : Jvm.MethodName) ∈ TB := List.mem_filter.mpr ⟨(ch_4 (List.mem_of_getElem? (i := 108) (by decide +kernel))), by decide +kernel⟩
theorem tw_925 : Jvm.Cond.code ({ cls := "DeepHole$Shop", name := "hardAt", desc := "(I)I" } : Jvm.MethodName) prog_10_method_3_code (2 : Nat) (Option.some Jvm.ClassFile.FieldType.int) ∈ TB := List.mem_filter.mpr ⟨(ch_4 (List.mem_of_getElem? (i := 109) (by decide +kernel))), by decide +kernel⟩
theorem tw_926 : Jvm.Cond.methodLink "DeepHole$Bit" (55 : Nat) ({ cls := "DeepHole$Shop", name := "wayAt", desc := "(I)I" } : Jvm.MethodName) ∈ TB := List.mem_filter.mpr ⟨(ch_4 (List.mem_of_getElem? (i := 110) (by decide +kernel))), by decide +kernel⟩
theorem tw_927 : Jvm.Cond.instanceMethod ({ cls := "DeepHole$Shop", name := "wayAt", desc := "(I)I" } : Jvm.MethodName) ∈ TB := List.mem_filter.mpr ⟨(ch_4 (List.mem_of_getElem? (i := 111) (by decide +kernel))), by decide +kernel⟩
theorem tw_928 : Jvm.Cond.selects "DeepHole$Shop" ({ cls := "DeepHole$Shop", name := "wayAt", desc := "(I)I" } : Jvm.MethodName) ({ cls := "DeepHole$Shop", name := "wayAt", desc := "(I)I" } : Jvm.MethodName) ∈ TB := List.mem_filter.mpr ⟨(ch_4 (List.mem_of_getElem? (i := 112) (by decide +kernel))), by decide +kernel⟩
theorem tw_929 : Jvm.Cond.code ({ cls := "DeepHole$Shop", name := "wayAt", desc := "(I)I" } : Jvm.MethodName) prog_10_method_6_code (3 : Nat) (Option.some Jvm.ClassFile.FieldType.int) ∈ TB := List.mem_filter.mpr ⟨(ch_4 (List.mem_of_getElem? (i := 113) (by decide +kernel))), by decide +kernel⟩
theorem tw_930 : Jvm.Cond.methodLink "DeepHole$Bit" (77 : Nat) ({ cls := "DeepHole$Shop", name := "sideAt", desc := "(I)I" } : Jvm.MethodName) ∈ TB := List.mem_filter.mpr ⟨(ch_4 (List.mem_of_getElem? (i := 114) (by decide +kernel))), by decide +kernel⟩
theorem tw_931 : Jvm.Cond.instanceMethod ({ cls := "DeepHole$Shop", name := "sideAt", desc := "(I)I" } : Jvm.MethodName) ∈ TB := List.mem_filter.mpr ⟨(ch_4 (List.mem_of_getElem? (i := 115) (by decide +kernel))), by decide +kernel⟩
theorem tw_932 : Jvm.Cond.selects "DeepHole$Shop" ({ cls := "DeepHole$Shop", name := "sideAt", desc := "(I)I" } : Jvm.MethodName) ({ cls := "DeepHole$Shop", name := "sideAt", desc := "(I)I" } : Jvm.MethodName) ∈ TB := List.mem_filter.mpr ⟨(ch_4 (List.mem_of_getElem? (i := 116) (by decide +kernel))), by decide +kernel⟩
theorem tw_933 : Jvm.Cond.code ({ cls := "DeepHole$Shop", name := "sideAt", desc := "(I)I" } : Jvm.MethodName) prog_10_method_4_code (2 : Nat) (Option.some Jvm.ClassFile.FieldType.int) ∈ TB := List.mem_filter.mpr ⟨(ch_4 (List.mem_of_getElem? (i := 117) (by decide +kernel))), by decide +kernel⟩
theorem nw_934 : Jvm.Cond.methodLinkNest "DeepHole$Bit" (83 : Nat) ({ cls := "DeepHole", name := "sideX", desc := "(I)I" } : Jvm.MethodName) "DeepHole" ∈ NW := List.mem_filter.mpr ⟨(ch_4 (List.mem_of_getElem? (i := 118) (by decide +kernel))), rfl⟩
theorem tw_935 : Jvm.Cond.static ({ cls := "DeepHole", name := "sideX", desc := "(I)I" } : Jvm.MethodName) ∈ TB := List.mem_filter.mpr ⟨(ch_4 (List.mem_of_getElem? (i := 119) (by decide +kernel))), by decide +kernel⟩
theorem tw_936 : Jvm.Cond.code ({ cls := "DeepHole", name := "sideX", desc := "(I)I" } : Jvm.MethodName) prog_1_method_42_code (1 : Nat) (Option.some Jvm.ClassFile.FieldType.int) ∈ TB := List.mem_filter.mpr ⟨(ch_4 (List.mem_of_getElem? (i := 120) (by decide +kernel))), by decide +kernel⟩
theorem nw_937 : Jvm.Cond.methodLinkNest "DeepHole$Bit" (86 : Nat) ({ cls := "DeepHole", name := "sideY", desc := "(I)I" } : Jvm.MethodName) "DeepHole" ∈ NW := List.mem_filter.mpr ⟨(ch_4 (List.mem_of_getElem? (i := 121) (by decide +kernel))), rfl⟩
theorem tw_938 : Jvm.Cond.static ({ cls := "DeepHole", name := "sideY", desc := "(I)I" } : Jvm.MethodName) ∈ TB := List.mem_filter.mpr ⟨(ch_4 (List.mem_of_getElem? (i := 122) (by decide +kernel))), by decide +kernel⟩
theorem tw_939 : Jvm.Cond.code ({ cls := "DeepHole", name := "sideY", desc := "(I)I" } : Jvm.MethodName) prog_1_method_43_code (1 : Nat) (Option.some Jvm.ClassFile.FieldType.int) ∈ TB := List.mem_filter.mpr ⟨(ch_4 (List.mem_of_getElem? (i := 123) (by decide +kernel))), by decide +kernel⟩
theorem nw_940 : Jvm.Cond.methodLinkNest "DeepHole$Bit" (42 : Nat) ({ cls := "DeepHole", name := "sizeOf", desc := "(I)I" } : Jvm.MethodName) "DeepHole" ∈ NW := List.mem_filter.mpr ⟨(ch_4 (List.mem_of_getElem? (i := 124) (by decide +kernel))), rfl⟩
theorem tw_941 : Jvm.Cond.static ({ cls := "DeepHole", name := "sizeOf", desc := "(I)I" } : Jvm.MethodName) ∈ TB := List.mem_filter.mpr ⟨(ch_4 (List.mem_of_getElem? (i := 125) (by decide +kernel))), by decide +kernel⟩
theorem tw_942 : Jvm.Cond.code ({ cls := "DeepHole", name := "sizeOf", desc := "(I)I" } : Jvm.MethodName) prog_1_method_40_code (1 : Nat) (Option.some Jvm.ClassFile.FieldType.int) ∈ TB := List.mem_filter.mpr ⟨(ch_4 (List.mem_of_getElem? (i := 126) (by decide +kernel))), by decide +kernel⟩
theorem tw_943 : Jvm.Cond.methodLink "DeepHoleLaw" (46 : Nat) ({ cls := "DeepHole", name := "inch", desc := "(II)I" } : Jvm.MethodName) ∈ TB := List.mem_filter.mpr ⟨(ch_4 (List.mem_of_getElem? (i := 127) (by decide +kernel))), by decide +kernel⟩
theorem tw_944 : Jvm.Cond.instanceMethod ({ cls := "DeepHole", name := "inch", desc := "(II)I" } : Jvm.MethodName) ∈ TB := List.mem_filter.mpr ⟨(ch_4 (List.mem_of_getElem? (i := 128) (by decide +kernel))), by decide +kernel⟩
theorem tw_945 : Jvm.Cond.selects "DeepHole" ({ cls := "DeepHole", name := "inch", desc := "(II)I" } : Jvm.MethodName) ({ cls := "DeepHole", name := "inch", desc := "(II)I" } : Jvm.MethodName) ∈ TB := List.mem_filter.mpr ⟨(ch_4 (List.mem_of_getElem? (i := 129) (by decide +kernel))), by decide +kernel⟩
theorem tw_946 : Jvm.Cond.code ({ cls := "DeepHole", name := "inch", desc := "(II)I" } : Jvm.MethodName) prog_1_method_8_code (3 : Nat) (Option.some Jvm.ClassFile.FieldType.int) ∈ TB := List.mem_filter.mpr ⟨(ch_4 (List.mem_of_getElem? (i := 130) (by decide +kernel))), by decide +kernel⟩
theorem tw_947 : Jvm.Cond.methodLink "DeepHole" (142 : Nat) ({ cls := "DeepHole$Hole", name := "isDone", desc := "(I)Z" } : Jvm.MethodName) ∈ TB := List.mem_filter.mpr ⟨(ch_4 (List.mem_of_getElem? (i := 131) (by decide +kernel))), by decide +kernel⟩
theorem tw_948 : Jvm.Cond.instanceMethod ({ cls := "DeepHole$Hole", name := "isDone", desc := "(I)Z" } : Jvm.MethodName) ∈ TB := List.mem_filter.mpr ⟨(ch_4 (List.mem_of_getElem? (i := 132) (by decide +kernel))), by decide +kernel⟩
theorem tw_949 : Jvm.Cond.selects "DeepHole$Hole" ({ cls := "DeepHole$Hole", name := "isDone", desc := "(I)Z" } : Jvm.MethodName) ({ cls := "DeepHole$Hole", name := "isDone", desc := "(I)Z" } : Jvm.MethodName) ∈ TB := List.mem_filter.mpr ⟨(ch_4 (List.mem_of_getElem? (i := 133) (by decide +kernel))), by decide +kernel⟩
theorem tw_950 : Jvm.Cond.code ({ cls := "DeepHole$Hole", name := "isDone", desc := "(I)Z" } : Jvm.MethodName) prog_5_method_3_code (2 : Nat) (Option.some Jvm.ClassFile.FieldType.boolean) ∈ TB := List.mem_filter.mpr ⟨(ch_4 (List.mem_of_getElem? (i := 134) (by decide +kernel))), by decide +kernel⟩
theorem tw_951 : Jvm.Cond.methodLink "DeepHole" (146 : Nat) ({ cls := "DeepHole", name := "refuseNowhere", desc := "(I)I" } : Jvm.MethodName) ∈ TB := List.mem_filter.mpr ⟨(ch_4 (List.mem_of_getElem? (i := 135) (by decide +kernel))), by decide +kernel⟩
theorem tw_953 : Jvm.Cond.instanceMethod ({ cls := "DeepHole", name := "refuseNowhere", desc := "(I)I" } : Jvm.MethodName) ∈ TB := List.mem_filter.mpr ⟨(ch_4 (List.mem_of_getElem? (i := 137) (by decide +kernel))), by decide +kernel⟩
theorem tw_954 : Jvm.Cond.code ({ cls := "DeepHole", name := "refuseNowhere", desc := "(I)I" } : Jvm.MethodName) prog_1_method_37_code (2 : Nat) (Option.some Jvm.ClassFile.FieldType.int) ∈ TB := List.mem_filter.mpr ⟨(ch_4 (List.mem_of_getElem? (i := 138) (by decide +kernel))), by decide +kernel⟩
theorem tw_955 : Jvm.Cond.constant "DeepHole" (292 : Nat) (-1000000 : Int32) ∈ TB := List.mem_filter.mpr ⟨(ch_4 (List.mem_of_getElem? (i := 139) (by decide +kernel))), by decide +kernel⟩
theorem tw_956 : Jvm.Cond.methodLink "DeepHoleLaw" (51 : Nat) ({ cls := "DeepHole", name := "state", desc := "(I)I" } : Jvm.MethodName) ∈ TB := List.mem_filter.mpr ⟨(ch_4 (List.mem_of_getElem? (i := 140) (by decide +kernel))), by decide +kernel⟩
theorem tw_957 : Jvm.Cond.instanceMethod ({ cls := "DeepHole", name := "state", desc := "(I)I" } : Jvm.MethodName) ∈ TB := List.mem_filter.mpr ⟨(ch_4 (List.mem_of_getElem? (i := 141) (by decide +kernel))), by decide +kernel⟩
theorem tw_958 : Jvm.Cond.selects "DeepHole" ({ cls := "DeepHole", name := "state", desc := "(I)I" } : Jvm.MethodName) ({ cls := "DeepHole", name := "state", desc := "(I)I" } : Jvm.MethodName) ∈ TB := List.mem_filter.mpr ⟨(ch_4 (List.mem_of_getElem? (i := 142) (by decide +kernel))), by decide +kernel⟩
theorem tw_959 : Jvm.Cond.code ({ cls := "DeepHole", name := "state", desc := "(I)I" } : Jvm.MethodName) prog_1_method_9_code (2 : Nat) (Option.some Jvm.ClassFile.FieldType.int) ∈ TB := List.mem_filter.mpr ⟨(ch_4 (List.mem_of_getElem? (i := 143) (by decide +kernel))), by decide +kernel⟩
theorem tw_960 : Jvm.Cond.methodLink "DeepHoleLaw" (55 : Nat) ({ cls := "DeepHole", name := "odds", desc := "(II)I" } : Jvm.MethodName) ∈ TB := List.mem_filter.mpr ⟨(ch_4 (List.mem_of_getElem? (i := 144) (by decide +kernel))), by decide +kernel⟩
theorem tw_961 : Jvm.Cond.instanceMethod ({ cls := "DeepHole", name := "odds", desc := "(II)I" } : Jvm.MethodName) ∈ TB := List.mem_filter.mpr ⟨(ch_4 (List.mem_of_getElem? (i := 145) (by decide +kernel))), by decide +kernel⟩
theorem tw_962 : Jvm.Cond.selects "DeepHole" ({ cls := "DeepHole", name := "odds", desc := "(II)I" } : Jvm.MethodName) ({ cls := "DeepHole", name := "odds", desc := "(II)I" } : Jvm.MethodName) ∈ TB := List.mem_filter.mpr ⟨(ch_4 (List.mem_of_getElem? (i := 146) (by decide +kernel))), by decide +kernel⟩
theorem tw_963 : Jvm.Cond.code ({ cls := "DeepHole", name := "odds", desc := "(II)I" } : Jvm.MethodName) prog_1_method_10_code (4 : Nat) (Option.some Jvm.ClassFile.FieldType.int) ∈ TB := List.mem_filter.mpr ⟨(ch_4 (List.mem_of_getElem? (i := 147) (by decide +kernel))), by decide +kernel⟩
theorem tw_964 : Jvm.Cond.methodLink "DeepHole" (174 : Nat) ({ cls := "DeepHole", name := "oddsRefused", desc := "(I)I" } : Jvm.MethodName) ∈ TB := List.mem_filter.mpr ⟨(ch_4 (List.mem_of_getElem? (i := 148) (by decide +kernel))), by decide +kernel⟩
theorem tw_966 : Jvm.Cond.instanceMethod ({ cls := "DeepHole", name := "oddsRefused", desc := "(I)I" } : Jvm.MethodName) ∈ TB := List.mem_filter.mpr ⟨(ch_4 (List.mem_of_getElem? (i := 150) (by decide +kernel))), by decide +kernel⟩
theorem tw_967 : Jvm.Cond.code ({ cls := "DeepHole", name := "oddsRefused", desc := "(I)I" } : Jvm.MethodName) prog_1_method_39_code (2 : Nat) (Option.some Jvm.ClassFile.FieldType.int) ∈ TB := List.mem_filter.mpr ⟨(ch_4 (List.mem_of_getElem? (i := 151) (by decide +kernel))), by decide +kernel⟩
theorem tw_968 : Jvm.Cond.methodLink "DeepHole" (177 : Nat) ({ cls := "DeepHole$Search", name := "countOdds", desc := "(LDeepHole$Shop;II)I" } : Jvm.MethodName) ∈ TB := List.mem_filter.mpr ⟨(ch_4 (List.mem_of_getElem? (i := 152) (by decide +kernel))), by decide +kernel⟩
theorem tw_969 : Jvm.Cond.instanceMethod ({ cls := "DeepHole$Search", name := "countOdds", desc := "(LDeepHole$Shop;II)I" } : Jvm.MethodName) ∈ TB := List.mem_filter.mpr ⟨(ch_4 (List.mem_of_getElem? (i := 153) (by decide +kernel))), by decide +kernel⟩
theorem tw_970 : Jvm.Cond.selects "DeepHole$Search" ({ cls := "DeepHole$Search", name := "countOdds", desc := "(LDeepHole$Shop;II)I" } : Jvm.MethodName) ({ cls := "DeepHole$Search", name := "countOdds", desc := "(LDeepHole$Shop;II)I" } : Jvm.MethodName) ∈ TB := List.mem_filter.mpr ⟨(ch_4 (List.mem_of_getElem? (i := 154) (by decide +kernel))), by decide +kernel⟩
theorem tw_971 : Jvm.Cond.code ({ cls := "DeepHole$Search", name := "countOdds", desc := "(LDeepHole$Shop;II)I" } : Jvm.MethodName) prog_9_method_3_code (4 : Nat) (Option.some Jvm.ClassFile.FieldType.int) ∈ TB := List.mem_filter.mpr ⟨(ch_4 (List.mem_of_getElem? (i := 155) (by decide +kernel))), by decide +kernel⟩
theorem tw_972 : Jvm.Cond.methodLink "DeepHole$Search" (32 : Nat) ({ cls := "DeepHole$Bit", name := "begin", desc := "(II)V" } : Jvm.MethodName) ∈ TB := List.mem_filter.mpr ⟨(ch_4 (List.mem_of_getElem? (i := 156) (by decide +kernel))), by decide +kernel⟩
theorem tw_973 : Jvm.Cond.methodLink "DeepHole$Search" (36 : Nat) ({ cls := "DeepHole$Search", name := "oddsBehind", desc := "(LDeepHole$Shop;III)I" } : Jvm.MethodName) ∈ TB := List.mem_filter.mpr ⟨(ch_4 (List.mem_of_getElem? (i := 157) (by decide +kernel))), by decide +kernel⟩
theorem tw_975 : Jvm.Cond.instanceMethod ({ cls := "DeepHole$Search", name := "oddsBehind", desc := "(LDeepHole$Shop;III)I" } : Jvm.MethodName) ∈ TB := List.mem_filter.mpr ⟨(ch_4 (List.mem_of_getElem? (i := 159) (by decide +kernel))), by decide +kernel⟩
theorem tw_976 : Jvm.Cond.code ({ cls := "DeepHole$Search", name := "oddsBehind", desc := "(LDeepHole$Shop;III)I" } : Jvm.MethodName) prog_9_method_4_code (10 : Nat) (Option.some Jvm.ClassFile.FieldType.int) ∈ TB := List.mem_filter.mpr ⟨(ch_4 (List.mem_of_getElem? (i := 160) (by decide +kernel))), by decide +kernel⟩
theorem tw_977 : Jvm.Cond.methodLink "DeepHole$Search" (45 : Nat) ({ cls := "DeepHole$Bit", name := "copy", desc := "(LDeepHole$Bit;)V" } : Jvm.MethodName) ∈ TB := List.mem_filter.mpr ⟨(ch_4 (List.mem_of_getElem? (i := 161) (by decide +kernel))), by decide +kernel⟩
theorem tw_978 : Jvm.Cond.instanceMethod ({ cls := "DeepHole$Bit", name := "copy", desc := "(LDeepHole$Bit;)V" } : Jvm.MethodName) ∈ TB := List.mem_filter.mpr ⟨(ch_4 (List.mem_of_getElem? (i := 162) (by decide +kernel))), by decide +kernel⟩
theorem tw_979 : Jvm.Cond.selects "DeepHole$Bit" ({ cls := "DeepHole$Bit", name := "copy", desc := "(LDeepHole$Bit;)V" } : Jvm.MethodName) ({ cls := "DeepHole$Bit", name := "copy", desc := "(LDeepHole$Bit;)V" } : Jvm.MethodName) ∈ TB := List.mem_filter.mpr ⟨(ch_4 (List.mem_of_getElem? (i := 163) (by decide +kernel))), by decide +kernel⟩
theorem tw_980 : Jvm.Cond.code ({ cls := "DeepHole$Bit", name := "copy", desc := "(LDeepHole$Bit;)V" } : Jvm.MethodName) prog_3_method_3_code (2 : Nat) (Option.none : Option Jvm.ClassFile.FieldType) ∈ TB := List.mem_filter.mpr ⟨(ch_4 (List.mem_of_getElem? (i := 164) (by decide +kernel))), by decide +kernel⟩
theorem tw_981 : Jvm.Cond.methodLink "DeepHole$Search" (49 : Nat) ({ cls := "DeepHole$Shop", name := "feedFor", desc := "(I)I" } : Jvm.MethodName) ∈ TB := List.mem_filter.mpr ⟨(ch_4 (List.mem_of_getElem? (i := 165) (by decide +kernel))), by decide +kernel⟩
theorem tw_982 : Jvm.Cond.methodLink "DeepHole$Search" (53 : Nat) ({ cls := "DeepHole$Bit", name := "advance", desc := "(LDeepHole$Shop;IIII)V" } : Jvm.MethodName) ∈ TB := List.mem_filter.mpr ⟨(ch_4 (List.mem_of_getElem? (i := 166) (by decide +kernel))), by decide +kernel⟩
theorem tw_983 : Jvm.Cond.methodLink "DeepHole$Search" (57 : Nat) ({ cls := "DeepHole$Bit", name := "isWhole", desc := "()Z" } : Jvm.MethodName) ∈ TB := List.mem_filter.mpr ⟨(ch_4 (List.mem_of_getElem? (i := 167) (by decide +kernel))), by decide +kernel⟩
theorem tw_984 : Jvm.Cond.methodLink "DeepHole$Search" (61 : Nat) ({ cls := "DeepHole$Bit", name := "isNear", desc := "(I)Z" } : Jvm.MethodName) ∈ TB := List.mem_filter.mpr ⟨(ch_4 (List.mem_of_getElem? (i := 168) (by decide +kernel))), by decide +kernel⟩
theorem tw_985 : Jvm.Cond.instanceMethod ({ cls := "DeepHole$Bit", name := "isNear", desc := "(I)Z" } : Jvm.MethodName) ∈ TB := List.mem_filter.mpr ⟨(ch_4 (List.mem_of_getElem? (i := 169) (by decide +kernel))), by decide +kernel⟩
theorem tw_986 : Jvm.Cond.selects "DeepHole$Bit" ({ cls := "DeepHole$Bit", name := "isNear", desc := "(I)Z" } : Jvm.MethodName) ({ cls := "DeepHole$Bit", name := "isNear", desc := "(I)Z" } : Jvm.MethodName) ∈ TB := List.mem_filter.mpr ⟨(ch_4 (List.mem_of_getElem? (i := 170) (by decide +kernel))), by decide +kernel⟩
theorem tw_987 : Jvm.Cond.code ({ cls := "DeepHole$Bit", name := "isNear", desc := "(I)Z" } : Jvm.MethodName) prog_3_method_5_code (2 : Nat) (Option.some Jvm.ClassFile.FieldType.boolean) ∈ TB := List.mem_filter.mpr ⟨(ch_4 (List.mem_of_getElem? (i := 171) (by decide +kernel))), by decide +kernel⟩
theorem tw_988 : Jvm.Cond.methodLink "DeepHoleLaw" (59 : Nat) ({ cls := "DeepHole", name := "rows", desc := "(I)I" } : Jvm.MethodName) ∈ TB := List.mem_filter.mpr ⟨(ch_4 (List.mem_of_getElem? (i := 172) (by decide +kernel))), by decide +kernel⟩
theorem tw_989 : Jvm.Cond.instanceMethod ({ cls := "DeepHole", name := "rows", desc := "(I)I" } : Jvm.MethodName) ∈ TB := List.mem_filter.mpr ⟨(ch_4 (List.mem_of_getElem? (i := 173) (by decide +kernel))), by decide +kernel⟩
theorem tw_990 : Jvm.Cond.selects "DeepHole" ({ cls := "DeepHole", name := "rows", desc := "(I)I" } : Jvm.MethodName) ({ cls := "DeepHole", name := "rows", desc := "(I)I" } : Jvm.MethodName) ∈ TB := List.mem_filter.mpr ⟨(ch_4 (List.mem_of_getElem? (i := 174) (by decide +kernel))), by decide +kernel⟩
theorem tw_991 : Jvm.Cond.code ({ cls := "DeepHole", name := "rows", desc := "(I)I" } : Jvm.MethodName) prog_1_method_11_code (5 : Nat) (Option.some Jvm.ClassFile.FieldType.int) ∈ TB := List.mem_filter.mpr ⟨(ch_4 (List.mem_of_getElem? (i := 175) (by decide +kernel))), by decide +kernel⟩
theorem tw_992 : Jvm.Cond.methodLink "DeepHoleLaw" (63 : Nat) ({ cls := "DeepHole", name := "cheapest", desc := "(II)I" } : Jvm.MethodName) ∈ TB := List.mem_filter.mpr ⟨(ch_4 (List.mem_of_getElem? (i := 176) (by decide +kernel))), by decide +kernel⟩
theorem tw_993 : Jvm.Cond.instanceMethod ({ cls := "DeepHole", name := "cheapest", desc := "(II)I" } : Jvm.MethodName) ∈ TB := List.mem_filter.mpr ⟨(ch_4 (List.mem_of_getElem? (i := 177) (by decide +kernel))), by decide +kernel⟩
theorem tw_994 : Jvm.Cond.selects "DeepHole" ({ cls := "DeepHole", name := "cheapest", desc := "(II)I" } : Jvm.MethodName) ({ cls := "DeepHole", name := "cheapest", desc := "(II)I" } : Jvm.MethodName) ∈ TB := List.mem_filter.mpr ⟨(ch_4 (List.mem_of_getElem? (i := 178) (by decide +kernel))), by decide +kernel⟩
theorem tw_995 : Jvm.Cond.code ({ cls := "DeepHole", name := "cheapest", desc := "(II)I" } : Jvm.MethodName) prog_1_method_12_code (3 : Nat) (Option.some Jvm.ClassFile.FieldType.int) ∈ TB := List.mem_filter.mpr ⟨(ch_4 (List.mem_of_getElem? (i := 179) (by decide +kernel))), by decide +kernel⟩
theorem tw_996 : Jvm.Cond.methodLink "DeepHole" (184 : Nat) ({ cls := "DeepHole$Search", name := "findCheapest", desc := "(LDeepHole$Shop;II)Z" } : Jvm.MethodName) ∈ TB := List.mem_filter.mpr ⟨(ch_4 (List.mem_of_getElem? (i := 180) (by decide +kernel))), by decide +kernel⟩
theorem tw_997 : Jvm.Cond.instanceMethod ({ cls := "DeepHole$Search", name := "findCheapest", desc := "(LDeepHole$Shop;II)Z" } : Jvm.MethodName) ∈ TB := List.mem_filter.mpr ⟨(ch_4 (List.mem_of_getElem? (i := 181) (by decide +kernel))), by decide +kernel⟩
theorem tw_998 : Jvm.Cond.selects "DeepHole$Search" ({ cls := "DeepHole$Search", name := "findCheapest", desc := "(LDeepHole$Shop;II)Z" } : Jvm.MethodName) ({ cls := "DeepHole$Search", name := "findCheapest", desc := "(LDeepHole$Shop;II)Z" } : Jvm.MethodName) ∈ TB := List.mem_filter.mpr ⟨(ch_4 (List.mem_of_getElem? (i := 182) (by decide +kernel))), by decide +kernel⟩
theorem tw_999 : Jvm.Cond.code ({ cls := "DeepHole$Search", name := "findCheapest", desc := "(LDeepHole$Shop;II)Z" } : Jvm.MethodName) prog_9_method_5_code (4 : Nat) (Option.some Jvm.ClassFile.FieldType.boolean) ∈ TB := List.mem_filter.mpr ⟨(ch_4 (List.mem_of_getElem? (i := 183) (by decide +kernel))), by decide +kernel⟩
theorem tw_1000 : Jvm.Cond.methodLink "DeepHole$Search" (72 : Nat) ({ cls := "DeepHole$Search", name := "feedsBehind", desc := "(LDeepHole$Shop;III)V" } : Jvm.MethodName) ∈ TB := List.mem_filter.mpr ⟨(ch_4 (List.mem_of_getElem? (i := 184) (by decide +kernel))), by decide +kernel⟩
theorem tw_1002 : Jvm.Cond.instanceMethod ({ cls := "DeepHole$Search", name := "feedsBehind", desc := "(LDeepHole$Shop;III)V" } : Jvm.MethodName) ∈ TB := List.mem_filter.mpr ⟨(ch_4 (List.mem_of_getElem? (i := 186) (by decide +kernel))), by decide +kernel⟩
theorem tw_1003 : Jvm.Cond.code ({ cls := "DeepHole$Search", name := "feedsBehind", desc := "(LDeepHole$Shop;III)V" } : Jvm.MethodName) prog_9_method_6_code (7 : Nat) (Option.none : Option Jvm.ClassFile.FieldType) ∈ TB := List.mem_filter.mpr ⟨(ch_4 (List.mem_of_getElem? (i := 187) (by decide +kernel))), by decide +kernel⟩
theorem tw_1004 : Jvm.Cond.methodLink "DeepHole$Search" (79 : Nat) ({ cls := "DeepHole$Search", name := "keep", desc := "(II)V" } : Jvm.MethodName) ∈ TB := List.mem_filter.mpr ⟨(ch_4 (List.mem_of_getElem? (i := 188) (by decide +kernel))), by decide +kernel⟩
theorem tw_1006 : Jvm.Cond.instanceMethod ({ cls := "DeepHole$Search", name := "keep", desc := "(II)V" } : Jvm.MethodName) ∈ TB := List.mem_filter.mpr ⟨(ch_4 (List.mem_of_getElem? (i := 190) (by decide +kernel))), by decide +kernel⟩
theorem tw_1007 : Jvm.Cond.code ({ cls := "DeepHole$Search", name := "keep", desc := "(II)V" } : Jvm.MethodName) prog_9_method_7_code (4 : Nat) (Option.none : Option Jvm.ClassFile.FieldType) ∈ TB := List.mem_filter.mpr ⟨(ch_4 (List.mem_of_getElem? (i := 191) (by decide +kernel))), by decide +kernel⟩
theorem tw_1008 : Jvm.Cond.methodLink "DeepHoleLaw" (67 : Nat) ({ cls := "DeepHole", name := "feedAt", desc := "(I)I" } : Jvm.MethodName) ∈ TB := List.mem_filter.mpr ⟨(ch_4 (List.mem_of_getElem? (i := 192) (by decide +kernel))), by decide +kernel⟩
theorem tw_1009 : Jvm.Cond.instanceMethod ({ cls := "DeepHole", name := "feedAt", desc := "(I)I" } : Jvm.MethodName) ∈ TB := List.mem_filter.mpr ⟨(ch_4 (List.mem_of_getElem? (i := 193) (by decide +kernel))), by decide +kernel⟩
theorem tw_1010 : Jvm.Cond.selects "DeepHole" ({ cls := "DeepHole", name := "feedAt", desc := "(I)I" } : Jvm.MethodName) ({ cls := "DeepHole", name := "feedAt", desc := "(I)I" } : Jvm.MethodName) ∈ TB := List.mem_filter.mpr ⟨(ch_4 (List.mem_of_getElem? (i := 194) (by decide +kernel))), by decide +kernel⟩
theorem tw_1011 : Jvm.Cond.code ({ cls := "DeepHole", name := "feedAt", desc := "(I)I" } : Jvm.MethodName) prog_1_method_13_code (2 : Nat) (Option.some Jvm.ClassFile.FieldType.int) ∈ TB := List.mem_filter.mpr ⟨(ch_4 (List.mem_of_getElem? (i := 195) (by decide +kernel))), by decide +kernel⟩
theorem tw_1012 : Jvm.Cond.methodLink "DeepHoleLaw" (71 : Nat) ({ cls := "DeepHole", name := "met", desc := "(I)I" } : Jvm.MethodName) ∈ TB := List.mem_filter.mpr ⟨(ch_4 (List.mem_of_getElem? (i := 196) (by decide +kernel))), by decide +kernel⟩
theorem tw_1013 : Jvm.Cond.instanceMethod ({ cls := "DeepHole", name := "met", desc := "(I)I" } : Jvm.MethodName) ∈ TB := List.mem_filter.mpr ⟨(ch_4 (List.mem_of_getElem? (i := 197) (by decide +kernel))), by decide +kernel⟩
theorem tw_1014 : Jvm.Cond.selects "DeepHole" ({ cls := "DeepHole", name := "met", desc := "(I)I" } : Jvm.MethodName) ({ cls := "DeepHole", name := "met", desc := "(I)I" } : Jvm.MethodName) ∈ TB := List.mem_filter.mpr ⟨(ch_4 (List.mem_of_getElem? (i := 198) (by decide +kernel))), by decide +kernel⟩
theorem tw_1015 : Jvm.Cond.code ({ cls := "DeepHole", name := "met", desc := "(I)I" } : Jvm.MethodName) prog_1_method_14_code (3 : Nat) (Option.some Jvm.ClassFile.FieldType.int) ∈ TB := List.mem_filter.mpr ⟨(ch_4 (List.mem_of_getElem? (i := 199) (by decide +kernel))), by decide +kernel⟩
theorem tw_1016 : Jvm.Cond.methodLink "DeepHole" (198 : Nat) ({ cls := "DeepHole$Ends", name := "goBothWays", desc := "(LDeepHole$Shop;)V" } : Jvm.MethodName) ∈ TB := List.mem_filter.mpr ⟨(ch_4 (List.mem_of_getElem? (i := 200) (by decide +kernel))), by decide +kernel⟩
theorem tw_1017 : Jvm.Cond.instanceMethod ({ cls := "DeepHole$Ends", name := "goBothWays", desc := "(LDeepHole$Shop;)V" } : Jvm.MethodName) ∈ TB := List.mem_filter.mpr ⟨(ch_4 (List.mem_of_getElem? (i := 201) (by decide +kernel))), by decide +kernel⟩
theorem tw_1018 : Jvm.Cond.selects "DeepHole$Ends" ({ cls := "DeepHole$Ends", name := "goBothWays", desc := "(LDeepHole$Shop;)V" } : Jvm.MethodName) ({ cls := "DeepHole$Ends", name := "goBothWays", desc := "(LDeepHole$Shop;)V" } : Jvm.MethodName) ∈ TB := List.mem_filter.mpr ⟨(ch_4 (List.mem_of_getElem? (i := 202) (by decide +kernel))), by decide +kernel⟩
theorem tw_1019 : Jvm.Cond.code ({ cls := "DeepHole$Ends", name := "goBothWays", desc := "(LDeepHole$Shop;)V" } : Jvm.MethodName) prog_4_method_2_code (2 : Nat) (Option.none : Option Jvm.ClassFile.FieldType) ∈ TB := List.mem_filter.mpr ⟨(ch_4 (List.mem_of_getElem? (i := 203) (by decide +kernel))), by decide +kernel⟩
theorem tw_1020 : Jvm.Cond.methodLink "DeepHole$Ends" (31 : Nat) ({ cls := "DeepHole$Ends", name := "goThrough", desc := "(LDeepHole$Shop;Z[I[I)I" } : Jvm.MethodName) ∈ TB := List.mem_filter.mpr ⟨(ch_4 (List.mem_of_getElem? (i := 204) (by decide +kernel))), by decide +kernel⟩
theorem tw_1022 : Jvm.Cond.instanceMethod ({ cls := "DeepHole$Ends", name := "goThrough", desc := "(LDeepHole$Shop;Z[I[I)I" } : Jvm.MethodName) ∈ TB := List.mem_filter.mpr ⟨(ch_4 (List.mem_of_getElem? (i := 206) (by decide +kernel))), by decide +kernel⟩
theorem tw_1023 : Jvm.Cond.code ({ cls := "DeepHole$Ends", name := "goThrough", desc := "(LDeepHole$Shop;Z[I[I)I" } : Jvm.MethodName) prog_4_method_3_code (6 : Nat) (Option.some Jvm.ClassFile.FieldType.int) ∈ TB := List.mem_filter.mpr ⟨(ch_4 (List.mem_of_getElem? (i := 207) (by decide +kernel))), by decide +kernel⟩
theorem tw_1024 : Jvm.Cond.methodLink "DeepHole$Ends" (42 : Nat) ({ cls := "DeepHole$Bit", name := "begin", desc := "(II)V" } : Jvm.MethodName) ∈ TB := List.mem_filter.mpr ⟨(ch_4 (List.mem_of_getElem? (i := 208) (by decide +kernel))), by decide +kernel⟩
theorem tw_1025 : Jvm.Cond.methodLink "DeepHole$Ends" (51 : Nat) ({ cls := "DeepHole$Bit", name := "isWhole", desc := "()Z" } : Jvm.MethodName) ∈ TB := List.mem_filter.mpr ⟨(ch_4 (List.mem_of_getElem? (i := 209) (by decide +kernel))), by decide +kernel⟩
theorem tw_1026 : Jvm.Cond.methodLink "DeepHole$Ends" (55 : Nat) ({ cls := "DeepHole$Shop", name := "spotOf", desc := "(IZ)I" } : Jvm.MethodName) ∈ TB := List.mem_filter.mpr ⟨(ch_4 (List.mem_of_getElem? (i := 210) (by decide +kernel))), by decide +kernel⟩
theorem tw_1027 : Jvm.Cond.methodLink "DeepHole$Ends" (59 : Nat) ({ cls := "DeepHole$Shop", name := "feedFor", desc := "(I)I" } : Jvm.MethodName) ∈ TB := List.mem_filter.mpr ⟨(ch_4 (List.mem_of_getElem? (i := 211) (by decide +kernel))), by decide +kernel⟩
theorem tw_1028 : Jvm.Cond.methodLink "DeepHole$Ends" (63 : Nat) ({ cls := "DeepHole$Bit", name := "advance", desc := "(LDeepHole$Shop;IIII)V" } : Jvm.MethodName) ∈ TB := List.mem_filter.mpr ⟨(ch_4 (List.mem_of_getElem? (i := 212) (by decide +kernel))), by decide +kernel⟩
theorem tw_1029 : Jvm.Cond.methodLink "DeepHole" (201 : Nat) ({ cls := "DeepHole$Ends", name := "apartAt", desc := "(LDeepHole$Shop;I)I" } : Jvm.MethodName) ∈ TB := List.mem_filter.mpr ⟨(ch_4 (List.mem_of_getElem? (i := 213) (by decide +kernel))), by decide +kernel⟩
theorem tw_1030 : Jvm.Cond.instanceMethod ({ cls := "DeepHole$Ends", name := "apartAt", desc := "(LDeepHole$Shop;I)I" } : Jvm.MethodName) ∈ TB := List.mem_filter.mpr ⟨(ch_4 (List.mem_of_getElem? (i := 214) (by decide +kernel))), by decide +kernel⟩
theorem tw_1031 : Jvm.Cond.selects "DeepHole$Ends" ({ cls := "DeepHole$Ends", name := "apartAt", desc := "(LDeepHole$Shop;I)I" } : Jvm.MethodName) ({ cls := "DeepHole$Ends", name := "apartAt", desc := "(LDeepHole$Shop;I)I" } : Jvm.MethodName) ∈ TB := List.mem_filter.mpr ⟨(ch_4 (List.mem_of_getElem? (i := 215) (by decide +kernel))), by decide +kernel⟩
theorem tw_1032 : Jvm.Cond.code ({ cls := "DeepHole$Ends", name := "apartAt", desc := "(LDeepHole$Shop;I)I" } : Jvm.MethodName) prog_4_method_4_code (5 : Nat) (Option.some Jvm.ClassFile.FieldType.int) ∈ TB := List.mem_filter.mpr ⟨(ch_4 (List.mem_of_getElem? (i := 216) (by decide +kernel))), by decide +kernel⟩
theorem nw_1033 : Jvm.Cond.methodLinkNest "DeepHole$Ends" (76 : Nat) ({ cls := "DeepHole", name := "sizeOf", desc := "(I)I" } : Jvm.MethodName) "DeepHole" ∈ NW := List.mem_filter.mpr ⟨(ch_4 (List.mem_of_getElem? (i := 217) (by decide +kernel))), rfl⟩
theorem tw_1034 : Jvm.Cond.methodLink "DeepHoleLaw" (75 : Nat) ({ cls := "DeepHole", name := "meet", desc := "()I" } : Jvm.MethodName) ∈ TB := List.mem_filter.mpr ⟨(ch_4 (List.mem_of_getElem? (i := 218) (by decide +kernel))), by decide +kernel⟩
theorem tw_1035 : Jvm.Cond.instanceMethod ({ cls := "DeepHole", name := "meet", desc := "()I" } : Jvm.MethodName) ∈ TB := List.mem_filter.mpr ⟨(ch_4 (List.mem_of_getElem? (i := 219) (by decide +kernel))), by decide +kernel⟩
theorem tw_1036 : Jvm.Cond.selects "DeepHole" ({ cls := "DeepHole", name := "meet", desc := "()I" } : Jvm.MethodName) ({ cls := "DeepHole", name := "meet", desc := "()I" } : Jvm.MethodName) ∈ TB := List.mem_filter.mpr ⟨(ch_4 (List.mem_of_getElem? (i := 220) (by decide +kernel))), by decide +kernel⟩
theorem tw_1037 : Jvm.Cond.code ({ cls := "DeepHole", name := "meet", desc := "()I" } : Jvm.MethodName) prog_1_method_15_code (2 : Nat) (Option.some Jvm.ClassFile.FieldType.int) ∈ TB := List.mem_filter.mpr ⟨(ch_4 (List.mem_of_getElem? (i := 221) (by decide +kernel))), by decide +kernel⟩
theorem tw_1038 : Jvm.Cond.methodLink "DeepHole" (205 : Nat) ({ cls := "DeepHole$Ends", name := "nearest", desc := "(LDeepHole$Shop;)I" } : Jvm.MethodName) ∈ TB := List.mem_filter.mpr ⟨(ch_4 (List.mem_of_getElem? (i := 222) (by decide +kernel))), by decide +kernel⟩
theorem tw_1039 : Jvm.Cond.instanceMethod ({ cls := "DeepHole$Ends", name := "nearest", desc := "(LDeepHole$Shop;)I" } : Jvm.MethodName) ∈ TB := List.mem_filter.mpr ⟨(ch_4 (List.mem_of_getElem? (i := 223) (by decide +kernel))), by decide +kernel⟩
theorem tw_1040 : Jvm.Cond.selects "DeepHole$Ends" ({ cls := "DeepHole$Ends", name := "nearest", desc := "(LDeepHole$Shop;)I" } : Jvm.MethodName) ({ cls := "DeepHole$Ends", name := "nearest", desc := "(LDeepHole$Shop;)I" } : Jvm.MethodName) ∈ TB := List.mem_filter.mpr ⟨(ch_4 (List.mem_of_getElem? (i := 224) (by decide +kernel))), by decide +kernel⟩
theorem tw_1041 : Jvm.Cond.code ({ cls := "DeepHole$Ends", name := "nearest", desc := "(LDeepHole$Shop;)I" } : Jvm.MethodName) prog_4_method_5_code (6 : Nat) (Option.some Jvm.ClassFile.FieldType.int) ∈ TB := List.mem_filter.mpr ⟨(ch_4 (List.mem_of_getElem? (i := 225) (by decide +kernel))), by decide +kernel⟩
theorem tw_1042 : Jvm.Cond.methodLink "DeepHole$Ends" (79 : Nat) ({ cls := "DeepHole$Ends", name := "apartAt", desc := "(LDeepHole$Shop;I)I" } : Jvm.MethodName) ∈ TB := List.mem_filter.mpr ⟨(ch_4 (List.mem_of_getElem? (i := 226) (by decide +kernel))), by decide +kernel⟩
theorem tw_1043 : Jvm.Cond.methodLink "DeepHoleLaw" (79 : Nat) ({ cls := "DeepHole", name := "felt", desc := "(II)I" } : Jvm.MethodName) ∈ TB := List.mem_filter.mpr ⟨(ch_4 (List.mem_of_getElem? (i := 227) (by decide +kernel))), by decide +kernel⟩
theorem tw_1044 : Jvm.Cond.instanceMethod ({ cls := "DeepHole", name := "felt", desc := "(II)I" } : Jvm.MethodName) ∈ TB := List.mem_filter.mpr ⟨(ch_4 (List.mem_of_getElem? (i := 228) (by decide +kernel))), by decide +kernel⟩
theorem tw_1045 : Jvm.Cond.selects "DeepHole" ({ cls := "DeepHole", name := "felt", desc := "(II)I" } : Jvm.MethodName) ({ cls := "DeepHole", name := "felt", desc := "(II)I" } : Jvm.MethodName) ∈ TB := List.mem_filter.mpr ⟨(ch_4 (List.mem_of_getElem? (i := 229) (by decide +kernel))), by decide +kernel⟩
theorem tw_1046 : Jvm.Cond.code ({ cls := "DeepHole", name := "felt", desc := "(II)I" } : Jvm.MethodName) prog_1_method_16_code (3 : Nat) (Option.some Jvm.ClassFile.FieldType.int) ∈ TB := List.mem_filter.mpr ⟨(ch_4 (List.mem_of_getElem? (i := 230) (by decide +kernel))), by decide +kernel⟩
theorem tw_1047 : Jvm.Cond.methodLink "DeepHole" (208 : Nat) ({ cls := "DeepHole", name := "isInchOfRod", desc := "(I)Z" } : Jvm.MethodName) ∈ TB := List.mem_filter.mpr ⟨(ch_4 (List.mem_of_getElem? (i := 231) (by decide +kernel))), by decide +kernel⟩
theorem tw_1049 : Jvm.Cond.instanceMethod ({ cls := "DeepHole", name := "isInchOfRod", desc := "(I)Z" } : Jvm.MethodName) ∈ TB := List.mem_filter.mpr ⟨(ch_4 (List.mem_of_getElem? (i := 233) (by decide +kernel))), by decide +kernel⟩
theorem tw_1050 : Jvm.Cond.code ({ cls := "DeepHole", name := "isInchOfRod", desc := "(I)Z" } : Jvm.MethodName) prog_1_method_38_code (2 : Nat) (Option.some Jvm.ClassFile.FieldType.boolean) ∈ TB := List.mem_filter.mpr ⟨(ch_4 (List.mem_of_getElem? (i := 234) (by decide +kernel))), by decide +kernel⟩
theorem tw_1051 : Jvm.Cond.methodLink "DeepHole" (211 : Nat) ({ cls := "DeepHole$Needle", name := "add", desc := "(II)V" } : Jvm.MethodName) ∈ TB := List.mem_filter.mpr ⟨(ch_4 (List.mem_of_getElem? (i := 235) (by decide +kernel))), by decide +kernel⟩
theorem tw_1052 : Jvm.Cond.instanceMethod ({ cls := "DeepHole$Needle", name := "add", desc := "(II)V" } : Jvm.MethodName) ∈ TB := List.mem_filter.mpr ⟨(ch_4 (List.mem_of_getElem? (i := 236) (by decide +kernel))), by decide +kernel⟩
theorem tw_1053 : Jvm.Cond.selects "DeepHole$Needle" ({ cls := "DeepHole$Needle", name := "add", desc := "(II)V" } : Jvm.MethodName) ({ cls := "DeepHole$Needle", name := "add", desc := "(II)V" } : Jvm.MethodName) ∈ TB := List.mem_filter.mpr ⟨(ch_4 (List.mem_of_getElem? (i := 237) (by decide +kernel))), by decide +kernel⟩
theorem tw_1054 : Jvm.Cond.code ({ cls := "DeepHole$Needle", name := "add", desc := "(II)V" } : Jvm.MethodName) prog_6_method_3_code (3 : Nat) (Option.none : Option Jvm.ClassFile.FieldType) ∈ TB := List.mem_filter.mpr ⟨(ch_4 (List.mem_of_getElem? (i := 238) (by decide +kernel))), by decide +kernel⟩
theorem tw_1055 : Jvm.Cond.methodLink "DeepHoleLaw" (83 : Nat) ({ cls := "DeepHole", name := "forget", desc := "()I" } : Jvm.MethodName) ∈ TB := List.mem_filter.mpr ⟨(ch_4 (List.mem_of_getElem? (i := 239) (by decide +kernel))), by decide +kernel⟩
theorem tw_1056 : Jvm.Cond.instanceMethod ({ cls := "DeepHole", name := "forget", desc := "()I" } : Jvm.MethodName) ∈ TB := List.mem_filter.mpr ⟨(ch_5 (List.mem_of_getElem? (i := 0) (by decide +kernel))), by decide +kernel⟩
theorem tw_1057 : Jvm.Cond.selects "DeepHole" ({ cls := "DeepHole", name := "forget", desc := "()I" } : Jvm.MethodName) ({ cls := "DeepHole", name := "forget", desc := "()I" } : Jvm.MethodName) ∈ TB := List.mem_filter.mpr ⟨(ch_5 (List.mem_of_getElem? (i := 1) (by decide +kernel))), by decide +kernel⟩
theorem tw_1058 : Jvm.Cond.code ({ cls := "DeepHole", name := "forget", desc := "()I" } : Jvm.MethodName) prog_1_method_17_code (2 : Nat) (Option.some Jvm.ClassFile.FieldType.int) ∈ TB := List.mem_filter.mpr ⟨(ch_5 (List.mem_of_getElem? (i := 2) (by decide +kernel))), by decide +kernel⟩
theorem tw_1059 : Jvm.Cond.methodLink "DeepHoleLaw" (87 : Nat) ({ cls := "DeepHole", name := "causes", desc := "()I" } : Jvm.MethodName) ∈ TB := List.mem_filter.mpr ⟨(ch_5 (List.mem_of_getElem? (i := 3) (by decide +kernel))), by decide +kernel⟩
theorem tw_1060 : Jvm.Cond.instanceMethod ({ cls := "DeepHole", name := "causes", desc := "()I" } : Jvm.MethodName) ∈ TB := List.mem_filter.mpr ⟨(ch_5 (List.mem_of_getElem? (i := 4) (by decide +kernel))), by decide +kernel⟩
theorem tw_1061 : Jvm.Cond.selects "DeepHole" ({ cls := "DeepHole", name := "causes", desc := "()I" } : Jvm.MethodName) ({ cls := "DeepHole", name := "causes", desc := "()I" } : Jvm.MethodName) ∈ TB := List.mem_filter.mpr ⟨(ch_5 (List.mem_of_getElem? (i := 5) (by decide +kernel))), by decide +kernel⟩
theorem tw_1062 : Jvm.Cond.code ({ cls := "DeepHole", name := "causes", desc := "()I" } : Jvm.MethodName) prog_1_method_18_code (1 : Nat) (Option.some Jvm.ClassFile.FieldType.int) ∈ TB := List.mem_filter.mpr ⟨(ch_5 (List.mem_of_getElem? (i := 6) (by decide +kernel))), by decide +kernel⟩
theorem tw_1063 : Jvm.Cond.methodLink "DeepHole" (215 : Nat) ({ cls := "DeepHole$Needle", name := "search", desc := "(LDeepHole$Shop;)V" } : Jvm.MethodName) ∈ TB := List.mem_filter.mpr ⟨(ch_5 (List.mem_of_getElem? (i := 7) (by decide +kernel))), by decide +kernel⟩
theorem tw_1064 : Jvm.Cond.instanceMethod ({ cls := "DeepHole$Needle", name := "search", desc := "(LDeepHole$Shop;)V" } : Jvm.MethodName) ∈ TB := List.mem_filter.mpr ⟨(ch_5 (List.mem_of_getElem? (i := 8) (by decide +kernel))), by decide +kernel⟩
theorem tw_1065 : Jvm.Cond.selects "DeepHole$Needle" ({ cls := "DeepHole$Needle", name := "search", desc := "(LDeepHole$Shop;)V" } : Jvm.MethodName) ({ cls := "DeepHole$Needle", name := "search", desc := "(LDeepHole$Shop;)V" } : Jvm.MethodName) ∈ TB := List.mem_filter.mpr ⟨(ch_5 (List.mem_of_getElem? (i := 9) (by decide +kernel))), by decide +kernel⟩
theorem tw_1066 : Jvm.Cond.code ({ cls := "DeepHole$Needle", name := "search", desc := "(LDeepHole$Shop;)V" } : Jvm.MethodName) prog_6_method_4_code (5 : Nat) (Option.none : Option Jvm.ClassFile.FieldType) ∈ TB := List.mem_filter.mpr ⟨(ch_5 (List.mem_of_getElem? (i := 10) (by decide +kernel))), by decide +kernel⟩
theorem tw_1067 : Jvm.Cond.methodLink "DeepHole$Needle" (41 : Nat) ({ cls := "DeepHole$Needle", name := "tryCause", desc := "(LDeepHole$Shop;III)V" } : Jvm.MethodName) ∈ TB := List.mem_filter.mpr ⟨(ch_5 (List.mem_of_getElem? (i := 11) (by decide +kernel))), by decide +kernel⟩
theorem tw_1069 : Jvm.Cond.instanceMethod ({ cls := "DeepHole$Needle", name := "tryCause", desc := "(LDeepHole$Shop;III)V" } : Jvm.MethodName) ∈ TB := List.mem_filter.mpr ⟨(ch_5 (List.mem_of_getElem? (i := 13) (by decide +kernel))), by decide +kernel⟩
theorem tw_1070 : Jvm.Cond.code ({ cls := "DeepHole$Needle", name := "tryCause", desc := "(LDeepHole$Shop;III)V" } : Jvm.MethodName) prog_6_method_5_code (5 : Nat) (Option.none : Option Jvm.ClassFile.FieldType) ∈ TB := List.mem_filter.mpr ⟨(ch_5 (List.mem_of_getElem? (i := 14) (by decide +kernel))), by decide +kernel⟩
theorem tw_1071 : Jvm.Cond.methodLink "DeepHole$Needle" (50 : Nat) ({ cls := "DeepHole$Needle", name := "fits", desc := "(LDeepHole$Shop;III)Z" } : Jvm.MethodName) ∈ TB := List.mem_filter.mpr ⟨(ch_5 (List.mem_of_getElem? (i := 15) (by decide +kernel))), by decide +kernel⟩
theorem tw_1073 : Jvm.Cond.instanceMethod ({ cls := "DeepHole$Needle", name := "fits", desc := "(LDeepHole$Shop;III)Z" } : Jvm.MethodName) ∈ TB := List.mem_filter.mpr ⟨(ch_5 (List.mem_of_getElem? (i := 17) (by decide +kernel))), by decide +kernel⟩
theorem tw_1074 : Jvm.Cond.code ({ cls := "DeepHole$Needle", name := "fits", desc := "(LDeepHole$Shop;III)Z" } : Jvm.MethodName) prog_6_method_6_code (7 : Nat) (Option.some Jvm.ClassFile.FieldType.boolean) ∈ TB := List.mem_filter.mpr ⟨(ch_5 (List.mem_of_getElem? (i := 18) (by decide +kernel))), by decide +kernel⟩
theorem tw_1075 : Jvm.Cond.methodLink "DeepHole$Needle" (54 : Nat) ({ cls := "DeepHole$Bit", name := "begin", desc := "(II)V" } : Jvm.MethodName) ∈ TB := List.mem_filter.mpr ⟨(ch_5 (List.mem_of_getElem? (i := 19) (by decide +kernel))), by decide +kernel⟩
theorem tw_1076 : Jvm.Cond.methodLink "DeepHole$Needle" (58 : Nat) ({ cls := "DeepHole$Needle", name := "behindLastFelt", desc := "()I" } : Jvm.MethodName) ∈ TB := List.mem_filter.mpr ⟨(ch_5 (List.mem_of_getElem? (i := 20) (by decide +kernel))), by decide +kernel⟩
theorem tw_1078 : Jvm.Cond.instanceMethod ({ cls := "DeepHole$Needle", name := "behindLastFelt", desc := "()I" } : Jvm.MethodName) ∈ TB := List.mem_filter.mpr ⟨(ch_5 (List.mem_of_getElem? (i := 22) (by decide +kernel))), by decide +kernel⟩
theorem tw_1079 : Jvm.Cond.code ({ cls := "DeepHole$Needle", name := "behindLastFelt", desc := "()I" } : Jvm.MethodName) prog_6_method_7_code (3 : Nat) (Option.some Jvm.ClassFile.FieldType.int) ∈ TB := List.mem_filter.mpr ⟨(ch_5 (List.mem_of_getElem? (i := 23) (by decide +kernel))), by decide +kernel⟩
theorem tw_1080 : Jvm.Cond.methodLink "DeepHole$Needle" (62 : Nat) ({ cls := "DeepHole$Bit", name := "isWhole", desc := "()Z" } : Jvm.MethodName) ∈ TB := List.mem_filter.mpr ⟨(ch_5 (List.mem_of_getElem? (i := 24) (by decide +kernel))), by decide +kernel⟩
theorem tw_1081 : Jvm.Cond.methodLink "DeepHole$Needle" (66 : Nat) ({ cls := "DeepHole$Shop", name := "feedFor", desc := "(I)I" } : Jvm.MethodName) ∈ TB := List.mem_filter.mpr ⟨(ch_5 (List.mem_of_getElem? (i := 25) (by decide +kernel))), by decide +kernel⟩
theorem tw_1082 : Jvm.Cond.methodLink "DeepHole$Needle" (70 : Nat) ({ cls := "DeepHole$Bit", name := "advance", desc := "(LDeepHole$Shop;IIII)V" } : Jvm.MethodName) ∈ TB := List.mem_filter.mpr ⟨(ch_5 (List.mem_of_getElem? (i := 26) (by decide +kernel))), by decide +kernel⟩
theorem tw_1083 : Jvm.Cond.methodLink "DeepHole$Needle" (77 : Nat) ({ cls := "DeepHole$Needle", name := "agrees", desc := "(II)Z" } : Jvm.MethodName) ∈ TB := List.mem_filter.mpr ⟨(ch_5 (List.mem_of_getElem? (i := 27) (by decide +kernel))), by decide +kernel⟩
theorem tw_1085 : Jvm.Cond.instanceMethod ({ cls := "DeepHole$Needle", name := "agrees", desc := "(II)Z" } : Jvm.MethodName) ∈ TB := List.mem_filter.mpr ⟨(ch_5 (List.mem_of_getElem? (i := 29) (by decide +kernel))), by decide +kernel⟩
theorem tw_1086 : Jvm.Cond.code ({ cls := "DeepHole$Needle", name := "agrees", desc := "(II)Z" } : Jvm.MethodName) prog_6_method_8_code (4 : Nat) (Option.some Jvm.ClassFile.FieldType.boolean) ∈ TB := List.mem_filter.mpr ⟨(ch_5 (List.mem_of_getElem? (i := 30) (by decide +kernel))), by decide +kernel⟩
theorem tw_1087 : Jvm.Cond.methodLink "DeepHoleLaw" (91 : Nat) ({ cls := "DeepHole", name := "cause", desc := "(II)I" } : Jvm.MethodName) ∈ TB := List.mem_filter.mpr ⟨(ch_5 (List.mem_of_getElem? (i := 31) (by decide +kernel))), by decide +kernel⟩
theorem tw_1088 : Jvm.Cond.instanceMethod ({ cls := "DeepHole", name := "cause", desc := "(II)I" } : Jvm.MethodName) ∈ TB := List.mem_filter.mpr ⟨(ch_5 (List.mem_of_getElem? (i := 32) (by decide +kernel))), by decide +kernel⟩
theorem tw_1089 : Jvm.Cond.selects "DeepHole" ({ cls := "DeepHole", name := "cause", desc := "(II)I" } : Jvm.MethodName) ({ cls := "DeepHole", name := "cause", desc := "(II)I" } : Jvm.MethodName) ∈ TB := List.mem_filter.mpr ⟨(ch_5 (List.mem_of_getElem? (i := 33) (by decide +kernel))), by decide +kernel⟩
theorem tw_1090 : Jvm.Cond.code ({ cls := "DeepHole", name := "cause", desc := "(II)I" } : Jvm.MethodName) prog_1_method_19_code (3 : Nat) (Option.some Jvm.ClassFile.FieldType.int) ∈ TB := List.mem_filter.mpr ⟨(ch_5 (List.mem_of_getElem? (i := 34) (by decide +kernel))), by decide +kernel⟩
theorem tw_1091 : Jvm.Cond.methodLink "DeepHoleLaw" (95 : Nat) ({ cls := "DeepHole", name := "sure", desc := "(I)I" } : Jvm.MethodName) ∈ TB := List.mem_filter.mpr ⟨(ch_5 (List.mem_of_getElem? (i := 35) (by decide +kernel))), by decide +kernel⟩
theorem tw_1092 : Jvm.Cond.instanceMethod ({ cls := "DeepHole", name := "sure", desc := "(I)I" } : Jvm.MethodName) ∈ TB := List.mem_filter.mpr ⟨(ch_5 (List.mem_of_getElem? (i := 36) (by decide +kernel))), by decide +kernel⟩
theorem tw_1093 : Jvm.Cond.selects "DeepHole" ({ cls := "DeepHole", name := "sure", desc := "(I)I" } : Jvm.MethodName) ({ cls := "DeepHole", name := "sure", desc := "(I)I" } : Jvm.MethodName) ∈ TB := List.mem_filter.mpr ⟨(ch_5 (List.mem_of_getElem? (i := 37) (by decide +kernel))), by decide +kernel⟩
theorem tw_1094 : Jvm.Cond.code ({ cls := "DeepHole", name := "sure", desc := "(I)I" } : Jvm.MethodName) prog_1_method_20_code (2 : Nat) (Option.some Jvm.ClassFile.FieldType.int) ∈ TB := List.mem_filter.mpr ⟨(ch_5 (List.mem_of_getElem? (i := 38) (by decide +kernel))), by decide +kernel⟩
theorem tw_1095 : Jvm.Cond.methodLink "DeepHole" (223 : Nat) ({ cls := "DeepHole$Needle", name := "alike", desc := "(I)I" } : Jvm.MethodName) ∈ TB := List.mem_filter.mpr ⟨(ch_5 (List.mem_of_getElem? (i := 39) (by decide +kernel))), by decide +kernel⟩
theorem tw_1096 : Jvm.Cond.instanceMethod ({ cls := "DeepHole$Needle", name := "alike", desc := "(I)I" } : Jvm.MethodName) ∈ TB := List.mem_filter.mpr ⟨(ch_5 (List.mem_of_getElem? (i := 40) (by decide +kernel))), by decide +kernel⟩
theorem tw_1097 : Jvm.Cond.selects "DeepHole$Needle" ({ cls := "DeepHole$Needle", name := "alike", desc := "(I)I" } : Jvm.MethodName) ({ cls := "DeepHole$Needle", name := "alike", desc := "(I)I" } : Jvm.MethodName) ∈ TB := List.mem_filter.mpr ⟨(ch_5 (List.mem_of_getElem? (i := 41) (by decide +kernel))), by decide +kernel⟩
theorem tw_1098 : Jvm.Cond.code ({ cls := "DeepHole$Needle", name := "alike", desc := "(I)I" } : Jvm.MethodName) prog_6_method_9_code (3 : Nat) (Option.some Jvm.ClassFile.FieldType.int) ∈ TB := List.mem_filter.mpr ⟨(ch_5 (List.mem_of_getElem? (i := 42) (by decide +kernel))), by decide +kernel⟩
theorem tw_1099 : Jvm.Cond.methodLink "DeepHoleLaw" (99 : Nat) ({ cls := "DeepHole", name := "off", desc := "(IZ)I" } : Jvm.MethodName) ∈ TB := List.mem_filter.mpr ⟨(ch_5 (List.mem_of_getElem? (i := 43) (by decide +kernel))), by decide +kernel⟩
theorem tw_1100 : Jvm.Cond.instanceMethod ({ cls := "DeepHole", name := "off", desc := "(IZ)I" } : Jvm.MethodName) ∈ TB := List.mem_filter.mpr ⟨(ch_5 (List.mem_of_getElem? (i := 44) (by decide +kernel))), by decide +kernel⟩
theorem tw_1101 : Jvm.Cond.selects "DeepHole" ({ cls := "DeepHole", name := "off", desc := "(IZ)I" } : Jvm.MethodName) ({ cls := "DeepHole", name := "off", desc := "(IZ)I" } : Jvm.MethodName) ∈ TB := List.mem_filter.mpr ⟨(ch_5 (List.mem_of_getElem? (i := 45) (by decide +kernel))), by decide +kernel⟩
theorem tw_1102 : Jvm.Cond.code ({ cls := "DeepHole", name := "off", desc := "(IZ)I" } : Jvm.MethodName) prog_1_method_21_code (3 : Nat) (Option.some Jvm.ClassFile.FieldType.int) ∈ TB := List.mem_filter.mpr ⟨(ch_5 (List.mem_of_getElem? (i := 46) (by decide +kernel))), by decide +kernel⟩
theorem tw_1103 : Jvm.Cond.methodLink "DeepHole" (226 : Nat) ({ cls := "DeepHole$Hole", name := "isLongEnough", desc := "()Z" } : Jvm.MethodName) ∈ TB := List.mem_filter.mpr ⟨(ch_5 (List.mem_of_getElem? (i := 47) (by decide +kernel))), by decide +kernel⟩
theorem tw_1104 : Jvm.Cond.instanceMethod ({ cls := "DeepHole$Hole", name := "isLongEnough", desc := "()Z" } : Jvm.MethodName) ∈ TB := List.mem_filter.mpr ⟨(ch_5 (List.mem_of_getElem? (i := 48) (by decide +kernel))), by decide +kernel⟩
theorem tw_1105 : Jvm.Cond.selects "DeepHole$Hole" ({ cls := "DeepHole$Hole", name := "isLongEnough", desc := "()Z" } : Jvm.MethodName) ({ cls := "DeepHole$Hole", name := "isLongEnough", desc := "()Z" } : Jvm.MethodName) ∈ TB := List.mem_filter.mpr ⟨(ch_5 (List.mem_of_getElem? (i := 49) (by decide +kernel))), by decide +kernel⟩
theorem tw_1106 : Jvm.Cond.code ({ cls := "DeepHole$Hole", name := "isLongEnough", desc := "()Z" } : Jvm.MethodName) prog_5_method_4_code (1 : Nat) (Option.some Jvm.ClassFile.FieldType.boolean) ∈ TB := List.mem_filter.mpr ⟨(ch_5 (List.mem_of_getElem? (i := 50) (by decide +kernel))), by decide +kernel⟩
theorem tw_1107 : Jvm.Cond.methodLink "DeepHole" (230 : Nat) ({ cls := "DeepHole$Hole", name := "offTrue", desc := "(II)I" } : Jvm.MethodName) ∈ TB := List.mem_filter.mpr ⟨(ch_5 (List.mem_of_getElem? (i := 51) (by decide +kernel))), by decide +kernel⟩
theorem tw_1108 : Jvm.Cond.instanceMethod ({ cls := "DeepHole$Hole", name := "offTrue", desc := "(II)I" } : Jvm.MethodName) ∈ TB := List.mem_filter.mpr ⟨(ch_5 (List.mem_of_getElem? (i := 52) (by decide +kernel))), by decide +kernel⟩
theorem tw_1109 : Jvm.Cond.selects "DeepHole$Hole" ({ cls := "DeepHole$Hole", name := "offTrue", desc := "(II)I" } : Jvm.MethodName) ({ cls := "DeepHole$Hole", name := "offTrue", desc := "(II)I" } : Jvm.MethodName) ∈ TB := List.mem_filter.mpr ⟨(ch_5 (List.mem_of_getElem? (i := 53) (by decide +kernel))), by decide +kernel⟩
theorem tw_1110 : Jvm.Cond.code ({ cls := "DeepHole$Hole", name := "offTrue", desc := "(II)I" } : Jvm.MethodName) prog_5_method_8_code (5 : Nat) (Option.some Jvm.ClassFile.FieldType.int) ∈ TB := List.mem_filter.mpr ⟨(ch_5 (List.mem_of_getElem? (i := 54) (by decide +kernel))), by decide +kernel⟩
theorem tw_1111 : Jvm.Cond.methodLink "DeepHole$Hole" (96 : Nat) ({ cls := "DeepHole$Hole", name := "isDone", desc := "(I)Z" } : Jvm.MethodName) ∈ TB := List.mem_filter.mpr ⟨(ch_5 (List.mem_of_getElem? (i := 55) (by decide +kernel))), by decide +kernel⟩
theorem tw_1112 : Jvm.Cond.methodLink "DeepHoleLaw" (104 : Nat) ({ cls := "DeepHole", name := "ring", desc := "(I)I" } : Jvm.MethodName) ∈ TB := List.mem_filter.mpr ⟨(ch_5 (List.mem_of_getElem? (i := 56) (by decide +kernel))), by decide +kernel⟩
theorem tw_1113 : Jvm.Cond.instanceMethod ({ cls := "DeepHole", name := "ring", desc := "(I)I" } : Jvm.MethodName) ∈ TB := List.mem_filter.mpr ⟨(ch_5 (List.mem_of_getElem? (i := 57) (by decide +kernel))), by decide +kernel⟩
theorem tw_1114 : Jvm.Cond.selects "DeepHole" ({ cls := "DeepHole", name := "ring", desc := "(I)I" } : Jvm.MethodName) ({ cls := "DeepHole", name := "ring", desc := "(I)I" } : Jvm.MethodName) ∈ TB := List.mem_filter.mpr ⟨(ch_5 (List.mem_of_getElem? (i := 58) (by decide +kernel))), by decide +kernel⟩
theorem tw_1115 : Jvm.Cond.code ({ cls := "DeepHole", name := "ring", desc := "(I)I" } : Jvm.MethodName) prog_1_method_22_code (3 : Nat) (Option.some Jvm.ClassFile.FieldType.int) ∈ TB := List.mem_filter.mpr ⟨(ch_5 (List.mem_of_getElem? (i := 59) (by decide +kernel))), by decide +kernel⟩
theorem tw_1116 : Jvm.Cond.methodLink "DeepHole" (234 : Nat) ({ cls := "DeepHole$Hole", name := "worstInch", desc := "()I" } : Jvm.MethodName) ∈ TB := List.mem_filter.mpr ⟨(ch_5 (List.mem_of_getElem? (i := 60) (by decide +kernel))), by decide +kernel⟩
theorem tw_1117 : Jvm.Cond.instanceMethod ({ cls := "DeepHole$Hole", name := "worstInch", desc := "()I" } : Jvm.MethodName) ∈ TB := List.mem_filter.mpr ⟨(ch_5 (List.mem_of_getElem? (i := 61) (by decide +kernel))), by decide +kernel⟩
theorem tw_1118 : Jvm.Cond.selects "DeepHole$Hole" ({ cls := "DeepHole$Hole", name := "worstInch", desc := "()I" } : Jvm.MethodName) ({ cls := "DeepHole$Hole", name := "worstInch", desc := "()I" } : Jvm.MethodName) ∈ TB := List.mem_filter.mpr ⟨(ch_5 (List.mem_of_getElem? (i := 62) (by decide +kernel))), by decide +kernel⟩
theorem tw_1119 : Jvm.Cond.code ({ cls := "DeepHole$Hole", name := "worstInch", desc := "()I" } : Jvm.MethodName) prog_5_method_10_code (5 : Nat) (Option.some Jvm.ClassFile.FieldType.int) ∈ TB := List.mem_filter.mpr ⟨(ch_5 (List.mem_of_getElem? (i := 63) (by decide +kernel))), by decide +kernel⟩
theorem tw_1120 : Jvm.Cond.methodLink "DeepHole$Hole" (107 : Nat) ({ cls := "DeepHole$Hole", name := "offAt", desc := "(I)I" } : Jvm.MethodName) ∈ TB := List.mem_filter.mpr ⟨(ch_5 (List.mem_of_getElem? (i := 64) (by decide +kernel))), by decide +kernel⟩
theorem tw_1121 : Jvm.Cond.instanceMethod ({ cls := "DeepHole$Hole", name := "offAt", desc := "(I)I" } : Jvm.MethodName) ∈ TB := List.mem_filter.mpr ⟨(ch_5 (List.mem_of_getElem? (i := 65) (by decide +kernel))), by decide +kernel⟩
theorem tw_1122 : Jvm.Cond.selects "DeepHole$Hole" ({ cls := "DeepHole$Hole", name := "offAt", desc := "(I)I" } : Jvm.MethodName) ({ cls := "DeepHole$Hole", name := "offAt", desc := "(I)I" } : Jvm.MethodName) ∈ TB := List.mem_filter.mpr ⟨(ch_5 (List.mem_of_getElem? (i := 66) (by decide +kernel))), by decide +kernel⟩
theorem tw_1123 : Jvm.Cond.code ({ cls := "DeepHole$Hole", name := "offAt", desc := "(I)I" } : Jvm.MethodName) prog_5_method_9_code (2 : Nat) (Option.some Jvm.ClassFile.FieldType.int) ∈ TB := List.mem_filter.mpr ⟨(ch_5 (List.mem_of_getElem? (i := 67) (by decide +kernel))), by decide +kernel⟩
theorem tw_1124 : Jvm.Cond.methodLink "DeepHole$Hole" (100 : Nat) ({ cls := "DeepHole$Hole", name := "offTrue", desc := "(II)I" } : Jvm.MethodName) ∈ TB := List.mem_filter.mpr ⟨(ch_5 (List.mem_of_getElem? (i := 68) (by decide +kernel))), by decide +kernel⟩
theorem nw_1125 : Jvm.Cond.methodLinkNest "DeepHole$Hole" (104 : Nat) ({ cls := "DeepHole", name := "sizeOf", desc := "(I)I" } : Jvm.MethodName) "DeepHole" ∈ NW := List.mem_filter.mpr ⟨(ch_5 (List.mem_of_getElem? (i := 69) (by decide +kernel))), rfl⟩
theorem tw_1126 : Jvm.Cond.methodLink "DeepHole" (238 : Nat) ({ cls := "DeepHole$Hole", name := "offAt", desc := "(I)I" } : Jvm.MethodName) ∈ TB := List.mem_filter.mpr ⟨(ch_5 (List.mem_of_getElem? (i := 70) (by decide +kernel))), by decide +kernel⟩
theorem tw_1127 : Jvm.Cond.methodLink "DeepHole" (241 : Nat) ({ cls := "DeepHole$Hole", name := "sideAt", desc := "(I)I" } : Jvm.MethodName) ∈ TB := List.mem_filter.mpr ⟨(ch_5 (List.mem_of_getElem? (i := 71) (by decide +kernel))), by decide +kernel⟩
theorem tw_1128 : Jvm.Cond.instanceMethod ({ cls := "DeepHole$Hole", name := "sideAt", desc := "(I)I" } : Jvm.MethodName) ∈ TB := List.mem_filter.mpr ⟨(ch_5 (List.mem_of_getElem? (i := 72) (by decide +kernel))), by decide +kernel⟩
theorem tw_1129 : Jvm.Cond.selects "DeepHole$Hole" ({ cls := "DeepHole$Hole", name := "sideAt", desc := "(I)I" } : Jvm.MethodName) ({ cls := "DeepHole$Hole", name := "sideAt", desc := "(I)I" } : Jvm.MethodName) ∈ TB := List.mem_filter.mpr ⟨(ch_5 (List.mem_of_getElem? (i := 73) (by decide +kernel))), by decide +kernel⟩
theorem tw_1130 : Jvm.Cond.code ({ cls := "DeepHole$Hole", name := "sideAt", desc := "(I)I" } : Jvm.MethodName) prog_5_method_11_code (4 : Nat) (Option.some Jvm.ClassFile.FieldType.int) ∈ TB := List.mem_filter.mpr ⟨(ch_5 (List.mem_of_getElem? (i := 74) (by decide +kernel))), by decide +kernel⟩
theorem tw_1131 : Jvm.Cond.methodLink "DeepHoleLaw" (108 : Nat) ({ cls := "DeepHole", name := "sees", desc := "(I)I" } : Jvm.MethodName) ∈ TB := List.mem_filter.mpr ⟨(ch_5 (List.mem_of_getElem? (i := 75) (by decide +kernel))), by decide +kernel⟩
theorem tw_1132 : Jvm.Cond.instanceMethod ({ cls := "DeepHole", name := "sees", desc := "(I)I" } : Jvm.MethodName) ∈ TB := List.mem_filter.mpr ⟨(ch_5 (List.mem_of_getElem? (i := 76) (by decide +kernel))), by decide +kernel⟩
theorem tw_1133 : Jvm.Cond.selects "DeepHole" ({ cls := "DeepHole", name := "sees", desc := "(I)I" } : Jvm.MethodName) ({ cls := "DeepHole", name := "sees", desc := "(I)I" } : Jvm.MethodName) ∈ TB := List.mem_filter.mpr ⟨(ch_5 (List.mem_of_getElem? (i := 77) (by decide +kernel))), by decide +kernel⟩
theorem tw_1134 : Jvm.Cond.code ({ cls := "DeepHole", name := "sees", desc := "(I)I" } : Jvm.MethodName) prog_1_method_23_code (3 : Nat) (Option.some Jvm.ClassFile.FieldType.int) ∈ TB := List.mem_filter.mpr ⟨(ch_5 (List.mem_of_getElem? (i := 78) (by decide +kernel))), by decide +kernel⟩
theorem tw_1135 : Jvm.Cond.methodLink "DeepHoleLaw" (112 : Nat) ({ cls := "DeepHole", name := "blow", desc := "(III)I" } : Jvm.MethodName) ∈ TB := List.mem_filter.mpr ⟨(ch_5 (List.mem_of_getElem? (i := 79) (by decide +kernel))), by decide +kernel⟩
theorem tw_1136 : Jvm.Cond.instanceMethod ({ cls := "DeepHole", name := "blow", desc := "(III)I" } : Jvm.MethodName) ∈ TB := List.mem_filter.mpr ⟨(ch_5 (List.mem_of_getElem? (i := 80) (by decide +kernel))), by decide +kernel⟩
theorem tw_1137 : Jvm.Cond.selects "DeepHole" ({ cls := "DeepHole", name := "blow", desc := "(III)I" } : Jvm.MethodName) ({ cls := "DeepHole", name := "blow", desc := "(III)I" } : Jvm.MethodName) ∈ TB := List.mem_filter.mpr ⟨(ch_5 (List.mem_of_getElem? (i := 81) (by decide +kernel))), by decide +kernel⟩
theorem tw_1138 : Jvm.Cond.code ({ cls := "DeepHole", name := "blow", desc := "(III)I" } : Jvm.MethodName) prog_1_method_24_code (4 : Nat) (Option.some Jvm.ClassFile.FieldType.int) ∈ TB := List.mem_filter.mpr ⟨(ch_5 (List.mem_of_getElem? (i := 82) (by decide +kernel))), by decide +kernel⟩
theorem tw_1139 : Jvm.Cond.methodLink "DeepHole" (247 : Nat) ({ cls := "DeepHole$Hole", name := "strike", desc := "(III)V" } : Jvm.MethodName) ∈ TB := List.mem_filter.mpr ⟨(ch_5 (List.mem_of_getElem? (i := 83) (by decide +kernel))), by decide +kernel⟩
theorem tw_1140 : Jvm.Cond.instanceMethod ({ cls := "DeepHole$Hole", name := "strike", desc := "(III)V" } : Jvm.MethodName) ∈ TB := List.mem_filter.mpr ⟨(ch_5 (List.mem_of_getElem? (i := 84) (by decide +kernel))), by decide +kernel⟩
theorem tw_1141 : Jvm.Cond.selects "DeepHole$Hole" ({ cls := "DeepHole$Hole", name := "strike", desc := "(III)V" } : Jvm.MethodName) ({ cls := "DeepHole$Hole", name := "strike", desc := "(III)V" } : Jvm.MethodName) ∈ TB := List.mem_filter.mpr ⟨(ch_5 (List.mem_of_getElem? (i := 85) (by decide +kernel))), by decide +kernel⟩
theorem tw_1142 : Jvm.Cond.code ({ cls := "DeepHole$Hole", name := "strike", desc := "(III)V" } : Jvm.MethodName) prog_5_method_14_code (5 : Nat) (Option.none : Option Jvm.ClassFile.FieldType) ∈ TB := List.mem_filter.mpr ⟨(ch_5 (List.mem_of_getElem? (i := 86) (by decide +kernel))), by decide +kernel⟩
theorem tw_1143 : Jvm.Cond.methodLink "DeepHole$Hole" (113 : Nat) ({ cls := "DeepHole$Hole", name := "moved", desc := "(III)I" } : Jvm.MethodName) ∈ TB := List.mem_filter.mpr ⟨(ch_5 (List.mem_of_getElem? (i := 87) (by decide +kernel))), by decide +kernel⟩
theorem tw_1144 : Jvm.Cond.instanceMethod ({ cls := "DeepHole$Hole", name := "moved", desc := "(III)I" } : Jvm.MethodName) ∈ TB := List.mem_filter.mpr ⟨(ch_5 (List.mem_of_getElem? (i := 88) (by decide +kernel))), by decide +kernel⟩
theorem tw_1145 : Jvm.Cond.selects "DeepHole$Hole" ({ cls := "DeepHole$Hole", name := "moved", desc := "(III)I" } : Jvm.MethodName) ({ cls := "DeepHole$Hole", name := "moved", desc := "(III)I" } : Jvm.MethodName) ∈ TB := List.mem_filter.mpr ⟨(ch_5 (List.mem_of_getElem? (i := 89) (by decide +kernel))), by decide +kernel⟩
theorem tw_1146 : Jvm.Cond.code ({ cls := "DeepHole$Hole", name := "moved", desc := "(III)I" } : Jvm.MethodName) prog_5_method_13_code (5 : Nat) (Option.some Jvm.ClassFile.FieldType.int) ∈ TB := List.mem_filter.mpr ⟨(ch_5 (List.mem_of_getElem? (i := 90) (by decide +kernel))), by decide +kernel⟩
theorem nw_1147 : Jvm.Cond.methodLinkNest "DeepHole$Hole" (110 : Nat) ({ cls := "DeepHole", name := "divided", desc := "(II)I" } : Jvm.MethodName) "DeepHole" ∈ NW := List.mem_filter.mpr ⟨(ch_5 (List.mem_of_getElem? (i := 91) (by decide +kernel))), rfl⟩
theorem tw_1148 : Jvm.Cond.methodLink "DeepHole$Hole" (117 : Nat) ({ cls := "DeepHole$Hole", name := "moveAway", desc := "(III)V" } : Jvm.MethodName) ∈ TB := List.mem_filter.mpr ⟨(ch_5 (List.mem_of_getElem? (i := 92) (by decide +kernel))), by decide +kernel⟩
theorem tw_1150 : Jvm.Cond.instanceMethod ({ cls := "DeepHole$Hole", name := "moveAway", desc := "(III)V" } : Jvm.MethodName) ∈ TB := List.mem_filter.mpr ⟨(ch_5 (List.mem_of_getElem? (i := 94) (by decide +kernel))), by decide +kernel⟩
theorem tw_1151 : Jvm.Cond.code ({ cls := "DeepHole$Hole", name := "moveAway", desc := "(III)V" } : Jvm.MethodName) prog_5_method_16_code (4 : Nat) (Option.none : Option Jvm.ClassFile.FieldType) ∈ TB := List.mem_filter.mpr ⟨(ch_5 (List.mem_of_getElem? (i := 95) (by decide +kernel))), by decide +kernel⟩
theorem nw_1152 : Jvm.Cond.methodLinkNest "DeepHole$Hole" (121 : Nat) ({ cls := "DeepHole", name := "sideX", desc := "(I)I" } : Jvm.MethodName) "DeepHole" ∈ NW := List.mem_filter.mpr ⟨(ch_5 (List.mem_of_getElem? (i := 96) (by decide +kernel))), rfl⟩
theorem nw_1153 : Jvm.Cond.methodLinkNest "DeepHole$Hole" (124 : Nat) ({ cls := "DeepHole", name := "sideY", desc := "(I)I" } : Jvm.MethodName) "DeepHole" ∈ NW := List.mem_filter.mpr ⟨(ch_5 (List.mem_of_getElem? (i := 97) (by decide +kernel))), rfl⟩
theorem tw_1154 : Jvm.Cond.methodLink "DeepHoleLaw" (117 : Nat) ({ cls := "DeepHole", name := "fewest", desc := "(II)I" } : Jvm.MethodName) ∈ TB := List.mem_filter.mpr ⟨(ch_5 (List.mem_of_getElem? (i := 98) (by decide +kernel))), by decide +kernel⟩
theorem tw_1155 : Jvm.Cond.instanceMethod ({ cls := "DeepHole", name := "fewest", desc := "(II)I" } : Jvm.MethodName) ∈ TB := List.mem_filter.mpr ⟨(ch_5 (List.mem_of_getElem? (i := 99) (by decide +kernel))), by decide +kernel⟩
theorem tw_1156 : Jvm.Cond.selects "DeepHole" ({ cls := "DeepHole", name := "fewest", desc := "(II)I" } : Jvm.MethodName) ({ cls := "DeepHole", name := "fewest", desc := "(II)I" } : Jvm.MethodName) ∈ TB := List.mem_filter.mpr ⟨(ch_5 (List.mem_of_getElem? (i := 100) (by decide +kernel))), by decide +kernel⟩
theorem tw_1157 : Jvm.Cond.code ({ cls := "DeepHole", name := "fewest", desc := "(II)I" } : Jvm.MethodName) prog_1_method_25_code (3 : Nat) (Option.some Jvm.ClassFile.FieldType.int) ∈ TB := List.mem_filter.mpr ⟨(ch_5 (List.mem_of_getElem? (i := 101) (by decide +kernel))), by decide +kernel⟩
theorem tw_1158 : Jvm.Cond.methodLink "DeepHole" (251 : Nat) ({ cls := "DeepHole$Bench", name := "findFewest", desc := "(LDeepHole$Hole;II)Z" } : Jvm.MethodName) ∈ TB := List.mem_filter.mpr ⟨(ch_5 (List.mem_of_getElem? (i := 102) (by decide +kernel))), by decide +kernel⟩
theorem tw_1159 : Jvm.Cond.instanceMethod ({ cls := "DeepHole$Bench", name := "findFewest", desc := "(LDeepHole$Hole;II)Z" } : Jvm.MethodName) ∈ TB := List.mem_filter.mpr ⟨(ch_5 (List.mem_of_getElem? (i := 103) (by decide +kernel))), by decide +kernel⟩
theorem tw_1160 : Jvm.Cond.selects "DeepHole$Bench" ({ cls := "DeepHole$Bench", name := "findFewest", desc := "(LDeepHole$Hole;II)Z" } : Jvm.MethodName) ({ cls := "DeepHole$Bench", name := "findFewest", desc := "(LDeepHole$Hole;II)Z" } : Jvm.MethodName) ∈ TB := List.mem_filter.mpr ⟨(ch_5 (List.mem_of_getElem? (i := 104) (by decide +kernel))), by decide +kernel⟩
theorem tw_1161 : Jvm.Cond.code ({ cls := "DeepHole$Bench", name := "findFewest", desc := "(LDeepHole$Hole;II)Z" } : Jvm.MethodName) prog_2_method_3_code (4 : Nat) (Option.some Jvm.ClassFile.FieldType.boolean) ∈ TB := List.mem_filter.mpr ⟨(ch_5 (List.mem_of_getElem? (i := 105) (by decide +kernel))), by decide +kernel⟩
theorem tw_1162 : Jvm.Cond.methodLink "DeepHole$Bench" (30 : Nat) ({ cls := "DeepHole$Bench", name := "prepare", desc := "(LDeepHole$Hole;I)V" } : Jvm.MethodName) ∈ TB := List.mem_filter.mpr ⟨(ch_5 (List.mem_of_getElem? (i := 106) (by decide +kernel))), by decide +kernel⟩
theorem tw_1164 : Jvm.Cond.instanceMethod ({ cls := "DeepHole$Bench", name := "prepare", desc := "(LDeepHole$Hole;I)V" } : Jvm.MethodName) ∈ TB := List.mem_filter.mpr ⟨(ch_5 (List.mem_of_getElem? (i := 108) (by decide +kernel))), by decide +kernel⟩
theorem tw_1165 : Jvm.Cond.code ({ cls := "DeepHole$Bench", name := "prepare", desc := "(LDeepHole$Hole;I)V" } : Jvm.MethodName) prog_2_method_4_code (5 : Nat) (Option.none : Option Jvm.ClassFile.FieldType) ∈ TB := List.mem_filter.mpr ⟨(ch_5 (List.mem_of_getElem? (i := 109) (by decide +kernel))), by decide +kernel⟩
theorem tw_1166 : Jvm.Cond.methodLink "DeepHole$Bench" (59 : Nat) ({ cls := "DeepHole$Hole", name := "offTrue", desc := "(II)I" } : Jvm.MethodName) ∈ TB := List.mem_filter.mpr ⟨(ch_5 (List.mem_of_getElem? (i := 110) (by decide +kernel))), by decide +kernel⟩
theorem tw_1167 : Jvm.Cond.methodLink "DeepHole$Bench" (63 : Nat) ({ cls := "DeepHole$Hole", name := "moved", desc := "(III)I" } : Jvm.MethodName) ∈ TB := List.mem_filter.mpr ⟨(ch_5 (List.mem_of_getElem? (i := 111) (by decide +kernel))), by decide +kernel⟩
theorem tw_1168 : Jvm.Cond.methodLink "DeepHole$Bench" (34 : Nat) ({ cls := "DeepHole$Bench", name := "isStraight", desc := "(III)Z" } : Jvm.MethodName) ∈ TB := List.mem_filter.mpr ⟨(ch_5 (List.mem_of_getElem? (i := 112) (by decide +kernel))), by decide +kernel⟩
theorem tw_1170 : Jvm.Cond.instanceMethod ({ cls := "DeepHole$Bench", name := "isStraight", desc := "(III)Z" } : Jvm.MethodName) ∈ TB := List.mem_filter.mpr ⟨(ch_5 (List.mem_of_getElem? (i := 114) (by decide +kernel))), by decide +kernel⟩
theorem tw_1171 : Jvm.Cond.code ({ cls := "DeepHole$Bench", name := "isStraight", desc := "(III)Z" } : Jvm.MethodName) prog_2_method_8_code (9 : Nat) (Option.some Jvm.ClassFile.FieldType.boolean) ∈ TB := List.mem_filter.mpr ⟨(ch_5 (List.mem_of_getElem? (i := 115) (by decide +kernel))), by decide +kernel⟩
theorem tw_1172 : Jvm.Cond.methodLink "DeepHole$Bench" (71 : Nat) ({ cls := "DeepHole$Bench", name := "moveBy", desc := "(II)I" } : Jvm.MethodName) ∈ TB := List.mem_filter.mpr ⟨(ch_5 (List.mem_of_getElem? (i := 116) (by decide +kernel))), by decide +kernel⟩
theorem tw_1174 : Jvm.Cond.instanceMethod ({ cls := "DeepHole$Bench", name := "moveBy", desc := "(II)I" } : Jvm.MethodName) ∈ TB := List.mem_filter.mpr ⟨(ch_5 (List.mem_of_getElem? (i := 118) (by decide +kernel))), by decide +kernel⟩
theorem tw_1175 : Jvm.Cond.code ({ cls := "DeepHole$Bench", name := "moveBy", desc := "(II)I" } : Jvm.MethodName) prog_2_method_9_code (4 : Nat) (Option.some Jvm.ClassFile.FieldType.int) ∈ TB := List.mem_filter.mpr ⟨(ch_5 (List.mem_of_getElem? (i := 119) (by decide +kernel))), by decide +kernel⟩
theorem nw_1176 : Jvm.Cond.methodLinkNest "DeepHole$Bench" (74 : Nat) ({ cls := "DeepHole", name := "sideX", desc := "(I)I" } : Jvm.MethodName) "DeepHole" ∈ NW := List.mem_filter.mpr ⟨(ch_5 (List.mem_of_getElem? (i := 120) (by decide +kernel))), rfl⟩
theorem nw_1177 : Jvm.Cond.methodLinkNest "DeepHole$Bench" (77 : Nat) ({ cls := "DeepHole", name := "sideY", desc := "(I)I" } : Jvm.MethodName) "DeepHole" ∈ NW := List.mem_filter.mpr ⟨(ch_5 (List.mem_of_getElem? (i := 121) (by decide +kernel))), rfl⟩
theorem nw_1178 : Jvm.Cond.methodLinkNest "DeepHole$Bench" (80 : Nat) ({ cls := "DeepHole", name := "sizeOf", desc := "(I)I" } : Jvm.MethodName) "DeepHole" ∈ NW := List.mem_filter.mpr ⟨(ch_5 (List.mem_of_getElem? (i := 122) (by decide +kernel))), rfl⟩
theorem tw_1179 : Jvm.Cond.methodLink "DeepHole$Bench" (38 : Nat) ({ cls := "DeepHole$Bench", name := "findOne", desc := "(I)Z" } : Jvm.MethodName) ∈ TB := List.mem_filter.mpr ⟨(ch_5 (List.mem_of_getElem? (i := 123) (by decide +kernel))), by decide +kernel⟩
theorem tw_1181 : Jvm.Cond.instanceMethod ({ cls := "DeepHole$Bench", name := "findOne", desc := "(I)Z" } : Jvm.MethodName) ∈ TB := List.mem_filter.mpr ⟨(ch_5 (List.mem_of_getElem? (i := 125) (by decide +kernel))), by decide +kernel⟩
theorem tw_1182 : Jvm.Cond.code ({ cls := "DeepHole$Bench", name := "findOne", desc := "(I)Z" } : Jvm.MethodName) prog_2_method_5_code (3 : Nat) (Option.some Jvm.ClassFile.FieldType.boolean) ∈ TB := List.mem_filter.mpr ⟨(ch_5 (List.mem_of_getElem? (i := 126) (by decide +kernel))), by decide +kernel⟩
theorem tw_1183 : Jvm.Cond.methodLink "DeepHole$Bench" (67 : Nat) ({ cls := "DeepHole$Bench", name := "told", desc := "(I)I" } : Jvm.MethodName) ∈ TB := List.mem_filter.mpr ⟨(ch_5 (List.mem_of_getElem? (i := 127) (by decide +kernel))), by decide +kernel⟩
theorem tw_1184 : Jvm.Cond.static ({ cls := "DeepHole$Bench", name := "told", desc := "(I)I" } : Jvm.MethodName) ∈ TB := List.mem_filter.mpr ⟨(ch_5 (List.mem_of_getElem? (i := 128) (by decide +kernel))), by decide +kernel⟩
theorem tw_1185 : Jvm.Cond.code ({ cls := "DeepHole$Bench", name := "told", desc := "(I)I" } : Jvm.MethodName) prog_2_method_7_code (1 : Nat) (Option.some Jvm.ClassFile.FieldType.int) ∈ TB := List.mem_filter.mpr ⟨(ch_5 (List.mem_of_getElem? (i := 129) (by decide +kernel))), by decide +kernel⟩
theorem tw_1186 : Jvm.Cond.methodLink "DeepHole$Bench" (42 : Nat) ({ cls := "DeepHole$Bench", name := "findTwo", desc := "(I)Z" } : Jvm.MethodName) ∈ TB := List.mem_filter.mpr ⟨(ch_5 (List.mem_of_getElem? (i := 130) (by decide +kernel))), by decide +kernel⟩
theorem tw_1188 : Jvm.Cond.instanceMethod ({ cls := "DeepHole$Bench", name := "findTwo", desc := "(I)Z" } : Jvm.MethodName) ∈ TB := List.mem_filter.mpr ⟨(ch_5 (List.mem_of_getElem? (i := 132) (by decide +kernel))), by decide +kernel⟩
theorem tw_1189 : Jvm.Cond.code ({ cls := "DeepHole$Bench", name := "findTwo", desc := "(I)Z" } : Jvm.MethodName) prog_2_method_6_code (4 : Nat) (Option.some Jvm.ClassFile.FieldType.boolean) ∈ TB := List.mem_filter.mpr ⟨(ch_5 (List.mem_of_getElem? (i := 133) (by decide +kernel))), by decide +kernel⟩
theorem tw_1190 : Jvm.Cond.methodLink "DeepHoleLaw" (121 : Nat) ({ cls := "DeepHole", name := "stroke", desc := "(I)I" } : Jvm.MethodName) ∈ TB := List.mem_filter.mpr ⟨(ch_5 (List.mem_of_getElem? (i := 134) (by decide +kernel))), by decide +kernel⟩
theorem tw_1191 : Jvm.Cond.instanceMethod ({ cls := "DeepHole", name := "stroke", desc := "(I)I" } : Jvm.MethodName) ∈ TB := List.mem_filter.mpr ⟨(ch_5 (List.mem_of_getElem? (i := 135) (by decide +kernel))), by decide +kernel⟩
theorem tw_1192 : Jvm.Cond.selects "DeepHole" ({ cls := "DeepHole", name := "stroke", desc := "(I)I" } : Jvm.MethodName) ({ cls := "DeepHole", name := "stroke", desc := "(I)I" } : Jvm.MethodName) ∈ TB := List.mem_filter.mpr ⟨(ch_5 (List.mem_of_getElem? (i := 136) (by decide +kernel))), by decide +kernel⟩
theorem tw_1193 : Jvm.Cond.code ({ cls := "DeepHole", name := "stroke", desc := "(I)I" } : Jvm.MethodName) prog_1_method_26_code (2 : Nat) (Option.some Jvm.ClassFile.FieldType.int) ∈ TB := List.mem_filter.mpr ⟨(ch_5 (List.mem_of_getElem? (i := 137) (by decide +kernel))), by decide +kernel⟩
theorem tw_1194 : Jvm.Cond.methodLink "DeepHoleLaw" (125 : Nat) ({ cls := "DeepHole", name := "heat", desc := "()I" } : Jvm.MethodName) ∈ TB := List.mem_filter.mpr ⟨(ch_5 (List.mem_of_getElem? (i := 138) (by decide +kernel))), by decide +kernel⟩
theorem tw_1195 : Jvm.Cond.instanceMethod ({ cls := "DeepHole", name := "heat", desc := "()I" } : Jvm.MethodName) ∈ TB := List.mem_filter.mpr ⟨(ch_5 (List.mem_of_getElem? (i := 139) (by decide +kernel))), by decide +kernel⟩
theorem tw_1196 : Jvm.Cond.selects "DeepHole" ({ cls := "DeepHole", name := "heat", desc := "()I" } : Jvm.MethodName) ({ cls := "DeepHole", name := "heat", desc := "()I" } : Jvm.MethodName) ∈ TB := List.mem_filter.mpr ⟨(ch_5 (List.mem_of_getElem? (i := 140) (by decide +kernel))), by decide +kernel⟩
theorem tw_1197 : Jvm.Cond.code ({ cls := "DeepHole", name := "heat", desc := "()I" } : Jvm.MethodName) prog_1_method_27_code (1 : Nat) (Option.some Jvm.ClassFile.FieldType.int) ∈ TB := List.mem_filter.mpr ⟨(ch_5 (List.mem_of_getElem? (i := 141) (by decide +kernel))), by decide +kernel⟩
theorem tw_1198 : Jvm.Cond.methodLink "DeepHole" (261 : Nat) ({ cls := "DeepHole$Hole", name := "springBack", desc := "()I" } : Jvm.MethodName) ∈ TB := List.mem_filter.mpr ⟨(ch_5 (List.mem_of_getElem? (i := 142) (by decide +kernel))), by decide +kernel⟩
theorem tw_1199 : Jvm.Cond.instanceMethod ({ cls := "DeepHole$Hole", name := "springBack", desc := "()I" } : Jvm.MethodName) ∈ TB := List.mem_filter.mpr ⟨(ch_5 (List.mem_of_getElem? (i := 143) (by decide +kernel))), by decide +kernel⟩
theorem tw_1200 : Jvm.Cond.selects "DeepHole$Hole" ({ cls := "DeepHole$Hole", name := "springBack", desc := "()I" } : Jvm.MethodName) ({ cls := "DeepHole$Hole", name := "springBack", desc := "()I" } : Jvm.MethodName) ∈ TB := List.mem_filter.mpr ⟨(ch_5 (List.mem_of_getElem? (i := 144) (by decide +kernel))), by decide +kernel⟩
theorem tw_1201 : Jvm.Cond.code ({ cls := "DeepHole$Hole", name := "springBack", desc := "()I" } : Jvm.MethodName) prog_5_method_15_code (4 : Nat) (Option.some Jvm.ClassFile.FieldType.int) ∈ TB := List.mem_filter.mpr ⟨(ch_5 (List.mem_of_getElem? (i := 145) (by decide +kernel))), by decide +kernel⟩
theorem tw_1202 : Jvm.Cond.methodLink "DeepHoleLaw" (129 : Nat) ({ cls := "DeepHole", name := "about", desc := "()I" } : Jvm.MethodName) ∈ TB := List.mem_filter.mpr ⟨(ch_5 (List.mem_of_getElem? (i := 146) (by decide +kernel))), by decide +kernel⟩
theorem tw_1203 : Jvm.Cond.instanceMethod ({ cls := "DeepHole", name := "about", desc := "()I" } : Jvm.MethodName) ∈ TB := List.mem_filter.mpr ⟨(ch_5 (List.mem_of_getElem? (i := 147) (by decide +kernel))), by decide +kernel⟩
theorem tw_1204 : Jvm.Cond.selects "DeepHole" ({ cls := "DeepHole", name := "about", desc := "()I" } : Jvm.MethodName) ({ cls := "DeepHole", name := "about", desc := "()I" } : Jvm.MethodName) ∈ TB := List.mem_filter.mpr ⟨(ch_5 (List.mem_of_getElem? (i := 148) (by decide +kernel))), by decide +kernel⟩
theorem tw_1205 : Jvm.Cond.code ({ cls := "DeepHole", name := "about", desc := "()I" } : Jvm.MethodName) prog_1_method_28_code (1 : Nat) (Option.some Jvm.ClassFile.FieldType.int) ∈ TB := List.mem_filter.mpr ⟨(ch_5 (List.mem_of_getElem? (i := 149) (by decide +kernel))), by decide +kernel⟩
theorem tw_1206 : Jvm.Cond.methodLink "DeepHole" (264 : Nat) ({ cls := "DeepHole$Hole", name := "widestPart", desc := "()I" } : Jvm.MethodName) ∈ TB := List.mem_filter.mpr ⟨(ch_5 (List.mem_of_getElem? (i := 150) (by decide +kernel))), by decide +kernel⟩
theorem tw_1207 : Jvm.Cond.instanceMethod ({ cls := "DeepHole$Hole", name := "widestPart", desc := "()I" } : Jvm.MethodName) ∈ TB := List.mem_filter.mpr ⟨(ch_5 (List.mem_of_getElem? (i := 151) (by decide +kernel))), by decide +kernel⟩
theorem tw_1208 : Jvm.Cond.selects "DeepHole$Hole" ({ cls := "DeepHole$Hole", name := "widestPart", desc := "()I" } : Jvm.MethodName) ({ cls := "DeepHole$Hole", name := "widestPart", desc := "()I" } : Jvm.MethodName) ∈ TB := List.mem_filter.mpr ⟨(ch_5 (List.mem_of_getElem? (i := 152) (by decide +kernel))), by decide +kernel⟩
theorem tw_1209 : Jvm.Cond.code ({ cls := "DeepHole$Hole", name := "widestPart", desc := "()I" } : Jvm.MethodName) prog_5_method_12_code (6 : Nat) (Option.some Jvm.ClassFile.FieldType.int) ∈ TB := List.mem_filter.mpr ⟨(ch_5 (List.mem_of_getElem? (i := 153) (by decide +kernel))), by decide +kernel⟩
theorem tw_1210 : Jvm.Cond.methodLink "DeepHoleLaw" (133 : Nat) ({ cls := "DeepHole", name := "wall", desc := "(III)Z" } : Jvm.MethodName) ∈ TB := List.mem_filter.mpr ⟨(ch_5 (List.mem_of_getElem? (i := 154) (by decide +kernel))), by decide +kernel⟩
theorem tw_1211 : Jvm.Cond.instanceMethod ({ cls := "DeepHole", name := "wall", desc := "(III)Z" } : Jvm.MethodName) ∈ TB := List.mem_filter.mpr ⟨(ch_5 (List.mem_of_getElem? (i := 155) (by decide +kernel))), by decide +kernel⟩
theorem tw_1212 : Jvm.Cond.selects "DeepHole" ({ cls := "DeepHole", name := "wall", desc := "(III)Z" } : Jvm.MethodName) ({ cls := "DeepHole", name := "wall", desc := "(III)Z" } : Jvm.MethodName) ∈ TB := List.mem_filter.mpr ⟨(ch_5 (List.mem_of_getElem? (i := 156) (by decide +kernel))), by decide +kernel⟩
theorem tw_1213 : Jvm.Cond.code ({ cls := "DeepHole", name := "wall", desc := "(III)Z" } : Jvm.MethodName) prog_1_method_29_code (4 : Nat) (Option.some Jvm.ClassFile.FieldType.boolean) ∈ TB := List.mem_filter.mpr ⟨(ch_5 (List.mem_of_getElem? (i := 157) (by decide +kernel))), by decide +kernel⟩
theorem tw_1214 : Jvm.Cond.methodLink "DeepHole" (267 : Nat) ({ cls := "DeepHole$Walls", name := "tell", desc := "(III)V" } : Jvm.MethodName) ∈ TB := List.mem_filter.mpr ⟨(ch_5 (List.mem_of_getElem? (i := 158) (by decide +kernel))), by decide +kernel⟩
theorem tw_1215 : Jvm.Cond.instanceMethod ({ cls := "DeepHole$Walls", name := "tell", desc := "(III)V" } : Jvm.MethodName) ∈ TB := List.mem_filter.mpr ⟨(ch_5 (List.mem_of_getElem? (i := 159) (by decide +kernel))), by decide +kernel⟩
theorem tw_1216 : Jvm.Cond.selects "DeepHole$Walls" ({ cls := "DeepHole$Walls", name := "tell", desc := "(III)V" } : Jvm.MethodName) ({ cls := "DeepHole$Walls", name := "tell", desc := "(III)V" } : Jvm.MethodName) ∈ TB := List.mem_filter.mpr ⟨(ch_5 (List.mem_of_getElem? (i := 160) (by decide +kernel))), by decide +kernel⟩
theorem tw_1217 : Jvm.Cond.code ({ cls := "DeepHole$Walls", name := "tell", desc := "(III)V" } : Jvm.MethodName) prog_12_method_3_code (4 : Nat) (Option.none : Option Jvm.ClassFile.FieldType) ∈ TB := List.mem_filter.mpr ⟨(ch_5 (List.mem_of_getElem? (i := 161) (by decide +kernel))), by decide +kernel⟩
theorem tw_1218 : Jvm.Cond.methodLink "DeepHoleLaw" (138 : Nat) ({ cls := "DeepHole", name := "clear", desc := "()I" } : Jvm.MethodName) ∈ TB := List.mem_filter.mpr ⟨(ch_5 (List.mem_of_getElem? (i := 162) (by decide +kernel))), by decide +kernel⟩
theorem tw_1219 : Jvm.Cond.instanceMethod ({ cls := "DeepHole", name := "clear", desc := "()I" } : Jvm.MethodName) ∈ TB := List.mem_filter.mpr ⟨(ch_5 (List.mem_of_getElem? (i := 163) (by decide +kernel))), by decide +kernel⟩
theorem tw_1220 : Jvm.Cond.selects "DeepHole" ({ cls := "DeepHole", name := "clear", desc := "()I" } : Jvm.MethodName) ({ cls := "DeepHole", name := "clear", desc := "()I" } : Jvm.MethodName) ∈ TB := List.mem_filter.mpr ⟨(ch_5 (List.mem_of_getElem? (i := 164) (by decide +kernel))), by decide +kernel⟩
theorem tw_1221 : Jvm.Cond.code ({ cls := "DeepHole", name := "clear", desc := "()I" } : Jvm.MethodName) prog_1_method_30_code (2 : Nat) (Option.some Jvm.ClassFile.FieldType.int) ∈ TB := List.mem_filter.mpr ⟨(ch_5 (List.mem_of_getElem? (i := 165) (by decide +kernel))), by decide +kernel⟩
theorem tw_1222 : Jvm.Cond.methodLink "DeepHole" (270 : Nat) ({ cls := "DeepHole$Walls", name := "howMany", desc := "()I" } : Jvm.MethodName) ∈ TB := List.mem_filter.mpr ⟨(ch_5 (List.mem_of_getElem? (i := 166) (by decide +kernel))), by decide +kernel⟩
theorem tw_1223 : Jvm.Cond.instanceMethod ({ cls := "DeepHole$Walls", name := "howMany", desc := "()I" } : Jvm.MethodName) ∈ TB := List.mem_filter.mpr ⟨(ch_5 (List.mem_of_getElem? (i := 167) (by decide +kernel))), by decide +kernel⟩
theorem tw_1224 : Jvm.Cond.selects "DeepHole$Walls" ({ cls := "DeepHole$Walls", name := "howMany", desc := "()I" } : Jvm.MethodName) ({ cls := "DeepHole$Walls", name := "howMany", desc := "()I" } : Jvm.MethodName) ∈ TB := List.mem_filter.mpr ⟨(ch_5 (List.mem_of_getElem? (i := 168) (by decide +kernel))), by decide +kernel⟩
theorem tw_1225 : Jvm.Cond.code ({ cls := "DeepHole$Walls", name := "howMany", desc := "()I" } : Jvm.MethodName) prog_12_method_4_code (3 : Nat) (Option.some Jvm.ClassFile.FieldType.int) ∈ TB := List.mem_filter.mpr ⟨(ch_5 (List.mem_of_getElem? (i := 169) (by decide +kernel))), by decide +kernel⟩
theorem tw_1226 : Jvm.Cond.methodLink "DeepHoleLaw" (142 : Nat) ({ cls := "DeepHole", name := "lies", desc := "(IIZ)I" } : Jvm.MethodName) ∈ TB := List.mem_filter.mpr ⟨(ch_5 (List.mem_of_getElem? (i := 170) (by decide +kernel))), by decide +kernel⟩
theorem tw_1227 : Jvm.Cond.instanceMethod ({ cls := "DeepHole", name := "lies", desc := "(IIZ)I" } : Jvm.MethodName) ∈ TB := List.mem_filter.mpr ⟨(ch_5 (List.mem_of_getElem? (i := 171) (by decide +kernel))), by decide +kernel⟩
theorem tw_1228 : Jvm.Cond.selects "DeepHole" ({ cls := "DeepHole", name := "lies", desc := "(IIZ)I" } : Jvm.MethodName) ({ cls := "DeepHole", name := "lies", desc := "(IIZ)I" } : Jvm.MethodName) ∈ TB := List.mem_filter.mpr ⟨(ch_5 (List.mem_of_getElem? (i := 172) (by decide +kernel))), by decide +kernel⟩
theorem tw_1229 : Jvm.Cond.code ({ cls := "DeepHole", name := "lies", desc := "(IIZ)I" } : Jvm.MethodName) prog_1_method_31_code (4 : Nat) (Option.some Jvm.ClassFile.FieldType.int) ∈ TB := List.mem_filter.mpr ⟨(ch_5 (List.mem_of_getElem? (i := 173) (by decide +kernel))), by decide +kernel⟩
theorem tw_1230 : Jvm.Cond.methodLink "DeepHole" (273 : Nat) ({ cls := "DeepHole$Walls", name := "narrow", desc := "(LDeepHole$Shop;I)Z" } : Jvm.MethodName) ∈ TB := List.mem_filter.mpr ⟨(ch_5 (List.mem_of_getElem? (i := 174) (by decide +kernel))), by decide +kernel⟩
theorem tw_1231 : Jvm.Cond.instanceMethod ({ cls := "DeepHole$Walls", name := "narrow", desc := "(LDeepHole$Shop;I)Z" } : Jvm.MethodName) ∈ TB := List.mem_filter.mpr ⟨(ch_5 (List.mem_of_getElem? (i := 175) (by decide +kernel))), by decide +kernel⟩
theorem tw_1232 : Jvm.Cond.selects "DeepHole$Walls" ({ cls := "DeepHole$Walls", name := "narrow", desc := "(LDeepHole$Shop;I)Z" } : Jvm.MethodName) ({ cls := "DeepHole$Walls", name := "narrow", desc := "(LDeepHole$Shop;I)Z" } : Jvm.MethodName) ∈ TB := List.mem_filter.mpr ⟨(ch_5 (List.mem_of_getElem? (i := 176) (by decide +kernel))), by decide +kernel⟩
theorem tw_1233 : Jvm.Cond.code ({ cls := "DeepHole$Walls", name := "narrow", desc := "(LDeepHole$Shop;I)Z" } : Jvm.MethodName) prog_12_method_5_code (5 : Nat) (Option.some Jvm.ClassFile.FieldType.boolean) ∈ TB := List.mem_filter.mpr ⟨(ch_5 (List.mem_of_getElem? (i := 177) (by decide +kernel))), by decide +kernel⟩
theorem tw_1234 : Jvm.Cond.constant "DeepHole$Walls" (44 : Nat) (100000 : Int32) ∈ TB := List.mem_filter.mpr ⟨(ch_5 (List.mem_of_getElem? (i := 178) (by decide +kernel))), by decide +kernel⟩
theorem tw_1235 : Jvm.Cond.methodLink "DeepHole$Walls" (48 : Nat) ({ cls := "DeepHole$Walls", name := "narrowThree", desc := "(II)V" } : Jvm.MethodName) ∈ TB := List.mem_filter.mpr ⟨(ch_5 (List.mem_of_getElem? (i := 179) (by decide +kernel))), by decide +kernel⟩
theorem tw_1237 : Jvm.Cond.instanceMethod ({ cls := "DeepHole$Walls", name := "narrowThree", desc := "(II)V" } : Jvm.MethodName) ∈ TB := List.mem_filter.mpr ⟨(ch_5 (List.mem_of_getElem? (i := 181) (by decide +kernel))), by decide +kernel⟩
theorem tw_1238 : Jvm.Cond.code ({ cls := "DeepHole$Walls", name := "narrowThree", desc := "(II)V" } : Jvm.MethodName) prog_12_method_6_code (7 : Nat) (Option.none : Option Jvm.ClassFile.FieldType) ∈ TB := List.mem_filter.mpr ⟨(ch_5 (List.mem_of_getElem? (i := 182) (by decide +kernel))), by decide +kernel⟩
theorem tw_1239 : Jvm.Cond.methodLink "DeepHole$Walls" (52 : Nat) ({ cls := "java/lang/Math", name := "floorDiv", desc := "(II)I" } : Jvm.MethodName) ∈ TB := List.mem_filter.mpr ⟨(ch_5 (List.mem_of_getElem? (i := 183) (by decide +kernel))), by decide +kernel⟩
theorem tw_1240 : Jvm.Cond.static ({ cls := "java/lang/Math", name := "floorDiv", desc := "(II)I" } : Jvm.MethodName) ∈ TB := List.mem_filter.mpr ⟨(ch_5 (List.mem_of_getElem? (i := 184) (by decide +kernel))), by decide +kernel⟩
theorem tw_1241 : Jvm.Cond.code ({ cls := "java/lang/Math", name := "floorDiv", desc := "(II)I" } : Jvm.MethodName) prog_20_method_47_code (3 : Nat) (Option.some Jvm.ClassFile.FieldType.int) ∈ TB := List.mem_filter.mpr ⟨(ch_5 (List.mem_of_getElem? (i := 185) (by decide +kernel))), by decide +kernel⟩
theorem tw_1242 : Jvm.Cond.methodLink "DeepHole$Walls" (58 : Nat) ({ cls := "DeepHole$Walls", name := "cut", desc := "(III)V" } : Jvm.MethodName) ∈ TB := List.mem_filter.mpr ⟨(ch_5 (List.mem_of_getElem? (i := 186) (by decide +kernel))), by decide +kernel⟩
theorem tw_1244 : Jvm.Cond.instanceMethod ({ cls := "DeepHole$Walls", name := "cut", desc := "(III)V" } : Jvm.MethodName) ∈ TB := List.mem_filter.mpr ⟨(ch_5 (List.mem_of_getElem? (i := 188) (by decide +kernel))), by decide +kernel⟩
theorem tw_1245 : Jvm.Cond.code ({ cls := "DeepHole$Walls", name := "cut", desc := "(III)V" } : Jvm.MethodName) prog_12_method_7_code (4 : Nat) (Option.none : Option Jvm.ClassFile.FieldType) ∈ TB := List.mem_filter.mpr ⟨(ch_5 (List.mem_of_getElem? (i := 189) (by decide +kernel))), by decide +kernel⟩
theorem tw_1246 : Jvm.Cond.methodLink "DeepHoleLaw" (147 : Nat) ({ cls := "DeepHole", name := "next", desc := "(I)I" } : Jvm.MethodName) ∈ TB := List.mem_filter.mpr ⟨(ch_5 (List.mem_of_getElem? (i := 190) (by decide +kernel))), by decide +kernel⟩
theorem tw_1247 : Jvm.Cond.instanceMethod ({ cls := "DeepHole", name := "next", desc := "(I)I" } : Jvm.MethodName) ∈ TB := List.mem_filter.mpr ⟨(ch_5 (List.mem_of_getElem? (i := 191) (by decide +kernel))), by decide +kernel⟩
theorem tw_1248 : Jvm.Cond.selects "DeepHole" ({ cls := "DeepHole", name := "next", desc := "(I)I" } : Jvm.MethodName) ({ cls := "DeepHole", name := "next", desc := "(I)I" } : Jvm.MethodName) ∈ TB := List.mem_filter.mpr ⟨(ch_5 (List.mem_of_getElem? (i := 192) (by decide +kernel))), by decide +kernel⟩
theorem tw_1249 : Jvm.Cond.code ({ cls := "DeepHole", name := "next", desc := "(I)I" } : Jvm.MethodName) prog_1_method_32_code (2 : Nat) (Option.some Jvm.ClassFile.FieldType.int) ∈ TB := List.mem_filter.mpr ⟨(ch_5 (List.mem_of_getElem? (i := 193) (by decide +kernel))), by decide +kernel⟩
theorem tw_1250 : Jvm.Cond.methodLink "DeepHole" (283 : Nat) ({ cls := "DeepHole$Walls", name := "widestInch", desc := "(LDeepHole$Shop;)I" } : Jvm.MethodName) ∈ TB := List.mem_filter.mpr ⟨(ch_5 (List.mem_of_getElem? (i := 194) (by decide +kernel))), by decide +kernel⟩
theorem tw_1251 : Jvm.Cond.instanceMethod ({ cls := "DeepHole$Walls", name := "widestInch", desc := "(LDeepHole$Shop;)I" } : Jvm.MethodName) ∈ TB := List.mem_filter.mpr ⟨(ch_5 (List.mem_of_getElem? (i := 195) (by decide +kernel))), by decide +kernel⟩
theorem tw_1252 : Jvm.Cond.selects "DeepHole$Walls" ({ cls := "DeepHole$Walls", name := "widestInch", desc := "(LDeepHole$Shop;)I" } : Jvm.MethodName) ({ cls := "DeepHole$Walls", name := "widestInch", desc := "(LDeepHole$Shop;)I" } : Jvm.MethodName) ∈ TB := List.mem_filter.mpr ⟨(ch_5 (List.mem_of_getElem? (i := 196) (by decide +kernel))), by decide +kernel⟩
theorem tw_1253 : Jvm.Cond.code ({ cls := "DeepHole$Walls", name := "widestInch", desc := "(LDeepHole$Shop;)I" } : Jvm.MethodName) prog_12_method_8_code (4 : Nat) (Option.some Jvm.ClassFile.FieldType.int) ∈ TB := List.mem_filter.mpr ⟨(ch_5 (List.mem_of_getElem? (i := 197) (by decide +kernel))), by decide +kernel⟩
theorem tw_1254 : Jvm.Cond.methodLink "DeepHoleLaw" (160 : Nat) ({ cls := "DeepHole", name := "trouble", desc := "()I" } : Jvm.MethodName) ∈ TB := List.mem_filter.mpr ⟨(ch_5 (List.mem_of_getElem? (i := 198) (by decide +kernel))), by decide +kernel⟩
theorem tw_1255 : Jvm.Cond.instanceMethod ({ cls := "DeepHole", name := "trouble", desc := "()I" } : Jvm.MethodName) ∈ TB := List.mem_filter.mpr ⟨(ch_5 (List.mem_of_getElem? (i := 199) (by decide +kernel))), by decide +kernel⟩
theorem tw_1256 : Jvm.Cond.selects "DeepHole" ({ cls := "DeepHole", name := "trouble", desc := "()I" } : Jvm.MethodName) ({ cls := "DeepHole", name := "trouble", desc := "()I" } : Jvm.MethodName) ∈ TB := List.mem_filter.mpr ⟨(ch_5 (List.mem_of_getElem? (i := 200) (by decide +kernel))), by decide +kernel⟩
theorem tw_1257 : Jvm.Cond.code ({ cls := "DeepHole", name := "trouble", desc := "()I" } : Jvm.MethodName) prog_1_method_34_code (1 : Nat) (Option.some Jvm.ClassFile.FieldType.int) ∈ TB := List.mem_filter.mpr ⟨(ch_5 (List.mem_of_getElem? (i := 201) (by decide +kernel))), by decide +kernel⟩
theorem tw_1266 : Jvm.Cond.methodLink "DeepHole" (286 : Nat) ({ cls := "DeepHole$Hole", name := "hardInch", desc := "(LDeepHole$Shop;I)I" } : Jvm.MethodName) ∈ TB := List.mem_filter.mpr ⟨(ch_5 (List.mem_of_getElem? (i := 210) (by decide +kernel))), by decide +kernel⟩
theorem tw_1267 : Jvm.Cond.instanceMethod ({ cls := "DeepHole$Hole", name := "hardInch", desc := "(LDeepHole$Shop;I)I" } : Jvm.MethodName) ∈ TB := List.mem_filter.mpr ⟨(ch_5 (List.mem_of_getElem? (i := 211) (by decide +kernel))), by decide +kernel⟩
theorem tw_1268 : Jvm.Cond.selects "DeepHole$Hole" ({ cls := "DeepHole$Hole", name := "hardInch", desc := "(LDeepHole$Shop;I)I" } : Jvm.MethodName) ({ cls := "DeepHole$Hole", name := "hardInch", desc := "(LDeepHole$Shop;I)I" } : Jvm.MethodName) ∈ TB := List.mem_filter.mpr ⟨(ch_5 (List.mem_of_getElem? (i := 212) (by decide +kernel))), by decide +kernel⟩
theorem tw_1269 : Jvm.Cond.code ({ cls := "DeepHole$Hole", name := "hardInch", desc := "(LDeepHole$Shop;I)I" } : Jvm.MethodName) prog_5_method_7_code (5 : Nat) (Option.some Jvm.ClassFile.FieldType.int) ∈ TB := List.mem_filter.mpr ⟨(ch_5 (List.mem_of_getElem? (i := 213) (by decide +kernel))), by decide +kernel⟩
theorem tw_1270 : Jvm.Cond.methodLink "DeepHole$Hole" (93 : Nat) ({ cls := "DeepHole$Shop", name := "hardAt", desc := "(I)I" } : Jvm.MethodName) ∈ TB := List.mem_filter.mpr ⟨(ch_5 (List.mem_of_getElem? (i := 214) (by decide +kernel))), by decide +kernel⟩
theorem tw_1332 : Jvm.Cond.classLink "DeepHoleLaw" (16 : Nat) "DeepHoleModel" ∈ TB := List.mem_filter.mpr ⟨(ch_6 (List.mem_of_getElem? (i := 36) (by decide +kernel))), by decide +kernel⟩
theorem tw_1333 : Jvm.Cond.instantiable "DeepHoleModel" (43 : Nat) ∈ TB := List.mem_filter.mpr ⟨(ch_6 (List.mem_of_getElem? (i := 37) (by decide +kernel))), by decide +kernel⟩
theorem tw_1334 : Jvm.Cond.methodLink "DeepHoleLaw" (18 : Nat) ({ cls := "DeepHoleModel", name := "<init>", desc := "()V" } : Jvm.MethodName) ∈ TB := List.mem_filter.mpr ⟨(ch_6 (List.mem_of_getElem? (i := 38) (by decide +kernel))), by decide +kernel⟩
theorem tw_1335 : Jvm.Cond.instanceMethod ({ cls := "DeepHoleModel", name := "<init>", desc := "()V" } : Jvm.MethodName) ∈ TB := List.mem_filter.mpr ⟨(ch_6 (List.mem_of_getElem? (i := 39) (by decide +kernel))), by decide +kernel⟩
theorem tw_1336 : Jvm.Cond.code ({ cls := "DeepHoleModel", name := "<init>", desc := "()V" } : Jvm.MethodName) prog_14_method_1_code (1 : Nat) (Option.none : Option Jvm.ClassFile.FieldType) ∈ TB := List.mem_filter.mpr ⟨(ch_6 (List.mem_of_getElem? (i := 40) (by decide +kernel))), by decide +kernel⟩
theorem tw_1337 : Jvm.Cond.methodLink "DeepHoleModel" (1 : Nat) ({ cls := "java/lang/Object", name := "<init>", desc := "()V" } : Jvm.MethodName) ∈ TB := List.mem_filter.mpr ⟨(ch_6 (List.mem_of_getElem? (i := 41) (by decide +kernel))), by decide +kernel⟩
theorem tw_1338 : Jvm.Cond.fieldLink "DeepHoleModel" (82 : Nat) "DeepHoleModel" "thrown" "I" ∈ TB := List.mem_filter.mpr ⟨(ch_6 (List.mem_of_getElem? (i := 42) (by decide +kernel))), by decide +kernel⟩
theorem tw_1339 : Jvm.Cond.fieldLink "DeepHoleModel" (85 : Nat) "DeepHoleModel" "trouble" "I" ∈ TB := List.mem_filter.mpr ⟨(ch_6 (List.mem_of_getElem? (i := 43) (by decide +kernel))), by decide +kernel⟩
theorem tw_1340 : Jvm.Cond.fieldLink "DeepHoleModel" (9 : Nat) "DeepHoleModel" "where" "I" ∈ TB := List.mem_filter.mpr ⟨(ch_6 (List.mem_of_getElem? (i := 44) (by decide +kernel))), by decide +kernel⟩
theorem tw_1341 : Jvm.Cond.fieldLink "DeepHoleModel" (352 : Nat) "DeepHoleModel" "shop" "LDeepHoleModel$Shop;" ∈ TB := List.mem_filter.mpr ⟨(ch_6 (List.mem_of_getElem? (i := 45) (by decide +kernel))), by decide +kernel⟩
theorem tw_1342 : Jvm.Cond.fieldLink "DeepHoleModel" (188 : Nat) "DeepHoleModel" "fresh" "LDeepHoleModel$Shop;" ∈ TB := List.mem_filter.mpr ⟨(ch_6 (List.mem_of_getElem? (i := 46) (by decide +kernel))), by decide +kernel⟩
theorem tw_1343 : Jvm.Cond.fieldLink "DeepHoleModel" (13 : Nat) "DeepHoleModel" "tape" "[B" ∈ TB := List.mem_filter.mpr ⟨(ch_6 (List.mem_of_getElem? (i := 47) (by decide +kernel))), by decide +kernel⟩
theorem tw_1344 : Jvm.Cond.fieldLink "DeepHoleModel" (342 : Nat) "DeepHoleModel" "taped" "I" ∈ TB := List.mem_filter.mpr ⟨(ch_6 (List.mem_of_getElem? (i := 48) (by decide +kernel))), by decide +kernel⟩
theorem tw_1345 : Jvm.Cond.fieldLink "DeepHoleModel" (89 : Nat) "DeepHoleModel" "size" "I" ∈ TB := List.mem_filter.mpr ⟨(ch_6 (List.mem_of_getElem? (i := 49) (by decide +kernel))), by decide +kernel⟩
theorem tw_1346 : Jvm.Cond.fieldLink "DeepHoleModel" (107 : Nat) "DeepHoleModel" "at" "I" ∈ TB := List.mem_filter.mpr ⟨(ch_6 (List.mem_of_getElem? (i := 50) (by decide +kernel))), by decide +kernel⟩
theorem tw_1347 : Jvm.Cond.fieldLink "DeepHoleModel" (104 : Nat) "DeepHoleModel" "sort" "I" ∈ TB := List.mem_filter.mpr ⟨(ch_6 (List.mem_of_getElem? (i := 51) (by decide +kernel))), by decide +kernel⟩
theorem tw_1348 : Jvm.Cond.fieldLink "DeepHoleModel" (114 : Nat) "DeepHoleModel" "place" "I" ∈ TB := List.mem_filter.mpr ⟨(ch_6 (List.mem_of_getElem? (i := 52) (by decide +kernel))), by decide +kernel⟩
theorem tw_1349 : Jvm.Cond.fieldLink "DeepHoleModel" (117 : Nat) "DeepHoleModel" "mark" "I" ∈ TB := List.mem_filter.mpr ⟨(ch_6 (List.mem_of_getElem? (i := 53) (by decide +kernel))), by decide +kernel⟩
theorem tw_1350 : Jvm.Cond.fieldLink "DeepHoleModel" (131 : Nat) "DeepHoleModel" "number" "I" ∈ TB := List.mem_filter.mpr ⟨(ch_6 (List.mem_of_getElem? (i := 54) (by decide +kernel))), by decide +kernel⟩
theorem tw_1351 : Jvm.Cond.fieldLink "DeepHoleModel" (138 : Nat) "DeepHoleModel" "fault" "I" ∈ TB := List.mem_filter.mpr ⟨(ch_6 (List.mem_of_getElem? (i := 55) (by decide +kernel))), by decide +kernel⟩
theorem tw_1352 : Jvm.Cond.fieldLink "DeepHoleModel" (141 : Nat) "DeepHoleModel" "wrongAt" "I" ∈ TB := List.mem_filter.mpr ⟨(ch_6 (List.mem_of_getElem? (i := 56) (by decide +kernel))), by decide +kernel⟩
theorem tw_1353 : Jvm.Cond.fieldLink "DeepHoleModel" (124 : Nat) "DeepHoleModel" "word" "J" ∈ TB := List.mem_filter.mpr ⟨(ch_6 (List.mem_of_getElem? (i := 57) (by decide +kernel))), by decide +kernel⟩
theorem tw_1354 : Jvm.Cond.fieldLink "DeepHoleModel" (391 : Nat) "DeepHoleModel" "isBackward" "Z" ∈ TB := List.mem_filter.mpr ⟨(ch_6 (List.mem_of_getElem? (i := 58) (by decide +kernel))), by decide +kernel⟩
theorem tw_1355 : Jvm.Cond.fieldLink "DeepHoleModel" (17 : Nat) "DeepHoleModel" "drill" "[I" ∈ TB := List.mem_filter.mpr ⟨(ch_6 (List.mem_of_getElem? (i := 59) (by decide +kernel))), by decide +kernel⟩
theorem tw_1356 : Jvm.Cond.fieldLink "DeepHoleModel" (21 : Nat) "DeepHoleModel" "twin" "[I" ∈ TB := List.mem_filter.mpr ⟨(ch_6 (List.mem_of_getElem? (i := 60) (by decide +kernel))), by decide +kernel⟩
theorem tw_1357 : Jvm.Cond.fieldLink "DeepHoleModel" (24 : Nat) "DeepHoleModel" "px" "[I" ∈ TB := List.mem_filter.mpr ⟨(ch_6 (List.mem_of_getElem? (i := 61) (by decide +kernel))), by decide +kernel⟩
theorem tw_1358 : Jvm.Cond.fieldLink "DeepHoleModel" (27 : Nat) "DeepHoleModel" "py" "[I" ∈ TB := List.mem_filter.mpr ⟨(ch_6 (List.mem_of_getElem? (i := 62) (by decide +kernel))), by decide +kernel⟩
theorem tw_1359 : Jvm.Cond.fieldLink "DeepHoleModel" (30 : Nat) "DeepHoleModel" "forces" "[I" ∈ TB := List.mem_filter.mpr ⟨(ch_6 (List.mem_of_getElem? (i := 63) (by decide +kernel))), by decide +kernel⟩
theorem tw_1360 : Jvm.Cond.fieldLink "DeepHoleModel" (33 : Nat) "DeepHoleModel" "wears" "[I" ∈ TB := List.mem_filter.mpr ⟨(ch_6 (List.mem_of_getElem? (i := 64) (by decide +kernel))), by decide +kernel⟩
theorem tw_1361 : Jvm.Cond.fieldLink "DeepHoleModel" (36 : Nat) "DeepHoleModel" "chips" "[I" ∈ TB := List.mem_filter.mpr ⟨(ch_6 (List.mem_of_getElem? (i := 65) (by decide +kernel))), by decide +kernel⟩
theorem tw_1362 : Jvm.Cond.fieldLink "DeepHoleModel" (39 : Nat) "DeepHoleModel" "tiltX" "[I" ∈ TB := List.mem_filter.mpr ⟨(ch_6 (List.mem_of_getElem? (i := 66) (by decide +kernel))), by decide +kernel⟩
theorem tw_1363 : Jvm.Cond.fieldLink "DeepHoleModel" (42 : Nat) "DeepHoleModel" "tiltY" "[I" ∈ TB := List.mem_filter.mpr ⟨(ch_6 (List.mem_of_getElem? (i := 67) (by decide +kernel))), by decide +kernel⟩
theorem tw_1364 : Jvm.Cond.fieldLink "DeepHoleModel" (365 : Nat) "DeepHoleModel" "cheaps" "I" ∈ TB := List.mem_filter.mpr ⟨(ch_6 (List.mem_of_getElem? (i := 68) (by decide +kernel))), by decide +kernel⟩
theorem tw_1365 : Jvm.Cond.fieldLink "DeepHoleModel" (45 : Nat) "DeepHoleModel" "cheap" "[I" ∈ TB := List.mem_filter.mpr ⟨(ch_6 (List.mem_of_getElem? (i := 69) (by decide +kernel))), by decide +kernel⟩
theorem tw_1366 : Jvm.Cond.fieldLink "DeepHoleModel" (359 : Nat) "DeepHoleModel" "felts" "I" ∈ TB := List.mem_filter.mpr ⟨(ch_6 (List.mem_of_getElem? (i := 70) (by decide +kernel))), by decide +kernel⟩
theorem tw_1367 : Jvm.Cond.fieldLink "DeepHoleModel" (48 : Nat) "DeepHoleModel" "feltAt" "[I" ∈ TB := List.mem_filter.mpr ⟨(ch_6 (List.mem_of_getElem? (i := 71) (by decide +kernel))), by decide +kernel⟩
theorem tw_1368 : Jvm.Cond.fieldLink "DeepHoleModel" (51 : Nat) "DeepHoleModel" "feltForce" "[I" ∈ TB := List.mem_filter.mpr ⟨(ch_6 (List.mem_of_getElem? (i := 72) (by decide +kernel))), by decide +kernel⟩
theorem tw_1369 : Jvm.Cond.fieldLink "DeepHoleModel" (399 : Nat) "DeepHoleModel" "blows" "I" ∈ TB := List.mem_filter.mpr ⟨(ch_6 (List.mem_of_getElem? (i := 73) (by decide +kernel))), by decide +kernel⟩
theorem tw_1370 : Jvm.Cond.fieldLink "DeepHoleModel" (54 : Nat) "DeepHoleModel" "blowAt" "[I" ∈ TB := List.mem_filter.mpr ⟨(ch_6 (List.mem_of_getElem? (i := 74) (by decide +kernel))), by decide +kernel⟩
theorem tw_1371 : Jvm.Cond.fieldLink "DeepHoleModel" (57 : Nat) "DeepHoleModel" "blowSide" "[I" ∈ TB := List.mem_filter.mpr ⟨(ch_6 (List.mem_of_getElem? (i := 75) (by decide +kernel))), by decide +kernel⟩
theorem tw_1372 : Jvm.Cond.fieldLink "DeepHoleModel" (60 : Nat) "DeepHoleModel" "blowBy" "[I" ∈ TB := List.mem_filter.mpr ⟨(ch_6 (List.mem_of_getElem? (i := 76) (by decide +kernel))), by decide +kernel⟩
theorem tw_1373 : Jvm.Cond.fieldLink "DeepHoleModel" (368 : Nat) "DeepHoleModel" "strokes" "I" ∈ TB := List.mem_filter.mpr ⟨(ch_6 (List.mem_of_getElem? (i := 77) (by decide +kernel))), by decide +kernel⟩
theorem tw_1374 : Jvm.Cond.fieldLink "DeepHoleModel" (63 : Nat) "DeepHoleModel" "stroke" "[I" ∈ TB := List.mem_filter.mpr ⟨(ch_6 (List.mem_of_getElem? (i := 78) (by decide +kernel))), by decide +kernel⟩
theorem tw_1375 : Jvm.Cond.fieldLink "DeepHoleModel" (362 : Nat) "DeepHoleModel" "walls" "I" ∈ TB := List.mem_filter.mpr ⟨(ch_6 (List.mem_of_getElem? (i := 79) (by decide +kernel))), by decide +kernel⟩
theorem tw_1376 : Jvm.Cond.fieldLink "DeepHoleModel" (66 : Nat) "DeepHoleModel" "wallLow" "[I" ∈ TB := List.mem_filter.mpr ⟨(ch_6 (List.mem_of_getElem? (i := 80) (by decide +kernel))), by decide +kernel⟩
theorem tw_1377 : Jvm.Cond.fieldLink "DeepHoleModel" (69 : Nat) "DeepHoleModel" "wallHigh" "[I" ∈ TB := List.mem_filter.mpr ⟨(ch_6 (List.mem_of_getElem? (i := 81) (by decide +kernel))), by decide +kernel⟩
theorem tw_1378 : Jvm.Cond.fieldLink "DeepHoleModel" (72 : Nat) "DeepHoleModel" "low" "[I" ∈ TB := List.mem_filter.mpr ⟨(ch_6 (List.mem_of_getElem? (i := 82) (by decide +kernel))), by decide +kernel⟩
theorem tw_1379 : Jvm.Cond.fieldLink "DeepHoleModel" (75 : Nat) "DeepHoleModel" "high" "[I" ∈ TB := List.mem_filter.mpr ⟨(ch_6 (List.mem_of_getElem? (i := 83) (by decide +kernel))), by decide +kernel⟩
theorem tw_1380 : Jvm.Cond.fieldLink "DeepHoleModel" (78 : Nat) "DeepHoleModel" "isWall" "[Z" ∈ TB := List.mem_filter.mpr ⟨(ch_6 (List.mem_of_getElem? (i := 84) (by decide +kernel))), by decide +kernel⟩
theorem tw_1468 : Jvm.Cond.methodLink "DeepHoleLaw" (157 : Nat) ({ cls := "DeepHoleModel", name := "thrown", desc := "()I" } : Jvm.MethodName) ∈ TB := List.mem_filter.mpr ⟨(ch_6 (List.mem_of_getElem? (i := 172) (by decide +kernel))), by decide +kernel⟩
theorem tw_1469 : Jvm.Cond.instanceMethod ({ cls := "DeepHoleModel", name := "thrown", desc := "()I" } : Jvm.MethodName) ∈ TB := List.mem_filter.mpr ⟨(ch_6 (List.mem_of_getElem? (i := 173) (by decide +kernel))), by decide +kernel⟩
theorem tw_1470 : Jvm.Cond.selects "DeepHoleModel" ({ cls := "DeepHoleModel", name := "thrown", desc := "()I" } : Jvm.MethodName) ({ cls := "DeepHoleModel", name := "thrown", desc := "()I" } : Jvm.MethodName) ∈ TB := List.mem_filter.mpr ⟨(ch_6 (List.mem_of_getElem? (i := 174) (by decide +kernel))), by decide +kernel⟩
theorem tw_1471 : Jvm.Cond.code ({ cls := "DeepHoleModel", name := "thrown", desc := "()I" } : Jvm.MethodName) prog_14_method_2_code (1 : Nat) (Option.some Jvm.ClassFile.FieldType.int) ∈ TB := List.mem_filter.mpr ⟨(ch_6 (List.mem_of_getElem? (i := 175) (by decide +kernel))), by decide +kernel⟩
theorem tw_1472 : Jvm.Cond.methodLink "DeepHoleLaw" (23 : Nat) ({ cls := "DeepHoleModel", name := "feed", desc := "(IIIII)I" } : Jvm.MethodName) ∈ TB := List.mem_filter.mpr ⟨(ch_6 (List.mem_of_getElem? (i := 176) (by decide +kernel))), by decide +kernel⟩
theorem tw_1473 : Jvm.Cond.instanceMethod ({ cls := "DeepHoleModel", name := "feed", desc := "(IIIII)I" } : Jvm.MethodName) ∈ TB := List.mem_filter.mpr ⟨(ch_6 (List.mem_of_getElem? (i := 177) (by decide +kernel))), by decide +kernel⟩
theorem tw_1474 : Jvm.Cond.selects "DeepHoleModel" ({ cls := "DeepHoleModel", name := "feed", desc := "(IIIII)I" } : Jvm.MethodName) ({ cls := "DeepHoleModel", name := "feed", desc := "(IIIII)I" } : Jvm.MethodName) ∈ TB := List.mem_filter.mpr ⟨(ch_6 (List.mem_of_getElem? (i := 178) (by decide +kernel))), by decide +kernel⟩
theorem tw_1475 : Jvm.Cond.code ({ cls := "DeepHoleModel", name := "feed", desc := "(IIIII)I" } : Jvm.MethodName) prog_14_method_32_code (8 : Nat) (Option.some Jvm.ClassFile.FieldType.int) ∈ TB := List.mem_filter.mpr ⟨(ch_6 (List.mem_of_getElem? (i := 179) (by decide +kernel))), by decide +kernel⟩
theorem tw_1476 : Jvm.Cond.methodLink "DeepHoleLaw" (27 : Nat) ({ cls := "DeepHoleModel", name := "shop", desc := "(I)I" } : Jvm.MethodName) ∈ TB := List.mem_filter.mpr ⟨(ch_6 (List.mem_of_getElem? (i := 180) (by decide +kernel))), by decide +kernel⟩
theorem tw_1477 : Jvm.Cond.instanceMethod ({ cls := "DeepHoleModel", name := "shop", desc := "(I)I" } : Jvm.MethodName) ∈ TB := List.mem_filter.mpr ⟨(ch_6 (List.mem_of_getElem? (i := 181) (by decide +kernel))), by decide +kernel⟩
theorem tw_1478 : Jvm.Cond.selects "DeepHoleModel" ({ cls := "DeepHoleModel", name := "shop", desc := "(I)I" } : Jvm.MethodName) ({ cls := "DeepHoleModel", name := "shop", desc := "(I)I" } : Jvm.MethodName) ∈ TB := List.mem_filter.mpr ⟨(ch_6 (List.mem_of_getElem? (i := 182) (by decide +kernel))), by decide +kernel⟩
theorem tw_1479 : Jvm.Cond.code ({ cls := "DeepHoleModel", name := "shop", desc := "(I)I" } : Jvm.MethodName) prog_14_method_33_code (3 : Nat) (Option.some Jvm.ClassFile.FieldType.int) ∈ TB := List.mem_filter.mpr ⟨(ch_6 (List.mem_of_getElem? (i := 183) (by decide +kernel))), by decide +kernel⟩
theorem tw_1480 : Jvm.Cond.methodLink "DeepHoleModel" (345 : Nat) ({ cls := "DeepHoleModel", name := "refused", desc := "(I)I" } : Jvm.MethodName) ∈ TB := List.mem_filter.mpr ⟨(ch_6 (List.mem_of_getElem? (i := 184) (by decide +kernel))), by decide +kernel⟩
theorem tw_1482 : Jvm.Cond.instanceMethod ({ cls := "DeepHoleModel", name := "refused", desc := "(I)I" } : Jvm.MethodName) ∈ TB := List.mem_filter.mpr ⟨(ch_6 (List.mem_of_getElem? (i := 186) (by decide +kernel))), by decide +kernel⟩
theorem tw_1483 : Jvm.Cond.code ({ cls := "DeepHoleModel", name := "refused", desc := "(I)I" } : Jvm.MethodName) prog_14_method_3_code (2 : Nat) (Option.some Jvm.ClassFile.FieldType.int) ∈ TB := List.mem_filter.mpr ⟨(ch_6 (List.mem_of_getElem? (i := 187) (by decide +kernel))), by decide +kernel⟩
theorem tw_1484 : Jvm.Cond.classLink "DeepHoleModel" (193 : Nat) "DeepHoleModel$Shop" ∈ TB := List.mem_filter.mpr ⟨(ch_6 (List.mem_of_getElem? (i := 188) (by decide +kernel))), by decide +kernel⟩
theorem tw_1485 : Jvm.Cond.instantiable "DeepHoleModel$Shop" (29 : Nat) ∈ TB := List.mem_filter.mpr ⟨(ch_6 (List.mem_of_getElem? (i := 189) (by decide +kernel))), by decide +kernel⟩
theorem nw_1486 : Jvm.Cond.methodLinkNest "DeepHoleModel" (348 : Nat) ({ cls := "DeepHoleModel$Shop", name := "<init>", desc := "()V" } : Jvm.MethodName) "DeepHoleModel" ∈ NW := List.mem_filter.mpr ⟨(ch_6 (List.mem_of_getElem? (i := 190) (by decide +kernel))), rfl⟩
theorem tw_1487 : Jvm.Cond.instanceMethod ({ cls := "DeepHoleModel$Shop", name := "<init>", desc := "()V" } : Jvm.MethodName) ∈ TB := List.mem_filter.mpr ⟨(ch_6 (List.mem_of_getElem? (i := 191) (by decide +kernel))), by decide +kernel⟩
theorem tw_1488 : Jvm.Cond.code ({ cls := "DeepHoleModel$Shop", name := "<init>", desc := "()V" } : Jvm.MethodName) prog_15_method_1_code (1 : Nat) (Option.none : Option Jvm.ClassFile.FieldType) ∈ TB := List.mem_filter.mpr ⟨(ch_6 (List.mem_of_getElem? (i := 192) (by decide +kernel))), by decide +kernel⟩
theorem tw_1489 : Jvm.Cond.methodLink "DeepHoleModel$Shop" (3 : Nat) ({ cls := "java/lang/Object", name := "<init>", desc := "()V" } : Jvm.MethodName) ∈ TB := List.mem_filter.mpr ⟨(ch_6 (List.mem_of_getElem? (i := 193) (by decide +kernel))), by decide +kernel⟩
theorem nw_1490 : Jvm.Cond.fieldLinkNest "DeepHoleModel" (192 : Nat) "DeepHoleModel$Shop" "inches" "I" "DeepHoleModel" ∈ NW := List.mem_filter.mpr ⟨(ch_6 (List.mem_of_getElem? (i := 194) (by decide +kernel))), rfl⟩
theorem nw_1491 : Jvm.Cond.fieldLinkNest "DeepHoleModel" (237 : Nat) "DeepHoleModel$Shop" "wall" "I" "DeepHoleModel" ∈ NW := List.mem_filter.mpr ⟨(ch_6 (List.mem_of_getElem? (i := 195) (by decide +kernel))), rfl⟩
theorem nw_1492 : Jvm.Cond.fieldLinkNest "DeepHoleModel" (239 : Nat) "DeepHoleModel$Shop" "bush" "I" "DeepHoleModel" ∈ NW := List.mem_filter.mpr ⟨(ch_6 (List.mem_of_getElem? (i := 196) (by decide +kernel))), rfl⟩
theorem nw_1493 : Jvm.Cond.fieldLinkNest "DeepHoleModel" (197 : Nat) "DeepHoleModel$Shop" "lip" "I" "DeepHoleModel" ∈ NW := List.mem_filter.mpr ⟨(ch_6 (List.mem_of_getElem? (i := 197) (by decide +kernel))), rfl⟩
theorem nw_1494 : Jvm.Cond.fieldLinkNest "DeepHoleModel" (243 : Nat) "DeepHoleModel$Shop" "oil" "I" "DeepHoleModel" ∈ NW := List.mem_filter.mpr ⟨(ch_6 (List.mem_of_getElem? (i := 198) (by decide +kernel))), rfl⟩
theorem nw_1495 : Jvm.Cond.fieldLinkNest "DeepHoleModel" (247 : Nat) "DeepHoleModel$Shop" "room" "I" "DeepHoleModel" ∈ NW := List.mem_filter.mpr ⟨(ch_6 (List.mem_of_getElem? (i := 199) (by decide +kernel))), rfl⟩
theorem nw_1496 : Jvm.Cond.fieldLinkNest "DeepHoleModel" (251 : Nat) "DeepHoleModel$Shop" "bears" "I" "DeepHoleModel" ∈ NW := List.mem_filter.mpr ⟨(ch_6 (List.mem_of_getElem? (i := 200) (by decide +kernel))), rfl⟩
theorem tw_1497 : Jvm.Cond.fieldLink "DeepHoleModel$Shop" (9 : Nat) "DeepHoleModel$Shop" "inchCost" "I" ∈ TB := List.mem_filter.mpr ⟨(ch_6 (List.mem_of_getElem? (i := 201) (by decide +kernel))), by decide +kernel⟩
theorem nw_1498 : Jvm.Cond.fieldLinkNest "DeepHoleModel" (199 : Nat) "DeepHoleModel$Shop" "inchCost" "I" "DeepHoleModel" ∈ NW := List.mem_filter.mpr ⟨(ch_6 (List.mem_of_getElem? (i := 202) (by decide +kernel))), rfl⟩
theorem nw_1499 : Jvm.Cond.fieldLinkNest "DeepHoleModel" (255 : Nat) "DeepHoleModel$Shop" "lipCost" "I" "DeepHoleModel" ∈ NW := List.mem_filter.mpr ⟨(ch_6 (List.mem_of_getElem? (i := 203) (by decide +kernel))), rfl⟩
theorem nw_1500 : Jvm.Cond.fieldLinkNest "DeepHoleModel" (258 : Nat) "DeepHoleModel$Shop" "drawCost" "I" "DeepHoleModel" ∈ NW := List.mem_filter.mpr ⟨(ch_6 (List.mem_of_getElem? (i := 204) (by decide +kernel))), rfl⟩
theorem nw_1501 : Jvm.Cond.fieldLinkNest "DeepHoleModel" (279 : Nat) "DeepHoleModel$Shop" "ways" "I" "DeepHoleModel" ∈ NW := List.mem_filter.mpr ⟨(ch_6 (List.mem_of_getElem? (i := 205) (by decide +kernel))), rfl⟩
theorem tw_1502 : Jvm.Cond.fieldLink "DeepHoleModel$Shop" (63 : Nat) "DeepHoleModel$Shop" "hards" "I" ∈ TB := List.mem_filter.mpr ⟨(ch_6 (List.mem_of_getElem? (i := 206) (by decide +kernel))), by decide +kernel⟩
theorem nw_1503 : Jvm.Cond.fieldLinkNest "DeepHoleModel" (298 : Nat) "DeepHoleModel$Shop" "hards" "I" "DeepHoleModel" ∈ NW := List.mem_filter.mpr ⟨(ch_6 (List.mem_of_getElem? (i := 207) (by decide +kernel))), rfl⟩
theorem tw_1504 : Jvm.Cond.fieldLink "DeepHoleModel$Shop" (66 : Nat) "DeepHoleModel$Shop" "froms" "I" ∈ TB := List.mem_filter.mpr ⟨(ch_6 (List.mem_of_getElem? (i := 208) (by decide +kernel))), by decide +kernel⟩
theorem nw_1505 : Jvm.Cond.fieldLinkNest "DeepHoleModel" (202 : Nat) "DeepHoleModel$Shop" "froms" "I" "DeepHoleModel" ∈ NW := List.mem_filter.mpr ⟨(ch_6 (List.mem_of_getElem? (i := 209) (by decide +kernel))), rfl⟩
theorem nw_1506 : Jvm.Cond.fieldLinkNest "DeepHoleModel" (335 : Nat) "DeepHoleModel$Shop" "seers" "I" "DeepHoleModel" ∈ NW := List.mem_filter.mpr ⟨(ch_6 (List.mem_of_getElem? (i := 210) (by decide +kernel))), rfl⟩
theorem tw_1507 : Jvm.Cond.fieldLink "DeepHoleModel$Shop" (60 : Nat) "DeepHoleModel$Shop" "names" "I" ∈ TB := List.mem_filter.mpr ⟨(ch_6 (List.mem_of_getElem? (i := 211) (by decide +kernel))), by decide +kernel⟩
theorem nw_1508 : Jvm.Cond.fieldLinkNest "DeepHoleModel" (273 : Nat) "DeepHoleModel$Shop" "names" "I" "DeepHoleModel" ∈ NW := List.mem_filter.mpr ⟨(ch_6 (List.mem_of_getElem? (i := 212) (by decide +kernel))), rfl⟩
theorem tw_1509 : Jvm.Cond.fieldLink "DeepHoleModel$Shop" (15 : Nat) "DeepHoleModel$Shop" "push" "[I" ∈ TB := List.mem_filter.mpr ⟨(ch_6 (List.mem_of_getElem? (i := 213) (by decide +kernel))), by decide +kernel⟩
theorem nw_1510 : Jvm.Cond.fieldLinkNest "DeepHoleModel" (292 : Nat) "DeepHoleModel$Shop" "push" "[I" "DeepHoleModel" ∈ NW := List.mem_filter.mpr ⟨(ch_6 (List.mem_of_getElem? (i := 214) (by decide +kernel))), rfl⟩
theorem tw_1511 : Jvm.Cond.fieldLink "DeepHoleModel$Shop" (19 : Nat) "DeepHoleModel$Shop" "hold" "[I" ∈ TB := List.mem_filter.mpr ⟨(ch_6 (List.mem_of_getElem? (i := 215) (by decide +kernel))), by decide +kernel⟩
theorem nw_1512 : Jvm.Cond.fieldLinkNest "DeepHoleModel" (294 : Nat) "DeepHoleModel$Shop" "hold" "[I" "DeepHoleModel" ∈ NW := List.mem_filter.mpr ⟨(ch_6 (List.mem_of_getElem? (i := 216) (by decide +kernel))), rfl⟩
theorem tw_1513 : Jvm.Cond.fieldLink "DeepHoleModel$Shop" (22 : Nat) "DeepHoleModel$Shop" "force" "[I" ∈ TB := List.mem_filter.mpr ⟨(ch_6 (List.mem_of_getElem? (i := 217) (by decide +kernel))), by decide +kernel⟩
theorem nw_1514 : Jvm.Cond.fieldLinkNest "DeepHoleModel" (296 : Nat) "DeepHoleModel$Shop" "force" "[I" "DeepHoleModel" ∈ NW := List.mem_filter.mpr ⟨(ch_6 (List.mem_of_getElem? (i := 218) (by decide +kernel))), rfl⟩
theorem tw_1515 : Jvm.Cond.fieldLink "DeepHoleModel$Shop" (25 : Nat) "DeepHoleModel$Shop" "sees" "[I" ∈ TB := List.mem_filter.mpr ⟨(ch_6 (List.mem_of_getElem? (i := 219) (by decide +kernel))), by decide +kernel⟩
theorem nw_1516 : Jvm.Cond.fieldLinkNest "DeepHoleModel" (340 : Nat) "DeepHoleModel$Shop" "sees" "[I" "DeepHoleModel" ∈ NW := List.mem_filter.mpr ⟨(ch_6 (List.mem_of_getElem? (i := 220) (by decide +kernel))), rfl⟩
theorem tw_1517 : Jvm.Cond.fieldLink "DeepHoleModel$Shop" (28 : Nat) "DeepHoleModel$Shop" "hardAt" "[I" ∈ TB := List.mem_filter.mpr ⟨(ch_6 (List.mem_of_getElem? (i := 221) (by decide +kernel))), by decide +kernel⟩
theorem nw_1518 : Jvm.Cond.fieldLinkNest "DeepHoleModel" (311 : Nat) "DeepHoleModel$Shop" "hardAt" "[I" "DeepHoleModel" ∈ NW := List.mem_filter.mpr ⟨(ch_6 (List.mem_of_getElem? (i := 222) (by decide +kernel))), rfl⟩
theorem tw_1519 : Jvm.Cond.fieldLink "DeepHoleModel$Shop" (31 : Nat) "DeepHoleModel$Shop" "hardBy" "[I" ∈ TB := List.mem_filter.mpr ⟨(ch_6 (List.mem_of_getElem? (i := 223) (by decide +kernel))), by decide +kernel⟩
theorem nw_1520 : Jvm.Cond.fieldLinkNest "DeepHoleModel" (314 : Nat) "DeepHoleModel$Shop" "hardBy" "[I" "DeepHoleModel" ∈ NW := List.mem_filter.mpr ⟨(ch_6 (List.mem_of_getElem? (i := 224) (by decide +kernel))), rfl⟩
theorem tw_1521 : Jvm.Cond.fieldLink "DeepHoleModel$Shop" (34 : Nat) "DeepHoleModel$Shop" "hardSide" "[I" ∈ TB := List.mem_filter.mpr ⟨(ch_6 (List.mem_of_getElem? (i := 225) (by decide +kernel))), by decide +kernel⟩
theorem nw_1522 : Jvm.Cond.fieldLinkNest "DeepHoleModel" (317 : Nat) "DeepHoleModel$Shop" "hardSide" "[I" "DeepHoleModel" ∈ NW := List.mem_filter.mpr ⟨(ch_6 (List.mem_of_getElem? (i := 226) (by decide +kernel))), rfl⟩
theorem tw_1523 : Jvm.Cond.fieldLink "DeepHoleModel$Shop" (37 : Nat) "DeepHoleModel$Shop" "from" "[I" ∈ TB := List.mem_filter.mpr ⟨(ch_6 (List.mem_of_getElem? (i := 227) (by decide +kernel))), by decide +kernel⟩
theorem nw_1524 : Jvm.Cond.fieldLinkNest "DeepHoleModel" (205 : Nat) "DeepHoleModel$Shop" "from" "[I" "DeepHoleModel" ∈ NW := List.mem_filter.mpr ⟨(ch_6 (List.mem_of_getElem? (i := 228) (by decide +kernel))), rfl⟩
theorem tw_1525 : Jvm.Cond.fieldLink "DeepHoleModel$Shop" (40 : Nat) "DeepHoleModel$Shop" "feed" "[I" ∈ TB := List.mem_filter.mpr ⟨(ch_6 (List.mem_of_getElem? (i := 229) (by decide +kernel))), by decide +kernel⟩
theorem nw_1526 : Jvm.Cond.fieldLinkNest "DeepHoleModel" (322 : Nat) "DeepHoleModel$Shop" "feed" "[I" "DeepHoleModel" ∈ NW := List.mem_filter.mpr ⟨(ch_6 (List.mem_of_getElem? (i := 230) (by decide +kernel))), rfl⟩
theorem tw_1527 : Jvm.Cond.fieldLink "DeepHoleModel$Shop" (43 : Nat) "DeepHoleModel$Shop" "way" "[I" ∈ TB := List.mem_filter.mpr ⟨(ch_6 (List.mem_of_getElem? (i := 231) (by decide +kernel))), by decide +kernel⟩
theorem nw_1528 : Jvm.Cond.fieldLinkNest "DeepHoleModel" (324 : Nat) "DeepHoleModel$Shop" "way" "[I" "DeepHoleModel" ∈ NW := List.mem_filter.mpr ⟨(ch_6 (List.mem_of_getElem? (i := 232) (by decide +kernel))), rfl⟩
theorem tw_1529 : Jvm.Cond.fieldLink "DeepHoleModel$Shop" (46 : Nat) "DeepHoleModel$Shop" "draws" "[Z" ∈ TB := List.mem_filter.mpr ⟨(ch_6 (List.mem_of_getElem? (i := 233) (by decide +kernel))), by decide +kernel⟩
theorem nw_1530 : Jvm.Cond.fieldLinkNest "DeepHoleModel" (326 : Nat) "DeepHoleModel$Shop" "draws" "[Z" "DeepHoleModel" ∈ NW := List.mem_filter.mpr ⟨(ch_6 (List.mem_of_getElem? (i := 234) (by decide +kernel))), rfl⟩
theorem tw_1531 : Jvm.Cond.fieldLink "DeepHoleModel$Shop" (50 : Nat) "DeepHoleModel$Shop" "sharpens" "[Z" ∈ TB := List.mem_filter.mpr ⟨(ch_6 (List.mem_of_getElem? (i := 235) (by decide +kernel))), by decide +kernel⟩
theorem nw_1532 : Jvm.Cond.fieldLinkNest "DeepHoleModel" (332 : Nat) "DeepHoleModel$Shop" "sharpens" "[Z" "DeepHoleModel" ∈ NW := List.mem_filter.mpr ⟨(ch_6 (List.mem_of_getElem? (i := 236) (by decide +kernel))), rfl⟩
theorem tw_1533 : Jvm.Cond.fieldLink "DeepHoleModel$Shop" (53 : Nat) "DeepHoleModel$Shop" "name" "[J" ∈ TB := List.mem_filter.mpr ⟨(ch_6 (List.mem_of_getElem? (i := 237) (by decide +kernel))), by decide +kernel⟩
theorem nw_1534 : Jvm.Cond.fieldLinkNest "DeepHoleModel" (269 : Nat) "DeepHoleModel$Shop" "name" "[J" "DeepHoleModel" ∈ NW := List.mem_filter.mpr ⟨(ch_6 (List.mem_of_getElem? (i := 238) (by decide +kernel))), rfl⟩
theorem tw_1535 : Jvm.Cond.fieldLink "DeepHoleModel$Shop" (57 : Nat) "DeepHoleModel$Shop" "sense" "[I" ∈ TB := List.mem_filter.mpr ⟨(ch_6 (List.mem_of_getElem? (i := 239) (by decide +kernel))), by decide +kernel⟩
theorem nw_1536 : Jvm.Cond.fieldLinkNest "DeepHoleModel" (276 : Nat) "DeepHoleModel$Shop" "sense" "[I" "DeepHoleModel" ∈ NW := List.mem_filter.mpr ⟨(ch_7 (List.mem_of_getElem? (i := 0) (by decide +kernel))), rfl⟩
theorem tw_1596 : Jvm.Cond.arrayClass Jvm.ClassFile.FieldType.long ∈ TB := List.mem_filter.mpr ⟨(ch_7 (List.mem_of_getElem? (i := 60) (by decide +kernel))), by decide +kernel⟩
theorem tw_1597 : Jvm.Cond.methodLink "DeepHoleModel" (152 : Nat) ({ cls := "DeepHoleModel", name := "goesOn", desc := "()V" } : Jvm.MethodName) ∈ TB := List.mem_filter.mpr ⟨(ch_7 (List.mem_of_getElem? (i := 61) (by decide +kernel))), by decide +kernel⟩
theorem tw_1599 : Jvm.Cond.instanceMethod ({ cls := "DeepHoleModel", name := "goesOn", desc := "()V" } : Jvm.MethodName) ∈ TB := List.mem_filter.mpr ⟨(ch_7 (List.mem_of_getElem? (i := 63) (by decide +kernel))), by decide +kernel⟩
theorem tw_1600 : Jvm.Cond.code ({ cls := "DeepHoleModel", name := "goesOn", desc := "()V" } : Jvm.MethodName) prog_14_method_14_code (3 : Nat) (Option.none : Option Jvm.ClassFile.FieldType) ∈ TB := List.mem_filter.mpr ⟨(ch_7 (List.mem_of_getElem? (i := 64) (by decide +kernel))), by decide +kernel⟩
theorem tw_1601 : Jvm.Cond.methodLink "DeepHoleModel" (110 : Nat) ({ cls := "DeepHoleModel", name := "byteAt", desc := "(I)I" } : Jvm.MethodName) ∈ TB := List.mem_filter.mpr ⟨(ch_7 (List.mem_of_getElem? (i := 65) (by decide +kernel))), by decide +kernel⟩
theorem tw_1603 : Jvm.Cond.instanceMethod ({ cls := "DeepHoleModel", name := "byteAt", desc := "(I)I" } : Jvm.MethodName) ∈ TB := List.mem_filter.mpr ⟨(ch_7 (List.mem_of_getElem? (i := 67) (by decide +kernel))), by decide +kernel⟩
theorem tw_1604 : Jvm.Cond.code ({ cls := "DeepHoleModel", name := "byteAt", desc := "(I)I" } : Jvm.MethodName) prog_14_method_10_code (2 : Nat) (Option.some Jvm.ClassFile.FieldType.int) ∈ TB := List.mem_filter.mpr ⟨(ch_7 (List.mem_of_getElem? (i := 68) (by decide +kernel))), by decide +kernel⟩
theorem tw_1605 : Jvm.Cond.methodLink "DeepHoleModel" (120 : Nat) ({ cls := "DeepHoleModel", name := "isLetter", desc := "(I)Z" } : Jvm.MethodName) ∈ TB := List.mem_filter.mpr ⟨(ch_7 (List.mem_of_getElem? (i := 69) (by decide +kernel))), by decide +kernel⟩
theorem tw_1606 : Jvm.Cond.static ({ cls := "DeepHoleModel", name := "isLetter", desc := "(I)Z" } : Jvm.MethodName) ∈ TB := List.mem_filter.mpr ⟨(ch_7 (List.mem_of_getElem? (i := 70) (by decide +kernel))), by decide +kernel⟩
theorem tw_1607 : Jvm.Cond.code ({ cls := "DeepHoleModel", name := "isLetter", desc := "(I)Z" } : Jvm.MethodName) prog_14_method_11_code (1 : Nat) (Option.some Jvm.ClassFile.FieldType.boolean) ∈ TB := List.mem_filter.mpr ⟨(ch_7 (List.mem_of_getElem? (i := 71) (by decide +kernel))), by decide +kernel⟩
theorem tw_1608 : Jvm.Cond.constantLong "DeepHoleModel" (98 : Nat) (32 : Int64) ∈ TB := List.mem_filter.mpr ⟨(ch_7 (List.mem_of_getElem? (i := 72) (by decide +kernel))), by decide +kernel⟩
theorem tw_1609 : Jvm.Cond.methodLink "DeepHoleModel" (128 : Nat) ({ cls := "DeepHoleModel", name := "isDigit", desc := "(I)Z" } : Jvm.MethodName) ∈ TB := List.mem_filter.mpr ⟨(ch_7 (List.mem_of_getElem? (i := 73) (by decide +kernel))), by decide +kernel⟩
theorem tw_1610 : Jvm.Cond.static ({ cls := "DeepHoleModel", name := "isDigit", desc := "(I)Z" } : Jvm.MethodName) ∈ TB := List.mem_filter.mpr ⟨(ch_7 (List.mem_of_getElem? (i := 74) (by decide +kernel))), by decide +kernel⟩
theorem tw_1611 : Jvm.Cond.code ({ cls := "DeepHoleModel", name := "isDigit", desc := "(I)Z" } : Jvm.MethodName) prog_14_method_12_code (1 : Nat) (Option.some Jvm.ClassFile.FieldType.boolean) ∈ TB := List.mem_filter.mpr ⟨(ch_7 (List.mem_of_getElem? (i := 75) (by decide +kernel))), by decide +kernel⟩
theorem tw_1612 : Jvm.Cond.methodLink "DeepHoleModel" (349 : Nat) ({ cls := "DeepHoleModel", name := "readShop", desc := "()V" } : Jvm.MethodName) ∈ TB := List.mem_filter.mpr ⟨(ch_7 (List.mem_of_getElem? (i := 76) (by decide +kernel))), by decide +kernel⟩
theorem tw_1614 : Jvm.Cond.instanceMethod ({ cls := "DeepHoleModel", name := "readShop", desc := "()V" } : Jvm.MethodName) ∈ TB := List.mem_filter.mpr ⟨(ch_7 (List.mem_of_getElem? (i := 78) (by decide +kernel))), by decide +kernel⟩
theorem tw_1615 : Jvm.Cond.code ({ cls := "DeepHoleModel", name := "readShop", desc := "()V" } : Jvm.MethodName) prog_14_method_22_code (2 : Nat) (Option.none : Option Jvm.ClassFile.FieldType) ∈ TB := List.mem_filter.mpr ⟨(ch_7 (List.mem_of_getElem? (i := 79) (by decide +kernel))), by decide +kernel⟩
theorem tw_1616 : Jvm.Cond.methodLink "DeepHoleModel" (185 : Nat) ({ cls := "DeepHoleModel", name := "readLine", desc := "()V" } : Jvm.MethodName) ∈ TB := List.mem_filter.mpr ⟨(ch_7 (List.mem_of_getElem? (i := 80) (by decide +kernel))), by decide +kernel⟩
theorem tw_1618 : Jvm.Cond.instanceMethod ({ cls := "DeepHoleModel", name := "readLine", desc := "()V" } : Jvm.MethodName) ∈ TB := List.mem_filter.mpr ⟨(ch_7 (List.mem_of_getElem? (i := 82) (by decide +kernel))), by decide +kernel⟩
theorem tw_1619 : Jvm.Cond.code ({ cls := "DeepHoleModel", name := "readLine", desc := "()V" } : Jvm.MethodName) prog_14_method_23_code (1 : Nat) (Option.none : Option Jvm.ClassFile.FieldType) ∈ TB := List.mem_filter.mpr ⟨(ch_7 (List.mem_of_getElem? (i := 83) (by decide +kernel))), by decide +kernel⟩
theorem tw_1621 : Jvm.Cond.methodLink "DeepHoleModel" (148 : Nat) ({ cls := "DeepHoleModel", name := "isWord", desc := "(Ljava/lang/String;)Z" } : Jvm.MethodName) ∈ TB := List.mem_filter.mpr ⟨(ch_7 (List.mem_of_getElem? (i := 85) (by decide +kernel))), by decide +kernel⟩
theorem tw_1623 : Jvm.Cond.instanceMethod ({ cls := "DeepHoleModel", name := "isWord", desc := "(Ljava/lang/String;)Z" } : Jvm.MethodName) ∈ TB := List.mem_filter.mpr ⟨(ch_7 (List.mem_of_getElem? (i := 87) (by decide +kernel))), by decide +kernel⟩
theorem tw_1624 : Jvm.Cond.code ({ cls := "DeepHoleModel", name := "isWord", desc := "(Ljava/lang/String;)Z" } : Jvm.MethodName) prog_14_method_17_code (2 : Nat) (Option.some Jvm.ClassFile.FieldType.boolean) ∈ TB := List.mem_filter.mpr ⟨(ch_7 (List.mem_of_getElem? (i := 88) (by decide +kernel))), by decide +kernel⟩
theorem tw_1625 : Jvm.Cond.methodLink "DeepHoleModel" (144 : Nat) ({ cls := "DeepHoleModel", name := "wordOf", desc := "(Ljava/lang/String;)J" } : Jvm.MethodName) ∈ TB := List.mem_filter.mpr ⟨(ch_7 (List.mem_of_getElem? (i := 89) (by decide +kernel))), by decide +kernel⟩
theorem tw_1626 : Jvm.Cond.static ({ cls := "DeepHoleModel", name := "wordOf", desc := "(Ljava/lang/String;)J" } : Jvm.MethodName) ∈ TB := List.mem_filter.mpr ⟨(ch_7 (List.mem_of_getElem? (i := 90) (by decide +kernel))), by decide +kernel⟩
theorem tw_1627 : Jvm.Cond.code ({ cls := "DeepHoleModel", name := "wordOf", desc := "(Ljava/lang/String;)J" } : Jvm.MethodName) prog_14_method_13_code (4 : Nat) (Option.some Jvm.ClassFile.FieldType.long) ∈ TB := List.mem_filter.mpr ⟨(ch_7 (List.mem_of_getElem? (i := 91) (by decide +kernel))), by decide +kernel⟩
theorem tw_1630 : Jvm.Cond.methodLink "DeepHoleModel" (207 : Nat) ({ cls := "DeepHoleModel", name := "readRod", desc := "()V" } : Jvm.MethodName) ∈ TB := List.mem_filter.mpr ⟨(ch_7 (List.mem_of_getElem? (i := 94) (by decide +kernel))), by decide +kernel⟩
theorem tw_1632 : Jvm.Cond.instanceMethod ({ cls := "DeepHoleModel", name := "readRod", desc := "()V" } : Jvm.MethodName) ∈ TB := List.mem_filter.mpr ⟨(ch_7 (List.mem_of_getElem? (i := 96) (by decide +kernel))), by decide +kernel⟩
theorem tw_1633 : Jvm.Cond.code ({ cls := "DeepHoleModel", name := "readRod", desc := "()V" } : Jvm.MethodName) prog_14_method_24_code (4 : Nat) (Option.none : Option Jvm.ClassFile.FieldType) ∈ TB := List.mem_filter.mpr ⟨(ch_7 (List.mem_of_getElem? (i := 97) (by decide +kernel))), by decide +kernel⟩
theorem tw_1634 : Jvm.Cond.methodLink "DeepHoleModel" (155 : Nat) ({ cls := "DeepHoleModel", name := "wrong", desc := "(I)V" } : Jvm.MethodName) ∈ TB := List.mem_filter.mpr ⟨(ch_7 (List.mem_of_getElem? (i := 98) (by decide +kernel))), by decide +kernel⟩
theorem tw_1636 : Jvm.Cond.instanceMethod ({ cls := "DeepHoleModel", name := "wrong", desc := "(I)V" } : Jvm.MethodName) ∈ TB := List.mem_filter.mpr ⟨(ch_7 (List.mem_of_getElem? (i := 100) (by decide +kernel))), by decide +kernel⟩
theorem tw_1637 : Jvm.Cond.code ({ cls := "DeepHoleModel", name := "wrong", desc := "(I)V" } : Jvm.MethodName) prog_14_method_15_code (2 : Nat) (Option.none : Option Jvm.ClassFile.FieldType) ∈ TB := List.mem_filter.mpr ⟨(ch_7 (List.mem_of_getElem? (i := 101) (by decide +kernel))), by decide +kernel⟩
theorem tw_1638 : Jvm.Cond.methodLink "DeepHoleModel" (134 : Nat) ({ cls := "DeepHoleModel", name := "wrongHere", desc := "(II)V" } : Jvm.MethodName) ∈ TB := List.mem_filter.mpr ⟨(ch_7 (List.mem_of_getElem? (i := 102) (by decide +kernel))), by decide +kernel⟩
theorem tw_1640 : Jvm.Cond.instanceMethod ({ cls := "DeepHoleModel", name := "wrongHere", desc := "(II)V" } : Jvm.MethodName) ∈ TB := List.mem_filter.mpr ⟨(ch_7 (List.mem_of_getElem? (i := 104) (by decide +kernel))), by decide +kernel⟩
theorem tw_1641 : Jvm.Cond.code ({ cls := "DeepHoleModel", name := "wrongHere", desc := "(II)V" } : Jvm.MethodName) prog_14_method_16_code (3 : Nat) (Option.none : Option Jvm.ClassFile.FieldType) ∈ TB := List.mem_filter.mpr ⟨(ch_7 (List.mem_of_getElem? (i := 105) (by decide +kernel))), by decide +kernel⟩
theorem tw_1643 : Jvm.Cond.methodLink "DeepHoleModel" (229 : Nat) ({ cls := "DeepHoleModel", name := "readPart", desc := "(Ljava/lang/String;II)I" } : Jvm.MethodName) ∈ TB := List.mem_filter.mpr ⟨(ch_7 (List.mem_of_getElem? (i := 107) (by decide +kernel))), by decide +kernel⟩
theorem tw_1645 : Jvm.Cond.instanceMethod ({ cls := "DeepHoleModel", name := "readPart", desc := "(Ljava/lang/String;II)I" } : Jvm.MethodName) ∈ TB := List.mem_filter.mpr ⟨(ch_7 (List.mem_of_getElem? (i := 109) (by decide +kernel))), by decide +kernel⟩
theorem tw_1646 : Jvm.Cond.code ({ cls := "DeepHoleModel", name := "readPart", desc := "(Ljava/lang/String;II)I" } : Jvm.MethodName) prog_14_method_20_code (4 : Nat) (Option.some Jvm.ClassFile.FieldType.int) ∈ TB := List.mem_filter.mpr ⟨(ch_7 (List.mem_of_getElem? (i := 110) (by decide +kernel))), by decide +kernel⟩
theorem tw_1647 : Jvm.Cond.methodLink "DeepHoleModel" (163 : Nat) ({ cls := "DeepHoleModel", name := "readWhole", desc := "(II)I" } : Jvm.MethodName) ∈ TB := List.mem_filter.mpr ⟨(ch_7 (List.mem_of_getElem? (i := 111) (by decide +kernel))), by decide +kernel⟩
theorem tw_1649 : Jvm.Cond.instanceMethod ({ cls := "DeepHoleModel", name := "readWhole", desc := "(II)I" } : Jvm.MethodName) ∈ TB := List.mem_filter.mpr ⟨(ch_7 (List.mem_of_getElem? (i := 113) (by decide +kernel))), by decide +kernel⟩
theorem tw_1650 : Jvm.Cond.code ({ cls := "DeepHoleModel", name := "readWhole", desc := "(II)I" } : Jvm.MethodName) prog_14_method_19_code (4 : Nat) (Option.some Jvm.ClassFile.FieldType.int) ∈ TB := List.mem_filter.mpr ⟨(ch_7 (List.mem_of_getElem? (i := 114) (by decide +kernel))), by decide +kernel⟩
theorem tw_1651 : Jvm.Cond.methodLink "DeepHoleModel" (159 : Nat) ({ cls := "DeepHoleModel", name := "in", desc := "(III)Z" } : Jvm.MethodName) ∈ TB := List.mem_filter.mpr ⟨(ch_7 (List.mem_of_getElem? (i := 115) (by decide +kernel))), by decide +kernel⟩
theorem tw_1652 : Jvm.Cond.static ({ cls := "DeepHoleModel", name := "in", desc := "(III)Z" } : Jvm.MethodName) ∈ TB := List.mem_filter.mpr ⟨(ch_7 (List.mem_of_getElem? (i := 116) (by decide +kernel))), by decide +kernel⟩
theorem tw_1653 : Jvm.Cond.code ({ cls := "DeepHoleModel", name := "in", desc := "(III)Z" } : Jvm.MethodName) prog_14_method_8_code (3 : Nat) (Option.some Jvm.ClassFile.FieldType.boolean) ∈ TB := List.mem_filter.mpr ⟨(ch_7 (List.mem_of_getElem? (i := 117) (by decide +kernel))), by decide +kernel⟩
theorem tw_1657 : Jvm.Cond.methodLink "DeepHoleModel" (210 : Nat) ({ cls := "DeepHoleModel", name := "readLip", desc := "()V" } : Jvm.MethodName) ∈ TB := List.mem_filter.mpr ⟨(ch_7 (List.mem_of_getElem? (i := 121) (by decide +kernel))), by decide +kernel⟩
theorem tw_1659 : Jvm.Cond.instanceMethod ({ cls := "DeepHoleModel", name := "readLip", desc := "()V" } : Jvm.MethodName) ∈ TB := List.mem_filter.mpr ⟨(ch_7 (List.mem_of_getElem? (i := 123) (by decide +kernel))), by decide +kernel⟩
theorem tw_1660 : Jvm.Cond.code ({ cls := "DeepHoleModel", name := "readLip", desc := "()V" } : Jvm.MethodName) prog_14_method_25_code (2 : Nat) (Option.none : Option Jvm.ClassFile.FieldType) ∈ TB := List.mem_filter.mpr ⟨(ch_7 (List.mem_of_getElem? (i := 124) (by decide +kernel))), by decide +kernel⟩
theorem tw_1665 : Jvm.Cond.methodLink "DeepHoleModel" (213 : Nat) ({ cls := "DeepHoleModel", name := "readCosts", desc := "()V" } : Jvm.MethodName) ∈ TB := List.mem_filter.mpr ⟨(ch_7 (List.mem_of_getElem? (i := 129) (by decide +kernel))), by decide +kernel⟩
theorem tw_1667 : Jvm.Cond.instanceMethod ({ cls := "DeepHoleModel", name := "readCosts", desc := "()V" } : Jvm.MethodName) ∈ TB := List.mem_filter.mpr ⟨(ch_7 (List.mem_of_getElem? (i := 131) (by decide +kernel))), by decide +kernel⟩
theorem tw_1668 : Jvm.Cond.code ({ cls := "DeepHoleModel", name := "readCosts", desc := "()V" } : Jvm.MethodName) prog_14_method_26_code (2 : Nat) (Option.none : Option Jvm.ClassFile.FieldType) ∈ TB := List.mem_filter.mpr ⟨(ch_7 (List.mem_of_getElem? (i := 132) (by decide +kernel))), by decide +kernel⟩
theorem tw_1672 : Jvm.Cond.methodLink "DeepHoleModel" (216 : Nat) ({ cls := "DeepHoleModel", name := "readWay", desc := "()V" } : Jvm.MethodName) ∈ TB := List.mem_filter.mpr ⟨(ch_7 (List.mem_of_getElem? (i := 136) (by decide +kernel))), by decide +kernel⟩
theorem tw_1674 : Jvm.Cond.instanceMethod ({ cls := "DeepHoleModel", name := "readWay", desc := "()V" } : Jvm.MethodName) ∈ TB := List.mem_filter.mpr ⟨(ch_7 (List.mem_of_getElem? (i := 138) (by decide +kernel))), by decide +kernel⟩
theorem tw_1675 : Jvm.Cond.code ({ cls := "DeepHoleModel", name := "readWay", desc := "()V" } : Jvm.MethodName) prog_14_method_28_code (4 : Nat) (Option.none : Option Jvm.ClassFile.FieldType) ∈ TB := List.mem_filter.mpr ⟨(ch_7 (List.mem_of_getElem? (i := 139) (by decide +kernel))), by decide +kernel⟩
theorem tw_1676 : Jvm.Cond.methodLink "DeepHoleModel" (282 : Nat) ({ cls := "DeepHoleModel", name := "readNamed", desc := "(ZI)V" } : Jvm.MethodName) ∈ TB := List.mem_filter.mpr ⟨(ch_7 (List.mem_of_getElem? (i := 140) (by decide +kernel))), by decide +kernel⟩
theorem tw_1678 : Jvm.Cond.instanceMethod ({ cls := "DeepHoleModel", name := "readNamed", desc := "(ZI)V" } : Jvm.MethodName) ∈ TB := List.mem_filter.mpr ⟨(ch_7 (List.mem_of_getElem? (i := 142) (by decide +kernel))), by decide +kernel⟩
theorem tw_1679 : Jvm.Cond.code ({ cls := "DeepHoleModel", name := "readNamed", desc := "(ZI)V" } : Jvm.MethodName) prog_14_method_27_code (3 : Nat) (Option.none : Option Jvm.ClassFile.FieldType) ∈ TB := List.mem_filter.mpr ⟨(ch_7 (List.mem_of_getElem? (i := 143) (by decide +kernel))), by decide +kernel⟩
theorem tw_1680 : Jvm.Cond.methodLink "DeepHoleModel" (261 : Nat) ({ cls := "DeepHoleModel", name := "isName", desc := "()Z" } : Jvm.MethodName) ∈ TB := List.mem_filter.mpr ⟨(ch_7 (List.mem_of_getElem? (i := 144) (by decide +kernel))), by decide +kernel⟩
theorem tw_1682 : Jvm.Cond.instanceMethod ({ cls := "DeepHoleModel", name := "isName", desc := "()Z" } : Jvm.MethodName) ∈ TB := List.mem_filter.mpr ⟨(ch_7 (List.mem_of_getElem? (i := 146) (by decide +kernel))), by decide +kernel⟩
theorem tw_1683 : Jvm.Cond.code ({ cls := "DeepHoleModel", name := "isName", desc := "()Z" } : Jvm.MethodName) prog_14_method_21_code (1 : Nat) (Option.some Jvm.ClassFile.FieldType.boolean) ∈ TB := List.mem_filter.mpr ⟨(ch_7 (List.mem_of_getElem? (i := 147) (by decide +kernel))), by decide +kernel⟩
theorem tw_1688 : Jvm.Cond.methodLink "DeepHoleModel" (265 : Nat) ({ cls := "DeepHoleModel$Shop", name := "find", desc := "(J)I" } : Jvm.MethodName) ∈ TB := List.mem_filter.mpr ⟨(ch_7 (List.mem_of_getElem? (i := 152) (by decide +kernel))), by decide +kernel⟩
theorem tw_1689 : Jvm.Cond.instanceMethod ({ cls := "DeepHoleModel$Shop", name := "find", desc := "(J)I" } : Jvm.MethodName) ∈ TB := List.mem_filter.mpr ⟨(ch_7 (List.mem_of_getElem? (i := 153) (by decide +kernel))), by decide +kernel⟩
theorem tw_1690 : Jvm.Cond.selects "DeepHoleModel$Shop" ({ cls := "DeepHoleModel$Shop", name := "find", desc := "(J)I" } : Jvm.MethodName) ({ cls := "DeepHoleModel$Shop", name := "find", desc := "(J)I" } : Jvm.MethodName) ∈ TB := List.mem_filter.mpr ⟨(ch_7 (List.mem_of_getElem? (i := 154) (by decide +kernel))), by decide +kernel⟩
theorem tw_1691 : Jvm.Cond.code ({ cls := "DeepHoleModel$Shop", name := "find", desc := "(J)I" } : Jvm.MethodName) prog_15_method_2_code (4 : Nat) (Option.some Jvm.ClassFile.FieldType.int) ∈ TB := List.mem_filter.mpr ⟨(ch_7 (List.mem_of_getElem? (i := 155) (by decide +kernel))), by decide +kernel⟩
theorem tw_1695 : Jvm.Cond.methodLink "DeepHoleModel" (219 : Nat) ({ cls := "DeepHoleModel", name := "readHard", desc := "()V" } : Jvm.MethodName) ∈ TB := List.mem_filter.mpr ⟨(ch_7 (List.mem_of_getElem? (i := 159) (by decide +kernel))), by decide +kernel⟩
theorem tw_1697 : Jvm.Cond.instanceMethod ({ cls := "DeepHoleModel", name := "readHard", desc := "()V" } : Jvm.MethodName) ∈ TB := List.mem_filter.mpr ⟨(ch_7 (List.mem_of_getElem? (i := 161) (by decide +kernel))), by decide +kernel⟩
theorem tw_1698 : Jvm.Cond.code ({ cls := "DeepHoleModel", name := "readHard", desc := "()V" } : Jvm.MethodName) prog_14_method_29_code (4 : Nat) (Option.none : Option Jvm.ClassFile.FieldType) ∈ TB := List.mem_filter.mpr ⟨(ch_7 (List.mem_of_getElem? (i := 162) (by decide +kernel))), by decide +kernel⟩
theorem tw_1704 : Jvm.Cond.methodLink "DeepHoleModel" (222 : Nat) ({ cls := "DeepHoleModel", name := "readFrom", desc := "()V" } : Jvm.MethodName) ∈ TB := List.mem_filter.mpr ⟨(ch_7 (List.mem_of_getElem? (i := 168) (by decide +kernel))), by decide +kernel⟩
theorem tw_1706 : Jvm.Cond.instanceMethod ({ cls := "DeepHoleModel", name := "readFrom", desc := "()V" } : Jvm.MethodName) ∈ TB := List.mem_filter.mpr ⟨(ch_7 (List.mem_of_getElem? (i := 170) (by decide +kernel))), by decide +kernel⟩
theorem tw_1707 : Jvm.Cond.code ({ cls := "DeepHoleModel", name := "readFrom", desc := "()V" } : Jvm.MethodName) prog_14_method_30_code (4 : Nat) (Option.none : Option Jvm.ClassFile.FieldType) ∈ TB := List.mem_filter.mpr ⟨(ch_7 (List.mem_of_getElem? (i := 171) (by decide +kernel))), by decide +kernel⟩
theorem tw_1709 : Jvm.Cond.methodLink "DeepHoleModel" (329 : Nat) ({ cls := "DeepHoleModel", name := "eats", desc := "(Ljava/lang/String;)Z" } : Jvm.MethodName) ∈ TB := List.mem_filter.mpr ⟨(ch_7 (List.mem_of_getElem? (i := 173) (by decide +kernel))), by decide +kernel⟩
theorem tw_1711 : Jvm.Cond.instanceMethod ({ cls := "DeepHoleModel", name := "eats", desc := "(Ljava/lang/String;)Z" } : Jvm.MethodName) ∈ TB := List.mem_filter.mpr ⟨(ch_7 (List.mem_of_getElem? (i := 175) (by decide +kernel))), by decide +kernel⟩
theorem tw_1712 : Jvm.Cond.code ({ cls := "DeepHoleModel", name := "eats", desc := "(Ljava/lang/String;)Z" } : Jvm.MethodName) prog_14_method_18_code (3 : Nat) (Option.some Jvm.ClassFile.FieldType.boolean) ∈ TB := List.mem_filter.mpr ⟨(ch_7 (List.mem_of_getElem? (i := 176) (by decide +kernel))), by decide +kernel⟩
theorem tw_1713 : Jvm.Cond.methodLink "DeepHoleModel" (225 : Nat) ({ cls := "DeepHoleModel", name := "readSeer", desc := "()V" } : Jvm.MethodName) ∈ TB := List.mem_filter.mpr ⟨(ch_7 (List.mem_of_getElem? (i := 177) (by decide +kernel))), by decide +kernel⟩
theorem tw_1715 : Jvm.Cond.instanceMethod ({ cls := "DeepHoleModel", name := "readSeer", desc := "()V" } : Jvm.MethodName) ∈ TB := List.mem_filter.mpr ⟨(ch_7 (List.mem_of_getElem? (i := 179) (by decide +kernel))), by decide +kernel⟩
theorem tw_1716 : Jvm.Cond.code ({ cls := "DeepHoleModel", name := "readSeer", desc := "()V" } : Jvm.MethodName) prog_14_method_31_code (2 : Nat) (Option.none : Option Jvm.ClassFile.FieldType) ∈ TB := List.mem_filter.mpr ⟨(ch_7 (List.mem_of_getElem? (i := 180) (by decide +kernel))), by decide +kernel⟩
theorem tw_1718 : Jvm.Cond.methodLink "DeepHoleModel" (355 : Nat) ({ cls := "DeepHoleModel", name := "begins", desc := "(Z)V" } : Jvm.MethodName) ∈ TB := List.mem_filter.mpr ⟨(ch_7 (List.mem_of_getElem? (i := 182) (by decide +kernel))), by decide +kernel⟩
theorem tw_1720 : Jvm.Cond.instanceMethod ({ cls := "DeepHoleModel", name := "begins", desc := "(Z)V" } : Jvm.MethodName) ∈ TB := List.mem_filter.mpr ⟨(ch_7 (List.mem_of_getElem? (i := 184) (by decide +kernel))), by decide +kernel⟩
theorem tw_1721 : Jvm.Cond.code ({ cls := "DeepHoleModel", name := "begins", desc := "(Z)V" } : Jvm.MethodName) prog_14_method_40_code (2 : Nat) (Option.none : Option Jvm.ClassFile.FieldType) ∈ TB := List.mem_filter.mpr ⟨(ch_7 (List.mem_of_getElem? (i := 185) (by decide +kernel))), by decide +kernel⟩
theorem tw_1722 : Jvm.Cond.methodLink "DeepHoleModel" (395 : Nat) ({ cls := "DeepHoleModel", name := "clears", desc := "([I)V" } : Jvm.MethodName) ∈ TB := List.mem_filter.mpr ⟨(ch_7 (List.mem_of_getElem? (i := 186) (by decide +kernel))), by decide +kernel⟩
theorem tw_1723 : Jvm.Cond.static ({ cls := "DeepHoleModel", name := "clears", desc := "([I)V" } : Jvm.MethodName) ∈ TB := List.mem_filter.mpr ⟨(ch_7 (List.mem_of_getElem? (i := 187) (by decide +kernel))), by decide +kernel⟩
theorem tw_1724 : Jvm.Cond.code ({ cls := "DeepHoleModel", name := "clears", desc := "([I)V" } : Jvm.MethodName) prog_14_method_39_code (2 : Nat) (Option.none : Option Jvm.ClassFile.FieldType) ∈ TB := List.mem_filter.mpr ⟨(ch_7 (List.mem_of_getElem? (i := 188) (by decide +kernel))), by decide +kernel⟩
theorem tw_1725 : Jvm.Cond.methodLink "DeepHoleModel" (371 : Nat) ({ cls := "DeepHoleModel", name := "done", desc := "(I)I" } : Jvm.MethodName) ∈ TB := List.mem_filter.mpr ⟨(ch_7 (List.mem_of_getElem? (i := 189) (by decide +kernel))), by decide +kernel⟩
theorem tw_1727 : Jvm.Cond.instanceMethod ({ cls := "DeepHoleModel", name := "done", desc := "(I)I" } : Jvm.MethodName) ∈ TB := List.mem_filter.mpr ⟨(ch_7 (List.mem_of_getElem? (i := 191) (by decide +kernel))), by decide +kernel⟩
theorem tw_1728 : Jvm.Cond.code ({ cls := "DeepHoleModel", name := "done", desc := "(I)I" } : Jvm.MethodName) prog_14_method_6_code (2 : Nat) (Option.some Jvm.ClassFile.FieldType.int) ∈ TB := List.mem_filter.mpr ⟨(ch_7 (List.mem_of_getElem? (i := 192) (by decide +kernel))), by decide +kernel⟩
theorem tw_1729 : Jvm.Cond.methodLink "DeepHoleLaw" (32 : Nat) ({ cls := "DeepHoleModel", name := "fault", desc := "()I" } : Jvm.MethodName) ∈ TB := List.mem_filter.mpr ⟨(ch_7 (List.mem_of_getElem? (i := 193) (by decide +kernel))), by decide +kernel⟩
theorem tw_1730 : Jvm.Cond.instanceMethod ({ cls := "DeepHoleModel", name := "fault", desc := "()I" } : Jvm.MethodName) ∈ TB := List.mem_filter.mpr ⟨(ch_7 (List.mem_of_getElem? (i := 194) (by decide +kernel))), by decide +kernel⟩
theorem tw_1731 : Jvm.Cond.selects "DeepHoleModel" ({ cls := "DeepHoleModel", name := "fault", desc := "()I" } : Jvm.MethodName) ({ cls := "DeepHoleModel", name := "fault", desc := "()I" } : Jvm.MethodName) ∈ TB := List.mem_filter.mpr ⟨(ch_7 (List.mem_of_getElem? (i := 195) (by decide +kernel))), by decide +kernel⟩
theorem tw_1732 : Jvm.Cond.code ({ cls := "DeepHoleModel", name := "fault", desc := "()I" } : Jvm.MethodName) prog_14_method_34_code (1 : Nat) (Option.some Jvm.ClassFile.FieldType.int) ∈ TB := List.mem_filter.mpr ⟨(ch_7 (List.mem_of_getElem? (i := 196) (by decide +kernel))), by decide +kernel⟩
theorem tw_1733 : Jvm.Cond.methodLink "DeepHoleLaw" (36 : Nat) ({ cls := "DeepHoleModel", name := "where", desc := "()I" } : Jvm.MethodName) ∈ TB := List.mem_filter.mpr ⟨(ch_7 (List.mem_of_getElem? (i := 197) (by decide +kernel))), by decide +kernel⟩
theorem tw_1734 : Jvm.Cond.instanceMethod ({ cls := "DeepHoleModel", name := "where", desc := "()I" } : Jvm.MethodName) ∈ TB := List.mem_filter.mpr ⟨(ch_7 (List.mem_of_getElem? (i := 198) (by decide +kernel))), by decide +kernel⟩
theorem tw_1735 : Jvm.Cond.selects "DeepHoleModel" ({ cls := "DeepHoleModel", name := "where", desc := "()I" } : Jvm.MethodName) ({ cls := "DeepHoleModel", name := "where", desc := "()I" } : Jvm.MethodName) ∈ TB := List.mem_filter.mpr ⟨(ch_7 (List.mem_of_getElem? (i := 199) (by decide +kernel))), by decide +kernel⟩
theorem tw_1736 : Jvm.Cond.code ({ cls := "DeepHoleModel", name := "where", desc := "()I" } : Jvm.MethodName) prog_14_method_35_code (1 : Nat) (Option.some Jvm.ClassFile.FieldType.int) ∈ TB := List.mem_filter.mpr ⟨(ch_7 (List.mem_of_getElem? (i := 200) (by decide +kernel))), by decide +kernel⟩
theorem tw_1737 : Jvm.Cond.methodLink "DeepHoleLaw" (41 : Nat) ({ cls := "DeepHoleModel", name := "rod", desc := "(Z)Z" } : Jvm.MethodName) ∈ TB := List.mem_filter.mpr ⟨(ch_7 (List.mem_of_getElem? (i := 201) (by decide +kernel))), by decide +kernel⟩
theorem tw_1738 : Jvm.Cond.instanceMethod ({ cls := "DeepHoleModel", name := "rod", desc := "(Z)Z" } : Jvm.MethodName) ∈ TB := List.mem_filter.mpr ⟨(ch_7 (List.mem_of_getElem? (i := 202) (by decide +kernel))), by decide +kernel⟩
theorem tw_1739 : Jvm.Cond.selects "DeepHoleModel" ({ cls := "DeepHoleModel", name := "rod", desc := "(Z)Z" } : Jvm.MethodName) ({ cls := "DeepHoleModel", name := "rod", desc := "(Z)Z" } : Jvm.MethodName) ∈ TB := List.mem_filter.mpr ⟨(ch_7 (List.mem_of_getElem? (i := 203) (by decide +kernel))), by decide +kernel⟩
theorem tw_1740 : Jvm.Cond.code ({ cls := "DeepHoleModel", name := "rod", desc := "(Z)Z" } : Jvm.MethodName) prog_14_method_42_code (2 : Nat) (Option.some Jvm.ClassFile.FieldType.boolean) ∈ TB := List.mem_filter.mpr ⟨(ch_7 (List.mem_of_getElem? (i := 204) (by decide +kernel))), by decide +kernel⟩
theorem tw_1741 : Jvm.Cond.methodLink "DeepHoleModel" (402 : Nat) ({ cls := "DeepHoleModel", name := "denied", desc := "(I)Z" } : Jvm.MethodName) ∈ TB := List.mem_filter.mpr ⟨(ch_7 (List.mem_of_getElem? (i := 205) (by decide +kernel))), by decide +kernel⟩
theorem tw_1743 : Jvm.Cond.instanceMethod ({ cls := "DeepHoleModel", name := "denied", desc := "(I)Z" } : Jvm.MethodName) ∈ TB := List.mem_filter.mpr ⟨(ch_7 (List.mem_of_getElem? (i := 207) (by decide +kernel))), by decide +kernel⟩
theorem tw_1744 : Jvm.Cond.code ({ cls := "DeepHoleModel", name := "denied", desc := "(I)Z" } : Jvm.MethodName) prog_14_method_5_code (2 : Nat) (Option.some Jvm.ClassFile.FieldType.boolean) ∈ TB := List.mem_filter.mpr ⟨(ch_7 (List.mem_of_getElem? (i := 208) (by decide +kernel))), by decide +kernel⟩
theorem tw_1745 : Jvm.Cond.methodLink "DeepHoleModel" (405 : Nat) ({ cls := "DeepHoleModel", name := "granted", desc := "()Z" } : Jvm.MethodName) ∈ TB := List.mem_filter.mpr ⟨(ch_7 (List.mem_of_getElem? (i := 209) (by decide +kernel))), by decide +kernel⟩
theorem tw_1747 : Jvm.Cond.instanceMethod ({ cls := "DeepHoleModel", name := "granted", desc := "()Z" } : Jvm.MethodName) ∈ TB := List.mem_filter.mpr ⟨(ch_7 (List.mem_of_getElem? (i := 211) (by decide +kernel))), by decide +kernel⟩
theorem tw_1748 : Jvm.Cond.code ({ cls := "DeepHoleModel", name := "granted", desc := "()Z" } : Jvm.MethodName) prog_14_method_7_code (1 : Nat) (Option.some Jvm.ClassFile.FieldType.boolean) ∈ TB := List.mem_filter.mpr ⟨(ch_7 (List.mem_of_getElem? (i := 212) (by decide +kernel))), by decide +kernel⟩
theorem tw_1749 : Jvm.Cond.methodLink "DeepHoleLaw" (45 : Nat) ({ cls := "DeepHoleModel", name := "drill", desc := "(I)I" } : Jvm.MethodName) ∈ TB := List.mem_filter.mpr ⟨(ch_7 (List.mem_of_getElem? (i := 213) (by decide +kernel))), by decide +kernel⟩
theorem tw_1750 : Jvm.Cond.instanceMethod ({ cls := "DeepHoleModel", name := "drill", desc := "(I)I" } : Jvm.MethodName) ∈ TB := List.mem_filter.mpr ⟨(ch_7 (List.mem_of_getElem? (i := 214) (by decide +kernel))), by decide +kernel⟩
theorem tw_1751 : Jvm.Cond.selects "DeepHoleModel" ({ cls := "DeepHoleModel", name := "drill", desc := "(I)I" } : Jvm.MethodName) ({ cls := "DeepHoleModel", name := "drill", desc := "(I)I" } : Jvm.MethodName) ∈ TB := List.mem_filter.mpr ⟨(ch_7 (List.mem_of_getElem? (i := 215) (by decide +kernel))), by decide +kernel⟩
theorem tw_1752 : Jvm.Cond.code ({ cls := "DeepHoleModel", name := "drill", desc := "(I)I" } : Jvm.MethodName) prog_14_method_43_code (4 : Nat) (Option.some Jvm.ClassFile.FieldType.int) ∈ TB := List.mem_filter.mpr ⟨(ch_7 (List.mem_of_getElem? (i := 216) (by decide +kernel))), by decide +kernel⟩
theorem tw_1753 : Jvm.Cond.methodLink "DeepHoleModel" (408 : Nat) ({ cls := "DeepHoleModel", name := "isThrough", desc := "()Z" } : Jvm.MethodName) ∈ TB := List.mem_filter.mpr ⟨(ch_7 (List.mem_of_getElem? (i := 217) (by decide +kernel))), by decide +kernel⟩
theorem tw_1755 : Jvm.Cond.instanceMethod ({ cls := "DeepHoleModel", name := "isThrough", desc := "()Z" } : Jvm.MethodName) ∈ TB := List.mem_filter.mpr ⟨(ch_7 (List.mem_of_getElem? (i := 219) (by decide +kernel))), by decide +kernel⟩
theorem tw_1756 : Jvm.Cond.code ({ cls := "DeepHoleModel", name := "isThrough", desc := "()Z" } : Jvm.MethodName) prog_14_method_41_code (1 : Nat) (Option.some Jvm.ClassFile.FieldType.boolean) ∈ TB := List.mem_filter.mpr ⟨(ch_7 (List.mem_of_getElem? (i := 220) (by decide +kernel))), by decide +kernel⟩
theorem tw_1757 : Jvm.Cond.methodLink "DeepHoleModel" (411 : Nat) ({ cls := "DeepHoleModel", name := "bores", desc := "([IZIII)V" } : Jvm.MethodName) ∈ TB := List.mem_filter.mpr ⟨(ch_7 (List.mem_of_getElem? (i := 221) (by decide +kernel))), by decide +kernel⟩
theorem tw_1759 : Jvm.Cond.instanceMethod ({ cls := "DeepHoleModel", name := "bores", desc := "([IZIII)V" } : Jvm.MethodName) ∈ TB := List.mem_filter.mpr ⟨(ch_7 (List.mem_of_getElem? (i := 223) (by decide +kernel))), by decide +kernel⟩
theorem tw_1760 : Jvm.Cond.code ({ cls := "DeepHoleModel", name := "bores", desc := "([IZIII)V" } : Jvm.MethodName) prog_14_method_37_code (15 : Nat) (Option.none : Option Jvm.ClassFile.FieldType) ∈ TB := List.mem_filter.mpr ⟨(ch_7 (List.mem_of_getElem? (i := 224) (by decide +kernel))), by decide +kernel⟩
theorem tw_1761 : Jvm.Cond.methodLink "DeepHoleModel" (374 : Nat) ({ cls := "DeepHoleModel$Shop", name := "fromOf", desc := "(I)I" } : Jvm.MethodName) ∈ TB := List.mem_filter.mpr ⟨(ch_7 (List.mem_of_getElem? (i := 225) (by decide +kernel))), by decide +kernel⟩
theorem tw_1762 : Jvm.Cond.instanceMethod ({ cls := "DeepHoleModel$Shop", name := "fromOf", desc := "(I)I" } : Jvm.MethodName) ∈ TB := List.mem_filter.mpr ⟨(ch_7 (List.mem_of_getElem? (i := 226) (by decide +kernel))), by decide +kernel⟩
theorem tw_1763 : Jvm.Cond.selects "DeepHoleModel$Shop" ({ cls := "DeepHoleModel$Shop", name := "fromOf", desc := "(I)I" } : Jvm.MethodName) ({ cls := "DeepHoleModel$Shop", name := "fromOf", desc := "(I)I" } : Jvm.MethodName) ∈ TB := List.mem_filter.mpr ⟨(ch_7 (List.mem_of_getElem? (i := 227) (by decide +kernel))), by decide +kernel⟩
theorem tw_1764 : Jvm.Cond.code ({ cls := "DeepHoleModel$Shop", name := "fromOf", desc := "(I)I" } : Jvm.MethodName) prog_15_method_4_code (3 : Nat) (Option.some Jvm.ClassFile.FieldType.int) ∈ TB := List.mem_filter.mpr ⟨(ch_7 (List.mem_of_getElem? (i := 228) (by decide +kernel))), by decide +kernel⟩
theorem tw_1765 : Jvm.Cond.methodLink "DeepHoleModel" (377 : Nat) ({ cls := "DeepHoleModel", name := "inchOf", desc := "(IZ)I" } : Jvm.MethodName) ∈ TB := List.mem_filter.mpr ⟨(ch_7 (List.mem_of_getElem? (i := 229) (by decide +kernel))), by decide +kernel⟩
theorem tw_1767 : Jvm.Cond.instanceMethod ({ cls := "DeepHoleModel", name := "inchOf", desc := "(IZ)I" } : Jvm.MethodName) ∈ TB := List.mem_filter.mpr ⟨(ch_7 (List.mem_of_getElem? (i := 231) (by decide +kernel))), by decide +kernel⟩
theorem tw_1768 : Jvm.Cond.code ({ cls := "DeepHoleModel", name := "inchOf", desc := "(IZ)I" } : Jvm.MethodName) prog_14_method_36_code (3 : Nat) (Option.some Jvm.ClassFile.FieldType.int) ∈ TB := List.mem_filter.mpr ⟨(ch_7 (List.mem_of_getElem? (i := 232) (by decide +kernel))), by decide +kernel⟩
theorem tw_1769 : Jvm.Cond.methodLink "DeepHoleModel" (381 : Nat) ({ cls := "DeepHoleModel$Shop", name := "hardOf", desc := "(I)I" } : Jvm.MethodName) ∈ TB := List.mem_filter.mpr ⟨(ch_7 (List.mem_of_getElem? (i := 233) (by decide +kernel))), by decide +kernel⟩
theorem tw_1770 : Jvm.Cond.instanceMethod ({ cls := "DeepHoleModel$Shop", name := "hardOf", desc := "(I)I" } : Jvm.MethodName) ∈ TB := List.mem_filter.mpr ⟨(ch_7 (List.mem_of_getElem? (i := 234) (by decide +kernel))), by decide +kernel⟩
theorem tw_1771 : Jvm.Cond.selects "DeepHoleModel$Shop" ({ cls := "DeepHoleModel$Shop", name := "hardOf", desc := "(I)I" } : Jvm.MethodName) ({ cls := "DeepHoleModel$Shop", name := "hardOf", desc := "(I)I" } : Jvm.MethodName) ∈ TB := List.mem_filter.mpr ⟨(ch_7 (List.mem_of_getElem? (i := 235) (by decide +kernel))), by decide +kernel⟩
theorem tw_1772 : Jvm.Cond.code ({ cls := "DeepHoleModel$Shop", name := "hardOf", desc := "(I)I" } : Jvm.MethodName) prog_15_method_3_code (3 : Nat) (Option.some Jvm.ClassFile.FieldType.int) ∈ TB := List.mem_filter.mpr ⟨(ch_7 (List.mem_of_getElem? (i := 236) (by decide +kernel))), by decide +kernel⟩
theorem tw_1773 : Jvm.Cond.methodLink "DeepHoleModel" (384 : Nat) ({ cls := "DeepHoleModel", name := "tilts", desc := "([IIIIII)V" } : Jvm.MethodName) ∈ TB := List.mem_filter.mpr ⟨(ch_7 (List.mem_of_getElem? (i := 237) (by decide +kernel))), by decide +kernel⟩
theorem tw_1775 : Jvm.Cond.instanceMethod ({ cls := "DeepHoleModel", name := "tilts", desc := "([IIIIII)V" } : Jvm.MethodName) ∈ TB := List.mem_filter.mpr ⟨(ch_7 (List.mem_of_getElem? (i := 239) (by decide +kernel))), by decide +kernel⟩
theorem tw_1776 : Jvm.Cond.code ({ cls := "DeepHoleModel", name := "tilts", desc := "([IIIIII)V" } : Jvm.MethodName) prog_14_method_38_code (7 : Nat) (Option.none : Option Jvm.ClassFile.FieldType) ∈ TB := List.mem_filter.mpr ⟨(ch_8 (List.mem_of_getElem? (i := 0) (by decide +kernel))), by decide +kernel⟩
theorem tw_1777 : Jvm.Cond.methodLink "DeepHoleModel" (388 : Nat) ({ cls := "DeepHoleModel", name := "plain", desc := "(I)I" } : Jvm.MethodName) ∈ TB := List.mem_filter.mpr ⟨(ch_8 (List.mem_of_getElem? (i := 1) (by decide +kernel))), by decide +kernel⟩
theorem tw_1778 : Jvm.Cond.static ({ cls := "DeepHoleModel", name := "plain", desc := "(I)I" } : Jvm.MethodName) ∈ TB := List.mem_filter.mpr ⟨(ch_8 (List.mem_of_getElem? (i := 2) (by decide +kernel))), by decide +kernel⟩
theorem tw_1779 : Jvm.Cond.code ({ cls := "DeepHoleModel", name := "plain", desc := "(I)I" } : Jvm.MethodName) prog_14_method_9_code (1 : Nat) (Option.some Jvm.ClassFile.FieldType.int) ∈ TB := List.mem_filter.mpr ⟨(ch_8 (List.mem_of_getElem? (i := 3) (by decide +kernel))), by decide +kernel⟩
theorem tw_1780 : Jvm.Cond.methodLink "DeepHoleLaw" (50 : Nat) ({ cls := "DeepHoleModel", name := "inch", desc := "(II)I" } : Jvm.MethodName) ∈ TB := List.mem_filter.mpr ⟨(ch_8 (List.mem_of_getElem? (i := 4) (by decide +kernel))), by decide +kernel⟩
theorem tw_1781 : Jvm.Cond.instanceMethod ({ cls := "DeepHoleModel", name := "inch", desc := "(II)I" } : Jvm.MethodName) ∈ TB := List.mem_filter.mpr ⟨(ch_8 (List.mem_of_getElem? (i := 5) (by decide +kernel))), by decide +kernel⟩
theorem tw_1782 : Jvm.Cond.selects "DeepHoleModel" ({ cls := "DeepHoleModel", name := "inch", desc := "(II)I" } : Jvm.MethodName) ({ cls := "DeepHoleModel", name := "inch", desc := "(II)I" } : Jvm.MethodName) ∈ TB := List.mem_filter.mpr ⟨(ch_8 (List.mem_of_getElem? (i := 6) (by decide +kernel))), by decide +kernel⟩
theorem tw_1783 : Jvm.Cond.code ({ cls := "DeepHoleModel", name := "inch", desc := "(II)I" } : Jvm.MethodName) prog_14_method_45_code (3 : Nat) (Option.some Jvm.ClassFile.FieldType.int) ∈ TB := List.mem_filter.mpr ⟨(ch_8 (List.mem_of_getElem? (i := 7) (by decide +kernel))), by decide +kernel⟩
theorem tw_1784 : Jvm.Cond.methodLink "DeepHoleModel" (415 : Nat) ({ cls := "DeepHoleModel", name := "isDone", desc := "(I)Z" } : Jvm.MethodName) ∈ TB := List.mem_filter.mpr ⟨(ch_8 (List.mem_of_getElem? (i := 8) (by decide +kernel))), by decide +kernel⟩
theorem tw_1786 : Jvm.Cond.instanceMethod ({ cls := "DeepHoleModel", name := "isDone", desc := "(I)Z" } : Jvm.MethodName) ∈ TB := List.mem_filter.mpr ⟨(ch_8 (List.mem_of_getElem? (i := 10) (by decide +kernel))), by decide +kernel⟩
theorem tw_1787 : Jvm.Cond.code ({ cls := "DeepHoleModel", name := "isDone", desc := "(I)Z" } : Jvm.MethodName) prog_14_method_44_code (2 : Nat) (Option.some Jvm.ClassFile.FieldType.boolean) ∈ TB := List.mem_filter.mpr ⟨(ch_8 (List.mem_of_getElem? (i := 11) (by decide +kernel))), by decide +kernel⟩
theorem tw_1788 : Jvm.Cond.methodLink "DeepHoleModel" (418 : Nat) ({ cls := "DeepHoleModel", name := "lost", desc := "(I)I" } : Jvm.MethodName) ∈ TB := List.mem_filter.mpr ⟨(ch_8 (List.mem_of_getElem? (i := 12) (by decide +kernel))), by decide +kernel⟩
theorem tw_1790 : Jvm.Cond.instanceMethod ({ cls := "DeepHoleModel", name := "lost", desc := "(I)I" } : Jvm.MethodName) ∈ TB := List.mem_filter.mpr ⟨(ch_8 (List.mem_of_getElem? (i := 14) (by decide +kernel))), by decide +kernel⟩
theorem tw_1791 : Jvm.Cond.code ({ cls := "DeepHoleModel", name := "lost", desc := "(I)I" } : Jvm.MethodName) prog_14_method_4_code (2 : Nat) (Option.some Jvm.ClassFile.FieldType.int) ∈ TB := List.mem_filter.mpr ⟨(ch_8 (List.mem_of_getElem? (i := 15) (by decide +kernel))), by decide +kernel⟩
theorem tw_1792 : Jvm.Cond.constant "DeepHoleModel" (88 : Nat) (-1000000 : Int32) ∈ TB := List.mem_filter.mpr ⟨(ch_8 (List.mem_of_getElem? (i := 16) (by decide +kernel))), by decide +kernel⟩
theorem tw_1793 : Jvm.Cond.methodLink "DeepHoleLaw" (54 : Nat) ({ cls := "DeepHoleModel", name := "state", desc := "(I)I" } : Jvm.MethodName) ∈ TB := List.mem_filter.mpr ⟨(ch_8 (List.mem_of_getElem? (i := 17) (by decide +kernel))), by decide +kernel⟩
theorem tw_1794 : Jvm.Cond.instanceMethod ({ cls := "DeepHoleModel", name := "state", desc := "(I)I" } : Jvm.MethodName) ∈ TB := List.mem_filter.mpr ⟨(ch_8 (List.mem_of_getElem? (i := 18) (by decide +kernel))), by decide +kernel⟩
theorem tw_1795 : Jvm.Cond.selects "DeepHoleModel" ({ cls := "DeepHoleModel", name := "state", desc := "(I)I" } : Jvm.MethodName) ({ cls := "DeepHoleModel", name := "state", desc := "(I)I" } : Jvm.MethodName) ∈ TB := List.mem_filter.mpr ⟨(ch_8 (List.mem_of_getElem? (i := 19) (by decide +kernel))), by decide +kernel⟩
theorem tw_1796 : Jvm.Cond.code ({ cls := "DeepHoleModel", name := "state", desc := "(I)I" } : Jvm.MethodName) prog_14_method_46_code (2 : Nat) (Option.some Jvm.ClassFile.FieldType.int) ∈ TB := List.mem_filter.mpr ⟨(ch_8 (List.mem_of_getElem? (i := 20) (by decide +kernel))), by decide +kernel⟩
theorem tw_1797 : Jvm.Cond.methodLink "DeepHoleLaw" (58 : Nat) ({ cls := "DeepHoleModel", name := "odds", desc := "(II)I" } : Jvm.MethodName) ∈ TB := List.mem_filter.mpr ⟨(ch_8 (List.mem_of_getElem? (i := 21) (by decide +kernel))), by decide +kernel⟩
theorem tw_1798 : Jvm.Cond.instanceMethod ({ cls := "DeepHoleModel", name := "odds", desc := "(II)I" } : Jvm.MethodName) ∈ TB := List.mem_filter.mpr ⟨(ch_8 (List.mem_of_getElem? (i := 22) (by decide +kernel))), by decide +kernel⟩
theorem tw_1799 : Jvm.Cond.selects "DeepHoleModel" ({ cls := "DeepHoleModel", name := "odds", desc := "(II)I" } : Jvm.MethodName) ({ cls := "DeepHoleModel", name := "odds", desc := "(II)I" } : Jvm.MethodName) ∈ TB := List.mem_filter.mpr ⟨(ch_8 (List.mem_of_getElem? (i := 23) (by decide +kernel))), by decide +kernel⟩
theorem tw_1800 : Jvm.Cond.code ({ cls := "DeepHoleModel", name := "odds", desc := "(II)I" } : Jvm.MethodName) prog_14_method_51_code (9 : Nat) (Option.some Jvm.ClassFile.FieldType.int) ∈ TB := List.mem_filter.mpr ⟨(ch_8 (List.mem_of_getElem? (i := 24) (by decide +kernel))), by decide +kernel⟩
theorem tw_1801 : Jvm.Cond.methodLink "DeepHoleModel" (421 : Nat) ({ cls := "DeepHoleModel", name := "isSpan", desc := "(II)Z" } : Jvm.MethodName) ∈ TB := List.mem_filter.mpr ⟨(ch_8 (List.mem_of_getElem? (i := 25) (by decide +kernel))), by decide +kernel⟩
theorem tw_1803 : Jvm.Cond.instanceMethod ({ cls := "DeepHoleModel", name := "isSpan", desc := "(II)Z" } : Jvm.MethodName) ∈ TB := List.mem_filter.mpr ⟨(ch_8 (List.mem_of_getElem? (i := 27) (by decide +kernel))), by decide +kernel⟩
theorem tw_1804 : Jvm.Cond.code ({ cls := "DeepHoleModel", name := "isSpan", desc := "(II)Z" } : Jvm.MethodName) prog_14_method_50_code (3 : Nat) (Option.some Jvm.ClassFile.FieldType.boolean) ∈ TB := List.mem_filter.mpr ⟨(ch_8 (List.mem_of_getElem? (i := 28) (by decide +kernel))), by decide +kernel⟩
theorem tw_1805 : Jvm.Cond.methodLink "DeepHoleModel" (425 : Nat) ({ cls := "DeepHoleModel", name := "scattered", desc := "(I)I" } : Jvm.MethodName) ∈ TB := List.mem_filter.mpr ⟨(ch_8 (List.mem_of_getElem? (i := 29) (by decide +kernel))), by decide +kernel⟩
theorem tw_1807 : Jvm.Cond.instanceMethod ({ cls := "DeepHoleModel", name := "scattered", desc := "(I)I" } : Jvm.MethodName) ∈ TB := List.mem_filter.mpr ⟨(ch_8 (List.mem_of_getElem? (i := 31) (by decide +kernel))), by decide +kernel⟩
theorem tw_1808 : Jvm.Cond.code ({ cls := "DeepHoleModel", name := "scattered", desc := "(I)I" } : Jvm.MethodName) prog_14_method_49_code (2 : Nat) (Option.some Jvm.ClassFile.FieldType.int) ∈ TB := List.mem_filter.mpr ⟨(ch_8 (List.mem_of_getElem? (i := 32) (by decide +kernel))), by decide +kernel⟩
theorem tw_1809 : Jvm.Cond.methodLink "DeepHoleModel" (428 : Nat) ({ cls := "DeepHoleModel", name := "gets", desc := "(II)Z" } : Jvm.MethodName) ∈ TB := List.mem_filter.mpr ⟨(ch_8 (List.mem_of_getElem? (i := 33) (by decide +kernel))), by decide +kernel⟩
theorem tw_1811 : Jvm.Cond.instanceMethod ({ cls := "DeepHoleModel", name := "gets", desc := "(II)Z" } : Jvm.MethodName) ∈ TB := List.mem_filter.mpr ⟨(ch_8 (List.mem_of_getElem? (i := 35) (by decide +kernel))), by decide +kernel⟩
theorem tw_1812 : Jvm.Cond.code ({ cls := "DeepHoleModel", name := "gets", desc := "(II)Z" } : Jvm.MethodName) prog_14_method_47_code (6 : Nat) (Option.some Jvm.ClassFile.FieldType.boolean) ∈ TB := List.mem_filter.mpr ⟨(ch_8 (List.mem_of_getElem? (i := 36) (by decide +kernel))), by decide +kernel⟩
theorem tw_1813 : Jvm.Cond.methodLink "DeepHoleModel" (431 : Nat) ({ cls := "DeepHoleModel", name := "isNear", desc := "(I)Z" } : Jvm.MethodName) ∈ TB := List.mem_filter.mpr ⟨(ch_8 (List.mem_of_getElem? (i := 37) (by decide +kernel))), by decide +kernel⟩
theorem tw_1815 : Jvm.Cond.instanceMethod ({ cls := "DeepHoleModel", name := "isNear", desc := "(I)Z" } : Jvm.MethodName) ∈ TB := List.mem_filter.mpr ⟨(ch_8 (List.mem_of_getElem? (i := 39) (by decide +kernel))), by decide +kernel⟩
theorem tw_1816 : Jvm.Cond.code ({ cls := "DeepHoleModel", name := "isNear", desc := "(I)Z" } : Jvm.MethodName) prog_14_method_48_code (2 : Nat) (Option.some Jvm.ClassFile.FieldType.boolean) ∈ TB := List.mem_filter.mpr ⟨(ch_8 (List.mem_of_getElem? (i := 40) (by decide +kernel))), by decide +kernel⟩
theorem tw_1817 : Jvm.Cond.methodLink "DeepHoleLaw" (62 : Nat) ({ cls := "DeepHoleModel", name := "rows", desc := "(I)I" } : Jvm.MethodName) ∈ TB := List.mem_filter.mpr ⟨(ch_8 (List.mem_of_getElem? (i := 41) (by decide +kernel))), by decide +kernel⟩
theorem tw_1818 : Jvm.Cond.instanceMethod ({ cls := "DeepHoleModel", name := "rows", desc := "(I)I" } : Jvm.MethodName) ∈ TB := List.mem_filter.mpr ⟨(ch_8 (List.mem_of_getElem? (i := 42) (by decide +kernel))), by decide +kernel⟩
theorem tw_1819 : Jvm.Cond.selects "DeepHoleModel" ({ cls := "DeepHoleModel", name := "rows", desc := "(I)I" } : Jvm.MethodName) ({ cls := "DeepHoleModel", name := "rows", desc := "(I)I" } : Jvm.MethodName) ∈ TB := List.mem_filter.mpr ⟨(ch_8 (List.mem_of_getElem? (i := 43) (by decide +kernel))), by decide +kernel⟩
theorem tw_1820 : Jvm.Cond.code ({ cls := "DeepHoleModel", name := "rows", desc := "(I)I" } : Jvm.MethodName) prog_14_method_52_code (2 : Nat) (Option.some Jvm.ClassFile.FieldType.int) ∈ TB := List.mem_filter.mpr ⟨(ch_8 (List.mem_of_getElem? (i := 44) (by decide +kernel))), by decide +kernel⟩
theorem tw_1821 : Jvm.Cond.methodLink "DeepHoleLaw" (66 : Nat) ({ cls := "DeepHoleModel", name := "cheapest", desc := "(II)I" } : Jvm.MethodName) ∈ TB := List.mem_filter.mpr ⟨(ch_8 (List.mem_of_getElem? (i := 45) (by decide +kernel))), by decide +kernel⟩
theorem tw_1822 : Jvm.Cond.instanceMethod ({ cls := "DeepHoleModel", name := "cheapest", desc := "(II)I" } : Jvm.MethodName) ∈ TB := List.mem_filter.mpr ⟨(ch_8 (List.mem_of_getElem? (i := 46) (by decide +kernel))), by decide +kernel⟩
theorem tw_1823 : Jvm.Cond.selects "DeepHoleModel" ({ cls := "DeepHoleModel", name := "cheapest", desc := "(II)I" } : Jvm.MethodName) ({ cls := "DeepHoleModel", name := "cheapest", desc := "(II)I" } : Jvm.MethodName) ∈ TB := List.mem_filter.mpr ⟨(ch_8 (List.mem_of_getElem? (i := 47) (by decide +kernel))), by decide +kernel⟩
theorem tw_1824 : Jvm.Cond.code ({ cls := "DeepHoleModel", name := "cheapest", desc := "(II)I" } : Jvm.MethodName) prog_14_method_53_code (6 : Nat) (Option.some Jvm.ClassFile.FieldType.int) ∈ TB := List.mem_filter.mpr ⟨(ch_8 (List.mem_of_getElem? (i := 48) (by decide +kernel))), by decide +kernel⟩
theorem tw_1825 : Jvm.Cond.methodLink "DeepHoleLaw" (70 : Nat) ({ cls := "DeepHoleModel", name := "feedAt", desc := "(I)I" } : Jvm.MethodName) ∈ TB := List.mem_filter.mpr ⟨(ch_8 (List.mem_of_getElem? (i := 49) (by decide +kernel))), by decide +kernel⟩
theorem tw_1826 : Jvm.Cond.instanceMethod ({ cls := "DeepHoleModel", name := "feedAt", desc := "(I)I" } : Jvm.MethodName) ∈ TB := List.mem_filter.mpr ⟨(ch_8 (List.mem_of_getElem? (i := 50) (by decide +kernel))), by decide +kernel⟩
theorem tw_1827 : Jvm.Cond.selects "DeepHoleModel" ({ cls := "DeepHoleModel", name := "feedAt", desc := "(I)I" } : Jvm.MethodName) ({ cls := "DeepHoleModel", name := "feedAt", desc := "(I)I" } : Jvm.MethodName) ∈ TB := List.mem_filter.mpr ⟨(ch_8 (List.mem_of_getElem? (i := 51) (by decide +kernel))), by decide +kernel⟩
theorem tw_1828 : Jvm.Cond.code ({ cls := "DeepHoleModel", name := "feedAt", desc := "(I)I" } : Jvm.MethodName) prog_14_method_54_code (2 : Nat) (Option.some Jvm.ClassFile.FieldType.int) ∈ TB := List.mem_filter.mpr ⟨(ch_8 (List.mem_of_getElem? (i := 52) (by decide +kernel))), by decide +kernel⟩
theorem tw_1829 : Jvm.Cond.methodLink "DeepHoleLaw" (74 : Nat) ({ cls := "DeepHoleModel", name := "met", desc := "(I)I" } : Jvm.MethodName) ∈ TB := List.mem_filter.mpr ⟨(ch_8 (List.mem_of_getElem? (i := 53) (by decide +kernel))), by decide +kernel⟩
theorem tw_1830 : Jvm.Cond.instanceMethod ({ cls := "DeepHoleModel", name := "met", desc := "(I)I" } : Jvm.MethodName) ∈ TB := List.mem_filter.mpr ⟨(ch_8 (List.mem_of_getElem? (i := 54) (by decide +kernel))), by decide +kernel⟩
theorem tw_1831 : Jvm.Cond.selects "DeepHoleModel" ({ cls := "DeepHoleModel", name := "met", desc := "(I)I" } : Jvm.MethodName) ({ cls := "DeepHoleModel", name := "met", desc := "(I)I" } : Jvm.MethodName) ∈ TB := List.mem_filter.mpr ⟨(ch_8 (List.mem_of_getElem? (i := 55) (by decide +kernel))), by decide +kernel⟩
theorem tw_1832 : Jvm.Cond.code ({ cls := "DeepHoleModel", name := "met", desc := "(I)I" } : Jvm.MethodName) prog_14_method_57_code (3 : Nat) (Option.some Jvm.ClassFile.FieldType.int) ∈ TB := List.mem_filter.mpr ⟨(ch_8 (List.mem_of_getElem? (i := 56) (by decide +kernel))), by decide +kernel⟩
theorem tw_1833 : Jvm.Cond.methodLink "DeepHoleModel" (438 : Nat) ({ cls := "DeepHoleModel", name := "apart", desc := "(I)I" } : Jvm.MethodName) ∈ TB := List.mem_filter.mpr ⟨(ch_8 (List.mem_of_getElem? (i := 57) (by decide +kernel))), by decide +kernel⟩
theorem tw_1835 : Jvm.Cond.instanceMethod ({ cls := "DeepHoleModel", name := "apart", desc := "(I)I" } : Jvm.MethodName) ∈ TB := List.mem_filter.mpr ⟨(ch_8 (List.mem_of_getElem? (i := 59) (by decide +kernel))), by decide +kernel⟩
theorem tw_1836 : Jvm.Cond.code ({ cls := "DeepHoleModel", name := "apart", desc := "(I)I" } : Jvm.MethodName) prog_14_method_56_code (4 : Nat) (Option.some Jvm.ClassFile.FieldType.int) ∈ TB := List.mem_filter.mpr ⟨(ch_8 (List.mem_of_getElem? (i := 60) (by decide +kernel))), by decide +kernel⟩
theorem tw_1837 : Jvm.Cond.methodLink "DeepHoleModel" (434 : Nat) ({ cls := "DeepHoleModel", name := "comes", desc := "(ZI)Z" } : Jvm.MethodName) ∈ TB := List.mem_filter.mpr ⟨(ch_8 (List.mem_of_getElem? (i := 61) (by decide +kernel))), by decide +kernel⟩
theorem tw_1839 : Jvm.Cond.instanceMethod ({ cls := "DeepHoleModel", name := "comes", desc := "(ZI)Z" } : Jvm.MethodName) ∈ TB := List.mem_filter.mpr ⟨(ch_8 (List.mem_of_getElem? (i := 63) (by decide +kernel))), by decide +kernel⟩
theorem tw_1840 : Jvm.Cond.code ({ cls := "DeepHoleModel", name := "comes", desc := "(ZI)Z" } : Jvm.MethodName) prog_14_method_55_code (3 : Nat) (Option.some Jvm.ClassFile.FieldType.boolean) ∈ TB := List.mem_filter.mpr ⟨(ch_8 (List.mem_of_getElem? (i := 64) (by decide +kernel))), by decide +kernel⟩
theorem tw_1841 : Jvm.Cond.methodLink "DeepHoleLaw" (78 : Nat) ({ cls := "DeepHoleModel", name := "meet", desc := "()I" } : Jvm.MethodName) ∈ TB := List.mem_filter.mpr ⟨(ch_8 (List.mem_of_getElem? (i := 65) (by decide +kernel))), by decide +kernel⟩
theorem tw_1842 : Jvm.Cond.instanceMethod ({ cls := "DeepHoleModel", name := "meet", desc := "()I" } : Jvm.MethodName) ∈ TB := List.mem_filter.mpr ⟨(ch_8 (List.mem_of_getElem? (i := 66) (by decide +kernel))), by decide +kernel⟩
theorem tw_1843 : Jvm.Cond.selects "DeepHoleModel" ({ cls := "DeepHoleModel", name := "meet", desc := "()I" } : Jvm.MethodName) ({ cls := "DeepHoleModel", name := "meet", desc := "()I" } : Jvm.MethodName) ∈ TB := List.mem_filter.mpr ⟨(ch_8 (List.mem_of_getElem? (i := 67) (by decide +kernel))), by decide +kernel⟩
theorem tw_1844 : Jvm.Cond.code ({ cls := "DeepHoleModel", name := "meet", desc := "()I" } : Jvm.MethodName) prog_14_method_58_code (5 : Nat) (Option.some Jvm.ClassFile.FieldType.int) ∈ TB := List.mem_filter.mpr ⟨(ch_8 (List.mem_of_getElem? (i := 68) (by decide +kernel))), by decide +kernel⟩
theorem tw_1845 : Jvm.Cond.methodLink "DeepHoleLaw" (82 : Nat) ({ cls := "DeepHoleModel", name := "felt", desc := "(II)I" } : Jvm.MethodName) ∈ TB := List.mem_filter.mpr ⟨(ch_8 (List.mem_of_getElem? (i := 69) (by decide +kernel))), by decide +kernel⟩
theorem tw_1846 : Jvm.Cond.instanceMethod ({ cls := "DeepHoleModel", name := "felt", desc := "(II)I" } : Jvm.MethodName) ∈ TB := List.mem_filter.mpr ⟨(ch_8 (List.mem_of_getElem? (i := 70) (by decide +kernel))), by decide +kernel⟩
theorem tw_1847 : Jvm.Cond.selects "DeepHoleModel" ({ cls := "DeepHoleModel", name := "felt", desc := "(II)I" } : Jvm.MethodName) ({ cls := "DeepHoleModel", name := "felt", desc := "(II)I" } : Jvm.MethodName) ∈ TB := List.mem_filter.mpr ⟨(ch_8 (List.mem_of_getElem? (i := 71) (by decide +kernel))), by decide +kernel⟩
theorem tw_1848 : Jvm.Cond.code ({ cls := "DeepHoleModel", name := "felt", desc := "(II)I" } : Jvm.MethodName) prog_14_method_59_code (3 : Nat) (Option.some Jvm.ClassFile.FieldType.int) ∈ TB := List.mem_filter.mpr ⟨(ch_8 (List.mem_of_getElem? (i := 72) (by decide +kernel))), by decide +kernel⟩
theorem tw_1849 : Jvm.Cond.methodLink "DeepHoleLaw" (86 : Nat) ({ cls := "DeepHoleModel", name := "forget", desc := "()I" } : Jvm.MethodName) ∈ TB := List.mem_filter.mpr ⟨(ch_8 (List.mem_of_getElem? (i := 73) (by decide +kernel))), by decide +kernel⟩
theorem tw_1850 : Jvm.Cond.instanceMethod ({ cls := "DeepHoleModel", name := "forget", desc := "()I" } : Jvm.MethodName) ∈ TB := List.mem_filter.mpr ⟨(ch_8 (List.mem_of_getElem? (i := 74) (by decide +kernel))), by decide +kernel⟩
theorem tw_1851 : Jvm.Cond.selects "DeepHoleModel" ({ cls := "DeepHoleModel", name := "forget", desc := "()I" } : Jvm.MethodName) ({ cls := "DeepHoleModel", name := "forget", desc := "()I" } : Jvm.MethodName) ∈ TB := List.mem_filter.mpr ⟨(ch_8 (List.mem_of_getElem? (i := 75) (by decide +kernel))), by decide +kernel⟩
theorem tw_1852 : Jvm.Cond.code ({ cls := "DeepHoleModel", name := "forget", desc := "()I" } : Jvm.MethodName) prog_14_method_60_code (2 : Nat) (Option.some Jvm.ClassFile.FieldType.int) ∈ TB := List.mem_filter.mpr ⟨(ch_8 (List.mem_of_getElem? (i := 76) (by decide +kernel))), by decide +kernel⟩
theorem tw_1853 : Jvm.Cond.methodLink "DeepHoleLaw" (90 : Nat) ({ cls := "DeepHoleModel", name := "causes", desc := "()I" } : Jvm.MethodName) ∈ TB := List.mem_filter.mpr ⟨(ch_8 (List.mem_of_getElem? (i := 77) (by decide +kernel))), by decide +kernel⟩
theorem tw_1854 : Jvm.Cond.instanceMethod ({ cls := "DeepHoleModel", name := "causes", desc := "()I" } : Jvm.MethodName) ∈ TB := List.mem_filter.mpr ⟨(ch_8 (List.mem_of_getElem? (i := 78) (by decide +kernel))), by decide +kernel⟩
theorem tw_1855 : Jvm.Cond.selects "DeepHoleModel" ({ cls := "DeepHoleModel", name := "causes", desc := "()I" } : Jvm.MethodName) ({ cls := "DeepHoleModel", name := "causes", desc := "()I" } : Jvm.MethodName) ∈ TB := List.mem_filter.mpr ⟨(ch_8 (List.mem_of_getElem? (i := 79) (by decide +kernel))), by decide +kernel⟩
theorem tw_1856 : Jvm.Cond.code ({ cls := "DeepHoleModel", name := "causes", desc := "()I" } : Jvm.MethodName) prog_14_method_64_code (3 : Nat) (Option.some Jvm.ClassFile.FieldType.int) ∈ TB := List.mem_filter.mpr ⟨(ch_8 (List.mem_of_getElem? (i := 80) (by decide +kernel))), by decide +kernel⟩
theorem tw_1857 : Jvm.Cond.methodLink "DeepHoleModel" (444 : Nat) ({ cls := "DeepHoleModel", name := "causesOf", desc := "()I" } : Jvm.MethodName) ∈ TB := List.mem_filter.mpr ⟨(ch_8 (List.mem_of_getElem? (i := 81) (by decide +kernel))), by decide +kernel⟩
theorem tw_1859 : Jvm.Cond.instanceMethod ({ cls := "DeepHoleModel", name := "causesOf", desc := "()I" } : Jvm.MethodName) ∈ TB := List.mem_filter.mpr ⟨(ch_8 (List.mem_of_getElem? (i := 83) (by decide +kernel))), by decide +kernel⟩
theorem tw_1860 : Jvm.Cond.code ({ cls := "DeepHoleModel", name := "causesOf", desc := "()I" } : Jvm.MethodName) prog_14_method_61_code (1 : Nat) (Option.some Jvm.ClassFile.FieldType.int) ∈ TB := List.mem_filter.mpr ⟨(ch_8 (List.mem_of_getElem? (i := 84) (by decide +kernel))), by decide +kernel⟩
theorem tw_1861 : Jvm.Cond.methodLink "DeepHoleModel" (447 : Nat) ({ cls := "DeepHoleModel", name := "brings", desc := "(I)Z" } : Jvm.MethodName) ∈ TB := List.mem_filter.mpr ⟨(ch_8 (List.mem_of_getElem? (i := 85) (by decide +kernel))), by decide +kernel⟩
theorem tw_1863 : Jvm.Cond.instanceMethod ({ cls := "DeepHoleModel", name := "brings", desc := "(I)Z" } : Jvm.MethodName) ∈ TB := List.mem_filter.mpr ⟨(ch_8 (List.mem_of_getElem? (i := 87) (by decide +kernel))), by decide +kernel⟩
theorem tw_1864 : Jvm.Cond.code ({ cls := "DeepHoleModel", name := "brings", desc := "(I)Z" } : Jvm.MethodName) prog_14_method_63_code (5 : Nat) (Option.some Jvm.ClassFile.FieldType.boolean) ∈ TB := List.mem_filter.mpr ⟨(ch_8 (List.mem_of_getElem? (i := 88) (by decide +kernel))), by decide +kernel⟩
theorem tw_1865 : Jvm.Cond.methodLink "DeepHoleModel" (441 : Nat) ({ cls := "DeepHoleModel", name := "part", desc := "(II)I" } : Jvm.MethodName) ∈ TB := List.mem_filter.mpr ⟨(ch_8 (List.mem_of_getElem? (i := 89) (by decide +kernel))), by decide +kernel⟩
theorem tw_1867 : Jvm.Cond.instanceMethod ({ cls := "DeepHoleModel", name := "part", desc := "(II)I" } : Jvm.MethodName) ∈ TB := List.mem_filter.mpr ⟨(ch_8 (List.mem_of_getElem? (i := 91) (by decide +kernel))), by decide +kernel⟩
theorem tw_1868 : Jvm.Cond.code ({ cls := "DeepHoleModel", name := "part", desc := "(II)I" } : Jvm.MethodName) prog_14_method_62_code (5 : Nat) (Option.some Jvm.ClassFile.FieldType.int) ∈ TB := List.mem_filter.mpr ⟨(ch_8 (List.mem_of_getElem? (i := 92) (by decide +kernel))), by decide +kernel⟩
theorem tw_1869 : Jvm.Cond.methodLink "DeepHoleLaw" (94 : Nat) ({ cls := "DeepHoleModel", name := "cause", desc := "(II)I" } : Jvm.MethodName) ∈ TB := List.mem_filter.mpr ⟨(ch_8 (List.mem_of_getElem? (i := 93) (by decide +kernel))), by decide +kernel⟩
theorem tw_1870 : Jvm.Cond.instanceMethod ({ cls := "DeepHoleModel", name := "cause", desc := "(II)I" } : Jvm.MethodName) ∈ TB := List.mem_filter.mpr ⟨(ch_8 (List.mem_of_getElem? (i := 94) (by decide +kernel))), by decide +kernel⟩
theorem tw_1871 : Jvm.Cond.selects "DeepHoleModel" ({ cls := "DeepHoleModel", name := "cause", desc := "(II)I" } : Jvm.MethodName) ({ cls := "DeepHoleModel", name := "cause", desc := "(II)I" } : Jvm.MethodName) ∈ TB := List.mem_filter.mpr ⟨(ch_8 (List.mem_of_getElem? (i := 95) (by decide +kernel))), by decide +kernel⟩
theorem tw_1872 : Jvm.Cond.code ({ cls := "DeepHoleModel", name := "cause", desc := "(II)I" } : Jvm.MethodName) prog_14_method_65_code (5 : Nat) (Option.some Jvm.ClassFile.FieldType.int) ∈ TB := List.mem_filter.mpr ⟨(ch_8 (List.mem_of_getElem? (i := 96) (by decide +kernel))), by decide +kernel⟩
theorem tw_1873 : Jvm.Cond.methodLink "DeepHoleLaw" (98 : Nat) ({ cls := "DeepHoleModel", name := "sure", desc := "(I)I" } : Jvm.MethodName) ∈ TB := List.mem_filter.mpr ⟨(ch_8 (List.mem_of_getElem? (i := 97) (by decide +kernel))), by decide +kernel⟩
theorem tw_1874 : Jvm.Cond.instanceMethod ({ cls := "DeepHoleModel", name := "sure", desc := "(I)I" } : Jvm.MethodName) ∈ TB := List.mem_filter.mpr ⟨(ch_8 (List.mem_of_getElem? (i := 98) (by decide +kernel))), by decide +kernel⟩
theorem tw_1875 : Jvm.Cond.selects "DeepHoleModel" ({ cls := "DeepHoleModel", name := "sure", desc := "(I)I" } : Jvm.MethodName) ({ cls := "DeepHoleModel", name := "sure", desc := "(I)I" } : Jvm.MethodName) ∈ TB := List.mem_filter.mpr ⟨(ch_8 (List.mem_of_getElem? (i := 99) (by decide +kernel))), by decide +kernel⟩
theorem tw_1876 : Jvm.Cond.code ({ cls := "DeepHoleModel", name := "sure", desc := "(I)I" } : Jvm.MethodName) prog_14_method_66_code (5 : Nat) (Option.some Jvm.ClassFile.FieldType.int) ∈ TB := List.mem_filter.mpr ⟨(ch_8 (List.mem_of_getElem? (i := 100) (by decide +kernel))), by decide +kernel⟩
theorem tw_1877 : Jvm.Cond.methodLink "DeepHoleLaw" (103 : Nat) ({ cls := "DeepHoleModel", name := "off", desc := "(IZ)I" } : Jvm.MethodName) ∈ TB := List.mem_filter.mpr ⟨(ch_8 (List.mem_of_getElem? (i := 101) (by decide +kernel))), by decide +kernel⟩
theorem tw_1878 : Jvm.Cond.instanceMethod ({ cls := "DeepHoleModel", name := "off", desc := "(IZ)I" } : Jvm.MethodName) ∈ TB := List.mem_filter.mpr ⟨(ch_8 (List.mem_of_getElem? (i := 102) (by decide +kernel))), by decide +kernel⟩
theorem tw_1879 : Jvm.Cond.selects "DeepHoleModel" ({ cls := "DeepHoleModel", name := "off", desc := "(IZ)I" } : Jvm.MethodName) ({ cls := "DeepHoleModel", name := "off", desc := "(IZ)I" } : Jvm.MethodName) ∈ TB := List.mem_filter.mpr ⟨(ch_8 (List.mem_of_getElem? (i := 103) (by decide +kernel))), by decide +kernel⟩
theorem tw_1880 : Jvm.Cond.code ({ cls := "DeepHoleModel", name := "off", desc := "(IZ)I" } : Jvm.MethodName) prog_14_method_70_code (3 : Nat) (Option.some Jvm.ClassFile.FieldType.int) ∈ TB := List.mem_filter.mpr ⟨(ch_8 (List.mem_of_getElem? (i := 104) (by decide +kernel))), by decide +kernel⟩
theorem tw_1881 : Jvm.Cond.methodLink "DeepHoleModel" (453 : Nat) ({ cls := "DeepHoleModel", name := "isShort", desc := "()Z" } : Jvm.MethodName) ∈ TB := List.mem_filter.mpr ⟨(ch_8 (List.mem_of_getElem? (i := 105) (by decide +kernel))), by decide +kernel⟩
theorem tw_1883 : Jvm.Cond.instanceMethod ({ cls := "DeepHoleModel", name := "isShort", desc := "()Z" } : Jvm.MethodName) ∈ TB := List.mem_filter.mpr ⟨(ch_8 (List.mem_of_getElem? (i := 107) (by decide +kernel))), by decide +kernel⟩
theorem tw_1884 : Jvm.Cond.code ({ cls := "DeepHoleModel", name := "isShort", desc := "()Z" } : Jvm.MethodName) prog_14_method_69_code (1 : Nat) (Option.some Jvm.ClassFile.FieldType.boolean) ∈ TB := List.mem_filter.mpr ⟨(ch_8 (List.mem_of_getElem? (i := 108) (by decide +kernel))), by decide +kernel⟩
theorem tw_1885 : Jvm.Cond.methodLink "DeepHoleModel" (456 : Nat) ({ cls := "DeepHoleModel", name := "offOf", desc := "([II)I" } : Jvm.MethodName) ∈ TB := List.mem_filter.mpr ⟨(ch_8 (List.mem_of_getElem? (i := 109) (by decide +kernel))), by decide +kernel⟩
theorem tw_1887 : Jvm.Cond.instanceMethod ({ cls := "DeepHoleModel", name := "offOf", desc := "([II)I" } : Jvm.MethodName) ∈ TB := List.mem_filter.mpr ⟨(ch_8 (List.mem_of_getElem? (i := 111) (by decide +kernel))), by decide +kernel⟩
theorem tw_1888 : Jvm.Cond.code ({ cls := "DeepHoleModel", name := "offOf", desc := "([II)I" } : Jvm.MethodName) prog_14_method_68_code (3 : Nat) (Option.some Jvm.ClassFile.FieldType.int) ∈ TB := List.mem_filter.mpr ⟨(ch_8 (List.mem_of_getElem? (i := 112) (by decide +kernel))), by decide +kernel⟩
theorem tw_1889 : Jvm.Cond.methodLink "DeepHoleModel" (450 : Nat) ({ cls := "DeepHoleModel", name := "last", desc := "()I" } : Jvm.MethodName) ∈ TB := List.mem_filter.mpr ⟨(ch_8 (List.mem_of_getElem? (i := 113) (by decide +kernel))), by decide +kernel⟩
theorem tw_1891 : Jvm.Cond.instanceMethod ({ cls := "DeepHoleModel", name := "last", desc := "()I" } : Jvm.MethodName) ∈ TB := List.mem_filter.mpr ⟨(ch_8 (List.mem_of_getElem? (i := 115) (by decide +kernel))), by decide +kernel⟩
theorem tw_1892 : Jvm.Cond.code ({ cls := "DeepHoleModel", name := "last", desc := "()I" } : Jvm.MethodName) prog_14_method_67_code (1 : Nat) (Option.some Jvm.ClassFile.FieldType.int) ∈ TB := List.mem_filter.mpr ⟨(ch_8 (List.mem_of_getElem? (i := 116) (by decide +kernel))), by decide +kernel⟩
theorem tw_1893 : Jvm.Cond.methodLink "DeepHoleLaw" (107 : Nat) ({ cls := "DeepHoleModel", name := "ring", desc := "(I)I" } : Jvm.MethodName) ∈ TB := List.mem_filter.mpr ⟨(ch_8 (List.mem_of_getElem? (i := 117) (by decide +kernel))), by decide +kernel⟩
theorem tw_1894 : Jvm.Cond.instanceMethod ({ cls := "DeepHoleModel", name := "ring", desc := "(I)I" } : Jvm.MethodName) ∈ TB := List.mem_filter.mpr ⟨(ch_8 (List.mem_of_getElem? (i := 118) (by decide +kernel))), by decide +kernel⟩
theorem tw_1895 : Jvm.Cond.selects "DeepHoleModel" ({ cls := "DeepHoleModel", name := "ring", desc := "(I)I" } : Jvm.MethodName) ({ cls := "DeepHoleModel", name := "ring", desc := "(I)I" } : Jvm.MethodName) ∈ TB := List.mem_filter.mpr ⟨(ch_8 (List.mem_of_getElem? (i := 119) (by decide +kernel))), by decide +kernel⟩
theorem tw_1896 : Jvm.Cond.code ({ cls := "DeepHoleModel", name := "ring", desc := "(I)I" } : Jvm.MethodName) prog_14_method_74_code (3 : Nat) (Option.some Jvm.ClassFile.FieldType.int) ∈ TB := List.mem_filter.mpr ⟨(ch_8 (List.mem_of_getElem? (i := 120) (by decide +kernel))), by decide +kernel⟩
theorem tw_1897 : Jvm.Cond.methodLink "DeepHoleModel" (463 : Nat) ({ cls := "DeepHoleModel", name := "ringAt", desc := "()I" } : Jvm.MethodName) ∈ TB := List.mem_filter.mpr ⟨(ch_8 (List.mem_of_getElem? (i := 121) (by decide +kernel))), by decide +kernel⟩
theorem tw_1899 : Jvm.Cond.instanceMethod ({ cls := "DeepHoleModel", name := "ringAt", desc := "()I" } : Jvm.MethodName) ∈ TB := List.mem_filter.mpr ⟨(ch_8 (List.mem_of_getElem? (i := 123) (by decide +kernel))), by decide +kernel⟩
theorem tw_1900 : Jvm.Cond.code ({ cls := "DeepHoleModel", name := "ringAt", desc := "()I" } : Jvm.MethodName) prog_14_method_72_code (3 : Nat) (Option.some Jvm.ClassFile.FieldType.int) ∈ TB := List.mem_filter.mpr ⟨(ch_8 (List.mem_of_getElem? (i := 124) (by decide +kernel))), by decide +kernel⟩
theorem tw_1901 : Jvm.Cond.methodLink "DeepHoleModel" (460 : Nat) ({ cls := "DeepHoleModel", name := "ringOf", desc := "(I)I" } : Jvm.MethodName) ∈ TB := List.mem_filter.mpr ⟨(ch_8 (List.mem_of_getElem? (i := 125) (by decide +kernel))), by decide +kernel⟩
theorem tw_1903 : Jvm.Cond.instanceMethod ({ cls := "DeepHoleModel", name := "ringOf", desc := "(I)I" } : Jvm.MethodName) ∈ TB := List.mem_filter.mpr ⟨(ch_8 (List.mem_of_getElem? (i := 127) (by decide +kernel))), by decide +kernel⟩
theorem tw_1904 : Jvm.Cond.code ({ cls := "DeepHoleModel", name := "ringOf", desc := "(I)I" } : Jvm.MethodName) prog_14_method_71_code (2 : Nat) (Option.some Jvm.ClassFile.FieldType.int) ∈ TB := List.mem_filter.mpr ⟨(ch_8 (List.mem_of_getElem? (i := 128) (by decide +kernel))), by decide +kernel⟩
theorem tw_1905 : Jvm.Cond.methodLink "DeepHoleModel" (466 : Nat) ({ cls := "DeepHoleModel", name := "sideOf", desc := "(I)I" } : Jvm.MethodName) ∈ TB := List.mem_filter.mpr ⟨(ch_8 (List.mem_of_getElem? (i := 129) (by decide +kernel))), by decide +kernel⟩
theorem tw_1907 : Jvm.Cond.instanceMethod ({ cls := "DeepHoleModel", name := "sideOf", desc := "(I)I" } : Jvm.MethodName) ∈ TB := List.mem_filter.mpr ⟨(ch_8 (List.mem_of_getElem? (i := 131) (by decide +kernel))), by decide +kernel⟩
theorem tw_1908 : Jvm.Cond.code ({ cls := "DeepHoleModel", name := "sideOf", desc := "(I)I" } : Jvm.MethodName) prog_14_method_73_code (4 : Nat) (Option.some Jvm.ClassFile.FieldType.int) ∈ TB := List.mem_filter.mpr ⟨(ch_8 (List.mem_of_getElem? (i := 132) (by decide +kernel))), by decide +kernel⟩
theorem tw_1909 : Jvm.Cond.methodLink "DeepHoleLaw" (111 : Nat) ({ cls := "DeepHoleModel", name := "sees", desc := "(I)I" } : Jvm.MethodName) ∈ TB := List.mem_filter.mpr ⟨(ch_8 (List.mem_of_getElem? (i := 133) (by decide +kernel))), by decide +kernel⟩
theorem tw_1910 : Jvm.Cond.instanceMethod ({ cls := "DeepHoleModel", name := "sees", desc := "(I)I" } : Jvm.MethodName) ∈ TB := List.mem_filter.mpr ⟨(ch_8 (List.mem_of_getElem? (i := 134) (by decide +kernel))), by decide +kernel⟩
theorem tw_1911 : Jvm.Cond.selects "DeepHoleModel" ({ cls := "DeepHoleModel", name := "sees", desc := "(I)I" } : Jvm.MethodName) ({ cls := "DeepHoleModel", name := "sees", desc := "(I)I" } : Jvm.MethodName) ∈ TB := List.mem_filter.mpr ⟨(ch_8 (List.mem_of_getElem? (i := 135) (by decide +kernel))), by decide +kernel⟩
theorem tw_1912 : Jvm.Cond.code ({ cls := "DeepHoleModel", name := "sees", desc := "(I)I" } : Jvm.MethodName) prog_14_method_75_code (2 : Nat) (Option.some Jvm.ClassFile.FieldType.int) ∈ TB := List.mem_filter.mpr ⟨(ch_8 (List.mem_of_getElem? (i := 136) (by decide +kernel))), by decide +kernel⟩
theorem tw_1913 : Jvm.Cond.methodLink "DeepHoleLaw" (116 : Nat) ({ cls := "DeepHoleModel", name := "blow", desc := "(III)I" } : Jvm.MethodName) ∈ TB := List.mem_filter.mpr ⟨(ch_8 (List.mem_of_getElem? (i := 137) (by decide +kernel))), by decide +kernel⟩
theorem tw_1914 : Jvm.Cond.instanceMethod ({ cls := "DeepHoleModel", name := "blow", desc := "(III)I" } : Jvm.MethodName) ∈ TB := List.mem_filter.mpr ⟨(ch_8 (List.mem_of_getElem? (i := 138) (by decide +kernel))), by decide +kernel⟩
theorem tw_1915 : Jvm.Cond.selects "DeepHoleModel" ({ cls := "DeepHoleModel", name := "blow", desc := "(III)I" } : Jvm.MethodName) ({ cls := "DeepHoleModel", name := "blow", desc := "(III)I" } : Jvm.MethodName) ∈ TB := List.mem_filter.mpr ⟨(ch_8 (List.mem_of_getElem? (i := 139) (by decide +kernel))), by decide +kernel⟩
theorem tw_1916 : Jvm.Cond.code ({ cls := "DeepHoleModel", name := "blow", desc := "(III)I" } : Jvm.MethodName) prog_14_method_78_code (4 : Nat) (Option.some Jvm.ClassFile.FieldType.int) ∈ TB := List.mem_filter.mpr ⟨(ch_8 (List.mem_of_getElem? (i := 140) (by decide +kernel))), by decide +kernel⟩
theorem tw_1917 : Jvm.Cond.methodLink "DeepHoleModel" (473 : Nat) ({ cls := "DeepHoleModel", name := "strikes", desc := "([I[IIIIZ)V" } : Jvm.MethodName) ∈ TB := List.mem_filter.mpr ⟨(ch_8 (List.mem_of_getElem? (i := 141) (by decide +kernel))), by decide +kernel⟩
theorem tw_1919 : Jvm.Cond.instanceMethod ({ cls := "DeepHoleModel", name := "strikes", desc := "([I[IIIIZ)V" } : Jvm.MethodName) ∈ TB := List.mem_filter.mpr ⟨(ch_8 (List.mem_of_getElem? (i := 143) (by decide +kernel))), by decide +kernel⟩
theorem tw_1920 : Jvm.Cond.code ({ cls := "DeepHoleModel", name := "strikes", desc := "([I[IIIIZ)V" } : Jvm.MethodName) prog_14_method_77_code (9 : Nat) (Option.none : Option Jvm.ClassFile.FieldType) ∈ TB := List.mem_filter.mpr ⟨(ch_8 (List.mem_of_getElem? (i := 144) (by decide +kernel))), by decide +kernel⟩
theorem tw_1921 : Jvm.Cond.methodLink "DeepHoleModel" (469 : Nat) ({ cls := "DeepHoleModel", name := "moved", desc := "(III)I" } : Jvm.MethodName) ∈ TB := List.mem_filter.mpr ⟨(ch_8 (List.mem_of_getElem? (i := 145) (by decide +kernel))), by decide +kernel⟩
theorem tw_1923 : Jvm.Cond.instanceMethod ({ cls := "DeepHoleModel", name := "moved", desc := "(III)I" } : Jvm.MethodName) ∈ TB := List.mem_filter.mpr ⟨(ch_8 (List.mem_of_getElem? (i := 147) (by decide +kernel))), by decide +kernel⟩
theorem tw_1924 : Jvm.Cond.code ({ cls := "DeepHoleModel", name := "moved", desc := "(III)I" } : Jvm.MethodName) prog_14_method_76_code (4 : Nat) (Option.some Jvm.ClassFile.FieldType.int) ∈ TB := List.mem_filter.mpr ⟨(ch_8 (List.mem_of_getElem? (i := 148) (by decide +kernel))), by decide +kernel⟩
theorem tw_1925 : Jvm.Cond.methodLink "DeepHoleLaw" (120 : Nat) ({ cls := "DeepHoleModel", name := "fewest", desc := "(II)I" } : Jvm.MethodName) ∈ TB := List.mem_filter.mpr ⟨(ch_8 (List.mem_of_getElem? (i := 149) (by decide +kernel))), by decide +kernel⟩
theorem tw_1926 : Jvm.Cond.instanceMethod ({ cls := "DeepHoleModel", name := "fewest", desc := "(II)I" } : Jvm.MethodName) ∈ TB := List.mem_filter.mpr ⟨(ch_8 (List.mem_of_getElem? (i := 150) (by decide +kernel))), by decide +kernel⟩
theorem tw_1927 : Jvm.Cond.selects "DeepHoleModel" ({ cls := "DeepHoleModel", name := "fewest", desc := "(II)I" } : Jvm.MethodName) ({ cls := "DeepHoleModel", name := "fewest", desc := "(II)I" } : Jvm.MethodName) ∈ TB := List.mem_filter.mpr ⟨(ch_8 (List.mem_of_getElem? (i := 151) (by decide +kernel))), by decide +kernel⟩
theorem tw_1928 : Jvm.Cond.code ({ cls := "DeepHoleModel", name := "fewest", desc := "(II)I" } : Jvm.MethodName) prog_14_method_83_code (6 : Nat) (Option.some Jvm.ClassFile.FieldType.int) ∈ TB := List.mem_filter.mpr ⟨(ch_8 (List.mem_of_getElem? (i := 152) (by decide +kernel))), by decide +kernel⟩
theorem tw_1929 : Jvm.Cond.methodLink "DeepHoleModel" (486 : Nat) ({ cls := "DeepHoleModel", name := "straightens", desc := "(III)Z" } : Jvm.MethodName) ∈ TB := List.mem_filter.mpr ⟨(ch_8 (List.mem_of_getElem? (i := 153) (by decide +kernel))), by decide +kernel⟩
theorem tw_1931 : Jvm.Cond.instanceMethod ({ cls := "DeepHoleModel", name := "straightens", desc := "(III)Z" } : Jvm.MethodName) ∈ TB := List.mem_filter.mpr ⟨(ch_8 (List.mem_of_getElem? (i := 155) (by decide +kernel))), by decide +kernel⟩
theorem tw_1932 : Jvm.Cond.code ({ cls := "DeepHoleModel", name := "straightens", desc := "(III)Z" } : Jvm.MethodName) prog_14_method_80_code (8 : Nat) (Option.some Jvm.ClassFile.FieldType.boolean) ∈ TB := List.mem_filter.mpr ⟨(ch_8 (List.mem_of_getElem? (i := 156) (by decide +kernel))), by decide +kernel⟩
theorem tw_1933 : Jvm.Cond.methodLink "DeepHoleModel" (477 : Nat) ({ cls := "DeepHoleModel", name := "isStraight", desc := "(I)Z" } : Jvm.MethodName) ∈ TB := List.mem_filter.mpr ⟨(ch_8 (List.mem_of_getElem? (i := 157) (by decide +kernel))), by decide +kernel⟩
theorem tw_1935 : Jvm.Cond.instanceMethod ({ cls := "DeepHoleModel", name := "isStraight", desc := "(I)Z" } : Jvm.MethodName) ∈ TB := List.mem_filter.mpr ⟨(ch_8 (List.mem_of_getElem? (i := 159) (by decide +kernel))), by decide +kernel⟩
theorem tw_1936 : Jvm.Cond.code ({ cls := "DeepHoleModel", name := "isStraight", desc := "(I)Z" } : Jvm.MethodName) prog_14_method_79_code (3 : Nat) (Option.some Jvm.ClassFile.FieldType.boolean) ∈ TB := List.mem_filter.mpr ⟨(ch_8 (List.mem_of_getElem? (i := 160) (by decide +kernel))), by decide +kernel⟩
theorem tw_1937 : Jvm.Cond.methodLink "DeepHoleModel" (480 : Nat) ({ cls := "DeepHoleModel", name := "strokesOf", desc := "()I" } : Jvm.MethodName) ∈ TB := List.mem_filter.mpr ⟨(ch_8 (List.mem_of_getElem? (i := 161) (by decide +kernel))), by decide +kernel⟩
theorem tw_1939 : Jvm.Cond.instanceMethod ({ cls := "DeepHoleModel", name := "strokesOf", desc := "()I" } : Jvm.MethodName) ∈ TB := List.mem_filter.mpr ⟨(ch_8 (List.mem_of_getElem? (i := 163) (by decide +kernel))), by decide +kernel⟩
theorem tw_1940 : Jvm.Cond.code ({ cls := "DeepHoleModel", name := "strokesOf", desc := "()I" } : Jvm.MethodName) prog_14_method_81_code (1 : Nat) (Option.some Jvm.ClassFile.FieldType.int) ∈ TB := List.mem_filter.mpr ⟨(ch_8 (List.mem_of_getElem? (i := 164) (by decide +kernel))), by decide +kernel⟩
theorem tw_1941 : Jvm.Cond.methodLink "DeepHoleModel" (483 : Nat) ({ cls := "DeepHoleModel", name := "secondDoes", desc := "(II)Z" } : Jvm.MethodName) ∈ TB := List.mem_filter.mpr ⟨(ch_8 (List.mem_of_getElem? (i := 165) (by decide +kernel))), by decide +kernel⟩
theorem tw_1943 : Jvm.Cond.instanceMethod ({ cls := "DeepHoleModel", name := "secondDoes", desc := "(II)Z" } : Jvm.MethodName) ∈ TB := List.mem_filter.mpr ⟨(ch_8 (List.mem_of_getElem? (i := 167) (by decide +kernel))), by decide +kernel⟩
theorem tw_1944 : Jvm.Cond.code ({ cls := "DeepHoleModel", name := "secondDoes", desc := "(II)Z" } : Jvm.MethodName) prog_14_method_82_code (6 : Nat) (Option.some Jvm.ClassFile.FieldType.boolean) ∈ TB := List.mem_filter.mpr ⟨(ch_8 (List.mem_of_getElem? (i := 168) (by decide +kernel))), by decide +kernel⟩
theorem tw_1945 : Jvm.Cond.methodLink "DeepHoleLaw" (124 : Nat) ({ cls := "DeepHoleModel", name := "stroke", desc := "(I)I" } : Jvm.MethodName) ∈ TB := List.mem_filter.mpr ⟨(ch_8 (List.mem_of_getElem? (i := 169) (by decide +kernel))), by decide +kernel⟩
theorem tw_1946 : Jvm.Cond.instanceMethod ({ cls := "DeepHoleModel", name := "stroke", desc := "(I)I" } : Jvm.MethodName) ∈ TB := List.mem_filter.mpr ⟨(ch_8 (List.mem_of_getElem? (i := 170) (by decide +kernel))), by decide +kernel⟩
theorem tw_1947 : Jvm.Cond.selects "DeepHoleModel" ({ cls := "DeepHoleModel", name := "stroke", desc := "(I)I" } : Jvm.MethodName) ({ cls := "DeepHoleModel", name := "stroke", desc := "(I)I" } : Jvm.MethodName) ∈ TB := List.mem_filter.mpr ⟨(ch_8 (List.mem_of_getElem? (i := 171) (by decide +kernel))), by decide +kernel⟩
theorem tw_1948 : Jvm.Cond.code ({ cls := "DeepHoleModel", name := "stroke", desc := "(I)I" } : Jvm.MethodName) prog_14_method_84_code (2 : Nat) (Option.some Jvm.ClassFile.FieldType.int) ∈ TB := List.mem_filter.mpr ⟨(ch_8 (List.mem_of_getElem? (i := 172) (by decide +kernel))), by decide +kernel⟩
theorem tw_1949 : Jvm.Cond.methodLink "DeepHoleLaw" (128 : Nat) ({ cls := "DeepHoleModel", name := "heat", desc := "()I" } : Jvm.MethodName) ∈ TB := List.mem_filter.mpr ⟨(ch_8 (List.mem_of_getElem? (i := 173) (by decide +kernel))), by decide +kernel⟩
theorem tw_1950 : Jvm.Cond.instanceMethod ({ cls := "DeepHoleModel", name := "heat", desc := "()I" } : Jvm.MethodName) ∈ TB := List.mem_filter.mpr ⟨(ch_8 (List.mem_of_getElem? (i := 174) (by decide +kernel))), by decide +kernel⟩
theorem tw_1951 : Jvm.Cond.selects "DeepHoleModel" ({ cls := "DeepHoleModel", name := "heat", desc := "()I" } : Jvm.MethodName) ({ cls := "DeepHoleModel", name := "heat", desc := "()I" } : Jvm.MethodName) ∈ TB := List.mem_filter.mpr ⟨(ch_8 (List.mem_of_getElem? (i := 175) (by decide +kernel))), by decide +kernel⟩
theorem tw_1952 : Jvm.Cond.code ({ cls := "DeepHoleModel", name := "heat", desc := "()I" } : Jvm.MethodName) prog_14_method_85_code (3 : Nat) (Option.some Jvm.ClassFile.FieldType.int) ∈ TB := List.mem_filter.mpr ⟨(ch_8 (List.mem_of_getElem? (i := 176) (by decide +kernel))), by decide +kernel⟩
theorem tw_1953 : Jvm.Cond.methodLink "DeepHoleLaw" (132 : Nat) ({ cls := "DeepHoleModel", name := "about", desc := "()I" } : Jvm.MethodName) ∈ TB := List.mem_filter.mpr ⟨(ch_8 (List.mem_of_getElem? (i := 177) (by decide +kernel))), by decide +kernel⟩
theorem tw_1954 : Jvm.Cond.instanceMethod ({ cls := "DeepHoleModel", name := "about", desc := "()I" } : Jvm.MethodName) ∈ TB := List.mem_filter.mpr ⟨(ch_8 (List.mem_of_getElem? (i := 178) (by decide +kernel))), by decide +kernel⟩
theorem tw_1955 : Jvm.Cond.selects "DeepHoleModel" ({ cls := "DeepHoleModel", name := "about", desc := "()I" } : Jvm.MethodName) ({ cls := "DeepHoleModel", name := "about", desc := "()I" } : Jvm.MethodName) ∈ TB := List.mem_filter.mpr ⟨(ch_8 (List.mem_of_getElem? (i := 179) (by decide +kernel))), by decide +kernel⟩
theorem tw_1956 : Jvm.Cond.code ({ cls := "DeepHoleModel", name := "about", desc := "()I" } : Jvm.MethodName) prog_14_method_86_code (5 : Nat) (Option.some Jvm.ClassFile.FieldType.int) ∈ TB := List.mem_filter.mpr ⟨(ch_8 (List.mem_of_getElem? (i := 180) (by decide +kernel))), by decide +kernel⟩
theorem tw_1957 : Jvm.Cond.methodLink "DeepHoleLaw" (137 : Nat) ({ cls := "DeepHoleModel", name := "wall", desc := "(III)Z" } : Jvm.MethodName) ∈ TB := List.mem_filter.mpr ⟨(ch_8 (List.mem_of_getElem? (i := 181) (by decide +kernel))), by decide +kernel⟩
theorem tw_1958 : Jvm.Cond.instanceMethod ({ cls := "DeepHoleModel", name := "wall", desc := "(III)Z" } : Jvm.MethodName) ∈ TB := List.mem_filter.mpr ⟨(ch_8 (List.mem_of_getElem? (i := 182) (by decide +kernel))), by decide +kernel⟩
theorem tw_1959 : Jvm.Cond.selects "DeepHoleModel" ({ cls := "DeepHoleModel", name := "wall", desc := "(III)Z" } : Jvm.MethodName) ({ cls := "DeepHoleModel", name := "wall", desc := "(III)Z" } : Jvm.MethodName) ∈ TB := List.mem_filter.mpr ⟨(ch_8 (List.mem_of_getElem? (i := 183) (by decide +kernel))), by decide +kernel⟩
theorem tw_1960 : Jvm.Cond.code ({ cls := "DeepHoleModel", name := "wall", desc := "(III)Z" } : Jvm.MethodName) prog_14_method_87_code (4 : Nat) (Option.some Jvm.ClassFile.FieldType.boolean) ∈ TB := List.mem_filter.mpr ⟨(ch_8 (List.mem_of_getElem? (i := 184) (by decide +kernel))), by decide +kernel⟩
theorem tw_1961 : Jvm.Cond.methodLink "DeepHoleLaw" (141 : Nat) ({ cls := "DeepHoleModel", name := "clear", desc := "()I" } : Jvm.MethodName) ∈ TB := List.mem_filter.mpr ⟨(ch_8 (List.mem_of_getElem? (i := 185) (by decide +kernel))), by decide +kernel⟩
theorem tw_1962 : Jvm.Cond.instanceMethod ({ cls := "DeepHoleModel", name := "clear", desc := "()I" } : Jvm.MethodName) ∈ TB := List.mem_filter.mpr ⟨(ch_8 (List.mem_of_getElem? (i := 186) (by decide +kernel))), by decide +kernel⟩
theorem tw_1963 : Jvm.Cond.selects "DeepHoleModel" ({ cls := "DeepHoleModel", name := "clear", desc := "()I" } : Jvm.MethodName) ({ cls := "DeepHoleModel", name := "clear", desc := "()I" } : Jvm.MethodName) ∈ TB := List.mem_filter.mpr ⟨(ch_8 (List.mem_of_getElem? (i := 187) (by decide +kernel))), by decide +kernel⟩
theorem tw_1964 : Jvm.Cond.code ({ cls := "DeepHoleModel", name := "clear", desc := "()I" } : Jvm.MethodName) prog_14_method_88_code (3 : Nat) (Option.some Jvm.ClassFile.FieldType.int) ∈ TB := List.mem_filter.mpr ⟨(ch_8 (List.mem_of_getElem? (i := 188) (by decide +kernel))), by decide +kernel⟩
theorem tw_1965 : Jvm.Cond.methodLink "DeepHoleLaw" (146 : Nat) ({ cls := "DeepHoleModel", name := "lies", desc := "(IIZ)I" } : Jvm.MethodName) ∈ TB := List.mem_filter.mpr ⟨(ch_8 (List.mem_of_getElem? (i := 189) (by decide +kernel))), by decide +kernel⟩
theorem tw_1966 : Jvm.Cond.instanceMethod ({ cls := "DeepHoleModel", name := "lies", desc := "(IIZ)I" } : Jvm.MethodName) ∈ TB := List.mem_filter.mpr ⟨(ch_8 (List.mem_of_getElem? (i := 190) (by decide +kernel))), by decide +kernel⟩
theorem tw_1967 : Jvm.Cond.selects "DeepHoleModel" ({ cls := "DeepHoleModel", name := "lies", desc := "(IIZ)I" } : Jvm.MethodName) ({ cls := "DeepHoleModel", name := "lies", desc := "(IIZ)I" } : Jvm.MethodName) ∈ TB := List.mem_filter.mpr ⟨(ch_8 (List.mem_of_getElem? (i := 191) (by decide +kernel))), by decide +kernel⟩
theorem tw_1968 : Jvm.Cond.code ({ cls := "DeepHoleModel", name := "lies", desc := "(IIZ)I" } : Jvm.MethodName) prog_14_method_91_code (4 : Nat) (Option.some Jvm.ClassFile.FieldType.int) ∈ TB := List.mem_filter.mpr ⟨(ch_8 (List.mem_of_getElem? (i := 192) (by decide +kernel))), by decide +kernel⟩
theorem tw_1969 : Jvm.Cond.methodLink "DeepHoleModel" (492 : Nat) ({ cls := "DeepHoleModel", name := "spans", desc := "(I)Z" } : Jvm.MethodName) ∈ TB := List.mem_filter.mpr ⟨(ch_8 (List.mem_of_getElem? (i := 193) (by decide +kernel))), by decide +kernel⟩
theorem tw_1971 : Jvm.Cond.instanceMethod ({ cls := "DeepHoleModel", name := "spans", desc := "(I)Z" } : Jvm.MethodName) ∈ TB := List.mem_filter.mpr ⟨(ch_8 (List.mem_of_getElem? (i := 195) (by decide +kernel))), by decide +kernel⟩
theorem tw_1972 : Jvm.Cond.code ({ cls := "DeepHoleModel", name := "spans", desc := "(I)Z" } : Jvm.MethodName) prog_14_method_90_code (4 : Nat) (Option.some Jvm.ClassFile.FieldType.boolean) ∈ TB := List.mem_filter.mpr ⟨(ch_8 (List.mem_of_getElem? (i := 196) (by decide +kernel))), by decide +kernel⟩
theorem tw_1973 : Jvm.Cond.methodLink "DeepHoleModel" (489 : Nat) ({ cls := "DeepHoleModel", name := "narrowed", desc := "(III)Z" } : Jvm.MethodName) ∈ TB := List.mem_filter.mpr ⟨(ch_8 (List.mem_of_getElem? (i := 197) (by decide +kernel))), by decide +kernel⟩
theorem tw_1975 : Jvm.Cond.instanceMethod ({ cls := "DeepHoleModel", name := "narrowed", desc := "(III)Z" } : Jvm.MethodName) ∈ TB := List.mem_filter.mpr ⟨(ch_8 (List.mem_of_getElem? (i := 199) (by decide +kernel))), by decide +kernel⟩
theorem tw_1976 : Jvm.Cond.code ({ cls := "DeepHoleModel", name := "narrowed", desc := "(III)Z" } : Jvm.MethodName) prog_14_method_89_code (4 : Nat) (Option.some Jvm.ClassFile.FieldType.boolean) ∈ TB := List.mem_filter.mpr ⟨(ch_8 (List.mem_of_getElem? (i := 200) (by decide +kernel))), by decide +kernel⟩
theorem tw_1977 : Jvm.Cond.methodLink "DeepHoleLaw" (150 : Nat) ({ cls := "DeepHoleModel", name := "next", desc := "(I)I" } : Jvm.MethodName) ∈ TB := List.mem_filter.mpr ⟨(ch_8 (List.mem_of_getElem? (i := 201) (by decide +kernel))), by decide +kernel⟩
theorem tw_1978 : Jvm.Cond.instanceMethod ({ cls := "DeepHoleModel", name := "next", desc := "(I)I" } : Jvm.MethodName) ∈ TB := List.mem_filter.mpr ⟨(ch_8 (List.mem_of_getElem? (i := 202) (by decide +kernel))), by decide +kernel⟩
theorem tw_1979 : Jvm.Cond.selects "DeepHoleModel" ({ cls := "DeepHoleModel", name := "next", desc := "(I)I" } : Jvm.MethodName) ({ cls := "DeepHoleModel", name := "next", desc := "(I)I" } : Jvm.MethodName) ∈ TB := List.mem_filter.mpr ⟨(ch_8 (List.mem_of_getElem? (i := 203) (by decide +kernel))), by decide +kernel⟩
theorem tw_1980 : Jvm.Cond.code ({ cls := "DeepHoleModel", name := "next", desc := "(I)I" } : Jvm.MethodName) prog_14_method_92_code (4 : Nat) (Option.some Jvm.ClassFile.FieldType.int) ∈ TB := List.mem_filter.mpr ⟨(ch_8 (List.mem_of_getElem? (i := 204) (by decide +kernel))), by decide +kernel⟩
theorem tw_1981 : Jvm.Cond.methodLink "DeepHoleLaw" (156 : Nat) ({ cls := "DeepHoleModel", name := "led", desc := "(I)I" } : Jvm.MethodName) ∈ TB := List.mem_filter.mpr ⟨(ch_8 (List.mem_of_getElem? (i := 205) (by decide +kernel))), by decide +kernel⟩
theorem tw_1982 : Jvm.Cond.instanceMethod ({ cls := "DeepHoleModel", name := "led", desc := "(I)I" } : Jvm.MethodName) ∈ TB := List.mem_filter.mpr ⟨(ch_8 (List.mem_of_getElem? (i := 206) (by decide +kernel))), by decide +kernel⟩
theorem tw_1983 : Jvm.Cond.selects "DeepHoleModel" ({ cls := "DeepHoleModel", name := "led", desc := "(I)I" } : Jvm.MethodName) ({ cls := "DeepHoleModel", name := "led", desc := "(I)I" } : Jvm.MethodName) ∈ TB := List.mem_filter.mpr ⟨(ch_8 (List.mem_of_getElem? (i := 207) (by decide +kernel))), by decide +kernel⟩
theorem tw_1984 : Jvm.Cond.code ({ cls := "DeepHoleModel", name := "led", desc := "(I)I" } : Jvm.MethodName) prog_14_method_93_code (4 : Nat) (Option.some Jvm.ClassFile.FieldType.int) ∈ TB := List.mem_filter.mpr ⟨(ch_8 (List.mem_of_getElem? (i := 208) (by decide +kernel))), by decide +kernel⟩
theorem tw_1985 : Jvm.Cond.methodLink "DeepHoleLaw" (163 : Nat) ({ cls := "DeepHoleModel", name := "trouble", desc := "()I" } : Jvm.MethodName) ∈ TB := List.mem_filter.mpr ⟨(ch_8 (List.mem_of_getElem? (i := 209) (by decide +kernel))), by decide +kernel⟩
theorem tw_1986 : Jvm.Cond.instanceMethod ({ cls := "DeepHoleModel", name := "trouble", desc := "()I" } : Jvm.MethodName) ∈ TB := List.mem_filter.mpr ⟨(ch_8 (List.mem_of_getElem? (i := 210) (by decide +kernel))), by decide +kernel⟩
theorem tw_1987 : Jvm.Cond.selects "DeepHoleModel" ({ cls := "DeepHoleModel", name := "trouble", desc := "()I" } : Jvm.MethodName) ({ cls := "DeepHoleModel", name := "trouble", desc := "()I" } : Jvm.MethodName) ∈ TB := List.mem_filter.mpr ⟨(ch_8 (List.mem_of_getElem? (i := 211) (by decide +kernel))), by decide +kernel⟩
theorem tw_1988 : Jvm.Cond.code ({ cls := "DeepHoleModel", name := "trouble", desc := "()I" } : Jvm.MethodName) prog_14_method_94_code (1 : Nat) (Option.some Jvm.ClassFile.FieldType.int) ∈ TB := List.mem_filter.mpr ⟨(ch_8 (List.mem_of_getElem? (i := 212) (by decide +kernel))), by decide +kernel⟩
end
section
/-! The abstract machine: values, memory, instructions, runs. An object is a number (the order in which it was made); ad tells where it lies. -/
abbrev aV : Type := Int32 ⊕ (Int64 ⊕ Option Nat)
abbrev aM : Type := Nat × Nat × Nat × (Nat → Nat) × (Nat → Nat) × (Nat → Nat → Int32) × (Nat → Nat → Int64) × (Nat → Nat → Option Nat)
abbrev aL : Type := List (Nat × aV)
abbrev aR : Type := (Nat × aL × List aV × aM) ⊕ ((Nat × List aV × List aV) ⊕ Option aV)
abbrev aI : Type := aL → List aV → aM → Option aR
def a_n (M : aM) : Nat := M.1
def a_z (M : aM) : Nat := M.2.1
def a_c (M : aM) : Nat := M.2.2.1
def a_K (M : aM) : Nat → Nat := M.2.2.2.1
def a_N (M : aM) : Nat → Nat := M.2.2.2.2.1
def a_I (M : aM) : Nat → Nat → Int32 := M.2.2.2.2.2.1
def a_J (M : aM) : Nat → Nat → Int64 := M.2.2.2.2.2.2.1
def a_P (M : aM) : Nat → Nat → Option Nat := M.2.2.2.2.2.2.2
/-- more objects, cells, slots -/
def mle (M M' : aM) : Prop := a_n M ≤ a_n M' ∧ a_c M ≤ a_c M' ∧ a_z M ≤ a_z M'
theorem mle_rf {M : aM} : mle M M := ⟨Nat.le_refl _, Nat.le_refl _, Nat.le_refl _⟩
theorem mle_tr {a b c : aM} (h : mle a b) (g : mle b c) : mle a c := ⟨Nat.le_trans h.1 g.1, Nat.le_trans h.2.1 g.2.1, Nat.le_trans h.2.2 g.2.2⟩
def up2 {α : Type} (f : Nat → Nat → α) (a k : Nat) (v : α) : Nat → Nat → α := fun b j => bif Nat.beq b a then (bif Nat.beq j k then v else f b j) else f b j
def up1 {α : Type} (f : Nat → α) (a : Nat) (v : α) : Nat → α := fun b => bif Nat.beq b a then v else f b
def s_I (M : aM) (a k : Nat) (v : Int32) : aM := (M.1, M.2.1, M.2.2.1, M.2.2.2.1, M.2.2.2.2.1, up2 M.2.2.2.2.2.1 a k v, M.2.2.2.2.2.2.1, M.2.2.2.2.2.2.2)
def s_J (M : aM) (a k : Nat) (v : Int64) : aM := (M.1, M.2.1, M.2.2.1, M.2.2.2.1, M.2.2.2.2.1, M.2.2.2.2.2.1, up2 M.2.2.2.2.2.2.1 a k v, M.2.2.2.2.2.2.2)
def s_P (M : aM) (a k : Nat) (v : Option Nat) : aM := (M.1, M.2.1, M.2.2.1, M.2.2.2.1, M.2.2.2.2.1, M.2.2.2.2.2.1, M.2.2.2.2.2.2.1, up2 M.2.2.2.2.2.2.2 a k v)
/-- a new cell of kind c, z slots, length n; all its slots are as a new cell's -/
def a_new (M : aM) (c z n : Nat) : aM := (M.1 + 1, M.2.1 + z, M.2.2.1 + 1, up1 M.2.2.2.1 M.1 c, up1 M.2.2.2.2.1 M.1 n, up1 M.2.2.2.2.2.1 M.1 (fun _ => 0), up1 M.2.2.2.2.2.2.1 M.1 (fun _ => 0), up1 M.2.2.2.2.2.2.2 M.1 (fun _ => none))
abbrev aSB : Nat := 1000000000
theorem nbF {a b : Nat} (h : ¬ a = b) : Nat.beq a b = false := Bool.eq_false_iff.mpr (fun q => h (Nat.eq_of_beq_eq_true q))
theorem nbT {a b : Nat} (h : Nat.beq a b = true) : a = b := Nat.eq_of_beq_eq_true h
theorem up2_eq {α : Type} {f : Nat → Nat → α} {a k : Nat} {v : α} {b j : Nat} : up2 f a k v b j = if b = a ∧ j = k then v else f b j := by
  unfold up2
  by_cases h : b = a
  · subst h
    by_cases g : j = k
    · subst g; simp
    · simp [g, nbF g]
  · simp [h, nbF h]
theorem up1_eq {α : Type} {f : Nat → α} {a : Nat} {v : α} {b : Nat} : up1 f a v b = if b = a then v else f b := by
  unfold up1
  by_cases h : b = a
  · subst h; simp
  · simp [h, nbF h]
theorem up2_row {α : Type} {f : Nat → Nat → α} {a k : Nat} {v : α} {b : Nat} (h : b ≠ a) : up2 f a k v b = f b := funext fun j => by rw [up2_eq, if_neg (fun q => h q.1)]
theorem up2_own {f : Nat → Nat → Int32} {a k : Nat} {v : Int32} : up2 f a k v a = upd (f a) k v := funext fun j => by
  rw [up2_eq]
  unfold upd
  by_cases g : j = k <;> simp [g]
theorem up2_ownV {α : Type} {f : Nat → Nat → α} {a k : Nat} {v : α} : up2 f a k v a = va_up (f a) k v := funext fun j => by
  rw [up2_eq]
  unfold va_up
  by_cases g : j = k <;> simp [g]
/-- how a value stands in the machine -/
def tv (ad : Nat → Nat) (v : aV) : Value := match v with
  | .inl x => .int x
  | .inr (.inl x) => .long x
  | .inr (.inr r) => va_rf (r.map ad)
def tq (ad : Nat → Nat) (q : Nat × aV) : Nat × Value := (q.1, tv ad q.2)
def isL (v : aV) : Bool := match v with
  | .inr (.inl _) => true
  | _ => false
def cat (v : aV) : Nat := bif isL v then 2 else 1
theorem tv_cat (ad : Nat → Nat) (v : aV) : (tv ad v).category = cat v := by
  rcases v with x | x | r
  · rfl
  · rfl
  · rcases r with _ | a <;> rfl
def vok (n : Nat) (v : aV) : Prop := ∀ j : Nat, v = .inr (.inr (some j)) → j < n ∨ aSB ≤ j
def agr (n : Nat) (ad ad' : Nat → Nat) : Prop := ∀ j : Nat, (j < n ∨ aSB ≤ j) → ad' j = ad j
theorem tv_agr {n : Nat} {ad ad' : Nat → Nat} (h : agr n ad ad') {v : aV} (hv : vok n v) : tv ad' v = tv ad v := by
  rcases v with x | x | r
  · rfl
  · rfl
  · rcases r with _ | a
    · rfl
    · show va_rf (some (ad' a)) = va_rf (some (ad a))
      rw [h a (hv a rfl)]
theorem vok_up {n n' : Nat} (h : n ≤ n') {v : aV} (hv : vok n v) : vok n' v := fun j e => (hv j e).elim (fun q => Or.inl (by omega)) Or.inr
theorem agr_tr {n n' : Nat} (h : n ≤ n') {a b c : Nat → Nat} (h1 : agr n a b) (h2 : agr n' b c) : agr n a c := fun j q => (h2 j (q.elim (fun z => Or.inl (by omega)) Or.inr)).trans (h1 j q)
theorem agr_rf {n : Nat} {a : Nat → Nat} : agr n a a := fun _ _ => rfl
/-- what stands in slot k of object i -/
def vlt (ad : Nat → Nat) (M : aM) (i k t : Nat) : Value := match t with
  | 0 => .int (a_I M i k)
  | 1 => .long (a_J M i k)
  | _ => va_rf ((a_P M i k).map ad)
def fsv (ad : Nat → Nat) (M : aM) (i : Nat) : Nat → List Nat → List Value
  | _, [] => []
  | k, t :: ts => vlt ad M i k t :: fsv ad M i (k + 1) ts
abbrev nC : Nat := 14
/-- the arrays' kinds, from nC on -/
def atb : List FieldType := [.byte, .int, .long, .boolean, .object "DeepHole$Bit", .array .int]
def tyK (cy : Nat → ClassId) : List (ClassId × FieldType) := [(cy 14, .byte), (cy 15, .int), (cy 16, .long), (cy 17, .boolean), (cy 18, .object "DeepHole$Bit"), (cy 19, .array .int)]
def wE (cy : Nat → ClassId) (ad : Nat → Nat) (M : aM) (i : Nat) : va_E :=
  if a_K M i < 14 then .inr (a_K M i, fsv ad M i 0 (lyt (a_K M i)))
  else if a_K M i = 16 then .inl (cy 16, a_N M i, .inr (.inl (a_J M i)))
  else if a_K M i < 18 then .inl (cy (a_K M i), a_N M i, .inl (a_I M i))
  else .inl (cy (a_K M i), a_N M i, .inr (.inr (.inr (.inr (fun j => (a_P M i j).map ad)))))
def wl (cy : Nat → ClassId) (ad : Nat → Nat) (M : aM) : va_W := (List.range (a_n M)).map (fun i => (ad i, wE cy ad M i))
def wf (M : aM) : Prop := a_n M < aSB ∧ ∀ i k j : Nat, a_P M i k = some j → j < a_n M ∨ aSB ≤ j
theorem wl_at {cy : Nat → ClassId} {ad : Nat → Nat} {M : aM} {i : Nat} (h : i < a_n M) : (wl cy ad M)[i]? = some (ad i, wE cy ad M i) := by
  unfold wl
  rw [List.getElem?_map, List.getElem?_range h]
  rfl
theorem fsv_len {ad : Nat → Nat} {M : aM} {i : Nat} : ∀ (ts : List Nat) (k : Nat), (fsv ad M i k ts).length = ts.length
  | [], _ => rfl
  | _ :: ts, k => by show (fsv ad M i (k + 1) ts).length + 1 = ts.length + 1; rw [fsv_len ts (k + 1)]
theorem fsv_at {ad : Nat → Nat} {M : aM} {i : Nat} : ∀ (ts : List Nat) (k j t : Nat), ts[j]? = some t → (fsv ad M i k ts)[j]? = some (vlt ad M i (k + j) t)
  | [], _, _, _, h => by simp at h
  | t0 :: ts, k, 0, t, h => by
    simp at h
    subst h
    rfl
  | t0 :: ts, k, j + 1, t, h => by
    show (fsv ad M i (k + 1) ts)[j]? = _
    rw [fsv_at ts (k + 1) j t (by simpa using h)]
    rw [show k + 1 + j = k + (j + 1) by omega]
theorem fsv_cong {ad ad' : Nat → Nat} {M M' : aM} {i : Nat} (h : ∀ k t, vlt ad M i k t = vlt ad' M' i k t) : ∀ (ts : List Nat) (k : Nat), fsv ad M i k ts = fsv ad' M' i k ts
  | [], _ => rfl
  | t :: ts, k => by show _ :: _ = _ :: _; rw [h k t, fsv_cong h ts (k + 1)]
theorem fsv_set {ad : Nat → Nat} {M M' : aM} {i s : Nat} (t : Nat) : ∀ (ts : List Nat) (k : Nat), k ≤ s → ts[s - k]? = some t → (∀ k' t', k' ≠ s → vlt ad M' i k' t' = vlt ad M i k' t') → (fsv ad M i k ts).set (s - k) (vlt ad M' i s t) = fsv ad M' i k ts
  | [], _, _, h, _ => by simp at h
  | t0 :: ts, k, hk, h, hc => by
    by_cases e : s = k
    · subst e
      rw [Nat.sub_self] at h ⊢
      simp at h
      subst h
      show _ :: _ = _ :: _
      congr 1
      have : ∀ (ts : List Nat) (k : Nat), s < k → fsv ad M i k ts = fsv ad M' i k ts := by
        intro ts
        induction ts with
        | nil => intro k _; rfl
        | cons t1 ts ih => intro k hk; show _ :: _ = _ :: _; rw [hc k t1 (by omega), ih (k + 1) (by omega)]
      exact this ts (s + 1) (by omega)
    · obtain ⟨d, hd⟩ : ∃ d, s - k = d + 1 := ⟨s - k - 1, by omega⟩
      have hd2 : s - (k + 1) = d := by omega
      rw [hd] at h ⊢
      show _ :: _ = _ :: _
      rw [hc k t0 (by omega)]
      congr 1
      rw [← hd2]
      exact fsv_set t ts (k + 1) (by omega) (by rw [hd2]; simpa using h) hc
/-- rows that are alike give the same entry -/
theorem wE_cong {cy : Nat → ClassId} {ad ad' : Nat → Nat} {M M' : aM} {i : Nat} (hK : a_K M' i = a_K M i) (hN : a_N M' i = a_N M i) (hI : a_I M' i = a_I M i) (hJ : a_J M' i = a_J M i) (hP : ∀ j, (a_P M' i j).map ad' = (a_P M i j).map ad) : wE cy ad' M' i = wE cy ad M i := by
  unfold wE
  rw [hK, hN, hI, hJ]
  have hf : fsv ad' M' i 0 (lyt (a_K M i)) = fsv ad M i 0 (lyt (a_K M i)) := fsv_cong (fun k t => by
    unfold vlt
    rw [hI, hJ, hP k]) _ _
  rw [hf, show (fun j => (a_P M' i j).map ad') = (fun j => (a_P M i j).map ad) from funext hP]
/-- one entry changes -/
theorem wl_set {cy : Nat → ClassId} {ad : Nat → Nat} {M M' : aM} {i : Nat} (hn : a_n M' = a_n M) (hi : i < a_n M) (ho : ∀ b, b ≠ i → wE cy ad M' b = wE cy ad M b) : (wl cy ad M).set i (ad i, wE cy ad M' i) = wl cy ad M' := by
  apply List.ext_getElem?
  intro k
  rw [List.getElem?_set]
  unfold wl
  rw [hn]
  by_cases e : i = k
  · subst e
    simp [hi]
  · rw [if_neg e, List.getElem?_map, List.getElem?_map]
    cases hk : (List.range (a_n M))[k]? with
    | none => rfl
    | some x =>
      have : x = k := by
        obtain ⟨h1, h2⟩ := List.getElem?_eq_some_iff.mp hk
        rw [List.getElem_range] at h2
        exact h2.symm
      subst this
      simp [ho x (fun q => e q.symm)]
/-- one entry comes -/
theorem wl_push {cy : Nat → ClassId} {ad ad' : Nat → Nat} {M M' : aM} (hn : a_n M' = a_n M + 1) (ha : ∀ i, i < a_n M → ad' i = ad i) (ho : ∀ b, b < a_n M → wE cy ad' M' b = wE cy ad M b) : wl cy ad M ++ [(ad' (a_n M), wE cy ad' M' (a_n M))] = wl cy ad' M' := by
  unfold wl
  rw [hn, List.range_succ, List.map_append]
  congr 1
  apply List.map_congr_left
  intro i hi
  have := List.mem_range.mp hi
  rw [ha i this, ho i this]
end
section
/-! What it means that an instruction of the abstract machine is the machine's own. -/
/-- the script: how long, and what is in it -/
abbrev aSc : Type := Nat × (Nat → Int32)
abbrev aXS : Nat := aSB + 900000
abbrev aF : Type := MethodName × ByteArray × Nat × Option FieldType
def aStr (ad : Nat → Nat) (U : State) : Prop := ∀ q ∈ strT, vk_R q.1 q.2.1 q.2.2.1 (ad (aSB + q.2.2.2)) U
abbrev aNSE : String := "java/util/NoSuchElementException"
/-- what else a state says of the tables -/
def aNst (U : State) : Prop := (∀ w ∈ NW, w.before #[] U = true) ∧ va_AO "DeepHole$Bit" U ∧ va_AOA .int U ∧ va_Nw (.castable aNSE aNSE) U
def aE (ad : Nat → Nat) (U : State) : Prop := aStr ad U ∧ aNst U
theorem nest_warm {w : Cond} (hw : isNest w = true) {s U : State} (hW : s.WarmedH U.vm) (h : w.before #[] s = true) : w.before #[] U = true := by
  cases w
  all_goals first | exact va_Nw.warmF hW h | exact va_Nw.warmM hW h | exact Bool.noConfusion hw
theorem nest_same {w : Cond} (hw : isNest w = true) {s U : State} (hv : s.vm = U.vm) (h : w.before #[] s = true) : w.before #[] U = true := by
  cases w
  all_goals first | exact Bool.noConfusion hw | exact va_Nw.same rfl hv h
theorem nest_use {w : Cond} (hw : isNest w = true) {s : State} {A : Array Value} (h : w.before #[] s = true) : w.before A s = true := by
  cases w
  all_goals first | exact Bool.noConfusion hw | exact va_Nw.use rfl h
theorem aNst.nest {s : State} (h : aNst s) {w : Cond} (hw : w ∈ NW) {A : Array Value} : w.before A s = true := nest_use (List.mem_filter.mp hw).2 (h.1 w hw)
theorem va_AOA.moved {t : FieldType} {u U : State} (hvm : u.vm.Alike U.vm) (h : va_AOA t u) : va_AOA t U := by
  obtain ⟨comp, c, k, h1, h2, h3, h4, h5⟩ := arrayOverA_spec h
  obtain ⟨k', hk', he⟩ := hvm.2.2 _ _ h3
  have e2 : (U.vm.classes.findIdx? fun (x : Class) => match x.kind with | .array component _ => component == comp | _ => false) = some c := by
    have b1 := va_idx_bare U.vm comp
    have b2 := va_idx_bare u.vm comp
    have b3 : U.vm.bare = u.vm.bare := by first | exact hvm.bare_eq | exact hvm.bare_eq.symm
    rw [b3] at b1
    exact b1.symm.trans (b2.trans h2)
  have e4 : k'.kind = .array comp (.array t) := by rw [he]; exact h4
  have e1 : U.vm.findClass (FieldType.array t).toString = some comp := by rw [hvm.findClass]; exact h1
  have e5 : U.vm.findClass ("[" ++ (FieldType.array t).toString) = some c := by rw [hvm.findClass]; exact h5
  unfold va_AOA Cond.before Cond.holds
  simp only [Cond.value]
  rw [e1, Option.bind_some]
  refine (congrArg (fun o : Option Nat => (o.bind (fun c => (U.vm.classes[c]?).map fun (k : Class) => match k.kind with | .array _ ty => decide (ty = FieldType.array t) && decide (U.vm.findClass ("[" ++ (FieldType.array t).toString) = some c) | _ => false) == some true)) e2).trans ?_
  simp [hk', e4, e5]
theorem aE.warm {ad : Nat → Nat} {s U : State} (hW : s.WarmedH U.vm) (h : aE ad s) : aE ad U :=
  ⟨fun q hq => (h.1 q hq).warm hW, fun w hw => nest_warm (List.mem_filter.mp hw).2 hW (h.2.1 w hw), h.2.2.1.moved hW.alike, h.2.2.2.1.moved hW.alike, va_Nw.warmC hW h.2.2.2.2⟩
theorem aE.same {ad : Nat → Nat} {s U : State} (hv : s.vm = U.vm) (h : aE ad s) : aE ad U :=
  ⟨fun q hq => (h.1 q hq).same hv.symm, fun w hw => nest_same (List.mem_filter.mp hw).2 hv (h.2.1 w hw), h.2.2.1.moved (by rw [hv]; exact Vm.Alike.refl _), h.2.2.2.1.moved (by rw [hv]; exact Vm.Alike.refl _), va_Nw.same rfl hv h.2.2.2.2⟩
theorem aE.agr {n : Nat} {ad ad' : Nat → Nat} {s : State} (ha : agr n ad ad') (h : aE ad s) : aE ad' s := ⟨fun q hq => by rw [ha _ (Or.inr (Nat.le_add_right _ _))]; exact h.1 q hq, h.2⟩
/-- a text's bytes -/
def sby (tx : String) (j : Nat) : Int32 := nI ((tx.toList.getD j ' ').toNat)
/-- the texts as they lie -/
def aTx (ad : Nat → Nat) (A : Nat → Prop) (U : State) (H : Heap) : Prop := ∀ q ∈ strT, ∃ v : Nat, va_O "java/lang/String" (ad (aSB + q.2.2.2)) A U H ∧ va_OF "java/lang/String" "coder" "B" (.int 0) (ad (aSB + q.2.2.2)) A U H ∧ va_OF "java/lang/String" "value" "[B" (.ref v) (ad (aSB + q.2.2.2)) A U H ∧ va_T .byte v q.2.2.1.length (fun j => .int (sby q.2.2.1 j)) A U H
/-- the statics that a throw reads, and the texts -/
def aZ (ad : Nat → Nat) (A : Nat → Prop) (U : State) (H : Heap) : Prop := (vx_Zq Bundle.tN "UNASSIGNED_STACK" Bundle.steD A U H ∧ vx_Zq Bundle.tN "SUPPRESSED_SENTINEL" Bundle.listD A U H) ∧ aTx ad A U H
theorem aZ.moved {ad : Nat → Nat} {A : Nat → Prop} {u U : State} {H : Heap} (hvm : u.vm.Alike U.vm) (h : aZ ad A u H) : aZ ad A U H := ⟨⟨h.1.1.moved hvm, h.1.2.moved hvm⟩, fun q hq => by
  obtain ⟨v, h1, h2, h3, h4⟩ := h.2 q hq
  exact ⟨v, h1.moved hvm, h2.moved hvm, h3.moved hvm, h4.moved hvm⟩⟩
theorem aZ.kept {ad : Nat → Nat} {A : Nat → Prop} {U : State} {H H1 : Heap} (h : aZ ad A U H) (hq : ∀ a : Nat, a < H.size → ¬ A a → H1[a]? = H[a]?) : aZ ad A U H1 := ⟨⟨h.1.1.kept hq, h.1.2.kept hq⟩, fun q hq9 => by
  obtain ⟨v, h1, h2, h3, h4⟩ := h.2 q hq9
  exact ⟨v, h1.kept hq, h2.kept hq, h3.kept hq, h4.kept hq⟩⟩
theorem aZ.narrow {ad : Nat → Nat} {A B : Nat → Prop} {U : State} {H : Heap} (h : aZ ad A U H) (hAB : ∀ q, B q → A q) : aZ ad B U H := ⟨⟨h.1.1.narrow hAB, h.1.2.narrow hAB⟩, fun q hq9 => by
  obtain ⟨v, h1, h2, h3, h4⟩ := h.2 q hq9
  exact ⟨v, h1.narrow hAB, h2.narrow hAB, h3.narrow hAB, h4.narrow hAB⟩⟩
theorem aZ.agr {n : Nat} {ad ad' : Nat → Nat} {A : Nat → Prop} {U : State} {H : Heap} (ha : agr n ad ad') (h : aZ ad A U H) : aZ ad' A U H := ⟨h.1, fun q hq => by
  rw [ha _ (Or.inr (Nat.le_add_right _ _))]
  exact h.2 q hq⟩
def aA (cy : Nat → ClassId) (ad0 : Nat → Nat) (M0 : aM) (s : State) : Nat → Prop := va_A (wl cy ad0 M0) s.heap.size
def aX (sc : aSc) (l : Launch) (F : aF) (p : Program) (R : Room) (s : State) (m : MethodId) (args : Array Value) (meth : Method) (c : Code) (D : va_G) (cy : Nat → ClassId) (ad0 : Nat → Nat) (M0 : aM) : Prop :=
  CallFix p m c F.2.1 F.2.2.1 s args TB F.1.cls ∧ meth.sig.returnType = F.2.2.2 ∧ meth.locks = false ∧ (F.1.name = "<init>" → meth.name = "<init>") ∧ va_K D vwCl (tyK cy) s ∧ aE ad0 s ∧ 1 ≤ R.frames ∧ 20 ≤ R.locals ∧ aZ ad0 (aA cy ad0 M0 s) s s.heap ∧ (F.1 = yL_law → va_X (ad0 aXS) sc.1 sc.2 s s.heap ∧ ad0 aXS < s.heap.size ∧ ¬ aA cy ad0 M0 s (ad0 aXS) ∧ l.stackTraces = false ∧ 100 ≤ R.frames ∧ 8000 ≤ R.locals)
def aW (D : va_G) (cy : Nat → ClassId) (A : Nat → Prop) (s : State) (nL : Nat) (lo : aL) (st : List aV) (M : aM) (ad : Nat → Nat) (H : Heap) (locs : List Loc) (ls : Array Slot) : Prop :=
  va_P D vwCl (wl cy ad M) H ∧ va_D A (wl cy ad M) ∧ va_S A s.heap H locs ∧ wf M ∧ lv_has ls nL (lo.map (tq ad)) ∧ (∀ q ∈ lo, vok (a_n M) q.2) ∧ (∀ v ∈ st, vok (a_n M) v)
def aG (F : aF) (p : Program) (l : Launch) (e : Env) (R : Room) (s : State) (m : MethodId) (args : Array Value) (below : List Frame) (meth : Method) (c : Code) (D : va_G) (cy : Nat → ClassId) (ad0 : Nat → Nat) (M0 : aM) (Q : State → Prop) (pc : Nat) (lo : aL) (st : List aV) (M : aM) : Prop :=
  ∀ (ad : Nat → Nat) (H : Heap) (locs : List Loc) (ls : Array Slot), agr (a_n M0) ad0 ad → aW D cy (aA cy ad0 M0 s) s F.2.2.1 lo st M ad H locs ls → W p l e R s m args below meth c H locs (a_c M - a_c M0) (a_z M - a_z M0) Q (F0 m pc ls (st.map (tv ad)))
def aN (sc : aSc) (F : aF) (pc : Nat) (lo : aL) (st : List aV) (M : aM) (pc' : Nat) (lo' : aL) (st' : List aV) (M' : aM) : Prop :=
  mle M M' ∧ ∀ (p : Program) (l : Launch) (e : Env) (R : Room) (s : State) (m : MethodId) (args : Array Value) (below : List Frame) (meth : Method) (c : Code) (D : va_G) (cy : Nat → ClassId) (ad0 : Nat → Nat) (M0 : aM) (Q : State → Prop),
    aX sc l F p R s m args meth c D cy ad0 M0 → mle M0 M → a_c M' - a_c M0 ≤ R.cells → a_z M' - a_z M0 ≤ R.slots →
    aG F p l e R s m args below meth c D cy ad0 M0 Q pc' lo' st' M' → aG F p l e R s m args below meth c D cy ad0 M0 Q pc lo st M
def aPre (D : va_G) (cy : Nat → ClassId) (ad : Nat → Nat) (M : aM) (sz : Nat) (U : State) : Prop := U.heap.size = sz ∧ va_P D vwCl (wl cy ad M) U.heap ∧ va_K D vwCl (tyK cy) U ∧ va_D (fun _ => True) (wl cy ad M) ∧ aE ad U ∧ aZ ad (va_A (wl cy ad M) sz) U U.heap
def aPost (D : va_G) (cy : Nat → ClassId) (ad : Nat → Nat) (M : aM) (sz : Nat) (r : Option aV) (M' : aM) : Array Value → State → Outcome → State → Prop := fun _ st oc t =>
  (∃ ad' : Nat → Nat, agr (a_n M) ad ad' ∧ oc = .returned (r.map (tv ad')) ∧ va_P D vwCl (wl cy ad' M') t.heap ∧ va_D (va_A (wl cy ad M) sz) (wl cy ad' M') ∧ wf M' ∧ ∀ v, r = some v → vok (a_n M') v) ∧ va_F (va_A (wl cy ad M) sz) st t
def aMet (l : Launch) (G : aF) (d : Nat) (D : va_G) (cy : Nat → ClassId) (M : aM) (As : List aV) (r : Option aV) (M' : aM) : Prop :=
  ∀ (ad : Nat → Nat) (sz : Nat), wf M → (∀ v ∈ As, vok (a_n M) v) → Met l G.1 (.code G.1 G.2.1 G.2.2.1 G.2.2.2 :: TB) { frames := d + 1, cells := a_c M' - a_c M, slots := a_z M' - a_z M, locals := 60 * d + 20 }
    (va_Pc (As.map (tv ad)) (aPre D cy ad M sz)) (aPost D cy ad M sz r M') (a_c M' - a_c M) (a_z M' - a_z M) (va_A (wl cy ad M) sz)
def csum : List aV → Nat
  | [] => 0
  | v :: t => cat v + csum t
def psh (r : Option aV) (rest : List aV) : List aV := match r with
  | none => rest
  | some v => v :: rest
def aC (sc : aSc) (F G : aF) (pc : Nat) (lo : aL) (st : List aV) (M : aM) (As rest : List aV) : Prop :=
  ∀ (p : Program) (l : Launch) (e : Env) (R : Room) (s : State) (m : MethodId) (args : Array Value) (below : List Frame) (meth : Method) (c : Code) (D : va_G) (cy : Nat → ClassId) (ad0 : Nat → Nat) (M0 : aM) (Q : State → Prop) (d : Nat) (r : Option aV) (M' : aM),
    aX sc l F p R s m args meth c D cy ad0 M0 → mle M0 M → mle M M' → a_c M' - a_c M0 ≤ R.cells → a_z M' - a_z M0 ≤ R.slots → d + 2 ≤ R.frames → 60 * (d + 1) + 20 ≤ R.locals →
    aMet l G d D cy M As r M' → aG F p l e R s m args below meth c D cy ad0 M0 Q (pc + 3) lo (psh r rest) M' → aG F p l e R s m args below meth c D cy ad0 M0 Q pc lo st M
def aT (sc : aSc) (F : aF) (pc : Nat) (lo : aL) (st : List aV) (M : aM) (r : Option aV) : Prop :=
  ∀ (p : Program) (l : Launch) (e : Env) (R : Room) (s : State) (m : MethodId) (args : Array Value) (below : List Frame) (meth : Method) (c : Code) (D : va_G) (cy : Nat → ClassId) (ad0 : Nat → Nat) (M0 : aM),
    aX sc l F p R s m args meth c D cy ad0 M0 → aG F p l e R s m args below meth c D cy ad0 M0 (MQ below (aPost D cy ad0 M0 s.heap.size r M) args s (a_c M - a_c M0) (a_z M - a_z M0) (aA cy ad0 M0 s)) pc lo st M
def aS (sc : aSc) (cI : Nat → aF) (F : aF) (pc : Nat) (f : aI) : Prop := ∀ (lo : aL) (st : List aV) (M : aM),
  (∀ pc' lo' st' M', f lo st M = some (.inl (pc', lo', st', M')) → aN sc F pc lo st M pc' lo' st' M') ∧
  (∀ y As rest, f lo st M = some (.inr (.inl (y, As, rest))) → csum As ≤ (cI y).2.2.1 ∧ (cI y).1 ≠ yL_law ∧ aC sc F (cI y) pc lo st M As rest) ∧
  (∀ r, f lo st M = some (.inr (.inr r)) → aT sc F pc lo st M r)
/-- a step that touches the stack alone -/
def aH (F : aF) (pc : Nat) (lo : aL) (st : List aV) (pc' : Nat) (st' : List aV) : Prop :=
  ∀ (p : Program) (l : Launch) (e : Env) (R : Room) (s : State) (m : MethodId) (args : Array Value) (below : List Frame) (meth : Method) (c : Code) (H : Heap) (locs : List Loc) (cells slots : Nat) (Q : State → Prop) (ls : Array Slot) (ad : Nat → Nat),
    CallFix p m c F.2.1 F.2.2.1 s args TB F.1.cls → lv_has ls F.2.2.1 (lo.map (tq ad)) → W p l e R s m args below meth c H locs cells slots Q (F0 m pc' ls (st'.map (tv ad))) → W p l e R s m args below meth c H locs cells slots Q (F0 m pc ls (st.map (tv ad)))
theorem aN_st {sc : aSc} {F : aF} {pc : Nat} {lo : aL} {st : List aV} {M : aM} {pc' : Nat} {st' : List aV} (hv : (∀ q ∈ lo, vok (a_n M) q.2) → (∀ v ∈ st, vok (a_n M) v) → wf M → ∀ v ∈ st', vok (a_n M) v) (h : aH F pc lo st pc' st') : aN sc F pc lo st M pc' lo st' M := by
  refine ⟨mle_rf, ?_⟩
  intro p l e R s m args below meth c D cy ad0 M0 Q hX hn hc hs hG ad H locs ls ha hW
  obtain ⟨hP, hD, hS, hwf, hl, hvl, hvs⟩ := hW
  exact h p l e R s m args below meth c H locs _ _ Q ls ad hX.1 hl (hG ad H locs ls ha ⟨hP, hD, hS, hwf, hl, hvl, hv hvl hvs hwf⟩)
/-- an instruction that only goes on -/
theorem aS_n {sc : aSc} {cI : Nat → aF} {F : aF} {pc : Nat} {f : aI} (h : ∀ lo st M x, f lo st M = some x → ∃ pc' lo' st' M', x = .inl (pc', lo', st', M') ∧ aN sc F pc lo st M pc' lo' st' M') : aS sc cI F pc f := by
  intro lo st M
  refine ⟨fun pc' lo' st' M' e => ?_, fun y As rest e => ?_, fun r e => ?_⟩
  · obtain ⟨a, b, c, d, e1, e2⟩ := h lo st M _ e
    cases e1
    exact e2
  · obtain ⟨a, b, c, d, e1, e2⟩ := h lo st M _ e
    cases e1
  · obtain ⟨a, b, c, d, e1, e2⟩ := h lo st M _ e
    cases e1
theorem vok_i {n : Nat} {x : Int32} : vok n (.inl x) := fun j h => by cases h
theorem vok_j {n : Nat} {x : Int64} : vok n (.inr (.inl x)) := fun j h => by cases h
theorem vok_0 {n : Nat} : vok n (.inr (.inr none)) := fun j h => by cases h
def lk (i : Nat) : aL → Option aV
  | [] => none
  | q :: t => bif Nat.beq q.1 i then some q.2 else lk i t
theorem lk_mem {i : Nat} {v : aV} : ∀ {lo : aL}, lk i lo = some v → (i, v) ∈ lo
  | [], h => by simp [lk] at h
  | (k, w) :: t, h => by
    unfold lk at h
    by_cases e : k = i
    · subst e
      simp at h
      subst h
      exact List.mem_cons_self
    · rw [nbF e] at h
      exact List.mem_cons_of_mem _ (lk_mem h)
theorem lk_at {ad : Nat → Nat} {ls : Array Slot} {nL i : Nat} {v : aV} {lo : aL} (h : lk i lo = some v) (hl : lv_has ls nL (lo.map (tq ad))) : ls[i]? = some (.val (tv ad v)) := hl.2.2 (i, tv ad v) (List.mem_map.mpr ⟨(i, v), lk_mem h, rfl⟩)
def j_c (pc' : Nat) (x : Int32) : aI := fun lo st M => some (.inl (pc', lo, .inl x :: st, M))
theorem S_iconst {sc : aSc} {cI : Nat → aF} {F : aF} {pc : Nat} {n : Int} {x : Int32} (hv : Int32.ofInt n = x) (hd : decode F.2.1 pc = .ok (.iconst n, 1)) : aS sc cI F pc (j_c (pc + 1) x) := aS_n fun lo st M r e => by
  cases e
  exact ⟨_, _, _, _, rfl, aN_st (fun _ h _ v hv => (List.mem_cons.mp hv).elim (fun q => q ▸ vok_i) (h v)) (fun p l e R s m args below meth c H locs cells slots Q ls ad C hl k => lv_iconst C.1 C.2.1 hd hv k)⟩
theorem S_bipush {sc : aSc} {cI : Nat → aF} {F : aF} {pc : Nat} {n : Int} {x : Int32} (hv : (Int8.ofInt n).toInt32 = x) (hd : decode F.2.1 pc = .ok (.bipush n, 2)) : aS sc cI F pc (j_c (pc + 2) x) := aS_n fun lo st M r e => by
  cases e
  exact ⟨_, _, _, _, rfl, aN_st (fun _ h _ v hv => (List.mem_cons.mp hv).elim (fun q => q ▸ vok_i) (h v)) (fun p l e R s m args below meth c H locs cells slots Q ls ad C hl k => lv_bipush C.1 C.2.1 hd hv k)⟩
theorem S_sipush {sc : aSc} {cI : Nat → aF} {F : aF} {pc : Nat} {n : Int} {x : Int32} (hv : (Int16.ofInt n).toInt32 = x) (hd : decode F.2.1 pc = .ok (.sipush n, 3)) : aS sc cI F pc (j_c (pc + 3) x) := aS_n fun lo st M r e => by
  cases e
  exact ⟨_, _, _, _, rfl, aN_st (fun _ h _ v hv => (List.mem_cons.mp hv).elim (fun q => q ▸ vok_i) (h v)) (fun p l e R s m args below meth c H locs cells slots Q ls ad C hl k => lv_sipush C.1 C.2.1 hd hv k)⟩
def j_iload (pc' i : Nat) : aI := fun lo st M => match lk i lo with
  | some (.inl x) => some (.inl (pc', lo, .inl x :: st, M))
  | _ => none
def j_aload (pc' i : Nat) : aI := fun lo st M => match lk i lo with
  | some (.inr (.inr (some a))) => some (.inl (pc', lo, .inr (.inr (some a)) :: st, M))
  | _ => none
theorem S_iload_n {sc : aSc} {cI : Nat → aF} {F : aF} {pc i : Nat} {k : Fin 4} (hi : (k : Nat) = i) (hd : decode F.2.1 pc = .ok (.iload_n k, 1)) : aS sc cI F pc (j_iload (pc + 1) i) := aS_n fun lo st M r e => by
  unfold j_iload at e
  split at e
  · rename_i x hx
    cases e
    exact ⟨_, _, _, _, rfl, aN_st (fun _ h _ v hv => (List.mem_cons.mp hv).elim (fun q => q ▸ vok_i) (h v)) (fun p l e R s m args below meth c H locs cells slots Q ls ad C hl k => lv_iload_n C.1 C.2.1 hd hi (lk_at hx hl) k)⟩
  · cases e
theorem S_iload {sc : aSc} {cI : Nat → aF} {F : aF} {pc i : Nat} (hd : decode F.2.1 pc = .ok (.iload i, 2)) : aS sc cI F pc (j_iload (pc + 2) i) := aS_n fun lo st M r e => by
  unfold j_iload at e
  split at e
  · rename_i x hx
    cases e
    exact ⟨_, _, _, _, rfl, aN_st (fun _ h _ v hv => (List.mem_cons.mp hv).elim (fun q => q ▸ vok_i) (h v)) (fun p l e R s m args below meth c H locs cells slots Q ls ad C hl k => lv_iload C.1 C.2.1 hd (lk_at hx hl) k)⟩
  · cases e
theorem S_aload_n {sc : aSc} {cI : Nat → aF} {F : aF} {pc i : Nat} {k : Fin 4} (hi : (k : Nat) = i) (hd : decode F.2.1 pc = .ok (.aload_n k, 1)) : aS sc cI F pc (j_aload (pc + 1) i) := aS_n fun lo st M r e => by
  unfold j_aload at e
  split at e
  · rename_i x hx
    cases e
    exact ⟨_, _, _, _, rfl, aN_st (fun g h _ v hv => (List.mem_cons.mp hv).elim (fun q => q ▸ g _ (lk_mem hx)) (h v)) (fun p l e R s m args below meth c H locs cells slots Q ls ad C hl k => lv_aload_n C.1 C.2.1 hd hi (lk_at hx hl) k)⟩
  · cases e
theorem S_aload {sc : aSc} {cI : Nat → aF} {F : aF} {pc i : Nat} (hd : decode F.2.1 pc = .ok (.aload i, 2)) : aS sc cI F pc (j_aload (pc + 2) i) := aS_n fun lo st M r e => by
  unfold j_aload at e
  split at e
  · rename_i x hx
    cases e
    exact ⟨_, _, _, _, rfl, aN_st (fun g h _ v hv => (List.mem_cons.mp hv).elim (fun q => q ▸ g _ (lk_mem hx)) (h v)) (fun p l e R s m args below meth c H locs cells slots Q ls ad C hl k => lv_aload C.1 C.2.1 hd (lk_at hx hl) k)⟩
  · cases e
end
section
/-! Instructions on the stack and the locals. -/
theorem vok_c {n : Nat} {st : List aV} {w : aV} (hw : vok n w) (h : ∀ v ∈ st, vok n v) : ∀ v ∈ w :: st, vok n v := fun v hv => (List.mem_cons.mp hv).elim (fun q => q ▸ hw) (h v)
theorem vok_t {n : Nat} {st : List aV} {w : aV} (h : ∀ v ∈ w :: st, vok n v) : ∀ v ∈ st, vok n v := fun v hv => h v (List.mem_cons_of_mem _ hv)
def j_bin (pc' : Nat) (g : Int32 → Int32 → Int32) : aI := fun lo st M => match st with
  | .inl y :: .inl x :: t => some (.inl (pc', lo, .inl (g x y) :: t, M))
  | _ => none
def j_div (pc' : Nat) (g : Int32 → Int32 → Int32) : aI := fun lo st M => match st with
  | .inl y :: .inl x :: t => if y = 0 then none else some (.inl (pc', lo, .inl (g x y) :: t, M))
  | _ => none
def j_un (pc' : Nat) (g : Int32 → Int32) : aI := fun lo st M => match st with
  | .inl x :: t => some (.inl (pc', lo, .inl (g x) :: t, M))
  | _ => none
def aB (F : aF) (pc : Nat) (pre : List aV → List aV → Prop) (pc' : Nat) : Prop := ∀ (st st' : List aV) (lo : aL), pre st st' → aH F pc lo st pc' st'
theorem S_bin {sc : aSc} {cI : Nat → aF} {F : aF} {pc pc' : Nat} {g : Int32 → Int32 → Int32} (h : ∀ (x y : Int32) (t : List aV) (lo : aL), aH F pc lo (.inl y :: .inl x :: t) pc' (.inl (g x y) :: t)) : aS sc cI F pc (j_bin pc' g) := aS_n fun lo st M r e => by
  unfold j_bin at e
  split at e
  · cases e
    exact ⟨_, _, _, _, rfl, aN_st (fun _ q _ => vok_c vok_i (vok_t (vok_t q))) (h _ _ _ lo)⟩
  · cases e
theorem S_div {sc : aSc} {cI : Nat → aF} {F : aF} {pc pc' : Nat} {g : Int32 → Int32 → Int32} (h : ∀ (x y : Int32) (t : List aV) (lo : aL), ¬ y = 0 → aH F pc lo (.inl y :: .inl x :: t) pc' (.inl (g x y) :: t)) : aS sc cI F pc (j_div pc' g) := aS_n fun lo st M r e => by
  unfold j_div at e
  split at e
  · split at e
    · cases e
    · rename_i hne
      cases e
      exact ⟨_, _, _, _, rfl, aN_st (fun _ q _ => vok_c vok_i (vok_t (vok_t q))) (h _ _ _ lo hne)⟩
  · cases e
theorem S_un {sc : aSc} {cI : Nat → aF} {F : aF} {pc pc' : Nat} {g : Int32 → Int32} (h : ∀ (x : Int32) (t : List aV) (lo : aL), aH F pc lo (.inl x :: t) pc' (.inl (g x) :: t)) : aS sc cI F pc (j_un pc' g) := aS_n fun lo st M r e => by
  unfold j_un at e
  split at e
  · cases e
    exact ⟨_, _, _, _, rfl, aN_st (fun _ q _ => vok_c vok_i (vok_t q)) (h _ _ lo)⟩
  · cases e
theorem S_iadd {sc : aSc} {cI : Nat → aF} {F : aF} {pc : Nat} (hd : decode F.2.1 pc = .ok (.iadd, 1)) : aS sc cI F pc (j_bin (pc + 1) (fun x y => x + y)) := S_bin fun x y t lo p l e R s m args below meth c H locs cells slots Q ls ad C hl k => lv_iadd C.1 C.2.1 hd k
theorem S_isub {sc : aSc} {cI : Nat → aF} {F : aF} {pc : Nat} (hd : decode F.2.1 pc = .ok (.isub, 1)) : aS sc cI F pc (j_bin (pc + 1) (fun x y => x - y)) := S_bin fun x y t lo p l e R s m args below meth c H locs cells slots Q ls ad C hl k => lv_isub C.1 C.2.1 hd k
theorem S_imul {sc : aSc} {cI : Nat → aF} {F : aF} {pc : Nat} (hd : decode F.2.1 pc = .ok (.imul, 1)) : aS sc cI F pc (j_bin (pc + 1) (fun x y => x * y)) := S_bin fun x y t lo p l e R s m args below meth c H locs cells slots Q ls ad C hl k => lv_imul C.1 C.2.1 hd k
theorem S_iand {sc : aSc} {cI : Nat → aF} {F : aF} {pc : Nat} (hd : decode F.2.1 pc = .ok (.iand, 1)) : aS sc cI F pc (j_bin (pc + 1) (fun x y => x &&& y)) := S_bin fun x y t lo p l e R s m args below meth c H locs cells slots Q ls ad C hl k => lv_iand C.1 C.2.1 hd k
theorem S_ior {sc : aSc} {cI : Nat → aF} {F : aF} {pc : Nat} (hd : decode F.2.1 pc = .ok (.ior, 1)) : aS sc cI F pc (j_bin (pc + 1) (fun x y => x ||| y)) := S_bin fun x y t lo p l e R s m args below meth c H locs cells slots Q ls ad C hl k => lv_ior C.1 C.2.1 hd k
theorem S_ixor {sc : aSc} {cI : Nat → aF} {F : aF} {pc : Nat} (hd : decode F.2.1 pc = .ok (.ixor, 1)) : aS sc cI F pc (j_bin (pc + 1) (fun x y => x ^^^ y)) := S_bin fun x y t lo p l e R s m args below meth c H locs cells slots Q ls ad C hl k => lv_ixor C.1 C.2.1 hd k
theorem S_ishl {sc : aSc} {cI : Nat → aF} {F : aF} {pc : Nat} (hd : decode F.2.1 pc = .ok (.ishl, 1)) : aS sc cI F pc (j_bin (pc + 1) (fun x y => x <<< (y &&& 31))) := S_bin fun x y t lo p l e R s m args below meth c H locs cells slots Q ls ad C hl k => lv_ishl C.1 C.2.1 hd k
theorem S_ishr {sc : aSc} {cI : Nat → aF} {F : aF} {pc : Nat} (hd : decode F.2.1 pc = .ok (.ishr, 1)) : aS sc cI F pc (j_bin (pc + 1) (fun x y => x >>> (y &&& 31))) := S_bin fun x y t lo p l e R s m args below meth c H locs cells slots Q ls ad C hl k => lv_ishr C.1 C.2.1 hd k
theorem S_iushr {sc : aSc} {cI : Nat → aF} {F : aF} {pc : Nat} (hd : decode F.2.1 pc = .ok (.iushr, 1)) : aS sc cI F pc (j_bin (pc + 1) (fun x y => (x.toUInt32 >>> (y.toUInt32 &&& Int32.toUInt32 31)).toInt32)) := S_bin fun x y t lo p l e R s m args below meth c H locs cells slots Q ls ad C hl k => lv_iushr C.1 C.2.1 hd rfl k
theorem S_idiv {sc : aSc} {cI : Nat → aF} {F : aF} {pc : Nat} (hd : decode F.2.1 pc = .ok (.idiv, 1)) : aS sc cI F pc (j_div (pc + 1) (fun x y => x / y)) := S_div fun x y t lo hne p l e R s m args below meth c H locs cells slots Q ls ad C hl k => lv_idiv C.1 C.2.1 hd hne k
theorem S_irem {sc : aSc} {cI : Nat → aF} {F : aF} {pc : Nat} (hd : decode F.2.1 pc = .ok (.irem, 1)) : aS sc cI F pc (j_div (pc + 1) (fun x y => x - x / y * y)) := S_div fun x y t lo hne p l e R s m args below meth c H locs cells slots Q ls ad C hl k => lv_irem C.1 C.2.1 hd hne k
theorem S_ineg {sc : aSc} {cI : Nat → aF} {F : aF} {pc : Nat} (hd : decode F.2.1 pc = .ok (.ineg, 1)) : aS sc cI F pc (j_un (pc + 1) (fun x => -x)) := S_un fun x t lo p l e R s m args below meth c H locs cells slots Q ls ad C hl k => lv_ineg C.1 C.2.1 hd k
theorem S_i2b {sc : aSc} {cI : Nat → aF} {F : aF} {pc : Nat} (hd : decode F.2.1 pc = .ok (.i2b, 1)) : aS sc cI F pc (j_un (pc + 1) (fun x => x.toInt8.toInt32)) := S_un fun x t lo p l e R s m args below meth c H locs cells slots Q ls ad C hl k => lv_i2b C.1 C.2.1 hd rfl k
theorem S_i2c {sc : aSc} {cI : Nat → aF} {F : aF} {pc : Nat} (hd : decode F.2.1 pc = .ok (.i2c, 1)) : aS sc cI F pc (j_un (pc + 1) (fun x => (x.toUInt32 % 65536).toInt32)) := S_un fun x t lo p l e R s m args below meth c H locs cells slots Q ls ad C hl k => lv_i2c C.1 C.2.1 hd rfl k
-- longs
def j_i2l (pc' : Nat) : aI := fun lo st M => match st with
  | .inl x :: t => some (.inl (pc', lo, .inr (.inl x.toInt64) :: t, M))
  | _ => none
theorem S_i2l {sc : aSc} {cI : Nat → aF} {F : aF} {pc : Nat} (hd : decode F.2.1 pc = .ok (.i2l, 1)) : aS sc cI F pc (j_i2l (pc + 1)) := aS_n fun lo st M r e => by
  unfold j_i2l at e
  split at e
  · cases e
    exact ⟨_, _, _, _, rfl, aN_st (fun _ q _ => vok_c vok_j (vok_t q)) (fun p l e R s m args below meth c H locs cells slots Q ls ad C hl k => lv_i2l C.1 C.2.1 hd rfl k)⟩
  · cases e
def j_lbin (pc' : Nat) (g : Int64 → Int64 → Int64) : aI := fun lo st M => match st with
  | .inr (.inl y) :: .inr (.inl x) :: t => some (.inl (pc', lo, .inr (.inl (g x y)) :: t, M))
  | _ => none
theorem S_lbin {sc : aSc} {cI : Nat → aF} {F : aF} {pc pc' : Nat} {g : Int64 → Int64 → Int64} (h : ∀ (x y : Int64) (t : List aV) (lo : aL), aH F pc lo (.inr (.inl y) :: .inr (.inl x) :: t) pc' (.inr (.inl (g x y)) :: t)) : aS sc cI F pc (j_lbin pc' g) := aS_n fun lo st M r e => by
  unfold j_lbin at e
  split at e
  · cases e
    exact ⟨_, _, _, _, rfl, aN_st (fun _ q _ => vok_c vok_j (vok_t (vok_t q))) (h _ _ _ lo)⟩
  · cases e
theorem S_ladd {sc : aSc} {cI : Nat → aF} {F : aF} {pc : Nat} (hd : decode F.2.1 pc = .ok (.ladd, 1)) : aS sc cI F pc (j_lbin (pc + 1) (fun x y => x + y)) := S_lbin fun x y t lo p l e R s m args below meth c H locs cells slots Q ls ad C hl k => lv_ladd C.1 C.2.1 hd k
theorem S_lmul {sc : aSc} {cI : Nat → aF} {F : aF} {pc : Nat} (hd : decode F.2.1 pc = .ok (.lmul, 1)) : aS sc cI F pc (j_lbin (pc + 1) (fun x y => x * y)) := S_lbin fun x y t lo p l e R s m args below meth c H locs cells slots Q ls ad C hl k => lv_lmul C.1 C.2.1 hd k
def j_lcmp (pc' : Nat) : aI := fun lo st M => match st with
  | .inr (.inl y) :: .inr (.inl x) :: t => some (.inl (pc', lo, .inl (lg_cmp x y) :: t, M))
  | _ => none
theorem S_lcmp {sc : aSc} {cI : Nat → aF} {F : aF} {pc : Nat} (hd : decode F.2.1 pc = .ok (.lcmp, 1)) : aS sc cI F pc (j_lcmp (pc + 1)) := aS_n fun lo st M r e => by
  unfold j_lcmp at e
  split at e
  · cases e
    exact ⟨_, _, _, _, rfl, aN_st (fun _ q _ => vok_c vok_i (vok_t (vok_t q))) (fun p l e R s m args below meth c H locs cells slots Q ls ad C hl k => W.lcmp C.1 C.2.1 hd k)⟩
  · cases e
def j_cl (pc' : Nat) (x : Int64) : aI := fun lo st M => some (.inl (pc', lo, .inr (.inl x) :: st, M))
theorem S_lconst {sc : aSc} {cI : Nat → aF} {F : aF} {pc : Nat} {n : Fin 2} {x : Int64} (hv : Int64.ofNat (n : Nat) = x) (hd : decode F.2.1 pc = .ok (.lconst n, 1)) : aS sc cI F pc (j_cl (pc + 1) x) := aS_n fun lo st M r e => by
  cases e
  exact ⟨_, _, _, _, rfl, aN_st (fun _ h _ => vok_c vok_j h) (fun p l e R s m args below meth c H locs cells slots Q ls ad C hl k => lv_lconst C.1 C.2.1 hd hv k)⟩
theorem S_ldc2 {sc : aSc} {cI : Nat → aF} {F : aF} {pc : Nat} {i : Nat} {x : Int64} (hw : Cond.constantLong F.1.cls i x ∈ TB) (hd : decode F.2.1 pc = .ok (.ldc2_w i, 3)) : aS sc cI F pc (j_cl (pc + 3) x) := aS_n fun lo st M r e => by
  cases e
  exact ⟨_, _, _, _, rfl, aN_st (fun _ h _ => vok_c vok_j h) (fun p l e R s m args below meth c H locs cells slots Q ls ad C hl k => lv_ldc2 C.1 C.2.1 C.2.2.2.1 (C.2.2.2.2 _ hw) hd k)⟩
theorem S_ldc {sc : aSc} {cI : Nat → aF} {F : aF} {pc : Nat} {i : Nat} {x : Int32} (hw : Cond.constant F.1.cls i x ∈ TB) (hd : decode F.2.1 pc = .ok (.ldc i, 2)) : aS sc cI F pc (j_c (pc + 2) x) := aS_n fun lo st M r e => by
  cases e
  exact ⟨_, _, _, _, rfl, aN_st (fun _ h _ => vok_c vok_i h) (fun p l e R s m args below meth c H locs cells slots Q ls ad C hl k => lv_ldc C.1 C.2.1 C.2.2.2.1 (C.2.2.2.2 _ hw) hd k)⟩
def j_lload (pc' i : Nat) : aI := fun lo st M => match lk i lo with
  | some (.inr (.inl x)) => some (.inl (pc', lo, .inr (.inl x) :: st, M))
  | _ => none
theorem S_lload_n {sc : aSc} {cI : Nat → aF} {F : aF} {pc i : Nat} {k : Fin 4} (hi : (k : Nat) = i) (hd : decode F.2.1 pc = .ok (.lload_n k, 1)) : aS sc cI F pc (j_lload (pc + 1) i) := aS_n fun lo st M r e => by
  unfold j_lload at e
  split at e
  · rename_i x hx
    cases e
    exact ⟨_, _, _, _, rfl, aN_st (fun _ h _ => vok_c vok_j h) (fun p l e R s m args below meth c H locs cells slots Q ls ad C hl k => lv_lload_n C.1 C.2.1 hd hi (lk_at hx hl) k)⟩
  · cases e
-- dup, pop
def j_dup (pc' : Nat) : aI := fun lo st M => match st with
  | v :: t => bif isL v then none else some (.inl (pc', lo, v :: v :: t, M))
  | _ => none
theorem cat1 {ad : Nat → Nat} {v : aV} (h : isL v = false) : (tv ad v).category = 1 := by rw [tv_cat, cat, h]; rfl
theorem S_dup {sc : aSc} {cI : Nat → aF} {F : aF} {pc : Nat} (hd : decode F.2.1 pc = .ok (.dup, 1)) : aS sc cI F pc (j_dup (pc + 1)) := aS_n fun lo st M r e => by
  unfold j_dup at e
  split at e
  · rename_i v t
    cases hv : isL v with
    | true => rw [hv] at e; cases e
    | false =>
      rw [hv] at e
      cases e
      exact ⟨_, _, _, _, rfl, aN_st (fun _ h _ => vok_c (h v List.mem_cons_self) h) (fun p l e R s m args below meth c H locs cells slots Q ls ad C hl k => lv_dup C.1 C.2.1 hd (cat1 hv) k)⟩
  · cases e
def j_pop (pc' : Nat) : aI := fun lo st M => match st with
  | v :: t => bif isL v then none else some (.inl (pc', lo, t, M))
  | _ => none
theorem S_pop {sc : aSc} {cI : Nat → aF} {F : aF} {pc : Nat} (hd : decode F.2.1 pc = .ok (.pop, 1)) : aS sc cI F pc (j_pop (pc + 1)) := aS_n fun lo st M r e => by
  unfold j_pop at e
  split at e
  · rename_i v t
    cases hv : isL v with
    | true => rw [hv] at e; cases e
    | false =>
      rw [hv] at e
      cases e
      exact ⟨_, _, _, _, rfl, aN_st (fun _ h _ => vok_t h) (fun p l e R s m args below meth c H locs cells slots Q ls ad C hl k => lv_pop C.1 C.2.1 hd (cat1 hv) k)⟩
  · cases e
def j_dup2 (pc' : Nat) : aI := fun lo st M => match st with
  | v :: w :: t => bif isL v || isL w then none else some (.inl (pc', lo, v :: w :: v :: w :: t, M))
  | _ => none
theorem S_dup2 {sc : aSc} {cI : Nat → aF} {F : aF} {pc : Nat} (hd : decode F.2.1 pc = .ok (.dup2, 1)) : aS sc cI F pc (j_dup2 (pc + 1)) := aS_n fun lo st M r e => by
  unfold j_dup2 at e
  split at e
  · rename_i v w t
    cases hv : isL v with
    | true => rw [hv] at e; cases e
    | false =>
      cases hw : isL w with
      | true => rw [hv, hw] at e; cases e
      | false =>
        rw [hv, hw] at e
        cases e
        exact ⟨_, _, _, _, rfl, aN_st (fun _ h _ => vok_c (h v List.mem_cons_self) (vok_c (h w (List.mem_cons_of_mem _ List.mem_cons_self)) h)) (fun p l e R s m args below meth c H locs cells slots Q ls ad C hl k => lv_dup2_11 C.1 C.2.1 hd (cat1 hv) (cat1 hw) k)⟩
  · cases e
-- branches
def j_goto (t : Nat) : aI := fun lo st M => some (.inl (t, lo, st, M))
theorem S_goto {sc : aSc} {cI : Nat → aF} {F : aF} {pc t : Nat} {off : Int} (ht : (pc : Int) + off = (t : Int)) (hd : decode F.2.1 pc = .ok (.goto off, 3)) : aS sc cI F pc (j_goto t) := aS_n fun lo st M r e => by
  cases e
  exact ⟨_, _, _, _, rfl, aN_st (fun _ h _ => h) (fun p l e R s m args below meth c H locs cells slots Q ls ad C hl k => lv_goto C.1 C.2.1 hd ht k)⟩
def j_if (g : Int32 → Bool) (t f : Nat) : aI := fun lo st M => match st with
  | .inl x :: s => some (.inl (bif g x then t else f, lo, s, M))
  | _ => none
def j_ifc (g : Int32 → Int32 → Bool) (t f : Nat) : aI := fun lo st M => match st with
  | .inl y :: .inl x :: s => some (.inl (bif g x y then t else f, lo, s, M))
  | _ => none
theorem S_if {sc : aSc} {cI : Nat → aF} {F : aF} {pc t f : Nat} {g : Int32 → Bool} (h1 : ∀ (x : Int32) (s : List aV) (lo : aL), g x = true → aH F pc lo (.inl x :: s) t s) (h2 : ∀ (x : Int32) (s : List aV) (lo : aL), g x = false → aH F pc lo (.inl x :: s) f s) : aS sc cI F pc (j_if g t f) := aS_n fun lo st M r e => by
  unfold j_if at e
  split at e
  · rename_i x s
    cases e
    cases hg : g x with
    | true => exact ⟨_, _, _, _, rfl, aN_st (fun _ h _ => vok_t h) (h1 x s lo hg)⟩
    | false => exact ⟨_, _, _, _, rfl, aN_st (fun _ h _ => vok_t h) (h2 x s lo hg)⟩
  · cases e
theorem S_ifc {sc : aSc} {cI : Nat → aF} {F : aF} {pc t f : Nat} {g : Int32 → Int32 → Bool} (h1 : ∀ (x y : Int32) (s : List aV) (lo : aL), g x y = true → aH F pc lo (.inl y :: .inl x :: s) t s) (h2 : ∀ (x y : Int32) (s : List aV) (lo : aL), g x y = false → aH F pc lo (.inl y :: .inl x :: s) f s) : aS sc cI F pc (j_ifc g t f) := aS_n fun lo st M r e => by
  unfold j_ifc at e
  split at e
  · rename_i y x s
    cases e
    cases hg : g x y with
    | true => exact ⟨_, _, _, _, rfl, aN_st (fun _ h _ => vok_t (vok_t h)) (h1 x y s lo hg)⟩
    | false => exact ⟨_, _, _, _, rfl, aN_st (fun _ h _ => vok_t (vok_t h)) (h2 x y s lo hg)⟩
  · cases e
theorem S_ifeq {sc : aSc} {cI : Nat → aF} {F : aF} {pc t : Nat} {off : Int} (ht : (pc : Int) + off = (t : Int)) (hd : decode F.2.1 pc = .ok (.ifCond .eq off, 3)) : aS sc cI F pc (j_if (fun x => decide (x = 0)) t (pc + 3)) :=
  S_if (fun x s lo hg p l e R s9 m args below meth c H locs cells slots Q ls ad C hl k => lv_if_eq C.1 C.2.1 hd ht (fun _ => k) (fun q => absurd (of_decide_eq_true hg) q))
    (fun x s lo hg p l e R s9 m args below meth c H locs cells slots Q ls ad C hl k => lv_if_eq C.1 C.2.1 hd ht (fun q => absurd q (of_decide_eq_false hg)) (fun _ => k))
theorem S_iceq {sc : aSc} {cI : Nat → aF} {F : aF} {pc t : Nat} {off : Int} (ht : (pc : Int) + off = (t : Int)) (hd : decode F.2.1 pc = .ok (.if_icmp .eq off, 3)) : aS sc cI F pc (j_ifc (fun x y => decide (x = y)) t (pc + 3)) :=
  S_ifc (fun x y s lo hg p l e R s9 m args below meth c H locs cells slots Q ls ad C hl k => lv_icmp_eq C.1 C.2.1 hd ht (fun _ => k) (fun q => absurd (of_decide_eq_true hg) q))
    (fun x y s lo hg p l e R s9 m args below meth c H locs cells slots Q ls ad C hl k => lv_icmp_eq C.1 C.2.1 hd ht (fun q => absurd q (of_decide_eq_false hg)) (fun _ => k))
theorem S_ifne {sc : aSc} {cI : Nat → aF} {F : aF} {pc t : Nat} {off : Int} (ht : (pc : Int) + off = (t : Int)) (hd : decode F.2.1 pc = .ok (.ifCond .ne off, 3)) : aS sc cI F pc (j_if (fun x => decide (¬ x = 0)) t (pc + 3)) :=
  S_if (fun x s lo hg p l e R s9 m args below meth c H locs cells slots Q ls ad C hl k => lv_if_ne C.1 C.2.1 hd ht (fun _ => k) (fun q => absurd q (of_decide_eq_true hg)))
    (fun x s lo hg p l e R s9 m args below meth c H locs cells slots Q ls ad C hl k => lv_if_ne C.1 C.2.1 hd ht (fun q => absurd q (of_decide_eq_false hg)) (fun _ => k))
theorem S_icne {sc : aSc} {cI : Nat → aF} {F : aF} {pc t : Nat} {off : Int} (ht : (pc : Int) + off = (t : Int)) (hd : decode F.2.1 pc = .ok (.if_icmp .ne off, 3)) : aS sc cI F pc (j_ifc (fun x y => decide (¬ x = y)) t (pc + 3)) :=
  S_ifc (fun x y s lo hg p l e R s9 m args below meth c H locs cells slots Q ls ad C hl k => lv_icmp_ne C.1 C.2.1 hd ht (fun _ => k) (fun q => absurd q (of_decide_eq_true hg)))
    (fun x y s lo hg p l e R s9 m args below meth c H locs cells slots Q ls ad C hl k => lv_icmp_ne C.1 C.2.1 hd ht (fun q => absurd q (of_decide_eq_false hg)) (fun _ => k))
theorem S_iflt {sc : aSc} {cI : Nat → aF} {F : aF} {pc t : Nat} {off : Int} (ht : (pc : Int) + off = (t : Int)) (hd : decode F.2.1 pc = .ok (.ifCond .lt off, 3)) : aS sc cI F pc (j_if (fun x => decide (x < 0)) t (pc + 3)) :=
  S_if (fun x s lo hg p l e R s9 m args below meth c H locs cells slots Q ls ad C hl k => lv_if_lt C.1 C.2.1 hd ht (fun _ => k) (fun q => absurd (of_decide_eq_true hg) q))
    (fun x s lo hg p l e R s9 m args below meth c H locs cells slots Q ls ad C hl k => lv_if_lt C.1 C.2.1 hd ht (fun q => absurd q (of_decide_eq_false hg)) (fun _ => k))
theorem S_iclt {sc : aSc} {cI : Nat → aF} {F : aF} {pc t : Nat} {off : Int} (ht : (pc : Int) + off = (t : Int)) (hd : decode F.2.1 pc = .ok (.if_icmp .lt off, 3)) : aS sc cI F pc (j_ifc (fun x y => decide (x < y)) t (pc + 3)) :=
  S_ifc (fun x y s lo hg p l e R s9 m args below meth c H locs cells slots Q ls ad C hl k => lv_icmp_lt C.1 C.2.1 hd ht (fun _ => k) (fun q => absurd (of_decide_eq_true hg) q))
    (fun x y s lo hg p l e R s9 m args below meth c H locs cells slots Q ls ad C hl k => lv_icmp_lt C.1 C.2.1 hd ht (fun q => absurd q (of_decide_eq_false hg)) (fun _ => k))
theorem S_ifge {sc : aSc} {cI : Nat → aF} {F : aF} {pc t : Nat} {off : Int} (ht : (pc : Int) + off = (t : Int)) (hd : decode F.2.1 pc = .ok (.ifCond .ge off, 3)) : aS sc cI F pc (j_if (fun x => decide (0 ≤ x)) t (pc + 3)) :=
  S_if (fun x s lo hg p l e R s9 m args below meth c H locs cells slots Q ls ad C hl k => lv_if_ge C.1 C.2.1 hd ht (fun _ => k) (fun q => absurd (of_decide_eq_true hg) q))
    (fun x s lo hg p l e R s9 m args below meth c H locs cells slots Q ls ad C hl k => lv_if_ge C.1 C.2.1 hd ht (fun q => absurd q (of_decide_eq_false hg)) (fun _ => k))
theorem S_icge {sc : aSc} {cI : Nat → aF} {F : aF} {pc t : Nat} {off : Int} (ht : (pc : Int) + off = (t : Int)) (hd : decode F.2.1 pc = .ok (.if_icmp .ge off, 3)) : aS sc cI F pc (j_ifc (fun x y => decide (y ≤ x)) t (pc + 3)) :=
  S_ifc (fun x y s lo hg p l e R s9 m args below meth c H locs cells slots Q ls ad C hl k => lv_icmp_ge C.1 C.2.1 hd ht (fun _ => k) (fun q => absurd (of_decide_eq_true hg) q))
    (fun x y s lo hg p l e R s9 m args below meth c H locs cells slots Q ls ad C hl k => lv_icmp_ge C.1 C.2.1 hd ht (fun q => absurd q (of_decide_eq_false hg)) (fun _ => k))
theorem S_ifgt {sc : aSc} {cI : Nat → aF} {F : aF} {pc t : Nat} {off : Int} (ht : (pc : Int) + off = (t : Int)) (hd : decode F.2.1 pc = .ok (.ifCond .gt off, 3)) : aS sc cI F pc (j_if (fun x => decide (0 < x)) t (pc + 3)) :=
  S_if (fun x s lo hg p l e R s9 m args below meth c H locs cells slots Q ls ad C hl k => lv_if_gt C.1 C.2.1 hd ht (fun _ => k) (fun q => absurd (of_decide_eq_true hg) q))
    (fun x s lo hg p l e R s9 m args below meth c H locs cells slots Q ls ad C hl k => lv_if_gt C.1 C.2.1 hd ht (fun q => absurd q (of_decide_eq_false hg)) (fun _ => k))
theorem S_icgt {sc : aSc} {cI : Nat → aF} {F : aF} {pc t : Nat} {off : Int} (ht : (pc : Int) + off = (t : Int)) (hd : decode F.2.1 pc = .ok (.if_icmp .gt off, 3)) : aS sc cI F pc (j_ifc (fun x y => decide (y < x)) t (pc + 3)) :=
  S_ifc (fun x y s lo hg p l e R s9 m args below meth c H locs cells slots Q ls ad C hl k => lv_icmp_gt C.1 C.2.1 hd ht (fun _ => k) (fun q => absurd (of_decide_eq_true hg) q))
    (fun x y s lo hg p l e R s9 m args below meth c H locs cells slots Q ls ad C hl k => lv_icmp_gt C.1 C.2.1 hd ht (fun q => absurd q (of_decide_eq_false hg)) (fun _ => k))
theorem S_ifle {sc : aSc} {cI : Nat → aF} {F : aF} {pc t : Nat} {off : Int} (ht : (pc : Int) + off = (t : Int)) (hd : decode F.2.1 pc = .ok (.ifCond .le off, 3)) : aS sc cI F pc (j_if (fun x => decide (x ≤ 0)) t (pc + 3)) :=
  S_if (fun x s lo hg p l e R s9 m args below meth c H locs cells slots Q ls ad C hl k => lv_if_le C.1 C.2.1 hd ht (fun _ => k) (fun q => absurd (of_decide_eq_true hg) q))
    (fun x s lo hg p l e R s9 m args below meth c H locs cells slots Q ls ad C hl k => lv_if_le C.1 C.2.1 hd ht (fun q => absurd q (of_decide_eq_false hg)) (fun _ => k))
theorem S_icle {sc : aSc} {cI : Nat → aF} {F : aF} {pc t : Nat} {off : Int} (ht : (pc : Int) + off = (t : Int)) (hd : decode F.2.1 pc = .ok (.if_icmp .le off, 3)) : aS sc cI F pc (j_ifc (fun x y => decide (x ≤ y)) t (pc + 3)) :=
  S_ifc (fun x y s lo hg p l e R s9 m args below meth c H locs cells slots Q ls ad C hl k => lv_icmp_le C.1 C.2.1 hd ht (fun _ => k) (fun q => absurd (of_decide_eq_true hg) q))
    (fun x y s lo hg p l e R s9 m args below meth c H locs cells slots Q ls ad C hl k => lv_icmp_le C.1 C.2.1 hd ht (fun q => absurd q (of_decide_eq_false hg)) (fun _ => k))
end
section
/-! Locals that change; fields, arrays, new cells. -/
def rml (i : Nat) : aL → aL
  | [] => []
  | q :: t => bif Nat.beq q.1 i || (Nat.beq (q.1 + 1) i && isL q.2) then rml i t else q :: rml i t
def rmL (i : Nat) : aL → aL
  | [] => []
  | q :: t => bif Nat.beq q.1 i || (Nat.beq q.1 (i + 1) || (Nat.beq (q.1 + 1) i && isL q.2)) then rmL i t else q :: rmL i t
theorem rml_mem {i : Nat} {q : Nat × aV} : ∀ {lo : aL}, q ∈ rml i lo → q ∈ lo ∧ ¬ q.1 = i ∧ ¬ (q.1 + 1 = i ∧ isL q.2 = true)
  | [], h => by simp [rml] at h
  | q0 :: t, h => by
    unfold rml at h
    cases hb : (Nat.beq q0.1 i || (Nat.beq (q0.1 + 1) i && isL q0.2)) with
    | true =>
      rw [hb] at h
      have := rml_mem (lo := t) h
      exact ⟨List.mem_cons_of_mem _ this.1, this.2⟩
    | false =>
      rw [hb] at h
      rcases List.mem_cons.mp h with e | h
      · subst e
        refine ⟨List.mem_cons_self, fun e => ?_, fun e => ?_⟩
        · rw [e, Nat.beq_refl] at hb
          simp at hb
        · rw [e.1, Nat.beq_refl, e.2] at hb
          simp at hb
      · have := rml_mem (lo := t) h
        exact ⟨List.mem_cons_of_mem _ this.1, this.2⟩
theorem rmL_mem {i : Nat} {q : Nat × aV} : ∀ {lo : aL}, q ∈ rmL i lo → q ∈ lo ∧ ¬ q.1 = i ∧ ¬ q.1 = i + 1 ∧ ¬ (q.1 + 1 = i ∧ isL q.2 = true)
  | [], h => by simp [rmL] at h
  | q0 :: t, h => by
    unfold rmL at h
    cases hb : (Nat.beq q0.1 i || (Nat.beq q0.1 (i + 1) || (Nat.beq (q0.1 + 1) i && isL q0.2))) with
    | true =>
      rw [hb] at h
      have := rmL_mem (lo := t) h
      exact ⟨List.mem_cons_of_mem _ this.1, this.2⟩
    | false =>
      rw [hb] at h
      rcases List.mem_cons.mp h with e | h
      · subst e
        refine ⟨List.mem_cons_self, fun e => ?_, fun e => ?_, fun e => ?_⟩
        · rw [e, Nat.beq_refl] at hb
          simp at hb
        · rw [e, Nat.beq_refl] at hb
          simp at hb
        · rw [e.1, Nat.beq_refl, e.2] at hb
          simp at hb
      · have := rmL_mem (lo := t) h
        exact ⟨List.mem_cons_of_mem _ this.1, this.2⟩
theorem isL_cat {ad : Nat → Nat} {v : aV} (h : (tv ad v).category = 2) : isL v = true := by
  rw [tv_cat, cat] at h
  cases hv : isL v with
  | true => rfl
  | false => rw [hv] at h; cases h
theorem lv_st {ad : Nat → Nat} {ls : Array Slot} {nL i : Nat} {v : aV} {lo : aL} (h : lv_has ls nL ((i, tv ad v) :: (lo.map (tq ad)).filter (fun q => !(q.1 == i) && !(q.1 + 1 == i && q.2.category == 2)))) : lv_has ls nL (((i, v) :: rml i lo).map (tq ad)) := by
  refine ⟨h.1, h.2.1, fun q hq => h.2.2 q ?_⟩
  rw [List.map_cons] at hq
  rcases List.mem_cons.mp hq with e | hq
  · rw [e]; exact List.mem_cons_self
  · obtain ⟨x, hx, rfl⟩ := List.mem_map.mp hq
    obtain ⟨h1, h2, h3⟩ := rml_mem hx
    refine List.mem_cons_of_mem _ (List.mem_filter.mpr ⟨List.mem_map.mpr ⟨x, h1, rfl⟩, ?_⟩)
    simp only [tq, Bool.and_eq_true, Bool.not_eq_true', beq_eq_false_iff_ne, ne_eq, Bool.and_eq_false_iff]
    refine ⟨h2, ?_⟩
    by_cases e : x.1 + 1 = i
    · exact Or.inr (fun q => h3 ⟨e, isL_cat q⟩)
    · exact Or.inl e
theorem lv_stL {ad : Nat → Nat} {ls : Array Slot} {nL i : Nat} {v : aV} {lo : aL} (h : lv_has ls nL ((i, tv ad v) :: (lo.map (tq ad)).filter (fun q => !(q.1 == i) && (!(q.1 == i + 1) && !(q.1 + 1 == i && q.2.category == 2))))) : lv_has ls nL (((i, v) :: rmL i lo).map (tq ad)) := by
  refine ⟨h.1, h.2.1, fun q hq => h.2.2 q ?_⟩
  rw [List.map_cons] at hq
  rcases List.mem_cons.mp hq with e | hq
  · rw [e]; exact List.mem_cons_self
  · obtain ⟨x, hx, rfl⟩ := List.mem_map.mp hq
    obtain ⟨h1, h2, h4, h3⟩ := rmL_mem hx
    refine List.mem_cons_of_mem _ (List.mem_filter.mpr ⟨List.mem_map.mpr ⟨x, h1, rfl⟩, ?_⟩)
    simp only [tq, Bool.and_eq_true, Bool.not_eq_true', beq_eq_false_iff_ne, ne_eq, Bool.and_eq_false_iff]
    refine ⟨h2, h4, ?_⟩
    by_cases e : x.1 + 1 = i
    · exact Or.inr (fun q => h3 ⟨e, isL_cat q⟩)
    · exact Or.inl e
/-- a step that touches stack and locals -/
def aHl (F : aF) (pc : Nat) (lo : aL) (st : List aV) (pc' : Nat) (lo' : aL) (st' : List aV) : Prop :=
  ∀ (p : Program) (l : Launch) (e : Env) (R : Room) (s : State) (m : MethodId) (args : Array Value) (below : List Frame) (meth : Method) (c : Code) (H : Heap) (locs : List Loc) (cells slots : Nat) (Q : State → Prop) (ls : Array Slot) (ad : Nat → Nat),
    CallFix p m c F.2.1 F.2.2.1 s args TB F.1.cls → lv_has ls F.2.2.1 (lo.map (tq ad)) → (∀ ls' : Array Slot, lv_has ls' F.2.2.1 (lo'.map (tq ad)) → W p l e R s m args below meth c H locs cells slots Q (F0 m pc' ls' (st'.map (tv ad)))) → W p l e R s m args below meth c H locs cells slots Q (F0 m pc ls (st.map (tv ad)))
theorem aN_lo {sc : aSc} {F : aF} {pc : Nat} {lo : aL} {st : List aV} {M : aM} {pc' : Nat} {lo' : aL} {st' : List aV} (hv : (∀ q ∈ lo, vok (a_n M) q.2) → (∀ v ∈ st, vok (a_n M) v) → (∀ q ∈ lo', vok (a_n M) q.2) ∧ ∀ v ∈ st', vok (a_n M) v) (h : aHl F pc lo st pc' lo' st') : aN sc F pc lo st M pc' lo' st' M := by
  refine ⟨mle_rf, ?_⟩
  intro p l e R s m args below meth c D cy ad0 M0 Q hX hn hc hs hG ad H locs ls ha hW
  obtain ⟨hP, hD, hS, hwf, hl, hvl, hvs⟩ := hW
  exact h p l e R s m args below meth c H locs _ _ Q ls ad hX.1 hl (fun ls' hl' => hG ad H locs ls' ha ⟨hP, hD, hS, hwf, hl', (hv hvl hvs).1, (hv hvl hvs).2⟩)
theorem vok_lo {n i : Nat} {v : aV} {lo : aL} (h : ∀ q ∈ lo, vok n q.2) (hv : vok n v) : ∀ q ∈ (i, v) :: rml i lo, vok n q.2 := fun q hq => (List.mem_cons.mp hq).elim (fun e => by rw [e]; exact hv) (fun g => h q (rml_mem g).1)
theorem vok_loL {n i : Nat} {v : aV} {lo : aL} (h : ∀ q ∈ lo, vok n q.2) (hv : vok n v) : ∀ q ∈ (i, v) :: rmL i lo, vok n q.2 := fun q hq => (List.mem_cons.mp hq).elim (fun e => by rw [e]; exact hv) (fun g => h q (rmL_mem g).1)
def j_istore (pc' i : Nat) : aI := fun lo st M => match st with
  | .inl x :: t => some (.inl (pc', (i, .inl x) :: rml i lo, t, M))
  | _ => none
def j_astore (pc' i : Nat) : aI := fun lo st M => match st with
  | .inr (.inr (some a)) :: t => some (.inl (pc', (i, .inr (.inr (some a))) :: rml i lo, t, M))
  | _ => none
def j_lstore (pc' i : Nat) : aI := fun lo st M => match st with
  | .inr (.inl x) :: t => some (.inl (pc', (i, .inr (.inl x)) :: rmL i lo, t, M))
  | _ => none
theorem S_istore_n {sc : aSc} {cI : Nat → aF} {F : aF} {pc i : Nat} {k : Fin 4} (hi : (k : Nat) = i) (hn : i < F.2.2.1) (hd : decode F.2.1 pc = .ok (.istore_n k, 1)) : aS sc cI F pc (j_istore (pc + 1) i) := aS_n fun lo st M r e => by
  unfold j_istore at e
  split at e
  · cases e
    exact ⟨_, _, _, _, rfl, aN_lo (fun a b => ⟨vok_lo a vok_i, vok_t b⟩) (fun p l e R s m args below meth c H locs cells slots Q ls ad C hl k => lv_istore_n C.1 C.2.1 hd hi hl hn rfl (fun ls' h => k ls' (lv_st h)))⟩
  · cases e
theorem S_istore {sc : aSc} {cI : Nat → aF} {F : aF} {pc i : Nat} (hn : i < F.2.2.1) (hd : decode F.2.1 pc = .ok (.istore i, 2)) : aS sc cI F pc (j_istore (pc + 2) i) := aS_n fun lo st M r e => by
  unfold j_istore at e
  split at e
  · cases e
    exact ⟨_, _, _, _, rfl, aN_lo (fun a b => ⟨vok_lo a vok_i, vok_t b⟩) (fun p l e R s m args below meth c H locs cells slots Q ls ad C hl k => lv_istore C.1 C.2.1 hd hl hn rfl (fun ls' h => k ls' (lv_st h)))⟩
  · cases e
theorem S_astore_n {sc : aSc} {cI : Nat → aF} {F : aF} {pc i : Nat} {k : Fin 4} (hi : (k : Nat) = i) (hn : i < F.2.2.1) (hd : decode F.2.1 pc = .ok (.astore_n k, 1)) : aS sc cI F pc (j_astore (pc + 1) i) := aS_n fun lo st M r e => by
  unfold j_astore at e
  split at e
  · cases e
    exact ⟨_, _, _, _, rfl, aN_lo (fun a b => ⟨vok_lo a (b _ List.mem_cons_self), vok_t b⟩) (fun p l e R s m args below meth c H locs cells slots Q ls ad C hl k => lv_astore_n C.1 C.2.1 hd hi hl hn rfl (fun ls' h => k ls' (lv_st h)))⟩
  · cases e
theorem S_astore {sc : aSc} {cI : Nat → aF} {F : aF} {pc i : Nat} (hn : i < F.2.2.1) (hd : decode F.2.1 pc = .ok (.astore i, 2)) : aS sc cI F pc (j_astore (pc + 2) i) := aS_n fun lo st M r e => by
  unfold j_astore at e
  split at e
  · cases e
    exact ⟨_, _, _, _, rfl, aN_lo (fun a b => ⟨vok_lo a (b _ List.mem_cons_self), vok_t b⟩) (fun p l e R s m args below meth c H locs cells slots Q ls ad C hl k => lv_astore C.1 C.2.1 hd hl hn rfl (fun ls' h => k ls' (lv_st h)))⟩
  · cases e
theorem S_lstore_n {sc : aSc} {cI : Nat → aF} {F : aF} {pc i : Nat} {k : Fin 4} (hi : (k : Nat) = i) (hn : i + 1 < F.2.2.1) (hd : decode F.2.1 pc = .ok (.lstore_n k, 1)) : aS sc cI F pc (j_lstore (pc + 1) i) := aS_n fun lo st M r e => by
  unfold j_lstore at e
  split at e
  · cases e
    exact ⟨_, _, _, _, rfl, aN_lo (fun a b => ⟨vok_loL a vok_j, vok_t b⟩) (fun p l e R s m args below meth c H locs cells slots Q ls ad C hl k => lv_lstore_n C.1 C.2.1 hd hi hl hn rfl (fun ls' h => k ls' (lv_stL h)))⟩
  · cases e
def j_iinc (pc' i : Nat) (n : Int32) : aI := fun lo st M => match lk i lo with
  | some (.inl x) => some (.inl (pc', (i, .inl (x + n)) :: rml i lo, st, M))
  | _ => none
theorem S_iinc {sc : aSc} {cI : Nat → aF} {F : aF} {pc i : Nat} {n : Int} {v : Int32} (hv : Int32.ofInt n = v) (hn : i < F.2.2.1) (hd : decode F.2.1 pc = .ok (.iinc i n, 3)) : aS sc cI F pc (j_iinc (pc + 3) i v) := aS_n fun lo st M r e => by
  unfold j_iinc at e
  split at e
  · rename_i x hx
    cases e
    refine ⟨_, _, _, _, rfl, aN_lo (fun a b => ⟨vok_lo a vok_i, b⟩) (fun p l e R s m args below meth c H locs cells slots Q ls ad C hl k => ?_)⟩
    obtain ⟨j, hj⟩ := List.getElem?_of_mem (List.mem_map.mpr ⟨(i, .inl x), lk_mem hx, rfl⟩ : tq ad (i, .inl x) ∈ lo.map (tq ad))
    exact lv_iinc C.1 C.2.1 hd hl (k := j) hj (by rw [hv]) hn rfl (fun ls' h => k ls' (lv_st (v := .inl (x + v)) h))
  · cases e
-- null
def j_ifnull (t f : Nat) : aI := fun lo st M => match st with
  | .inr (.inr none) :: s => some (.inl (t, lo, s, M))
  | .inr (.inr (some _)) :: s => some (.inl (f, lo, s, M))
  | _ => none
theorem S_ifnull {sc : aSc} {cI : Nat → aF} {F : aF} {pc t : Nat} {off : Int} (ht : (pc : Int) + off = (t : Int)) (hd : decode F.2.1 pc = .ok (.ifnull off, 3)) : aS sc cI F pc (j_ifnull t (pc + 3)) := aS_n fun lo st M r e => by
  unfold j_ifnull at e
  split at e
  · cases e
    exact ⟨_, _, _, _, rfl, aN_st (fun _ h _ => vok_t h) (fun p l e R s m args below meth c H locs cells slots Q ls ad C hl k => lv_ifnullN C.1 C.2.1 hd ht k)⟩
  · cases e
    exact ⟨_, _, _, _, rfl, aN_st (fun _ h _ => vok_t h) (fun p l e R s m args below meth c H locs cells slots Q ls ad C hl k => lv_ifnull C.1 C.2.1 hd k)⟩
  · cases e
theorem S_ifnonnull {sc : aSc} {cI : Nat → aF} {F : aF} {pc t : Nat} {off : Int} (ht : (pc : Int) + off = (t : Int)) (hd : decode F.2.1 pc = .ok (.ifnonnull off, 3)) : aS sc cI F pc (j_ifnull (pc + 3) t) := aS_n fun lo st M r e => by
  unfold j_ifnull at e
  split at e
  · cases e
    exact ⟨_, _, _, _, rfl, aN_st (fun _ h _ => vok_t h) (fun p l e R s m args below meth c H locs cells slots Q ls ad C hl k => lv_ifnonnullN C.1 C.2.1 hd k)⟩
  · cases e
    exact ⟨_, _, _, _, rfl, aN_st (fun _ h _ => vok_t h) (fun p l e R s m args below meth c H locs cells slots Q ls ad C hl k => lv_ifnonnull C.1 C.2.1 hd ht k)⟩
  · cases e
-- a switch: offsets as the decoder has them
def j_tab (pc lo9 : Int) (hi9 : Int) (dflt : Int) (offs : Array Int) : aI := fun lo st M => match st with
  | .inl x :: s => if x.toInt < lo9 ∨ hi9 < x.toInt then some (.inl ((pc + dflt).toNat, lo, s, M)) else match offs[(x.toInt - lo9).toNat]? with
    | some off => some (.inl ((pc + off).toNat, lo, s, M))
    | none => none
  | _ => none
theorem S_tab {sc : aSc} {cI : Nat → aF} {F : aF} {pc len : Nat} {dflt lo9 hi9 : Int} {offs : Array Int} (h0 : 0 ≤ (pc : Int) + dflt) (h1 : ∀ off ∈ offs, 0 ≤ (pc : Int) + off) (hd : decode F.2.1 pc = .ok (.tableswitch dflt lo9 hi9 offs, len)) : aS sc cI F pc (j_tab pc lo9 hi9 dflt offs) := aS_n fun lo st M r e => by
  unfold j_tab at e
  split at e
  · split at e
    · rename_i hx
      cases e
      exact ⟨_, _, _, _, rfl, aN_st (fun _ h _ => vok_t h) (fun p l e R s m args below meth c H locs cells slots Q ls ad C hl k => lv_tableOut C.1 C.2.1 hd hx (by omega) k)⟩
    · rename_i hx
      split at e
      · rename_i off ho
        cases e
        have := h1 off (Array.mem_of_getElem? ho)
        exact ⟨_, _, _, _, rfl, aN_st (fun _ h _ => vok_t h) (fun p l e R s m args below meth c H locs cells slots Q ls ad C hl k => lv_tableIn C.1 C.2.1 hd (fun q => hx (Or.inl q)) (fun q => hx (Or.inr q)) ho (by omega) k)⟩
      · cases e
  · cases e
end
section
/-! Fields. -/
theorem wE_obj {cy : Nat → ClassId} {ad : Nat → Nat} {M : aM} {a ci : Nat} (h : a_K M a = ci) (hc : ci < 14) : wE cy ad M a = .inr (ci, fsv ad M a 0 (lyt ci)) := by
  unfold wE
  rw [h, if_pos hc]
/-- what is known of a class of the list -/
def aKl (ci : Nat) (C : String) (T : u_T) (N : Nat) (ty : Nat → FieldType) : Prop :=
  vwCl[ci]? = some (C, T, N) ∧ ci < 14 ∧ (∀ w ∈ u_ws C T N, w ∈ TB) ∧ (∀ k, k < N → parseFieldDescriptor (T k).2.2.1 = some (ty k)) ∧ (∀ a, a < N → ∀ b, b < N → a ≠ b → (T a).2.1 ≠ (T b).2.1) ∧ (lyt ci).length = N
def fv (M : aM) (a k t : Nat) : aV := match t with
  | 0 => .inl (a_I M a k)
  | 1 => .inr (.inl (a_J M a k))
  | _ => .inr (.inr (a_P M a k))
theorem tv_fv {ad : Nat → Nat} {M : aM} {a k t : Nat} : tv ad (fv M a k t) = vlt ad M a k t := by
  match t with
  | 0 => rfl
  | 1 => rfl
  | t + 2 => rfl
theorem vok_fv {M : aM} (h : wf M) {a k t : Nat} : vok (a_n M) (fv M a k t) := by
  match t with
  | 0 => exact vok_i
  | 1 => exact vok_j
  | t + 2 => exact fun j e => h.2 a k j (Sum.inr.inj (Sum.inr.inj e))
def j_get (pc' ci k t : Nat) : aI := fun lo st M => match st with
  | .inr (.inr (some a)) :: s => bif Nat.blt a (a_n M) && Nat.beq (a_K M a) ci then some (.inl (pc', lo, fv M a k t :: s, M)) else none
  | _ => none
theorem bandE {a b : Bool} {α : Type} {x : α} {y : Option α} (h : (bif a && b then some x else none) = y) (hy : y ≠ none) : a = true ∧ b = true ∧ y = some x := by
  cases a <;> cases b
  all_goals first | exact ⟨rfl, rfl, h.symm⟩ | exact absurd h.symm hy
theorem blt_lt {a b : Nat} (h : Nat.blt a b = true) : a < b := Nat.le_of_ble_eq_true h
/-- a step that reads the memory -/
theorem aN_rd {sc : aSc} {F : aF} {pc : Nat} {lo : aL} {st : List aV} {M : aM} {pc' : Nat} {st' : List aV} (hv : wf M → (∀ q ∈ lo, vok (a_n M) q.2) → (∀ v ∈ st, vok (a_n M) v) → ∀ v ∈ st', vok (a_n M) v)
    (h : ∀ (p : Program) (l : Launch) (e : Env) (R : Room) (s : State) (m : MethodId) (args : Array Value) (below : List Frame) (meth : Method) (c : Code) (H : Heap) (locs : List Loc) (cells slots : Nat) (Q : State → Prop) (ls : Array Slot) (ad : Nat → Nat) (D : va_G) (cy : Nat → ClassId),
      CallFix p m c F.2.1 F.2.2.1 s args TB F.1.cls → va_K D vwCl (tyK cy) s → aNst s → va_P D vwCl (wl cy ad M) H → W p l e R s m args below meth c H locs cells slots Q (F0 m pc' ls (st'.map (tv ad))) → W p l e R s m args below meth c H locs cells slots Q (F0 m pc ls (st.map (tv ad)))) : aN sc F pc lo st M pc' lo st' M := by
  refine ⟨mle_rf, ?_⟩
  intro p l e R s m args below meth c D cy ad0 M0 Q hX hn hc hs hG ad H locs ls ha hW
  obtain ⟨hP, hD, hS, hwf, hl, hvl, hvs⟩ := hW
  exact h p l e R s m args below meth c H locs _ _ Q ls ad D cy hX.1 hX.2.2.2.2.1 hX.2.2.2.2.2.1.2 hP (hG ad H locs ls ha ⟨hP, hD, hS, hwf, hl, hvl, hv hwf hvl hvs⟩)
theorem S_get {sc : aSc} {cI : Nat → aF} {F : aF} {pc ci k t ix : Nat} {C : String} {T : u_T} {N : Nat} {ty : Nat → FieldType} (K : aKl ci C T N ty) (hk : k < N) (hy : (lyt ci)[k]? = some t) (hw : Cond.fieldLink F.1.cls ix (T k).1 (T k).2.1 (T k).2.2.1 ∈ TB) (hd : decode F.2.1 pc = .ok (.getfield ix, 3)) : aS sc cI F pc (j_get (pc + 3) ci k t) := aS_n fun lo st M r e => by
  unfold j_get at e
  split at e
  · rename_i a s
    obtain ⟨h1, h2, h3⟩ := bandE e (by simp)
    cases h3
    refine ⟨_, _, _, _, rfl, aN_rd (fun g _ b => vok_c (vok_fv g) (vok_t b)) (fun p l e R s m args below meth c H locs cells slots Q ls ad D cy C hK hE hP k9 => ?_)⟩
    have he := wl_at (cy := cy) (ad := ad) (blt_lt h1)
    rw [wE_obj (nbT h2) K.2.1] at he
    exact va_get (v := tv ad (fv M a k t)) C.1 C.2.1 C.2.2.2.2 K.2.2.1 C.2.2.2.1 hK hP a he K.1 k hk (C.2.2.2.2 _ hw) (fun _ h9 => h9) (by rw [fsv_at _ _ _ _ hy, Nat.zero_add, tv_fv]) hd k9
  · cases e
theorem S_getN {sc : aSc} {cI : Nat → aF} {F : aF} {pc ci k t ix : Nat} {host C : String} {T : u_T} {N : Nat} {ty : Nat → FieldType} (K : aKl ci C T N ty) (hk : k < N) (hy : (lyt ci)[k]? = some t) (hw : Cond.fieldLinkNest F.1.cls ix (T k).1 (T k).2.1 (T k).2.2.1 host ∈ NW) (hd : decode F.2.1 pc = .ok (.getfield ix, 3)) : aS sc cI F pc (j_get (pc + 3) ci k t) := aS_n fun lo st M r e => by
  unfold j_get at e
  split at e
  · rename_i a s
    obtain ⟨h1, h2, h3⟩ := bandE e (by simp)
    cases h3
    refine ⟨_, _, _, _, rfl, aN_rd (fun g _ b => vok_c (vok_fv g) (vok_t b)) (fun p l e R s m args below meth c H locs cells slots Q ls ad D cy C hK hE hP k9 => ?_)⟩
    have he := wl_at (cy := cy) (ad := ad) (blt_lt h1)
    rw [wE_obj (nbT h2) K.2.1] at he
    exact va_getN (v := tv ad (fv M a k t)) C.1 C.2.1 C.2.2.2.2 K.2.2.1 C.2.2.2.1 hK hP a he K.1 k hk (hE.nest hw) (fun _ h9 => h9) (by rw [fsv_at _ _ _ _ hy, Nat.zero_add, tv_fv]) hd k9
  · cases e
/-- a store: any memory alike but for slot k of object a -/
theorem wl_put {cy : Nat → ClassId} {ad : Nat → Nat} {M M' : aM} {a ci k t : Nat} (hn : a_n M' = a_n M) (ha : a < a_n M) (hK : a_K M' = a_K M) (hN : a_N M' = a_N M) (hI : ∀ b, b ≠ a → a_I M' b = a_I M b) (hJ : ∀ b, b ≠ a → a_J M' b = a_J M b) (hP : ∀ b, b ≠ a → a_P M' b = a_P M b) (hk : a_K M a = ci) (hc : ci < 14) (hy : (lyt ci)[k]? = some t) (ho : ∀ k' t', k' ≠ k → vlt ad M' a k' t' = vlt ad M a k' t') :
    (wl cy ad M).set a (ad a, .inr (ci, (fsv ad M a 0 (lyt ci)).set k (vlt ad M' a k t))) = wl cy ad M' := by
  have e : (.inr (ci, (fsv ad M a 0 (lyt ci)).set k (vlt ad M' a k t)) : va_E) = wE cy ad M' a := by
    rw [wE_obj (by rw [hK]; exact hk) hc]
    have := fsv_set (ad := ad) (M := M) (M' := M') (i := a) (s := k) t (lyt ci) 0 (Nat.zero_le _) hy ho
    rw [Nat.sub_zero] at this
    rw [this]
  rw [e]
  exact wl_set hn ha (fun b hb => wE_cong (by rw [hK]) (by rw [hN]) (hI b hb) (hJ b hb) (fun j => by rw [hP b hb]))
/-- a step that writes the memory -/
theorem aN_wr {sc : aSc} {F : aF} {pc : Nat} {lo : aL} {st : List aV} {M M' : aM} {pc' : Nat} {st' : List aV} (hn : a_n M' = a_n M) (hy : a_c M' = a_c M) (hz : a_z M' = a_z M) (hv : (∀ v ∈ st, vok (a_n M) v) → wf M → (∀ v ∈ st', vok (a_n M) v) ∧ wf M')
    (h : ∀ (p : Program) (l : Launch) (e : Env) (R : Room) (s : State) (m : MethodId) (args : Array Value) (below : List Frame) (meth : Method) (c : Code) (H : Heap) (locs : List Loc) (cells slots : Nat) (Q : State → Prop) (ls : Array Slot) (ad : Nat → Nat) (D : va_G) (cy : Nat → ClassId) (A : Nat → Prop),
      CallFix p m c F.2.1 F.2.2.1 s args TB F.1.cls → (F.1.name = "<init>" → meth.name = "<init>") → va_K D vwCl (tyK cy) s → aNst s → va_P D vwCl (wl cy ad M) H → va_D A (wl cy ad M) → va_S A s.heap H locs → (∀ (H1 : Heap) (locs1 : List Loc), va_P D vwCl (wl cy ad M') H1 → va_D A (wl cy ad M') → va_S A s.heap H1 locs1 → W p l e R s m args below meth c H1 locs1 cells slots Q (F0 m pc' ls (st'.map (tv ad)))) → W p l e R s m args below meth c H locs cells slots Q (F0 m pc ls (st.map (tv ad)))) : aN sc F pc lo st M pc' lo st' M' := by
  refine ⟨⟨Nat.le_of_eq hn.symm, Nat.le_of_eq hy.symm, Nat.le_of_eq hz.symm⟩, ?_⟩
  intro p l e R s m args below meth c D cy ad0 M0 Q hX hn0 hc hs hG ad H locs ls ha hW
  obtain ⟨hP, hD, hS, hwf, hl, hvl, hvs⟩ := hW
  have hv := hv hvs hwf
  refine h p l e R s m args below meth c H locs _ _ Q ls ad D cy (aA cy ad0 M0 s) hX.1 hX.2.2.2.1 hX.2.2.2.2.1 hX.2.2.2.2.2.1.2 hP hD hS (fun H1 locs1 p1 d1 s1 => ?_)
  have := hG ad H1 locs1 ls ha ⟨p1, d1, s1, hv.2, hl, by rw [hn]; exact hvl, by rw [hn]; exact hv.1⟩
  rw [hy, hz] at this
  exact this
theorem put_I {cy : Nat → ClassId} {ad : Nat → Nat} {M : aM} {a ci k : Nat} {x : Int32} (ha : a < a_n M) (hk : a_K M a = ci) (hc : ci < 14) (hy : (lyt ci)[k]? = some 0) : (wl cy ad M).set a (ad a, .inr (ci, (fsv ad M a 0 (lyt ci)).set k (.int x))) = wl cy ad (s_I M a k x) := by
  have h := wl_put (cy := cy) (ad := ad) (M := M) (M' := s_I M a k x) (k := k) (t := 0) rfl ha rfl rfl (fun b hb => up2_row hb) (fun _ _ => rfl) (fun _ _ => rfl) hk hc hy (fun k' t' hk' => by
    unfold vlt
    rw [show a_I (s_I M a k x) a k' = a_I M a k' from by show up2 _ _ _ _ _ _ = _; rw [up2_eq, if_neg (fun q => hk' q.2)]; rfl]
    rfl)
  rw [← h]
  show _ = (wl cy ad M).set a (ad a, .inr (ci, (fsv ad M a 0 (lyt ci)).set k (.int (up2 (a_I M) a k x a k))))
  rw [up2_eq, if_pos ⟨rfl, rfl⟩]
theorem put_J {cy : Nat → ClassId} {ad : Nat → Nat} {M : aM} {a ci k : Nat} {x : Int64} (ha : a < a_n M) (hk : a_K M a = ci) (hc : ci < 14) (hy : (lyt ci)[k]? = some 1) : (wl cy ad M).set a (ad a, .inr (ci, (fsv ad M a 0 (lyt ci)).set k (.long x))) = wl cy ad (s_J M a k x) := by
  have h := wl_put (cy := cy) (ad := ad) (M := M) (M' := s_J M a k x) (k := k) (t := 1) rfl ha rfl rfl (fun _ _ => rfl) (fun b hb => up2_row hb) (fun _ _ => rfl) hk hc hy (fun k' t' hk' => by
    unfold vlt
    rw [show a_J (s_J M a k x) a k' = a_J M a k' from by show up2 _ _ _ _ _ _ = _; rw [up2_eq, if_neg (fun q => hk' q.2)]; rfl]
    rfl)
  rw [← h]
  show _ = (wl cy ad M).set a (ad a, .inr (ci, (fsv ad M a 0 (lyt ci)).set k (.long (up2 (a_J M) a k x a k))))
  rw [up2_eq, if_pos ⟨rfl, rfl⟩]
theorem put_P {cy : Nat → ClassId} {ad : Nat → Nat} {M : aM} {a ci k : Nat} {r : Option Nat} (ha : a < a_n M) (hk : a_K M a = ci) (hc : ci < 14) (hy : (lyt ci)[k]? = some 2) : (wl cy ad M).set a (ad a, .inr (ci, (fsv ad M a 0 (lyt ci)).set k (va_rf (r.map ad)))) = wl cy ad (s_P M a k r) := by
  have h := wl_put (cy := cy) (ad := ad) (M := M) (M' := s_P M a k r) (k := k) (t := 2) rfl ha rfl rfl (fun _ _ => rfl) (fun _ _ => rfl) (fun b hb => up2_row hb) hk hc hy (fun k' t' hk' => by
    unfold vlt
    rw [show a_P (s_P M a k r) a k' = a_P M a k' from by show up2 _ _ _ _ _ _ = _; rw [up2_eq, if_neg (fun q => hk' q.2)]; rfl]
    rfl)
  rw [← h]
  show _ = (wl cy ad M).set a (ad a, .inr (ci, (fsv ad M a 0 (lyt ci)).set k (va_rf ((up2 (a_P M) a k r a k).map ad))))
  rw [up2_eq, if_pos ⟨rfl, rfl⟩]
theorem wf_P {M : aM} {a k : Nat} {r : Option Nat} (h : wf M) (hr : vok (a_n M) (.inr (.inr r))) : wf (s_P M a k r) := ⟨h.1, fun i j q e => by
  have e : up2 (a_P M) a k r i j = some q := e
  rw [up2_eq] at e
  split at e
  · exact hr q (by rw [e])
  · exact h.2 i j q e⟩
def isB (v : Int32) : Bool := decide (v = 0) || decide (v = 1)
theorem isB_n {v : Int32} (h : isB v = true) : narrow .boolean (.int v) = .int v ∧ fits .boolean (.int v) = true := by
  unfold isB at h
  rcases (Bool.or_eq_true _ _).mp h with h | h
  · rw [of_decide_eq_true h]; exact ⟨rfl, rfl⟩
  · rw [of_decide_eq_true h]; exact ⟨rfl, rfl⟩
def j_puti (b : Bool) (pc' ci k : Nat) : aI := fun lo st M => match st with
  | .inl x :: .inr (.inr (some a)) :: s => bif (Nat.blt a (a_n M) && Nat.beq (a_K M a) ci) && (!b || isB x) then some (.inl (pc', lo, s, s_I M a k x)) else none
  | _ => none
def j_putj (pc' ci k : Nat) : aI := fun lo st M => match st with
  | .inr (.inl x) :: .inr (.inr (some a)) :: s => bif Nat.blt a (a_n M) && Nat.beq (a_K M a) ci then some (.inl (pc', lo, s, s_J M a k x)) else none
  | _ => none
def j_putr (pc' ci k : Nat) : aI := fun lo st M => match st with
  | .inr (.inr r) :: .inr (.inr (some a)) :: s => bif Nat.blt a (a_n M) && Nat.beq (a_K M a) ci then some (.inl (pc', lo, s, s_P M a k r)) else none
  | _ => none
/-- how a field may be written: not final, by its link or by the nest's; final, in its class's own constructor -/
def aPw (F : aF) (ix : Nat) (x : String × String × String × Bool) : Prop :=
  (x.2.2.2 = false ∧ Cond.fieldLink F.1.cls ix x.1 x.2.1 x.2.2.1 ∈ TB) ∨ (∃ host, x.2.2.2 = false ∧ Cond.fieldLinkNest F.1.cls ix x.1 x.2.1 x.2.2.1 host ∈ NW) ∨ (x.2.2.2 = true ∧ Cond.fieldLink F.1.cls ix x.1 x.2.1 x.2.2.1 ∈ TB ∧ F.1.name = "<init>" ∧ x.1 = F.1.cls)
theorem put_go {F : aF} {pc ci k ix : Nat} {C : String} {T : u_T} {N : Nat} {ty : Nat → FieldType} (K : aKl ci C T N ty) (hk : k < N) (hw : aPw F ix (T k)) (hd : decode F.2.1 pc = .ok (.putfield ix, 3))
    {p : Program} {l : Launch} {e : Env} {R : Room} {s : State} {m : MethodId} {args : Array Value} {below : List Frame} {meth : Method} {c : Code} {H : Heap} {locs : List Loc} {cells slots : Nat} {Q : State → Prop} {ls : Array Slot} {ad : Nat → Nat} {D : va_G} {cy : Nat → ClassId} {A : Nat → Prop} {M M' : aM} {a : Nat} {rest : List Value} {v : Value}
    (X : CallFix p m c F.2.1 F.2.2.1 s args TB F.1.cls) (hnm : F.1.name = "<init>" → meth.name = "<init>") (hK : va_K D vwCl (tyK cy) s) (hE : aNst s) (hP : va_P D vwCl (wl cy ad M) H) (hD : va_D A (wl cy ad M)) (hS : va_S A s.heap H locs) (ha : a < a_n M) (hc : a_K M a = ci) (hn : narrow (ty k) v = v) (hf : fits (ty k) v = true)
    (hM : (wl cy ad M).set a (ad a, .inr (ci, (fsv ad M a 0 (lyt ci)).set k v)) = wl cy ad M')
    (kk : ∀ (H1 : Heap) (locs1 : List Loc), va_P D vwCl (wl cy ad M') H1 → va_D A (wl cy ad M') → va_S A s.heap H1 locs1 → W p l e R s m args below meth c H1 locs1 cells slots Q (F0 m (pc + 3) ls rest)) : W p l e R s m args below meth c H locs cells slots Q (F0 m pc ls (v :: .ref (ad a) :: rest)) := by
  have he := wl_at (cy := cy) (ad := ad) ha
  rw [wE_obj hc K.2.1] at he
  have hlen : k < (fsv ad M a 0 (lyt ci)).length := by rw [fsv_len, K.2.2.2.2.2]; exact hk
  rcases hw with ⟨h1, h2⟩ | ⟨host, h1, h2⟩ | ⟨h1, h2, h3, h4⟩
  · exact va_put X.1 X.2.1 X.2.2.2.2 K.2.2.1 ty K.2.2.2.1 K.2.2.2.2.1 X.2.2.2.1 hK hP hD hS a he K.1 k hk (X.2.2.2.2 _ h2) (fun _ h9 => h9) h1 (K.2.2.2.1 k hk) hn hf hlen hd (fun H1 locs1 p1 d1 s1 => kk H1 locs1 (hM ▸ p1) (hM ▸ d1) s1)
  · exact va_putN X.1 X.2.1 X.2.2.2.2 K.2.2.1 ty K.2.2.2.1 K.2.2.2.2.1 X.2.2.2.1 hK hP hD hS a he K.1 k hk (hE.nest h2) (fun _ h9 => h9) h1 (K.2.2.2.1 k hk) hn hf hlen hd (fun H1 locs1 p1 d1 s1 => kk H1 locs1 (hM ▸ p1) (hM ▸ d1) s1)
  · exact va_putF X.1 X.2.1 X.2.2.2.2 K.2.2.1 ty K.2.2.2.1 K.2.2.2.2.1 X.2.2.2.1 hK hP hD hS a he K.1 k hk (X.2.2.2.2 _ h2) (fun _ h9 => h9) h1 (hnm h3) h4 (K.2.2.2.1 k hk) hn hf hlen hd (fun H1 locs1 p1 d1 s1 => kk H1 locs1 (hM ▸ p1) (hM ▸ d1) s1)
theorem S_puti {sc : aSc} {cI : Nat → aF} {F : aF} {pc ci k ix : Nat} {C : String} {T : u_T} {N : Nat} {ty : Nat → FieldType} {b : Bool} (K : aKl ci C T N ty) (hk : k < N) (hy : (lyt ci)[k]? = some 0) (ht : ty k = (bif b then .boolean else .int)) (hw : aPw F ix (T k)) (hd : decode F.2.1 pc = .ok (.putfield ix, 3)) : aS sc cI F pc (j_puti b (pc + 3) ci k) := aS_n fun lo st M r e => by
  unfold j_puti at e
  split at e
  · rename_i x a s
    obtain ⟨h12, h3, h4⟩ := bandE e (by simp)
    obtain ⟨h1, h2⟩ := (Bool.and_eq_true _ _).mp h12
    cases h4
    refine ⟨_, _, _, _, rfl, aN_wr rfl rfl rfl (fun q g => ⟨vok_t (vok_t q), g⟩) (fun p l e R s m args below meth c H locs cells slots Q ls ad D cy A X hnm hK hE hP hD hS kk => ?_)⟩
    have hnf : narrow (ty k) (.int x) = .int x ∧ fits (ty k) (.int x) = true := by
      rw [ht]
      cases b with
      | true => exact isB_n (by simpa using h3)
      | false => exact ⟨rfl, rfl⟩
    exact put_go K hk hw hd X hnm hK hE hP hD hS (blt_lt h1) (nbT h2) hnf.1 hnf.2 (put_I (blt_lt h1) (nbT h2) K.2.1 hy) kk
  · cases e
theorem S_putj {sc : aSc} {cI : Nat → aF} {F : aF} {pc ci k ix : Nat} {C : String} {T : u_T} {N : Nat} {ty : Nat → FieldType} (K : aKl ci C T N ty) (hk : k < N) (hy : (lyt ci)[k]? = some 1) (ht : ty k = .long) (hw : aPw F ix (T k)) (hd : decode F.2.1 pc = .ok (.putfield ix, 3)) : aS sc cI F pc (j_putj (pc + 3) ci k) := aS_n fun lo st M r e => by
  unfold j_putj at e
  split at e
  · rename_i x a s
    obtain ⟨h1, h2, h4⟩ := bandE e (by simp)
    cases h4
    refine ⟨_, _, _, _, rfl, aN_wr rfl rfl rfl (fun q g => ⟨vok_t (vok_t q), g⟩) (fun p l e R s m args below meth c H locs cells slots Q ls ad D cy A X hnm hK hE hP hD hS kk => ?_)⟩
    exact put_go K hk hw hd X hnm hK hE hP hD hS (blt_lt h1) (nbT h2) (by rw [ht]; rfl) (by rw [ht]; rfl) (put_J (blt_lt h1) (nbT h2) K.2.1 hy) kk
  · cases e
theorem rf_nf {ty : FieldType} (h : (∃ C, ty = .object C) ∨ ∃ t, ty = .array t) (r : Option Nat) : narrow ty (va_rf r) = va_rf r ∧ fits ty (va_rf r) = true := by
  rcases h with ⟨C, rfl⟩ | ⟨t, rfl⟩ <;> cases r <;> exact ⟨rfl, rfl⟩
theorem S_putr {sc : aSc} {cI : Nat → aF} {F : aF} {pc ci k ix : Nat} {C : String} {T : u_T} {N : Nat} {ty : Nat → FieldType} (K : aKl ci C T N ty) (hk : k < N) (hy : (lyt ci)[k]? = some 2) (ht : (∃ C, ty k = .object C) ∨ ∃ t, ty k = .array t) (hw : aPw F ix (T k)) (hd : decode F.2.1 pc = .ok (.putfield ix, 3)) : aS sc cI F pc (j_putr (pc + 3) ci k) := aS_n fun lo st M r e => by
  unfold j_putr at e
  split at e
  · rename_i r9 a s
    obtain ⟨h1, h2, h4⟩ := bandE e (by simp)
    cases h4
    refine ⟨_, _, _, _, rfl, aN_wr rfl rfl rfl (fun q g => ⟨vok_t (vok_t q), wf_P g (q _ List.mem_cons_self)⟩) (fun p l e R s m args below meth c H locs cells slots Q ls ad D cy A X hnm hK hE hP hD hS kk => ?_)⟩
    exact put_go K hk hw hd X hnm hK hE hP hD hS (blt_lt h1) (nbT h2) (rf_nf ht _).1 (rf_nf ht _).2 (put_P (blt_lt h1) (nbT h2) K.2.1 hy) kk
  · cases e
end
section
/-! Arrays, new cells. -/
def inb (i : Int32) (n : Nat) : Bool := !decide (i < 0) && Nat.blt i.toNatClampNeg n
theorem inb_in {i : Int32} {n : Nat} (h : inb i n = true) : vp_in i n := by
  obtain ⟨h1, h2⟩ := (Bool.and_eq_true _ _).mp h
  have h1 : ¬ i < 0 := of_decide_eq_false (by simpa using h1)
  exact fun q => q.elim h1 (fun z => absurd (blt_lt h2) (Nat.not_lt.mpr z))
theorem wE_I {cy : Nat → ClassId} {ad : Nat → Nat} {M : aM} {a k : Nat} (h : a_K M a = k) (hk : k = 14 ∨ k = 15 ∨ k = 17) : wE cy ad M a = .inl (cy k, a_N M a, .inl (a_I M a)) := by
  unfold wE
  rw [h]
  rcases hk with rfl | rfl | rfl <;> simp
theorem wE_J {cy : Nat → ClassId} {ad : Nat → Nat} {M : aM} {a : Nat} (h : a_K M a = 16) : wE cy ad M a = .inl (cy 16, a_N M a, .inr (.inl (a_J M a))) := by
  unfold wE
  rw [h]
  simp
theorem wE_P {cy : Nat → ClassId} {ad : Nat → Nat} {M : aM} {a k : Nat} (h : a_K M a = k) (hk : k = 18 ∨ k = 19) : wE cy ad M a = .inl (cy k, a_N M a, .inr (.inr (.inr (.inr (fun j => (a_P M a j).map ad))))) := by
  unfold wE
  rw [h]
  rcases hk with rfl | rfl <;> simp
def j_ald (pc' k : Nat) : aI := fun lo st M => match st with
  | .inl i :: .inr (.inr (some a)) :: s => bif (Nat.blt a (a_n M) && Nat.beq (a_K M a) k) && inb i (a_N M a) then some (.inl (pc', lo, .inl (a_I M a i.toNatClampNeg) :: s, M)) else none
  | _ => none
theorem S_iaload {sc : aSc} {cI : Nat → aF} {F : aF} {pc : Nat} (hd : decode F.2.1 pc = .ok (.iaload, 1)) : aS sc cI F pc (j_ald (pc + 1) 15) := aS_n fun lo st M r e => by
  unfold j_ald at e
  split at e
  · rename_i i a s
    obtain ⟨h12, h3, h4⟩ := bandE e (by simp)
    obtain ⟨h1, h2⟩ := (Bool.and_eq_true _ _).mp h12
    cases h4
    refine ⟨_, _, _, _, rfl, aN_rd (fun _ _ b => vok_c vok_i (vok_t (vok_t b))) (fun p l e R s m args below meth c H locs cells slots Q ls ad D cy C hK hE hP k9 => ?_)⟩
    have he := wl_at (cy := cy) (ad := ad) (blt_lt h1)
    rw [wE_I (nbT h2) (by omega)] at he
    exact va_iald C.1 C.2.1 hK hP a 1 he rfl (inb_in h3) hd k9
  · cases e
theorem S_baload {sc : aSc} {cI : Nat → aF} {F : aF} {pc : Nat} (hd : decode F.2.1 pc = .ok (.baload, 1)) : aS sc cI F pc (j_ald (pc + 1) 14) := aS_n fun lo st M r e => by
  unfold j_ald at e
  split at e
  · rename_i i a s
    obtain ⟨h12, h3, h4⟩ := bandE e (by simp)
    obtain ⟨h1, h2⟩ := (Bool.and_eq_true _ _).mp h12
    cases h4
    refine ⟨_, _, _, _, rfl, aN_rd (fun _ _ b => vok_c vok_i (vok_t (vok_t b))) (fun p l e R s m args below meth c H locs cells slots Q ls ad D cy C hK hE hP k9 => ?_)⟩
    have he := wl_at (cy := cy) (ad := ad) (blt_lt h1)
    rw [wE_I (nbT h2) (by omega)] at he
    exact va_bald C.1 C.2.1 hK hP a 0 he rfl (inb_in h3) hd k9
  · cases e
theorem S_zaload {sc : aSc} {cI : Nat → aF} {F : aF} {pc : Nat} (hd : decode F.2.1 pc = .ok (.baload, 1)) : aS sc cI F pc (j_ald (pc + 1) 17) := aS_n fun lo st M r e => by
  unfold j_ald at e
  split at e
  · rename_i i a s
    obtain ⟨h12, h3, h4⟩ := bandE e (by simp)
    obtain ⟨h1, h2⟩ := (Bool.and_eq_true _ _).mp h12
    cases h4
    refine ⟨_, _, _, _, rfl, aN_rd (fun _ _ b => vok_c vok_i (vok_t (vok_t b))) (fun p l e R s m args below meth c H locs cells slots Q ls ad D cy C hK hE hP k9 => ?_)⟩
    have he := wl_at (cy := cy) (ad := ad) (blt_lt h1)
    rw [wE_I (nbT h2) (by omega)] at he
    exact va_zald C.1 C.2.1 hK hP a 3 he rfl (inb_in h3) hd k9
  · cases e
def j_lald (pc' : Nat) : aI := fun lo st M => match st with
  | .inl i :: .inr (.inr (some a)) :: s => bif (Nat.blt a (a_n M) && Nat.beq (a_K M a) 16) && inb i (a_N M a) then some (.inl (pc', lo, .inr (.inl (a_J M a i.toNatClampNeg)) :: s, M)) else none
  | _ => none
theorem S_laload {sc : aSc} {cI : Nat → aF} {F : aF} {pc : Nat} (hd : decode F.2.1 pc = .ok (.laload, 1)) : aS sc cI F pc (j_lald (pc + 1)) := aS_n fun lo st M r e => by
  unfold j_lald at e
  split at e
  · rename_i i a s
    obtain ⟨h12, h3, h4⟩ := bandE e (by simp)
    obtain ⟨h1, h2⟩ := (Bool.and_eq_true _ _).mp h12
    cases h4
    refine ⟨_, _, _, _, rfl, aN_rd (fun _ _ b => vok_c vok_j (vok_t (vok_t b))) (fun p l e R s m args below meth c H locs cells slots Q ls ad D cy C hK hE hP k9 => ?_)⟩
    have he := wl_at (cy := cy) (ad := ad) (blt_lt h1)
    rw [wE_J (nbT h2)] at he
    exact va_lald C.1 C.2.1 hK hP a 2 he rfl (inb_in h3) hd k9
  · cases e
def j_aald (pc' k : Nat) : aI := fun lo st M => match st with
  | .inl i :: .inr (.inr (some a)) :: s => bif (Nat.blt a (a_n M) && Nat.beq (a_K M a) k) && inb i (a_N M a) then some (.inl (pc', lo, .inr (.inr (a_P M a i.toNatClampNeg)) :: s, M)) else none
  | _ => none
theorem va_aald9 {p : Program} {l : Launch} {e : Env} {R : Room} {s : State} {m : MethodId} {args : Array Value} {below : List Frame} {meth : Method} {c : Code} {H : Heap} {locs : List Loc} {cells slots : Nat} {Q : State → Prop} {cc : ByteArray} {pc : Nat} {ls : Array Slot} {rest : List Value} {D : va_G} {cl : List vw_C} {a : Nat} {tys : List (ClassId × FieldType)} {ws : va_W} (hexec : p.tables.exec = Jvm.exec) (hb : c.code = cc) (hK : va_K D cl tys s) (hP : va_P D cl ws H) (q0 t0 : Nat) {cA : ClassId} {ty : FieldType} {n : Nat} {f : Nat → Option Nat} (ha : ws[q0]? = some (a, .inl (cA, n, .inr (.inr (.inr (.inr f)))))) (ht : tys[t0]? = some (cA, ty)) (hr : ty.isReference = true) {i : Int32} (hin : vp_in i n) (hdg : decode cc pc = .ok (.aaload, 1))
    (kk : W p l e R s m args below meth c H locs cells slots Q (F0 m (pc + 1) ls (va_rf (f i.toNatClampNeg) :: rest))) : W p l e R s m args below meth c H locs cells slots Q (F0 m pc ls (.int i :: .ref a :: rest)) := by
  have hlt : i.toNatClampNeg < n := Nat.not_le.mp fun q => hin (Or.inr q)
  exact W.aald (v := va_rf (f i.toNatClampNeg)) hexec hb (hP q0 _ ha) ((hK.2 t0 _ ht).1 n (fun j => va_rf (f j))) hr (fun q => by cases q) (by show ¬ (i < 0 ∨ (arrV _ _ _).slots.size ≤ _); rw [arrV_size]; exact hin) (by show (arrV _ _ _).slots[_]? = _; rw [arrV_read _ _ hlt]) rfl rfl hdg kk
theorem S_aaload {sc : aSc} {cI : Nat → aF} {F : aF} {pc k : Nat} (hk : k = 18 ∨ k = 19) (hd : decode F.2.1 pc = .ok (.aaload, 1)) : aS sc cI F pc (j_aald (pc + 1) k) := aS_n fun lo st M r e => by
  unfold j_aald at e
  split at e
  · rename_i i a s
    obtain ⟨h12, h3, h4⟩ := bandE e (by simp)
    obtain ⟨h1, h2⟩ := (Bool.and_eq_true _ _).mp h12
    cases h4
    refine ⟨_, _, _, _, rfl, aN_rd (fun g _ b => vok_c (fun j e => g.2 a _ j (Sum.inr.inj (Sum.inr.inj e))) (vok_t (vok_t b))) (fun p l e R s m args below meth c H locs cells slots Q ls ad D cy C hK hE hP k9 => ?_)⟩
    have he := wl_at (cy := cy) (ad := ad) (blt_lt h1)
    rw [wE_P (nbT h2) hk] at he
    rcases hk with rfl | rfl
    · exact va_aald9 C.1 C.2.1 hK hP a 4 he rfl rfl (inb_in h3) hd k9
    · exact va_aald9 C.1 C.2.1 hK hP a 5 he rfl rfl (inb_in h3) hd k9
  · cases e
def j_alen (pc' : Nat) : aI := fun lo st M => match st with
  | .inr (.inr (some a)) :: s => bif Nat.blt a (a_n M) && (Nat.ble 14 (a_K M a) && Nat.ble (a_K M a) 19) then some (.inl (pc', lo, .inl (Int32.ofNat (a_N M a)) :: s, M)) else none
  | _ => none
theorem S_alen {sc : aSc} {cI : Nat → aF} {F : aF} {pc : Nat} (hd : decode F.2.1 pc = .ok (.arraylength, 1)) : aS sc cI F pc (j_alen (pc + 1)) := aS_n fun lo st M r e => by
  unfold j_alen at e
  split at e
  · rename_i a s
    obtain ⟨h1, h2, h4⟩ := bandE e (by simp)
    obtain ⟨h2, h3⟩ := (Bool.and_eq_true _ _).mp h2
    cases h4
    refine ⟨_, _, _, _, rfl, aN_rd (fun _ _ b => vok_c vok_i (vok_t b)) (fun p l e R s m args below meth c H locs cells slots Q ls ad D cy C hK hE hP k9 => ?_)⟩
    have he := wl_at (cy := cy) (ad := ad) (blt_lt h1)
    have g2 := Nat.le_of_ble_eq_true h2
    have g3 := Nat.le_of_ble_eq_true h3
    generalize hk : a_K M a = k at g2 g3
    rcases (show k = 14 ∨ k = 15 ∨ k = 16 ∨ k = 17 ∨ k = 18 ∨ k = 19 by omega) with rfl | rfl | rfl | rfl | rfl | rfl
    · rw [wE_I hk (by omega)] at he; exact va_alen C.1 C.2.1 hK hP a 0 he rfl rfl hd k9
    · rw [wE_I hk (by omega)] at he; exact va_alen C.1 C.2.1 hK hP a 1 he rfl rfl hd k9
    · rw [wE_J hk] at he; exact va_alen C.1 C.2.1 hK hP a 2 he rfl rfl hd k9
    · rw [wE_I hk (by omega)] at he; exact va_alen C.1 C.2.1 hK hP a 3 he rfl rfl hd k9
    · rw [wE_P hk (by omega)] at he; exact va_alen C.1 C.2.1 hK hP a 4 he rfl rfl hd k9
    · rw [wE_P hk (by omega)] at he; exact va_alen C.1 C.2.1 hK hP a 5 he rfl rfl hd k9
  · cases e
-- stores
theorem ast_I {cy : Nat → ClassId} {ad : Nat → Nat} {M : aM} {a k j : Nat} {x : Int32} (ha : a < a_n M) (hk : a_K M a = k) (h3 : k = 14 ∨ k = 15 ∨ k = 17) : (wl cy ad M).set a (ad a, .inl (cy k, a_N M a, .inl (upd (a_I M a) j x))) = wl cy ad (s_I M a j x) := by
  have e : (.inl (cy k, a_N M a, .inl (upd (a_I M a) j x)) : va_E) = wE cy ad (s_I M a j x) a := by
    rw [wE_I (M := s_I M a j x) hk h3]
    show _ = (.inl (cy k, a_N M a, .inl (up2 (a_I M) a j x a)) : va_E)
    rw [up2_own]
  rw [e]
  exact wl_set rfl ha (fun b hb => wE_cong rfl rfl (up2_row hb) rfl (fun _ => rfl))
theorem ast_J {cy : Nat → ClassId} {ad : Nat → Nat} {M : aM} {a j : Nat} {x : Int64} (ha : a < a_n M) (hk : a_K M a = 16) : (wl cy ad M).set a (ad a, .inl (cy 16, a_N M a, .inr (.inl (vp_updL (a_J M a) j x)))) = wl cy ad (s_J M a j x) := by
  have e : (.inl (cy 16, a_N M a, .inr (.inl (vp_updL (a_J M a) j x))) : va_E) = wE cy ad (s_J M a j x) a := by
    rw [wE_J (M := s_J M a j x) hk]
    show _ = (.inl (cy 16, a_N M a, .inr (.inl (up2 (a_J M) a j x a))) : va_E)
    rw [up2_ownV]
    rfl
  rw [e]
  exact wl_set rfl ha (fun b hb => wE_cong rfl rfl rfl (up2_row hb) (fun _ => rfl))
def j_ast (g : Int32 → Int32) (pc' k : Nat) : aI := fun lo st M => match st with
  | .inl x :: .inl i :: .inr (.inr (some a)) :: s => bif (Nat.blt a (a_n M) && Nat.beq (a_K M a) k) && inb i (a_N M a) then some (.inl (pc', lo, s, s_I M a i.toNatClampNeg (g x))) else none
  | _ => none
theorem S_iastore {sc : aSc} {cI : Nat → aF} {F : aF} {pc : Nat} (hd : decode F.2.1 pc = .ok (.iastore, 1)) : aS sc cI F pc (j_ast (fun x => x) (pc + 1) 15) := aS_n fun lo st M r e => by
  unfold j_ast at e
  split at e
  · rename_i x i a s
    obtain ⟨h12, h3, h4⟩ := bandE e (by simp)
    obtain ⟨h1, h2⟩ := (Bool.and_eq_true _ _).mp h12
    cases h4
    refine ⟨_, _, _, _, rfl, aN_wr rfl rfl rfl (fun q g => ⟨vok_t (vok_t (vok_t q)), g⟩) (fun p l e R s m args below meth c H locs cells slots Q ls ad D cy A X hnm hK hE hP hD hS kk => ?_)⟩
    have he := wl_at (cy := cy) (ad := ad) (blt_lt h1)
    rw [wE_I (nbT h2) (by omega)] at he
    have hM := ast_I (cy := cy) (ad := ad) (j := i.toNatClampNeg) (x := x) (blt_lt h1) (nbT h2) (by omega)
    exact va_iast X.1 X.2.1 hK hP hD hS a 1 he rfl (inb_in h3) hd (fun H1 locs1 p1 d1 s1 => kk H1 locs1 (hM ▸ p1) (hM ▸ d1) s1)
  · cases e
theorem S_bastore {sc : aSc} {cI : Nat → aF} {F : aF} {pc : Nat} (hd : decode F.2.1 pc = .ok (.bastore, 1)) : aS sc cI F pc (j_ast (vp_nar .byte) (pc + 1) 14) := aS_n fun lo st M r e => by
  unfold j_ast at e
  split at e
  · rename_i x i a s
    obtain ⟨h12, h3, h4⟩ := bandE e (by simp)
    obtain ⟨h1, h2⟩ := (Bool.and_eq_true _ _).mp h12
    cases h4
    refine ⟨_, _, _, _, rfl, aN_wr rfl rfl rfl (fun q g => ⟨vok_t (vok_t (vok_t q)), g⟩) (fun p l e R s m args below meth c H locs cells slots Q ls ad D cy A X hnm hK hE hP hD hS kk => ?_)⟩
    have he := wl_at (cy := cy) (ad := ad) (blt_lt h1)
    rw [wE_I (nbT h2) (by omega)] at he
    have hM := ast_I (cy := cy) (ad := ad) (j := i.toNatClampNeg) (x := vp_nar .byte x) (blt_lt h1) (nbT h2) (by omega)
    exact va_bast X.1 X.2.1 hK hP hD hS a 0 he rfl (inb_in h3) hd (fun H1 locs1 p1 d1 s1 => kk H1 locs1 (hM ▸ p1) (hM ▸ d1) s1)
  · cases e
theorem S_zastore {sc : aSc} {cI : Nat → aF} {F : aF} {pc : Nat} (hd : decode F.2.1 pc = .ok (.bastore, 1)) : aS sc cI F pc (j_ast (vp_nar .boolean) (pc + 1) 17) := aS_n fun lo st M r e => by
  unfold j_ast at e
  split at e
  · rename_i x i a s
    obtain ⟨h12, h3, h4⟩ := bandE e (by simp)
    obtain ⟨h1, h2⟩ := (Bool.and_eq_true _ _).mp h12
    cases h4
    refine ⟨_, _, _, _, rfl, aN_wr rfl rfl rfl (fun q g => ⟨vok_t (vok_t (vok_t q)), g⟩) (fun p l e R s m args below meth c H locs cells slots Q ls ad D cy A X hnm hK hE hP hD hS kk => ?_)⟩
    have he := wl_at (cy := cy) (ad := ad) (blt_lt h1)
    rw [wE_I (nbT h2) (by omega)] at he
    have hM := ast_I (cy := cy) (ad := ad) (j := i.toNatClampNeg) (x := vp_nar .boolean x) (blt_lt h1) (nbT h2) (by omega)
    exact va_zast X.1 X.2.1 hK hP hD hS a 3 he rfl (inb_in h3) hd (fun H1 locs1 p1 d1 s1 => kk H1 locs1 (hM ▸ p1) (hM ▸ d1) s1)
  · cases e
def j_last (pc' : Nat) : aI := fun lo st M => match st with
  | .inr (.inl x) :: .inl i :: .inr (.inr (some a)) :: s => bif (Nat.blt a (a_n M) && Nat.beq (a_K M a) 16) && inb i (a_N M a) then some (.inl (pc', lo, s, s_J M a i.toNatClampNeg x)) else none
  | _ => none
theorem S_lastore {sc : aSc} {cI : Nat → aF} {F : aF} {pc : Nat} (hd : decode F.2.1 pc = .ok (.lastore, 1)) : aS sc cI F pc (j_last (pc + 1)) := aS_n fun lo st M r e => by
  unfold j_last at e
  split at e
  · rename_i x i a s
    obtain ⟨h12, h3, h4⟩ := bandE e (by simp)
    obtain ⟨h1, h2⟩ := (Bool.and_eq_true _ _).mp h12
    cases h4
    refine ⟨_, _, _, _, rfl, aN_wr rfl rfl rfl (fun q g => ⟨vok_t (vok_t (vok_t q)), g⟩) (fun p l e R s m args below meth c H locs cells slots Q ls ad D cy A X hnm hK hE hP hD hS kk => ?_)⟩
    have he := wl_at (cy := cy) (ad := ad) (blt_lt h1)
    rw [wE_J (nbT h2)] at he
    have hM := ast_J (cy := cy) (ad := ad) (j := i.toNatClampNeg) (x := x) (blt_lt h1) (nbT h2)
    exact va_last X.1 X.2.1 hK hP hD hS a 2 he rfl (inb_in h3) hd (fun H1 locs1 p1 d1 s1 => kk H1 locs1 (hM ▸ p1) (hM ▸ d1) s1)
  · cases e
-- new cells
theorem up1_ne {α : Type} {f : Nat → α} {a b : Nat} {v : α} (h : ¬ b = a) : up1 f a v b = f b := by rw [up1_eq, if_neg h]
theorem up1_self {α : Type} {f : Nat → α} {a : Nat} {v : α} : up1 f a v a = v := by rw [up1_eq, if_pos rfl]
theorem wl_new {cy : Nat → ClassId} {ad : Nat → Nat} {M : aM} {c z n q : Nat} (h : wf M) : agr (a_n M) ad (up1 ad (a_n M) q) ∧ wl cy ad M ++ [(q, wE cy (up1 ad (a_n M) q) (a_new M c z n) (a_n M))] = wl cy (up1 ad (a_n M) q) (a_new M c z n) := by
  have ha : agr (a_n M) ad (up1 ad (a_n M) q) := fun j hj => by
    rw [up1_eq, if_neg (fun e => by subst e; rcases hj with g | g; exact Nat.lt_irrefl _ g; exact absurd h.1 (Nat.not_lt.mpr g))]
  refine ⟨ha, ?_⟩
  have hq : up1 ad (a_n M) q (a_n M) = q := by rw [up1_eq, if_pos rfl]
  have e := wl_push (cy := cy) (ad := ad) (ad' := up1 ad (a_n M) q) (M := M) (M' := a_new M c z n) rfl (fun i hi => ha i (Or.inl hi)) (fun b hb => by
    have hne : ¬ b = a_n M := fun e => by rw [e] at hb; exact Nat.lt_irrefl _ hb
    refine wE_cong ?_ ?_ ?_ ?_ (fun j => ?_)
    · exact up1_ne hne
    · exact up1_ne hne
    · exact up1_ne hne
    · exact up1_ne hne
    · rw [show a_P (a_new M c z n) b = a_P M b from up1_ne hne]
      cases hp : a_P M b j with
      | none => rfl
      | some x => show some (up1 ad (a_n M) q x) = some (ad x); rw [ha x (h.2 b j x hp)])
  rw [hq] at e
  exact e
theorem wf_new {M : aM} {c z n : Nat} (h : wf M) (hn : a_n M + 1 < aSB) : wf (a_new M c z n) := ⟨hn, fun i k j e => by
  have e : up1 (a_P M) (a_n M) (fun _ => none) i k = some j := e
  rw [up1_eq] at e
  split at e
  · cases e
  · rcases h.2 i k j e with g | g
    · exact Or.inl (Nat.lt_succ_of_lt g)
    · exact Or.inr g⟩
theorem K_new {M : aM} {c z n : Nat} : a_K (a_new M c z n) (a_n M) = c := up1_self
theorem N_new {M : aM} {c z n : Nat} : a_N (a_new M c z n) (a_n M) = n := up1_self
theorem I_new {M : aM} {c z n : Nat} : a_I (a_new M c z n) (a_n M) = fun _ => 0 := up1_self
theorem J_new {M : aM} {c z n : Nat} : a_J (a_new M c z n) (a_n M) = fun _ => 0 := up1_self
theorem P_new {M : aM} {c z n : Nat} : a_P (a_new M c z n) (a_n M) = fun _ => none := up1_self
/-- a step that makes a cell -/
theorem aN_mk {sc : aSc} {F : aF} {pc : Nat} {lo : aL} {st : List aV} {M : aM} {pc' : Nat} {s' : List aV} {ci z n : Nat} (hb : a_n M + 1 < aSB) (hv : (∀ v ∈ st, vok (a_n M) v) → ∀ v ∈ s', vok (a_n M) v)
    (h : ∀ (p : Program) (l : Launch) (e : Env) (R : Room) (s : State) (m : MethodId) (args : Array Value) (below : List Frame) (meth : Method) (c : Code) (H : Heap) (locs : List Loc) (cells slots : Nat) (Q : State → Prop) (ls : Array Slot) (ad : Nat → Nat) (D : va_G) (cy : Nat → ClassId) (A : Nat → Prop),
      CallFix p m c F.2.1 F.2.2.1 s args TB F.1.cls → va_K D vwCl (tyK cy) s → aNst s → va_P D vwCl (wl cy ad M) H → va_D A (wl cy ad M) → va_S A s.heap H locs → (∀ q, s.heap.size ≤ q → A q) → cells + 1 ≤ R.cells → slots + z ≤ R.slots →
      (∀ (q : Nat) (H1 : Heap) (locs1 : List Loc), va_P D vwCl (wl cy ad M ++ [(q, wE cy (up1 ad (a_n M) q) (a_new M ci z n) (a_n M))]) H1 → va_D A (wl cy ad M ++ [(q, wE cy (up1 ad (a_n M) q) (a_new M ci z n) (a_n M))]) → va_S A s.heap H1 locs1 → W p l e R s m args below meth c H1 locs1 (cells + 1) (slots + z) Q (F0 m pc' ls (.ref q :: s'.map (tv ad)))) → W p l e R s m args below meth c H locs cells slots Q (F0 m pc ls (st.map (tv ad)))) : aN sc F pc lo st M pc' lo (.inr (.inr (some (a_n M))) :: s') (a_new M ci z n) := by
  refine ⟨⟨Nat.le_succ _, Nat.le_succ _, Nat.le_add_right _ _⟩, ?_⟩
  intro p l e R s m args below meth c D cy ad0 M0 Q hX hn0 hc hs hG ad H locs ls ha hW
  obtain ⟨hP, hD, hS, hwf, hl, hvl, hvs⟩ := hW
  have e1 : a_c (a_new M ci z n) - a_c M0 = a_c M - a_c M0 + 1 := by have := hn0.2.1; show a_c M + 1 - a_c M0 = _; omega
  have e2 : a_z (a_new M ci z n) - a_z M0 = a_z M - a_z M0 + z := by have := hn0.2.2; show a_z M + z - a_z M0 = _; omega
  rw [e1] at hc
  rw [e2] at hs
  refine h p l e R s m args below meth c H locs _ _ Q ls ad D cy (aA cy ad0 M0 s) hX.1 hX.2.2.2.2.1 hX.2.2.2.2.2.1.2 hP hD hS (fun q g => Or.inr g) hc hs (fun q H1 locs1 p1 d1 s1 => ?_)
  obtain ⟨g1, g2⟩ := wl_new (cy := cy) (ad := ad) (c := ci) (z := z) (n := n) (q := q) hwf
  rw [g2] at p1 d1
  have hvs' := hv hvs
  have hl' : lo.map (tq (up1 ad (a_n M) q)) = lo.map (tq ad) := List.map_congr_left (fun x hx => by unfold tq; rw [tv_agr g1 (hvl x hx)])
  have hs' : s'.map (tv (up1 ad (a_n M) q)) = s'.map (tv ad) := List.map_congr_left (fun x hx => tv_agr g1 (hvs' x hx))
  have := hG (up1 ad (a_n M) q) H1 locs1 ls (agr_tr hn0.1 ha g1) ⟨p1, d1, s1, wf_new hwf hb, by rw [hl']; exact hl, fun x hx => vok_up (Nat.le_succ _) (hvl x hx), vok_c (fun j e => Or.inl (by cases e; exact Nat.lt_succ_self _)) (fun x hx => vok_up (Nat.le_succ _) (hvs' x hx))⟩
  rw [e1, e2] at this
  have e3 : (.inr (.inr (some (a_n M))) :: s' : List aV).map (tv (up1 ad (a_n M) q)) = .ref q :: s'.map (tv ad) := by
    rw [List.map_cons, hs']
    show va_rf (some (up1 ad (a_n M) q (a_n M))) :: _ = _
    rw [up1_eq, if_pos rfl]
    rfl
  rw [e3] at this
  exact this
def j_new (pc' ci N : Nat) : aI := fun lo st M => bif Nat.blt (a_n M + 1) aSB then some (.inl (pc', lo, .inr (.inr (some (a_n M))) :: st, a_new M ci N 0)) else none
theorem bifE {a : Bool} {α : Type} {x y : α} (h : (bif a then some x else none) = some y) : a = true ∧ y = x := by
  cases a
  · cases h
  · exact ⟨rfl, (Option.some.inj h).symm⟩
def dfv (t : Nat) : Value := match t with
  | 0 => .int 0
  | 1 => .long 0
  | _ => .null
theorem S_new {sc : aSc} {cI : Nat → aF} {F : aF} {pc ci ix : Nat} {C : String} {T : u_T} {N : Nat} {ty : Nat → FieldType} (K : aKl ci C T N ty) (hty : ∀ j t, (lyt ci)[j]? = some t → defaultValue (ty j) = dfv t) (h1 : Cond.classLink F.1.cls ix C ∈ TB) (h2 : Cond.instantiable C N ∈ TB) (h3 : Cond.initialized C ∈ TB) (hd : decode F.2.1 pc = .ok (.new ix, 3)) : aS sc cI F pc (j_new (pc + 3) ci N) := aS_n fun lo st M r e => by
  unfold j_new at e
  obtain ⟨g1, g2⟩ := bifE e
  cases g2
  refine ⟨_, _, _, _, rfl, aN_mk (blt_lt g1) (fun h => h) (fun p l e R s m args below meth c H locs cells slots Q ls ad D cy A X hK hE hP hD hS hA hc hs kk => ?_)⟩
  have hE : ∀ q, wE cy (up1 ad (a_n M) q) (a_new M ci N 0) (a_n M) = .inr (ci, fsv (up1 ad (a_n M) 0) (a_new M ci N 0) (a_n M) 0 (lyt ci)) := fun q => by
    rw [wE_obj K_new K.2.1]
    exact congrArg (fun x => (.inr (ci, x) : va_E)) (fsv_cong (fun k t => by unfold vlt; rw [P_new]; rfl) (lyt ci) 0)
  refine va_new X.1 X.2.1 X.2.2.2.2 K.2.2.1 ty K.2.2.2.1 X.2.2.2.1 (X.2.2.2.2 _ h1) (X.2.2.2.2 _ h2) (X.2.2.2.2 _ h3) hK hP hD hS hA K.1 (fs := fsv (up1 ad (a_n M) 0) (a_new M ci N 0) (a_n M) 0 (lyt ci)) (fun j hj => ?_) hc hs hd (fun q H1 p1 d1 s1 => kk q H1 locs (by rw [hE]; exact p1) (by rw [hE]; exact d1) s1)
  have hj' : j < (lyt ci).length := by rw [K.2.2.2.2.2]; exact hj
  have hjt : (lyt ci)[j]? = some ((lyt ci)[j]) := List.getElem?_eq_getElem hj'
  rw [hty j _ hjt]
  unfold vp_V
  rw [List.getD_eq_getElem?_getD, fsv_at _ _ _ _ hjt]
  show _ = vlt _ _ _ _ _
  unfold vlt dfv
  rw [I_new, J_new, P_new]
  rfl
def j_newa (pc' k : Nat) : aI := fun lo st M => match st with
  | .inl x :: s => bif (!decide (x < 0) && Nat.ble x.toNatClampNeg 1000000) && Nat.blt (a_n M + 1) aSB then some (.inl (pc', lo, .inr (.inr (some (a_n M))) :: s, a_new M k x.toNatClampNeg x.toNatClampNeg)) else none
  | _ => none
theorem newa_go {sc : aSc} {F : aF} {pc k t0 : Nat} {at9 : ArrayType} {ty : FieldType} (hty : newarray.typeOf at9 = ty) (ha : Cond.arrayClass ty ∈ TB) (hb : componentBytes ty ≤ 8) (hk : ∀ cy, (tyK cy)[t0]? = some (cy k, ty)) (hra : ∀ (U : State) (c : ClassId), va_RA U c ty → U.vm.findClass ("[" ++ ty.toString) = some c) (a0 : Nat → vp_A) (ha0 : ∀ (cA : ClassId) (n : Nat), vp_cell cA (a0 n) = arrV cA n (fun _ => defaultValue ty)) (hd : decode F.2.1 pc = .ok (.newarray at9, 2)) {M : aM} {lo : aL} {x : Int32} {s : List aV} (hx : ¬ x < 0) (hn : x.toNatClampNeg ≤ 1000000) (hs : a_n M + 1 < aSB)
    (hE : ∀ (cy : Nat → ClassId) (ad : Nat → Nat), wE cy ad (a_new M k x.toNatClampNeg x.toNatClampNeg) (a_n M) = .inl (cy k, a0 x.toNatClampNeg)) : aN sc F pc lo (.inl x :: s) M (pc + 2) lo (.inr (.inr (some (a_n M))) :: s) (a_new M k x.toNatClampNeg x.toNatClampNeg) := by
  refine aN_mk hs (fun h => vok_t h) (fun p l e R s9 m args below meth c H locs cells slots Q ls ad D cy A X hK hE9 hP hD hS hA hc hz kk => ?_)
  refine va_newa X.1 X.2.1 (hty ▸ X.2.2.2.2 _ ha) hty hK hP hD hS hA (a0 := a0 x.toNatClampNeg) (fun cA => ha0 cA _) hx rfl (Nat.le_trans (Nat.mul_le_mul hn hb) (by decide)) hc hz hd (fun q cA H1 hK1 p1 d1 s1 => ?_)
  have h1 := hra _ _ (hK1.2 (tyK cy).length (cA, ty) (by simp)).2
  have h2 := hra _ _ (hK.2 t0 _ (hk cy)).2
  have h3 : cA = cy k := Option.some.inj (h1.symm.trans h2)
  subst h3
  exact kk q H1 locs (by rw [hE]; exact p1) (by rw [hE]; exact d1) s1
theorem newa_c {k : Nat} {lo : aL} {st : List aV} {M : aM} {pc' : Nat} {r : aR} (e : j_newa pc' k lo st M = some r) : ∃ x s, st = .inl x :: s ∧ ¬ x < 0 ∧ x.toNatClampNeg ≤ 1000000 ∧ a_n M + 1 < aSB ∧ r = .inl (pc', lo, .inr (.inr (some (a_n M))) :: s, a_new M k x.toNatClampNeg x.toNatClampNeg) := by
  unfold j_newa at e
  split at e
  · rename_i x s
    obtain ⟨h12, h3, h4⟩ := bandE e (by simp)
    obtain ⟨h1, h2⟩ := (Bool.and_eq_true _ _).mp h12
    exact ⟨x, s, rfl, of_decide_eq_false (by simpa using h1), Nat.le_of_ble_eq_true h2, blt_lt h3, Option.some.inj h4⟩
  · cases e
theorem S_newI {sc : aSc} {cI : Nat → aF} {F : aF} {pc : Nat} (ha : Cond.arrayClass .int ∈ TB) (hd : decode F.2.1 pc = .ok (.newarray .int, 2)) : aS sc cI F pc (j_newa (pc + 2) 15) := aS_n fun lo st M r e => by
  obtain ⟨x, s, rfl, h1, h2, h3, rfl⟩ := newa_c e
  exact ⟨_, _, _, _, rfl, newa_go (at9 := .int) (ty := .int) (t0 := 1) rfl ha (by decide) (fun _ => rfl) (fun _ _ h => h) (fun n => (n, .inl (fun _ => 0))) (fun _ _ => rfl) hd h1 h2 h3 (fun cy ad => by rw [wE_I K_new (by omega), N_new, I_new])⟩
theorem S_newB {sc : aSc} {cI : Nat → aF} {F : aF} {pc : Nat} (ha : Cond.arrayClass .byte ∈ TB) (hd : decode F.2.1 pc = .ok (.newarray .byte, 2)) : aS sc cI F pc (j_newa (pc + 2) 14) := aS_n fun lo st M r e => by
  obtain ⟨x, s, rfl, h1, h2, h3, rfl⟩ := newa_c e
  exact ⟨_, _, _, _, rfl, newa_go (at9 := .byte) (ty := .byte) (t0 := 0) rfl ha (by decide) (fun _ => rfl) (fun _ _ h => h) (fun n => (n, .inl (fun _ => 0))) (fun _ _ => rfl) hd h1 h2 h3 (fun cy ad => by rw [wE_I K_new (by omega), N_new, I_new])⟩
theorem S_newZ {sc : aSc} {cI : Nat → aF} {F : aF} {pc : Nat} (ha : Cond.arrayClass .boolean ∈ TB) (hd : decode F.2.1 pc = .ok (.newarray .boolean, 2)) : aS sc cI F pc (j_newa (pc + 2) 17) := aS_n fun lo st M r e => by
  obtain ⟨x, s, rfl, h1, h2, h3, rfl⟩ := newa_c e
  exact ⟨_, _, _, _, rfl, newa_go (at9 := .boolean) (ty := .boolean) (t0 := 3) rfl ha (by decide) (fun _ => rfl) (fun _ _ h => h) (fun n => (n, .inl (fun _ => 0))) (fun _ _ => rfl) hd h1 h2 h3 (fun cy ad => by rw [wE_I K_new (by omega), N_new, I_new])⟩
theorem S_newJ {sc : aSc} {cI : Nat → aF} {F : aF} {pc : Nat} (ha : Cond.arrayClass .long ∈ TB) (hd : decode F.2.1 pc = .ok (.newarray .long, 2)) : aS sc cI F pc (j_newa (pc + 2) 16) := aS_n fun lo st M r e => by
  obtain ⟨x, s, rfl, h1, h2, h3, rfl⟩ := newa_c e
  exact ⟨_, _, _, _, rfl, newa_go (at9 := .long) (ty := .long) (t0 := 2) rfl ha (by decide) (fun _ => rfl) (fun _ _ h => h) (fun n => (n, .inr (.inl (fun _ => 0)))) (fun _ _ => rfl) hd h1 h2 h3 (fun cy ad => by rw [wE_J K_new, N_new, J_new])⟩
-- arrays of references
theorem RA_obj {U : State} {c c' : ClassId} {C : String} (h : va_RA U c (.object C)) (h' : va_RA U c' (.object C)) : c = c' := by
  obtain ⟨_, _, _, _, _, g⟩ := h
  obtain ⟨_, _, _, _, _, g'⟩ := h'
  exact Option.some.inj (g.symm.trans g')
def j_newq (pc' : Nat) : aI := fun lo st M => match st with
  | .inl x :: s => bif (!decide (x < 0) && Nat.ble x.toNatClampNeg 1000000) && Nat.blt (a_n M + 1) aSB then some (.inl (pc', lo, .inr (.inr (some (a_n M))) :: s, a_new M 18 x.toNatClampNeg x.toNatClampNeg)) else none
  | _ => none
theorem S_newQ {sc : aSc} {cI : Nat → aF} {F : aF} {pc ix : Nat} (hw : Cond.classLink F.1.cls ix "DeepHole$Bit" ∈ TB) (hd : decode F.2.1 pc = .ok (.anewarray ix, 3)) : aS sc cI F pc (j_newq (pc + 3)) := aS_n fun lo st M r e => by
  unfold j_newq at e
  split at e
  · rename_i x s
    obtain ⟨h12, h3, h4⟩ := bandE e (by simp)
    obtain ⟨h1, h2⟩ := (Bool.and_eq_true _ _).mp h12
    cases h4
    have hx : ¬ x < 0 := of_decide_eq_false (by simpa using h1)
    refine ⟨_, _, _, _, rfl, aN_mk (blt_lt h3) (fun h => vok_t h) (fun p l e R s9 m args below meth c H locs cells slots Q ls ad D cy A X hK hE9 hP hD hS hA hc hz kk => ?_)⟩
    refine va_newq X.1 X.2.1 X.2.2.2.1 (X.2.2.2.2 _ hw) hE9.2.1 hK hP hD hS hA hx rfl (Nat.le_trans (Nat.mul_le_mul_right 4 (Nat.le_of_ble_eq_true h2)) (by decide)) hc hz hd (fun q cA H1 hK1 p1 d1 s1 => ?_)
    have h3 : cA = cy 18 := RA_obj (hK1.2 (tyK cy).length (cA, .object "DeepHole$Bit") (by simp)).2 (hK.2 4 (cy 18, .object "DeepHole$Bit") rfl).2
    subst h3
    have hE : ∀ q, wE cy (up1 ad (a_n M) q) (a_new M 18 x.toNatClampNeg x.toNatClampNeg) (a_n M) = .inl (cy 18, x.toNatClampNeg, .inr (.inr (.inr (.inr (fun _ => none))))) := fun q => by rw [wE_P K_new (by omega), N_new, P_new]; rfl
    exact kk q H1 locs (by rw [hE]; exact p1) (by rw [hE]; exact d1) s1
  · cases e
theorem ast_P {cy : Nat → ClassId} {ad : Nat → Nat} {M : aM} {a k j v : Nat} (ha : a < a_n M) (hk : a_K M a = k) (h3 : k = 18 ∨ k = 19) : (wl cy ad M).set a (ad a, .inl (cy k, a_N M a, .inr (.inr (.inr (.inr (va_up (fun j => (a_P M a j).map ad) j (some (ad v)))))))) = wl cy ad (s_P M a j (some v)) := by
  have e : (.inl (cy k, a_N M a, .inr (.inr (.inr (.inr (va_up (fun j => (a_P M a j).map ad) j (some (ad v))))))) : va_E) = wE cy ad (s_P M a j (some v)) a := by
    rw [wE_P (M := s_P M a j (some v)) hk h3]
    have : (fun i => (a_P (s_P M a j (some v)) a i).map ad) = va_up (fun j => (a_P M a j).map ad) j (some (ad v)) := funext fun i => by
      show (up2 (a_P M) a j (some v) a i).map ad = _
      rw [up2_ownV]
      unfold va_up
      by_cases g : i = j <;> simp [g]
    rw [this]
    rfl
  rw [e]
  exact wl_set rfl ha (fun b hb => wE_cong rfl rfl rfl rfl (fun i => by
    show (up2 (a_P M) a j (some v) b i).map ad = _
    rw [up2_eq, if_neg (fun q => hb q.1)]))
def j_aast (pc' : Nat) : aI := fun lo st M => match st with
  | .inr (.inr (some v)) :: .inl i :: .inr (.inr (some a)) :: s => bif ((Nat.blt a (a_n M) && Nat.beq (a_K M a) 18) && (Nat.blt v (a_n M) && Nat.beq (a_K M v) 1)) && inb i (a_N M a) then some (.inl (pc', lo, s, s_P M a i.toNatClampNeg (some v))) else none
  | _ => none
theorem S_aastore {sc : aSc} {cI : Nat → aF} {F : aF} {pc N : Nat} {T : u_T} {ty : Nat → FieldType} (K : aKl 1 "DeepHole$Bit" T N ty) (hd : decode F.2.1 pc = .ok (.aastore, 1)) : aS sc cI F pc (j_aast (pc + 1)) := aS_n fun lo st M r e => by
  unfold j_aast at e
  split at e
  · rename_i v i a s
    obtain ⟨h12, h3, h4⟩ := bandE e (by simp)
    obtain ⟨h12, h34⟩ := (Bool.and_eq_true _ _).mp h12
    obtain ⟨h1, h2⟩ := (Bool.and_eq_true _ _).mp h12
    obtain ⟨g1, g2⟩ := (Bool.and_eq_true _ _).mp h34
    cases h4
    refine ⟨_, _, _, _, rfl, aN_wr rfl rfl rfl (fun q g => ⟨vok_t (vok_t (vok_t q)), wf_P g (fun j e => by cases e; exact Or.inl (blt_lt g1))⟩) (fun p l e R s m args below meth c H locs cells slots Q ls ad D cy A X hnm hK hE hP hD hS kk => ?_)⟩
    have he := wl_at (cy := cy) (ad := ad) (blt_lt h1)
    rw [wE_P (nbT h2) (by omega)] at he
    have hv := wl_at (cy := cy) (ad := ad) (blt_lt g1)
    rw [wE_obj (nbT g2) K.2.1] at hv
    have hM := ast_P (cy := cy) (ad := ad) (j := i.toNatClampNeg) (v := v) (blt_lt h1) (nbT h2) (by omega)
    exact va_astq X.1 X.2.1 hK hP hD hS a 4 v 1 he (r := ("DeepHole$Bit", T, N)) rfl hv K.1 (inb_in h3) hd (fun H1 locs1 p1 d1 s1 => kk H1 locs1 (hM ▸ p1) (hM ▸ d1) s1)
  · cases e
end
section
/-! Returns, calls. -/
def j_iret (b : Bool) : aI := fun lo st M => match st with
  | [.inl v] => bif !b || isB v then some (.inr (.inr (some (.inl v)))) else none
  | _ => none
def j_lret : aI := fun lo st M => match st with
  | [.inr (.inl v)] => some (.inr (.inr (some (.inr (.inl v)))))
  | _ => none
def j_aret : aI := fun lo st M => match st with
  | [.inr (.inr r)] => some (.inr (.inr (some (.inr (.inr r)))))
  | _ => none
def j_vret : aI := fun lo st M => match st with
  | [] => some (.inr (.inr none))
  | _ => none
theorem aS_t {sc : aSc} {cI : Nat → aF} {F : aF} {pc : Nat} {f : aI} (h : ∀ lo st M x, f lo st M = some x → ∃ r, x = .inr (.inr r) ∧ aT sc F pc lo st M r) : aS sc cI F pc f := by
  intro lo st M
  refine ⟨fun pc' lo' st' M' e => ?_, fun y As rest e => ?_, fun r e => ?_⟩
  · obtain ⟨a, e1, e2⟩ := h lo st M _ e
    cases e1
  · obtain ⟨a, e1, e2⟩ := h lo st M _ e
    cases e1
  · obtain ⟨a, e1, e2⟩ := h lo st M _ e
    cases e1
    exact e2
theorem S_iret {sc : aSc} {cI : Nat → aF} {F : aF} {pc : Nat} {b : Bool} (hr : F.2.2.2 = some (bif b then .boolean else .int)) (hd : decode F.2.1 pc = .ok (.ireturn, 1)) : aS sc cI F pc (j_iret b) := aS_t fun lo st M x e => by
  unfold j_iret at e
  split at e
  · rename_i v
    obtain ⟨h1, h2⟩ := bifE e
    cases h2
    refine ⟨_, rfl, ?_⟩
    intro p l e R s m args below meth c D cy ad0 M0 hX ad H locs ls ha hW
    obtain ⟨hP, hD, hS, hwf, hl, hvl, hvs⟩ := hW
    have hlocks : meth.locks = false := hX.2.2.1
    have hq : ∀ t : State, t.heap = H → s.WarmedH t.vm → aPost D cy ad0 M0 s.heap.size (some (.inl v)) M args s (.returned (some (.int v))) t := fun t ht _ => ⟨⟨ad, ha, rfl, by rw [ht]; exact hP, hD, hwf, fun w e => by cases e; exact vok_i⟩, hS.F ht⟩
    cases b with
    | false => exact W.iret hX.1.1 hX.1.2.1 (hX.2.1.trans hr) hq hS.2.2 hd
    | true => exact W.zret hX.1.1 hX.1.2.1 (hX.2.1.trans hr) (isB_n (by simpa using h1)).1 hq hS.2.2 hd
  · cases e
theorem S_lret {sc : aSc} {cI : Nat → aF} {F : aF} {pc : Nat} (hr : F.2.2.2 = some .long) (hd : decode F.2.1 pc = .ok (.lreturn, 1)) : aS sc cI F pc j_lret := aS_t fun lo st M x e => by
  unfold j_lret at e
  split at e
  · rename_i v
    cases e
    refine ⟨_, rfl, ?_⟩
    intro p l e R s m args below meth c D cy ad0 M0 hX ad H locs ls ha hW
    obtain ⟨hP, hD, hS, hwf, hl, hvl, hvs⟩ := hW
    have hlocks : meth.locks = false := hX.2.2.1
    exact W.lret hX.1.1 hX.1.2.1 (hX.2.1.trans hr) (fun t ht _ => ⟨⟨ad, ha, rfl, by rw [ht]; exact hP, hD, hwf, fun w e => by cases e; exact vok_j⟩, hS.F ht⟩) hS.2.2 hd
  · cases e
theorem S_aret {sc : aSc} {cI : Nat → aF} {F : aF} {pc : Nat} {rt : FieldType} (hr : F.2.2.2 = some rt) (hrt : (∃ n, rt = .object n) ∨ ∃ t, rt = .array t) (hd : decode F.2.1 pc = .ok (.areturn, 1)) : aS sc cI F pc j_aret := aS_t fun lo st M x e => by
  unfold j_aret at e
  split at e
  · rename_i r
    cases e
    refine ⟨_, rfl, ?_⟩
    intro p l e R s m args below meth c D cy ad0 M0 hX ad H locs ls ha hW
    obtain ⟨hP, hD, hS, hwf, hl, hvl, hvs⟩ := hW
    have hlocks : meth.locks = false := hX.2.2.1
    exact W.aret hX.1.1 hX.1.2.1 (hX.2.1.trans hr) hrt (by cases r with | none => exact Or.inl rfl | some a => exact Or.inr ⟨_, rfl⟩) (fun t ht _ => ⟨⟨ad, ha, rfl, by rw [ht]; exact hP, hD, hwf, fun w e => by cases e; exact hvs _ List.mem_cons_self⟩, hS.F ht⟩) hS.2.2 hd
  · cases e
theorem S_vret {sc : aSc} {cI : Nat → aF} {F : aF} {pc : Nat} (hr : F.2.2.2 = none) (hd : decode F.2.1 pc = .ok (.return_, 1)) : aS sc cI F pc j_vret := aS_t fun lo st M x e => by
  unfold j_vret at e
  split at e
  · cases e
    refine ⟨_, rfl, ?_⟩
    intro p l e R s m args below meth c D cy ad0 M0 hX ad H locs ls ha hW
    obtain ⟨hP, hD, hS, hwf, hl, hvl, hvs⟩ := hW
    have hlocks : meth.locks = false := hX.2.2.1
    exact W.vret hX.1.1 hX.1.2.1 (hX.2.1.trans hr) (fun t ht _ => ⟨⟨ad, ha, rfl, by rw [ht]; exact hP, hD, hwf, fun w e => by cases e⟩, hS.F ht⟩) hS.2.2 hd
  · cases e
-- calls
theorem csum_le {ad : Nat → Nat} : ∀ st : List aV, ((st.map (tv ad)).map fun v => v.category).sum = csum st
  | [] => rfl
  | v :: t => by
    rw [List.map_cons, List.map_cons, List.sum_cons, csum_le t, tv_cat]
    rfl
def j_obj (pc' : Nat) : aI := fun lo st M => match st with
  | .inr (.inr (some _)) :: s => bif Nat.ble (csum s) 8 then some (.inl (pc', lo, s, M)) else none
  | _ => none
theorem S_obj {sc : aSc} {cI : Nat → aF} {F : aF} {pc ix : Nat} (h1 : Cond.methodLink F.1.cls ix Lib.objectInit ∈ TB) (h2 : Cond.instanceMethod Lib.objectInit ∈ TB) (h3 : Cond.code Lib.objectInit ⟨#[0xb1]⟩ 1 none ∈ TB) (hd : decode F.2.1 pc = .ok (.invokespecial ix, 3)) : aS sc cI F pc (j_obj (pc + 3)) := aS_n fun lo st M r e => by
  unfold j_obj at e
  split at e
  · rename_i a s
    obtain ⟨g1, g2⟩ := bifE e
    cases g2
    refine ⟨_, _, _, _, rfl, mle_rf, ?_⟩
    intro p l e R s9 m args below meth c D cy ad0 M0 Q hX hn hc hs hG ad H locs ls ha hW
    obtain ⟨hP, hD, hS, hwf, hl, hvl, hvs⟩ := hW
    have hX1 := hX.1
    refine W.objInit hX1.1 hX1.2.1 hX1.2.2.2.1 (hX1.2.2.2.2 _ h1) (hX1.2.2.2.2 _ h2) (hX1.2.2.2.2 _ h3) (g := F0 m pc ls ((.inr (.inr (some a)) :: s : List aV).map (tv ad))) rfl (by rw [hX1.2.2.1]; exact hl.1) rfl hd hX.2.2.2.2.2.2.1 ?_ (hG ad H locs ls ha ⟨hP, hD, hS, hwf, hl, hvl, vok_t hvs⟩)
    have h8 := lv_room (m := m) (pc := pc) (ls := ls) (rest := ((.inr (.inr (some a)) :: s : List aV).map (tv ad))) (st := s.map (tv ad)) (by rw [csum_le]; exact Nat.le_of_ble_eq_true g1)
    exact Nat.le_trans (Nat.add_le_add_right h8 12) hX.2.2.2.2.2.2.2.1
  · cases e
/-- behind a call that ran -/
theorem call_go {F : aF} {pc : Nat} {lo : aL} {st : List aV} {M M' : aM} {rest : List aV} {r : Option aV} {p : Program} {l : Launch} {e : Env} {R : Room} {s : State} {m : MethodId} {args : Array Value} {below : List Frame} {meth : Method} {c : Code} {D : va_G} {cy : Nat → ClassId} {ad0 : Nat → Nat} {M0 : aM} {Q : State → Prop} {ad : Nat → Nat} {H : Heap} {locs : List Loc} {ls : Array Slot} {aa : Array Value}
    (hn0 : mle M0 M) (hn1 : mle M M') (ha : agr (a_n M0) ad0 ad) (hW : aW D cy (aA cy ad0 M0 s) s F.2.2.1 lo st M ad H locs ls) (hrest : ∀ v ∈ rest, vok (a_n M) v)
    (hr : va_Run p l e R s m args below meth c H locs (a_c M - a_c M0) (a_z M - a_z M0) (a_c M' - a_c M) (a_z M' - a_z M) (F0 m pc ls (st.map (tv ad))) (rest.map (tv ad)) (aPost D cy ad M H.size r M' aa) (va_A (wl cy ad M) H.size))
    (hG : aG F p l e R s m args below meth c D cy ad0 M0 Q (pc + 3) lo (psh r rest) M') : W p l e R s m args below meth c H locs (a_c M - a_c M0) (a_z M - a_z M0) Q (F0 m pc ls (st.map (tv ad))) := by
  intro T hT X
  obtain ⟨hP, hD, hS, hwf, hl, hvl, hvs⟩ := hW
  obtain ⟨v, st₀, t, T', L, h0, X', hL, e1, e2, ⟨⟨ad', ha', hv, hP', hD', hwf', hvr⟩, hz, hk⟩, go⟩ := hr T hT X
  rw [h0] at hz hk
  have hv : v = r.map (tv ad') := by injection hv
  have hA : ∀ q : Nat, va_A (wl cy ad M) H.size q → aA cy ad0 M0 s q := fun q h => by
    rcases h with ⟨k, e, he⟩ | h
    · exact hD.2 k (q, e) he
    · exact Or.inr (Nat.le_trans hS.1 h)
  have hl' : lo.map (tq ad') = lo.map (tq ad) := List.map_congr_left (fun x hx => by unfold tq; rw [tv_agr ha' (hvl x hx)])
  have hr' : rest.map (tv ad') = rest.map (tv ad) := List.map_congr_left (fun x hx => tv_agr ha' (hrest x hx))
  have hvp : ∀ w ∈ psh r rest, vok (a_n M') w := by
    cases r with
    | none => exact fun w hw => vok_up hn1.1 (hrest w hw)
    | some x => exact vok_c (hvr x rfl) (fun w hw => vok_up hn1.1 (hrest w hw))
  have hst : (psh r rest).map (tv ad') = v.toList ++ rest.map (tv ad) := by
    rw [hv, ← hr']
    cases r with
    | none => rfl
    | some x => rfl
  have hS' : va_S (aA cy ad0 M0 s) s.heap T'.heap (locs ++ L) := ⟨Nat.le_trans hS.1 (by rw [e1]; exact hz), fun q h1 h2 => by rw [e1, hk q (Nat.lt_of_lt_of_le h1 hS.1) (fun z => h2 (hA q z))]; exact hS.2.1 q h1 h2, fun q hq => by
    rcases List.mem_append.mp hq with h | h
    · exact hS.2.2 q h
    · exact hA _ (hL q h)⟩
  have hw := hG ad' T'.heap (locs ++ L) ls (agr_tr hn0.1 ha ha') ⟨by rw [e1]; exact hP', hD'.weaken (fun _ q _ h => hA q.1 h), hS', hwf', by rw [hl']; exact hl, fun x hx => vok_up hn1.1 (hvl x hx), hvp⟩
  have q1 := hn0.2.1
  have q2 := hn0.2.2
  have q3 := hn1.2.1
  have q4 := hn1.2.2
  rw [hst, show a_c M' - a_c M0 = a_c M - a_c M0 + (a_c M' - a_c M) by omega, show a_z M' - a_z M0 = a_z M - a_z M0 + (a_z M' - a_z M) by omega] at hw
  obtain ⟨t2, a1, b1⟩ := hw T' rfl X'
  exact ⟨t2, go t2 a1, b1⟩
theorem room_ok {M0 M M' : aM} {R : Room} (h0 : mle M0 M) (h1 : mle M M') (hc : a_c M' - a_c M0 ≤ R.cells) (hs : a_z M' - a_z M0 ≤ R.slots) : a_c M - a_c M0 + (a_c M' - a_c M) ≤ R.cells ∧ a_z M - a_z M0 + (a_z M' - a_z M) ≤ R.slots := by
  have q1 := h0.2.1
  have q2 := h0.2.2
  have q3 := h1.2.1
  have q4 := h1.2.2
  exact ⟨by omega, by omega⟩
theorem pre_ok {D : va_G} {cy : Nat → ClassId} {ad ad0 : Nat → Nat} {M M0 : aM} {H : Heap} {s : State} {locs : List Loc} (hP : va_P D vwCl (wl cy ad M) H) (hK : va_K D vwCl (tyK cy) s) (hD : va_D (aA cy ad0 M0 s) (wl cy ad M)) (hS : va_S (aA cy ad0 M0 s) s.heap H locs) (hE : aE ad s) (hZ : aZ ad (aA cy ad0 M0 s) s s.heap) : ∀ U : State, U.heap = H → s.WarmedH U.vm → aPre D cy ad M H.size U := fun U hU hW => ⟨by rw [hU], by rw [hU]; exact hP, va_K.moved hW.alike hK, hD.weaken (fun _ _ _ _ => trivial), hE.warm hW, by
  rw [hU]
  refine ((hZ.kept hS.2.1).moved hW.alike).narrow (fun q h => ?_)
  rcases h with ⟨k, e, he⟩ | h
  · exact hD.2 k (q, e) he
  · exact Or.inr (Nat.le_trans hS.1 h)⟩
theorem pre_blind {D : va_G} {cy : Nat → ClassId} {ad : Nat → Nat} {M : aM} {sz : Nat} {As : List Value} : FrameBlind (va_Pc As (aPre D cy ad M sz)) := fun a U g mk q => by
  obtain ⟨q0, q1, qP, qK, qD, qE, qZ⟩ := q
  exact ⟨q0, q1, qP, va_K.moved (u := U) (U := U.calling g mk a) (Vm.Alike.refl U.vm) qK, qD, aE.same (s := U) (U := U.calling g mk a) rfl qE, aZ.moved (u := U) (U := U.calling g mk a) (Vm.Alike.refl U.vm) qZ⟩
theorem good_TB : GoodIn TB TB := fun w h => ⟨h, good_of_word (List.mem_filter.mp h).2⟩
theorem good_c {w : Cond} {ws : List Cond} (hw : w ∈ TB) (h : GoodIn TB ws) : GoodIn TB (w :: ws) := fun x hx => (List.mem_cons.mp hx).elim (fun e => by rw [e]; exact good_TB w hw) (h x)
/-- what is known of a method that is called -/
def aY (G : aF) (n : Nat) : Prop := Cond.code G.1 G.2.1 G.2.2.1 G.2.2.2 ∈ TB ∧ (G.1.cls ≠ "java/lang/invoke/MethodHandle" ∧ G.1.cls ≠ "java/lang/invoke/VarHandle" ∧ (parseMethodDescriptor G.1.desc).map (fun d => d.parameters.length) = some n) ∧ G.2.2.1 ≤ 41 ∧ Cond.initialized G.1.cls ∈ TB ∧ G.1 ≠ yL_law
def j_callv (y ci n mx : Nat) : aI := fun lo st M => match st.drop n with
  | .inr (.inr (some a)) :: rest => bif (Nat.blt a (a_n M) && Nat.beq (a_K M a) ci) && (Nat.ble (csum rest) 8 && (Nat.beq (st.take n).length n && Nat.ble (csum (.inr (.inr (some a)) :: (st.take n).reverse)) mx)) then some (.inr (.inl (y, .inr (.inr (some a)) :: (st.take n).reverse, rest))) else none
  | _ => none
def j_calls (y n mx : Nat) : aI := fun lo st M => bif Nat.ble (csum (st.drop n)) 8 && (Nat.beq (st.take n).length n && Nat.ble (csum (st.take n).reverse) mx) then some (.inr (.inl (y, (st.take n).reverse, st.drop n))) else none
theorem aS_c {sc : aSc} {cI : Nat → aF} {F : aF} {pc : Nat} {f : aI} (h : ∀ lo st M x, f lo st M = some x → ∃ y As rest, x = .inr (.inl (y, As, rest)) ∧ csum As ≤ (cI y).2.2.1 ∧ (cI y).1 ≠ yL_law ∧ aC sc F (cI y) pc lo st M As rest) : aS sc cI F pc f := by
  intro lo st M
  refine ⟨fun pc' lo' st' M' e => ?_, fun y As rest e => ?_, fun r e => ?_⟩
  · obtain ⟨_, _, _, e1, e2⟩ := h lo st M _ e
    cases e1
  · obtain ⟨_, _, _, e1, e2⟩ := h lo st M _ e
    cases e1
    exact e2
  · obtain ⟨_, _, _, e1, e2⟩ := h lo st M _ e
    cases e1
theorem callv_c {y ci n mx : Nat} {lo : aL} {st : List aV} {M : aM} {x : aR} (e : j_callv y ci n mx lo st M = some x) : ∃ a As rest, st = As.reverse ++ .inr (.inr (some a)) :: rest ∧ As.length = n ∧ a < a_n M ∧ a_K M a = ci ∧ csum rest ≤ 8 ∧ csum (.inr (.inr (some a)) :: As) ≤ mx ∧ x = .inr (.inl (y, .inr (.inr (some a)) :: As, rest)) := by
  unfold j_callv at e
  split at e
  · rename_i a rest hd
    obtain ⟨h12, h34, h5⟩ := bandE e (by simp)
    obtain ⟨h1, h2⟩ := (Bool.and_eq_true _ _).mp h12
    obtain ⟨h3, h4⟩ := (Bool.and_eq_true _ _).mp h34
    obtain ⟨h4, h6⟩ := (Bool.and_eq_true _ _).mp h4
    exact ⟨a, (st.take n).reverse, rest, by rw [List.reverse_reverse, ← hd, List.take_append_drop], by rw [List.length_reverse]; exact nbT h4, blt_lt h1, nbT h2, Nat.le_of_ble_eq_true h3, Nat.le_of_ble_eq_true h6, Option.some.inj h5⟩
  · cases e
theorem calls_c {y n mx : Nat} {lo : aL} {st : List aV} {M : aM} {x : aR} (e : j_calls y n mx lo st M = some x) : ∃ As rest, st = As.reverse ++ rest ∧ As.length = n ∧ csum rest ≤ 8 ∧ csum As ≤ mx ∧ x = .inr (.inl (y, As, rest)) := by
  unfold j_calls at e
  obtain ⟨h3, h4, h5⟩ := bandE e (by simp)
  obtain ⟨h4, h6⟩ := (Bool.and_eq_true _ _).mp h4
  exact ⟨(st.take n).reverse, st.drop n, by rw [List.reverse_reverse, List.take_append_drop], by rw [List.length_reverse]; exact nbT h4, Nat.le_of_ble_eq_true h3, Nat.le_of_ble_eq_true h6, Option.some.inj h5⟩
theorem hR_ok {d : Nat} {maxL : Nat} {R : Room} (hm : maxL ≤ 41) (h1 : d + 2 ≤ R.frames) (h2 : 60 * (d + 1) + 20 ≤ R.locals) : d + 1 + 1 ≤ R.frames ∧ 8 + (maxL + 11) + (60 * d + 20) ≤ R.locals := ⟨h1, by omega⟩
theorem vok_app1 {n : Nat} {a b : List aV} (h : ∀ v ∈ a.reverse ++ b, vok n v) : (∀ v ∈ a, vok n v) ∧ ∀ v ∈ b, vok n v := ⟨fun v hv => h v (List.mem_append_left _ (List.mem_reverse.mpr hv)), fun v hv => h v (List.mem_append_right _ hv)⟩
theorem S_callv {sc : aSc} {cI : Nat → aF} {F : aF} {pc ix y ci n mx : Nat} {C : String} {T : u_T} {N : Nat} {ty : Nat → FieldType} (K : aKl ci C T N ty) (hC : (cI y).1.cls = C) (hy : aY (cI y) n) (h1 : Cond.methodLink F.1.cls ix (cI y).1 ∈ TB) (h2 : Cond.instanceMethod (cI y).1 ∈ TB) (h3 : Cond.selects C (cI y).1 (cI y).1 ∈ TB) (hmx : mx ≤ (cI y).2.2.1) (hd : decode F.2.1 pc = .ok (.invokevirtual ix, 3)) : aS sc cI F pc (j_callv y ci n mx) := aS_c fun lo st M x e => by
  obtain ⟨a, As, rest, rfl, hlen, ha9, hk9, hcs, hca, rfl⟩ := callv_c e
  refine ⟨_, _, _, rfl, Nat.le_trans hca hmx, hy.2.2.2.2, ?_⟩
  intro p l e R s m args below meth c D cy ad0 M0 Q d r M' hX hn0 hn1 hc hs hf hlo hMet hG ad H locs ls ha hW
  have hW9 := hW
  obtain ⟨hP, hD, hS, hwf, hl, hvl, hvs⟩ := hW
  obtain ⟨hv1, hv2⟩ := vok_app1 hvs
  have hMt := hMet ad H.size hwf (vok_c (hv2 _ List.mem_cons_self) hv1)
  have hCI : Cond.initialized C ∈ TB := hC ▸ hy.2.2.2.1
  have he := wl_at (cy := cy) (ad := ad) ha9
  rw [wE_obj hk9 K.2.1] at he
  refine call_go (aa := (Value.ref (ad a) :: As.map (tv ad)).toArray) hn0 hn1 ha hW9 (vok_t hv2) ?_ hG
  exact va_runV (As := As.map (tv ad)) (b := ad a) (C := C) hX.1 hMt
    (cwV n hX.1.2.2.2.2 (good_c h1 (good_c h2 (good_c h3 (good_c hCI (good_c hy.1 good_TB))))) rfl rfl rfl ⟨hC, hy.2.1⟩ (hR_ok hy.2.2.1 hf hlo))
    ⟨pre_blind, va_recv hX.2.2.2.2.1 hP K.1 he, fun U hU hW => ⟨rfl, pre_ok hP hX.2.2.2.2.1 hD hS (hX.2.2.2.2.2.1.agr ha) (hX.2.2.2.2.2.2.2.2.1.agr ha) U hU hW⟩⟩
    rfl (by rw [List.length_map]; exact hlen) hl.1 (by show List.map _ _ = _; rw [List.map_append, List.map_reverse]; rfl) (lv_room (by rw [csum_le]; exact hcs)) hd (room_ok hn0 hn1 hc hs)
theorem S_calls {sc : aSc} {cI : Nat → aF} {F : aF} {pc ix y n mx : Nat} (hy : aY (cI y) n) (h1 : Cond.methodLink F.1.cls ix (cI y).1 ∈ TB) (h2 : Cond.static (cI y).1 ∈ TB) (hmx : mx ≤ (cI y).2.2.1) (hd : decode F.2.1 pc = .ok (.invokestatic ix, 3)) : aS sc cI F pc (j_calls y n mx) := aS_c fun lo st M x e => by
  obtain ⟨As, rest, rfl, hlen, hcs, hca, rfl⟩ := calls_c e
  refine ⟨_, _, _, rfl, Nat.le_trans hca hmx, hy.2.2.2.2, ?_⟩
  intro p l e R s m args below meth c D cy ad0 M0 Q d r M' hX hn0 hn1 hc hs hf hlo hMet hG ad H locs ls ha hW
  have hW9 := hW
  obtain ⟨hP, hD, hS, hwf, hl, hvl, hvs⟩ := hW
  obtain ⟨hv1, hv2⟩ := vok_app1 hvs
  have hMt := hMet ad H.size hwf hv1
  refine call_go (aa := (As.map (tv ad)).toArray) hn0 hn1 ha hW9 hv2 ?_ hG
  exact va_runS (As := As.map (tv ad)) hX.1 hMt
    (va_cwS n hX.1.2.2.2.2 (good_c h1 (good_c h2 (good_c hy.2.2.2.1 (good_c hy.1 good_TB)))) rfl rfl rfl hy.2.1 (hR_ok hy.2.2.1 hf hlo))
    ⟨pre_blind, fun U hU hW => ⟨rfl, pre_ok hP hX.2.2.2.2.1 hD hS (hX.2.2.2.2.2.1.agr ha) (hX.2.2.2.2.2.2.2.2.1.agr ha) U hU hW⟩⟩
    rfl (by rw [List.length_map]; exact hlen) hl.1 (by show List.map _ _ = _; rw [List.map_append, List.map_reverse]) (lv_room (by rw [csum_le]; exact hcs)) hd (room_ok hn0 hn1 hc hs)
theorem S_callsN {sc : aSc} {cI : Nat → aF} {F : aF} {pc ix y n mx : Nat} {host : String} (hy : aY (cI y) n) (h1 : Cond.methodLinkNest F.1.cls ix (cI y).1 host ∈ NW) (h2 : Cond.static (cI y).1 ∈ TB) (hmx : mx ≤ (cI y).2.2.1) (hd : decode F.2.1 pc = .ok (.invokestatic ix, 3)) : aS sc cI F pc (j_calls y n mx) := aS_c fun lo st M x e => by
  obtain ⟨As, rest, rfl, hlen, hcs, hca, rfl⟩ := calls_c e
  refine ⟨_, _, _, rfl, Nat.le_trans hca hmx, hy.2.2.2.2, ?_⟩
  intro p l e R s m args below meth c D cy ad0 M0 Q d r M' hX hn0 hn1 hc hs hf hlo hMet hG ad H locs ls ha hW
  have hW9 := hW
  obtain ⟨hP, hD, hS, hwf, hl, hvl, hvs⟩ := hW
  obtain ⟨hv1, hv2⟩ := vok_app1 hvs
  have hMt := hMet ad H.size hwf hv1
  refine call_go (aa := (As.map (tv ad)).toArray) hn0 hn1 ha hW9 hv2 ?_ hG
  exact va_runSN (As := As.map (tv ad)) hX.1 hMt
    ⟨va_cnB n hX.1.2.2.2.2 (good_c hy.1 good_TB) rfl rfl rfl (hX.2.2.2.2.2.1.2.1 _ h1) (hX.1.2.2.2.2 _ hy.2.2.2.1) hy.2.1 (hR_ok hy.2.2.1 hf hlo), hX.1.2.2.2.2 _ h2, trivial⟩
    ⟨pre_blind, fun U hU hW => ⟨rfl, pre_ok hP hX.2.2.2.2.1 hD hS (hX.2.2.2.2.2.1.agr ha) (hX.2.2.2.2.2.2.2.2.1.agr ha) U hU hW⟩⟩
    rfl (by rw [List.length_map]; exact hlen) hl.1 (by show List.map _ _ = _; rw [List.map_append, List.map_reverse]) (lv_room (by rw [csum_le]; exact hcs)) hd (room_ok hn0 hn1 hc hs)
theorem S_calli {sc : aSc} {cI : Nat → aF} {F : aF} {pc ix y ci n mx : Nat} (hy : aY (cI y) n) (hr : (cI y).2.2.2 = none) (hi : (cI y).1.name = "<init>") (h1 : Cond.methodLink F.1.cls ix (cI y).1 ∈ TB) (h2 : Cond.instanceMethod (cI y).1 ∈ TB) (hmx : mx ≤ (cI y).2.2.1) (hd : decode F.2.1 pc = .ok (.invokespecial ix, 3)) : aS sc cI F pc (j_callv y ci n mx) := aS_c fun lo st M x e => by
  obtain ⟨a, As, rest, rfl, hlen, ha9, hk9, hcs, hca, rfl⟩ := callv_c e
  refine ⟨_, _, _, rfl, Nat.le_trans hca hmx, hy.2.2.2.2, ?_⟩
  intro p l e R s m args below meth c D cy ad0 M0 Q d r M' hX hn0 hn1 hc hs hf hlo hMet hG ad H locs ls ha hW
  have hW9 := hW
  obtain ⟨hP, hD, hS, hwf, hl, hvl, hvs⟩ := hW
  obtain ⟨hv1, hv2⟩ := vok_app1 hvs
  have hMt := hMet ad H.size hwf (vok_c (hv2 _ List.mem_cons_self) hv1)
  refine call_go (aa := (Value.ref (ad a) :: As.map (tv ad)).toArray) hn0 hn1 ha hW9 (vok_t hv2) ?_ hG
  exact va_runI (As := As.map (tv ad)) (b := ad a) hX.1 hMt
    (cwI n hX.1.2.2.2.2 (good_c hy.1 good_TB) (by rw [hr]) rfl rfl (hX.1.2.2.2.2 _ hy.2.2.2.1) (hX.1.2.2.2.2 _ h1) (hX.1.2.2.2.2 _ h2) hi hy.2.1 (hR_ok hy.2.2.1 hf hlo))
    ⟨pre_blind, fun U hU hW => ⟨rfl, pre_ok hP hX.2.2.2.2.1 hD hS (hX.2.2.2.2.2.1.agr ha) (hX.2.2.2.2.2.2.2.2.1.agr ha) U hU hW⟩⟩
    rfl (by rw [List.length_map]; exact hlen) hl.1 (by show List.map _ _ = _; rw [List.map_append, List.map_reverse]; rfl) (lv_room (by rw [csum_le]; exact hcs)) hd (room_ok hn0 hn1 hc hs)
theorem S_calliN {sc : aSc} {cI : Nat → aF} {F : aF} {pc ix y ci n mx : Nat} {host : String} (hy : aY (cI y) n) (hr : (cI y).2.2.2 = none) (hi : (cI y).1.name = "<init>") (h1 : Cond.methodLinkNest F.1.cls ix (cI y).1 host ∈ NW) (h2 : Cond.instanceMethod (cI y).1 ∈ TB) (hmx : mx ≤ (cI y).2.2.1) (hd : decode F.2.1 pc = .ok (.invokespecial ix, 3)) : aS sc cI F pc (j_callv y ci n mx) := aS_c fun lo st M x e => by
  obtain ⟨a, As, rest, rfl, hlen, ha9, hk9, hcs, hca, rfl⟩ := callv_c e
  refine ⟨_, _, _, rfl, Nat.le_trans hca hmx, hy.2.2.2.2, ?_⟩
  intro p l e R s m args below meth c D cy ad0 M0 Q d r M' hX hn0 hn1 hc hs hf hlo hMet hG ad H locs ls ha hW
  have hW9 := hW
  obtain ⟨hP, hD, hS, hwf, hl, hvl, hvs⟩ := hW
  obtain ⟨hv1, hv2⟩ := vok_app1 hvs
  have hMt := hMet ad H.size hwf (vok_c (hv2 _ List.mem_cons_self) hv1)
  refine call_go (aa := (Value.ref (ad a) :: As.map (tv ad)).toArray) hn0 hn1 ha hW9 (vok_t hv2) ?_ hG
  exact va_runIN (As := As.map (tv ad)) (b := ad a) hX.1 hMt
    ⟨va_cnB n hX.1.2.2.2.2 (good_c hy.1 good_TB) (by rw [hr]) rfl rfl (hX.2.2.2.2.2.1.2.1 _ h1) (hX.1.2.2.2.2 _ hy.2.2.2.1) hy.2.1 (hR_ok hy.2.2.1 hf hlo), hi, hX.1.2.2.2.2 _ h2⟩
    ⟨pre_blind, fun U hU hW => ⟨rfl, pre_ok hP hX.2.2.2.2.1 hD hS (hX.2.2.2.2.2.1.agr ha) (hX.2.2.2.2.2.2.2.2.1.agr ha) U hU hW⟩⟩
    rfl (by rw [List.length_map]; exact hlen) hl.1 (by show List.map _ _ = _; rw [List.map_append, List.map_reverse]; rfl) (lv_room (by rw [csum_le]; exact hcs)) hd (room_ok hn0 hn1 hc hs)
end
section
/-! Runs. -/
def la : Nat → List aV → aL
  | _, [] => []
  | i, v :: vs => (i, v) :: la (i + cat v) vs
def exec (cd : Nat → Nat → Option aI) : Nat → Nat → Nat → Nat → aL → List aV → aM → Option (Option aV × aM)
  | 0, _, _, _, _, _, _ => none
  | f + 1, d, mid, pc, lo, st, M => match cd mid pc with
    | none => none
    | some i => match i lo st M with
      | none => none
      | some (.inl (pc', lo', st', M')) => exec cd f d mid pc' lo' st' M'
      | some (.inr (.inl (y, As, rest))) => match d with
        | 0 => none
        | d' + 1 => match exec cd f d' y 0 (la 0 As) [] M with
          | none => none
          | some (r, M') => exec cd f (d' + 1) mid (pc + 3) lo (psh r rest) M'
      | some (.inr (.inr r)) => some (r, M)
theorem la_args {ad : Nat → Nat} : ∀ (As : List aV) (i : Nat), lv_args i (As.map (tv ad)) = (la i As).map (tq ad)
  | [], _ => rfl
  | v :: vs, i => by
    show (i, tv ad v) :: lv_args (if (tv ad v).category = 2 then i + 2 else i + 1) (vs.map (tv ad)) = (i, tv ad v) :: (la (i + cat v) vs).map (tq ad)
    rw [← la_args vs (i + cat v), tv_cat]
    congr 2
    unfold cat
    cases isL v <;> rfl
theorem la_len {ad : Nat → Nat} : ∀ As : List aV, (lg_sl (As.map (tv ad))).length = csum As
  | [] => rfl
  | v :: vs => by
    have := la_len (ad := ad) vs
    unfold lg_sl at this ⊢
    rw [List.map_cons, List.flatMap_cons, List.length_append, this, tv_cat]
    show _ = cat v + csum vs
    congr 1
    unfold cat
    cases isL v <;> rfl
theorem la_mem {q : Nat × aV} : ∀ {As : List aV} {i : Nat}, q ∈ la i As → q.2 ∈ As
  | [], _, h => by simp [la] at h
  | v :: vs, i, h => by
    rcases List.mem_cons.mp h with e | h
    · rw [e]; exact List.mem_cons_self
    · exact List.mem_cons_of_mem _ (la_mem h)
set_option maxHeartbeats 4000000 in
theorem met_of {sc : aSc} {l : Launch} {G : aF} {d : Nat} {D : va_G} {cy : Nat → ClassId} {M : aM} {As : List aV} {r : Option aV} {M' : aM} (hpl : plainFor G.1 = true) (hnl : G.1 ≠ yL_law) (hcs : csum As ≤ G.2.2.1)
    (h : ∀ (p : Program) (e : Env) (R : Room) (s : State) (m : MethodId) (args : Array Value) (below : List Frame) (meth : Method) (c : Code) (ad0 : Nat → Nat), aX sc l G p R s m args meth c D cy ad0 M → d + 1 ≤ R.frames → 60 * d + 20 ≤ R.locals → a_c M' - a_c M ≤ R.cells → a_z M' - a_z M ≤ R.slots →
      aG G p l e R s m args below meth c D cy ad0 M (MQ below (aPost D cy ad0 M s.heap.size r M') args s (a_c M' - a_c M) (a_z M' - a_z M) (aA cy ad0 M s)) 0 (la 0 As) [] M) : aMet l G d D cy M As r M' := by
  intro ad sz hwf hvA
  refine va_MetF (cc := G.2.1) (maxL := G.2.2.1) (ret := G.2.2.2) hpl rfl ?_
  intro p e s m args below meth c s₁ B hml hv
  obtain ⟨rfl, hsz, hP, hK, hD0, hE, hZ⟩ := hv
  subst hsz
  have hts := atoms_spec (ws := .code G.1 G.2.1 G.2.2.1 G.2.2.2 :: TB) B.pre
  have hX : aX sc l G p { frames := d + 1, cells := a_c M' - a_c M, slots := a_z M' - a_z M, locals := 60 * d + 20 } s m _ meth c D cy ad M := ⟨⟨B.exec, B.bytes, hml, findClass_of_methodNamed B.named, fun w hw => hts w (List.mem_cons_of_mem _ hw)⟩, B.returns, B.notSynchronized, fun e => ((name_of_methodNamed B.named B.method).1).trans e, hK, hE, Nat.le_add_left _ _, Nat.le_add_left _ _, hZ, fun e => absurd e hnl⟩
  have hl := lv_entry (As.map (tv ad)) (n := G.2.2.1) (by rw [la_len]; exact hcs)
  rw [la_args] at hl
  rw [lg_entry_eq]
  have hw := h p e { frames := d + 1, cells := a_c M' - a_c M, slots := a_z M' - a_z M, locals := 60 * d + 20 } s m _ below meth c ad hX (Nat.le_refl _) (Nat.le_refl _) (Nat.le_refl _) (Nat.le_refl _) ad s.heap [] _ agr_rf ⟨hP, hD0.self, va_S.rf, hwf, hl, fun q hq => hvA _ (la_mem hq), fun _ h => nomatch h⟩
  rw [Nat.sub_self, Nat.sub_self] at hw
  exact hw
set_option maxHeartbeats 4000000 in
theorem snd_exec {sc : aSc} {cd : Nat → Nat → Option aI} {cI : Nat → aF} (hcd : ∀ mid pc i, cd mid pc = some i → aS sc cI (cI mid) pc i) (hpl : ∀ mid pc i, cd mid pc = some i → plainFor (cI mid).1 = true) : ∀ (f d mid pc : Nat) (lo : aL) (st : List aV) (M : aM) (r : Option aV) (M' : aM), exec cd f d mid pc lo st M = some (r, M') →
    mle M M' ∧ ∀ (p : Program) (l : Launch) (e : Env) (R : Room) (s : State) (m : MethodId) (args : Array Value) (below : List Frame) (meth : Method) (c : Code) (D : va_G) (cy : Nat → ClassId) (ad0 : Nat → Nat) (M0 : aM), aX sc l (cI mid) p R s m args meth c D cy ad0 M0 → d + 1 ≤ R.frames → 60 * d + 20 ≤ R.locals → mle M0 M → a_c M' - a_c M0 ≤ R.cells → a_z M' - a_z M0 ≤ R.slots →
      aG (cI mid) p l e R s m args below meth c D cy ad0 M0 (MQ below (aPost D cy ad0 M0 s.heap.size r M') args s (a_c M' - a_c M0) (a_z M' - a_z M0) (aA cy ad0 M0 s)) pc lo st M := by
  intro f
  induction f with
  | zero => intro d mid pc lo st M r M' h; cases h
  | succ f ih =>
    intro d mid pc lo st M r M' h
    unfold exec at h
    split at h
    · cases h
    · rename_i i hi
      obtain ⟨s1, s2, s3⟩ := hcd mid pc i hi lo st M
      split at h
      · cases h
      · rename_i pc' lo' st' M1 he
        obtain ⟨g1, g3⟩ := ih d mid pc' lo' st' M1 r M' h
        obtain ⟨k1, k3⟩ := s1 _ _ _ _ he
        refine ⟨mle_tr k1 g1, ?_⟩
        intro p l e R s m args below meth c D cy ad0 M0 hX hf hlo hn0 hc hs
        have q1 := g1.2.1
        have q2 := g1.2.2
        exact k3 p l e R s m args below meth c D cy ad0 M0 _ hX hn0 (by omega) (by omega) (g3 p l e R s m args below meth c D cy ad0 M0 hX hf hlo (mle_tr hn0 k1) hc hs)
      · rename_i y As rest he
        obtain ⟨k0, k9, k1⟩ := s2 _ _ _ he
        split at h
        · cases h
        · rename_i d'
          split at h
          · cases h
          · rename_i r1 M1 he1
            obtain ⟨g1, g3⟩ := ih d' y 0 (la 0 As) [] M r1 M1 he1
            obtain ⟨q1, q3⟩ := ih (d' + 1) mid (pc + 3) lo (psh r1 rest) M1 r M' h
            refine ⟨mle_tr g1 q1, ?_⟩
            intro p l e R s m args below meth c D cy ad0 M0 hX hf hlo hn0 hc hs
            have hy : ∃ i9, cd y 0 = some i9 := by
              cases f with
              | zero => cases he1
              | succ f =>
                unfold exec at he1
                split at he1
                · cases he1
                · rename_i i9 h9
                  exact ⟨i9, h9⟩
            obtain ⟨i9, h9⟩ := hy
            have z1 := q1.2.1
            have z2 := q1.2.2
            exact k1 p l e R s m args below meth c D cy ad0 M0 _ d' r1 M1 hX hn0 g1 (by omega) (by omega) (by omega) (by omega)
              (met_of (sc := sc) (hpl y 0 i9 h9) k9 k0 (fun p e R s m args below meth c ad0 a1 a2 a3 a4 a5 => g3 p l e R s m args below meth c D cy ad0 M a1 a2 a3 mle_rf a4 a5))
              (q3 p l e R s m args below meth c D cy ad0 M0 hX hf hlo (mle_tr hn0 (mle_tr g1 mle_rf)) hc hs)
      · rename_i r1 he
        cases h
        refine ⟨mle_rf, ?_⟩
        intro p l e R s m args below meth c D cy ad0 M0 hX hf hlo hn0 hc hs
        exact s3 _ he p l e R s m args below meth c D cy ad0 M0 hX
/-- a method's contract out of a run -/
theorem exec_met {sc : aSc} {cd : Nat → Nat → Option aI} {cI : Nat → aF} (hcd : ∀ mid pc i, cd mid pc = some i → aS sc cI (cI mid) pc i) (hpl : ∀ mid pc i, cd mid pc = some i → plainFor (cI mid).1 = true) {f d y : Nat} {As : List aV} {M : aM} {r : Option aV} {M' : aM} (h : exec cd f d y 0 (la 0 As) [] M = some (r, M')) (hcs : csum As ≤ (cI y).2.2.1) (hp : plainFor (cI y).1 = true) (hnl : (cI y).1 ≠ yL_law) (l : Launch) (D : va_G) (cy : Nat → ClassId) : mle M M' ∧ aMet l (cI y) d D cy M As r M' := by
  obtain ⟨g1, g3⟩ := snd_exec hcd hpl f d y 0 (la 0 As) [] M r M' h
  exact ⟨g1, met_of (sc := sc) hp hnl hcs (fun p e R s m args below meth c ad0 a1 a2 a3 a4 a5 => g3 p l e R s m args below meth c D cy ad0 M a1 a2 a3 mle_rf a4 a5)⟩
end
section
/-! Texts, the script, arrays of arrays. -/
theorem ldcw_str {p : Program} {l : Launch} {e : Env} {R : Room} {s : State} {m : MethodId} {args : Array Value} {below : List Frame} {meth : Method} {c : Code} {T : State} {locs : List Loc} {cells slots : Nat}
    (X : Stand p l e R s m args below meth c T locs cells slots) (hexec : p.tables.exec = Jvm.exec) {own text : String} {index : Nat} {a : Addr} (hown : s.vm.findClass own = some m.cls)
    (hconst : (Cond.stringRef own index text).before args s = true) (hev : (Term.string own index).eval args s none [] s = some (.ref a)) {g : JFrame} (hg : g.method = m) (hdg : decode c.code g.pc = .ok (.ldc_w index, 3)) :
    ∀ target, Steps p.tables e below (T.setTop { g with pc := g.pc + 3, stack := .ref a :: g.stack }) target → Steps p.tables e below (T.setTop g) target := by
  obtain ⟨k, cf, i, a', hk, hcf, hcp, -, hr, hev'⟩ := Cond.stringRef_spec hown hconst
  cases hev.symm.trans hev'
  obtain ⟨k', hk', he⟩ := X.warmed.alike.2.2 _ _ hk
  have hr' : k'.resolved[index]? = some (some (.string a)) := by
    rcases X.warmed.entry hk hk' index with h | ⟨h, -⟩
    · rw [h]; exact hr
    · rw [hr] at h; cases h
  intro target hrest
  subst hg
  jvm_step X.here [hexec, hdg, ldc_w.wp_string (e := e) (s := T) (f := g) X.here.top hk' (by rw [he]; exact hcf) hcp hr']
  exact hrest
def j_str (pc' id : Nat) : aI := fun lo st M => some (.inl (pc', lo, .inr (.inr (some (aSB + id))) :: st, M))
theorem S_ldcS {sc : aSc} {cI : Nat → aF} {F : aF} {pc ix id : Nat} {tx : String} (hq : (F.1.cls, ix, tx, id) ∈ strT) (hd : decode F.2.1 pc = .ok (.ldc ix, 2)) : aS sc cI F pc (j_str (pc + 2) id) := aS_n fun lo st M r e => by
  cases e
  refine ⟨_, _, _, _, rfl, mle_rf, ?_⟩
  intro p l e R s m args below meth c D cy ad0 M0 Q hX hn hc hs hG ad H locs ls ha hW
  obtain ⟨hP, hD, hS, hwf, hl, hvl, hvs⟩ := hW
  have hw := hG ad H locs ls ha ⟨hP, hD, hS, hwf, hl, hvl, vok_c (fun j e => Or.inr (by cases e; exact Nat.le_add_right _ _)) hvs⟩
  have hz9 := hX.2.2.2.2.2.1.1 _ hq
  rw [List.map_cons, show tv ad (.inr (.inr (some (aSB + id)))) = .ref (ad0 (aSB + id)) from by rw [← ha _ (Or.inr (Nat.le_add_right _ _))]; rfl] at hw
  exact va_ldcS hX.1.1 hX.1.2.1 hX.1.2.2.2.1 hz9 hd hw
theorem S_ldcwS {sc : aSc} {cI : Nat → aF} {F : aF} {pc ix id : Nat} {tx : String} (hq : (F.1.cls, ix, tx, id) ∈ strT) (hd : decode F.2.1 pc = .ok (.ldc_w ix, 3)) : aS sc cI F pc (j_str (pc + 3) id) := aS_n fun lo st M r e => by
  cases e
  refine ⟨_, _, _, _, rfl, mle_rf, ?_⟩
  intro p l e R s m args below meth c D cy ad0 M0 Q hX hn hc hs hG ad H locs ls ha hW
  obtain ⟨hP, hD, hS, hwf, hl, hvl, hvs⟩ := hW
  have hw := hG ad H locs ls ha ⟨hP, hD, hS, hwf, hl, hvl, vok_c (fun j e => Or.inr (by cases e; exact Nat.le_add_right _ _)) hvs⟩
  have hz9 := hX.2.2.2.2.2.1.1 _ hq
  rw [List.map_cons, show tv ad (.inr (.inr (some (aSB + id)))) = .ref (ad0 (aSB + id)) from by rw [← ha _ (Or.inr (Nat.le_add_right _ _))]; rfl] at hw
  intro T hT X9
  obtain ⟨t, a1, b1⟩ := hw T hT X9
  exact ⟨t, ldcw_str X9 hX.1.1 hX.1.2.2.2.1 (text := tx) hz9.1 hz9.2 (g := F0 m pc ls (st.map (tv ad))) rfl (by rw [hX.1.2.1]; exact hd) t a1, b1⟩
-- the script
def j_sld (sc : aSc) (pc' : Nat) : aI := fun lo st M => match st with
  | .inl i :: .inr (.inr (some a)) :: s => bif Nat.beq a aXS && inb i sc.1 then some (.inl (pc', lo, .inl (sc.2 i.toNatClampNeg) :: s, M)) else none
  | _ => none
theorem S_sld {sc : aSc} {cI : Nat → aF} {F : aF} {pc : Nat} (hF : F.1 = yL_law) (hd : decode F.2.1 pc = .ok (.iaload, 1)) : aS sc cI F pc (j_sld sc (pc + 1)) := aS_n fun lo st M r e => by
  unfold j_sld at e
  split at e
  · rename_i i a s
    obtain ⟨h1, h2, h3⟩ := bandE e (by simp)
    cases h3
    have := nbT h1
    subst this
    refine ⟨_, _, _, _, rfl, mle_rf, ?_⟩
    intro p l e R s9 m args below meth c D cy ad0 M0 Q hX hn hc hs hG ad H locs ls ha hW
    obtain ⟨hP, hD, hS, hwf, hl, hvl, hvs⟩ := hW
    have hw := hG ad H locs ls ha ⟨hP, hD, hS, hwf, hl, hvl, vok_c vok_i (vok_t (vok_t hvs))⟩
    obtain ⟨x1, x2, x3, -⟩ := hX.2.2.2.2.2.2.2.2.2 hF
    have e1 : (.inl i :: .inr (.inr (some aXS)) :: s : List aV).map (tv ad) = .int i :: .ref (ad0 aXS) :: s.map (tv ad) := by
      rw [List.map_cons, List.map_cons, show tv ad (.inr (.inr (some aXS))) = .ref (ad0 aXS) from by rw [← ha aXS (Or.inr (Nat.le_add_right _ _))]; rfl]
      rfl
    rw [e1]
    exact va_sld hX.1.1 hX.1.2.1 x1 x2 x3 hS (inb_in h2) hd hw
  · cases e
def j_slen (sc : aSc) (pc' : Nat) : aI := fun lo st M => match st with
  | .inr (.inr (some a)) :: s => bif Nat.beq a aXS then some (.inl (pc', lo, .inl (Int32.ofNat sc.1) :: s, M)) else none
  | _ => none
theorem S_slen {sc : aSc} {cI : Nat → aF} {F : aF} {pc : Nat} (hF : F.1 = yL_law) (hd : decode F.2.1 pc = .ok (.arraylength, 1)) : aS sc cI F pc (j_slen sc (pc + 1)) := aS_n fun lo st M r e => by
  unfold j_slen at e
  split at e
  · rename_i a s
    obtain ⟨h1, h3⟩ := bifE e
    cases h3
    have := nbT h1
    subst this
    refine ⟨_, _, _, _, rfl, mle_rf, ?_⟩
    intro p l e R s9 m args below meth c D cy ad0 M0 Q hX hn hc hs hG ad H locs ls ha hW
    obtain ⟨hP, hD, hS, hwf, hl, hvl, hvs⟩ := hW
    have hw := hG ad H locs ls ha ⟨hP, hD, hS, hwf, hl, hvl, vok_c vok_i (vok_t hvs)⟩
    obtain ⟨x1, x2, x3, -⟩ := hX.2.2.2.2.2.2.2.2.2 hF
    have e1 : (.inr (.inr (some aXS)) :: s : List aV).map (tv ad) = .ref (ad0 aXS) :: s.map (tv ad) := by
      rw [List.map_cons, show tv ad (.inr (.inr (some aXS))) = .ref (ad0 aXS) from by rw [← ha aXS (Or.inr (Nat.le_add_right _ _))]; rfl]
    rw [e1]
    exact va_slen hX.1.1 hX.1.2.1 x1 x2 x3 hS hd hw
  · cases e
-- new int[n][k]
def inr9 (b n i : Nat) : Bool := Nat.blt b i && Nat.blt i (b + 1 + n)
def m3 {α : Type} (b n : Nat) (x y : α) (f : Nat → α) : Nat → α := fun i => bif Nat.beq i b then x else bif inr9 b n i then y else f i
theorem m3_0 {α : Type} {b n : Nat} {x y : α} {f : Nat → α} : m3 b n x y f b = x := by unfold m3; rw [Nat.beq_refl]; rfl
theorem m3_1 {α : Type} {b n j : Nat} {x y : α} {f : Nat → α} (h : j < n) : m3 b n x y f (b + 1 + j) = y := by
  unfold m3 inr9
  rw [nbF (by omega)]
  have h1 : Nat.blt b (b + 1 + j) = true := Nat.ble_eq_true_of_le (by omega)
  have h2 : Nat.blt (b + 1 + j) (b + 1 + n) = true := Nat.ble_eq_true_of_le (by omega)
  rw [h1, h2]
  rfl
theorem m3_2 {α : Type} {b n i : Nat} {x y : α} {f : Nat → α} (h : i < b ∨ b + 1 + n ≤ i) : m3 b n x y f i = f i := by
  unfold m3 inr9
  rw [nbF (by omega)]
  cases h1 : Nat.blt b i with
  | false => rfl
  | true =>
    cases h2 : Nat.blt i (b + 1 + n) with
    | false => rfl
    | true =>
      have := blt_lt h1
      have := blt_lt h2
      omega
def a_mna (M : aM) (n k : Nat) : aM := (M.1 + 1 + n, M.2.1 + n + n * k, M.2.2.1 + 1 + n, m3 M.1 n 19 15 M.2.2.2.1, m3 M.1 n n k M.2.2.2.2.1, m3 M.1 n (fun _ => 0) (fun _ => 0) M.2.2.2.2.2.1, m3 M.1 n (fun _ => 0) (fun _ => 0) M.2.2.2.2.2.2.1, m3 M.1 n (fun j => bif Nat.blt j n then some (M.1 + 1 + j) else none) (fun _ => none) M.2.2.2.2.2.2.2)
def ad_m (ad : Nat → Nat) (b n q : Nat) (r : Nat → Nat) : Nat → Nat := fun i => bif Nat.beq i b then q else bif inr9 b n i then r (i - (b + 1)) else ad i
theorem ad_m0 {ad : Nat → Nat} {b n q : Nat} {r : Nat → Nat} : ad_m ad b n q r b = q := by unfold ad_m; rw [Nat.beq_refl]; rfl
theorem ad_m1 {ad : Nat → Nat} {b n q j : Nat} {r : Nat → Nat} (h : j < n) : ad_m ad b n q r (b + 1 + j) = r j := by
  have := m3_1 (α := Nat) (b := b) (n := n) (x := q) (y := r j) (f := ad) h
  unfold m3 at this
  unfold ad_m
  rw [show b + 1 + j - (b + 1) = j by omega]
  exact this
theorem ad_m2 {ad : Nat → Nat} {b n q i : Nat} {r : Nat → Nat} (h : i < b ∨ b + 1 + n ≤ i) : ad_m ad b n q r i = ad i := by
  have := m3_2 (α := Nat) (b := b) (n := n) (i := i) (x := q) (y := r (i - (b + 1))) (f := ad) h
  unfold m3 at this
  unfold ad_m
  exact this
theorem wl_mna {cy : Nat → ClassId} {ad : Nat → Nat} {M : aM} {n k q : Nat} {r : Nat → Nat} (h : wf M) (hb : a_n M + 1 + n < aSB) : agr (a_n M) ad (ad_m ad (a_n M) n q r) ∧
    wl cy (ad_m ad (a_n M) n q r) (a_mna M n k) = (wl cy ad M ++ [(q, .inl (cy 19, n, .inr (.inr (.inr (.inr (fun j => if j < n then some (r j) else none))))))]) ++ (List.range n).map (fun j => (r j, .inl (cy 15, k, .inl (fun _ => 0)))) := by
  have ha : agr (a_n M) ad (ad_m ad (a_n M) n q r) := fun j hj => ad_m2 (by rcases hj with g | g; exact Or.inl g; exact Or.inr (by omega))
  refine ⟨ha, ?_⟩
  unfold wl
  rw [show a_n (a_mna M n k) = a_n M + 1 + n from rfl, List.range_add, List.range_succ, List.map_append, List.map_append, List.map_map]
  congr 1
  · congr 1
    · apply List.map_congr_left
      intro i hi
      have hi := List.mem_range.mp hi
      rw [ad_m2 (Or.inl hi)]
      congr 1
      refine wE_cong (m3_2 (Or.inl hi)) (m3_2 (Or.inl hi)) (m3_2 (Or.inl hi)) (m3_2 (Or.inl hi)) (fun j => ?_)
      rw [show a_P (a_mna M n k) i = a_P M i from m3_2 (Or.inl hi)]
      cases hp : a_P M i j with
      | none => rfl
      | some x => show some (ad_m ad (a_n M) n q r x) = some (ad x); rw [ha x (h.2 i j x hp)]
    · rw [List.map_cons, List.map_nil, ad_m0, wE_P (show a_K (a_mna M n k) (a_n M) = 19 from m3_0) (Or.inr rfl)]
      rw [show a_N (a_mna M n k) (a_n M) = n from m3_0, show a_P (a_mna M n k) (a_n M) = (fun j => bif Nat.blt j n then some (a_n M + 1 + j) else none) from m3_0]
      have : (fun j => (bif Nat.blt j n then some (a_n M + 1 + j) else none : Option Nat).map (ad_m ad (a_n M) n q r)) = (fun j => if j < n then some (r j) else none) := funext fun j => by
        by_cases g : j < n
        · rw [show Nat.blt j n = true from Nat.ble_eq_true_of_le g, if_pos g]
          show some _ = some _
          rw [ad_m1 g]
        · rw [show Nat.blt j n = false from Bool.eq_false_iff.mpr (fun z => g (blt_lt z)), if_neg g]
          rfl
      rw [this]
  · apply List.map_congr_left
    intro j hj
    have hj := List.mem_range.mp hj
    show (ad_m ad (a_n M) n q r (a_n M + 1 + j), wE cy (ad_m ad (a_n M) n q r) (a_mna M n k) (a_n M + 1 + j)) = _
    rw [ad_m1 hj, wE_I (show a_K (a_mna M n k) (a_n M + 1 + j) = 15 from m3_1 hj) (by omega)]
    rw [show a_N (a_mna M n k) (a_n M + 1 + j) = k from m3_1 hj, show a_I (a_mna M n k) (a_n M + 1 + j) = (fun _ => 0) from m3_1 hj]
theorem wf_mna {M : aM} {n k : Nat} (h : wf M) (hn : a_n M + 1 + n < aSB) : wf (a_mna M n k) := ⟨hn, fun i j x e => by
  have e : m3 (a_n M) n (fun j => bif Nat.blt j n then some (a_n M + 1 + j) else none) (fun _ => none) (a_P M) i j = some x := e
  rcases (show i = a_n M ∨ (∃ t, t < n ∧ i = a_n M + 1 + t) ∨ (i < a_n M ∨ a_n M + 1 + n ≤ i) by
    rcases Nat.lt_trichotomy i (a_n M) with g | g | g
    · exact Or.inr (Or.inr (Or.inl g))
    · exact Or.inl g
    · rcases Nat.lt_or_ge i (a_n M + 1 + n) with z | z
      · exact Or.inr (Or.inl ⟨i - (a_n M + 1), by omega, by omega⟩)
      · exact Or.inr (Or.inr (Or.inr z))) with g | ⟨t, g1, g2⟩ | g
  · subst g
    rw [m3_0] at e
    cases hb : Nat.blt j n with
    | false => rw [hb] at e; cases e
    | true =>
      rw [hb] at e
      cases e
      have := blt_lt hb
      exact Or.inl (by show _ < a_n M + 1 + n; omega)
  · rw [g2, m3_1 g1] at e
    cases e
  · rw [m3_2 g] at e
    rcases h.2 i j x e with z | z
    · exact Or.inl (by show _ < a_n M + 1 + n; omega)
    · exact Or.inr z⟩
def j_mna (pc' : Nat) : aI := fun lo st M => match st with
  | .inl k :: .inl n :: s => bif (!decide (n < 0) && !decide (k < 0)) && ((Nat.ble n.toNatClampNeg 1000 && Nat.ble k.toNatClampNeg 1000) && Nat.blt (a_n M + 1 + n.toNatClampNeg) aSB) then some (.inl (pc', lo, .inr (.inr (some (a_n M))) :: s, a_mna M n.toNatClampNeg k.toNatClampNeg)) else none
  | _ => none
set_option maxHeartbeats 2000000 in
theorem S_mna {sc : aSc} {cI : Nat → aF} {F : aF} {pc ix : Nat} (hw : Cond.classLink F.1.cls ix "[[I" ∈ TB) (h2 : Cond.arrayClass .int ∈ TB) (hd : decode F.2.1 pc = .ok (.multianewarray ix 2, 4)) : aS sc cI F pc (j_mna (pc + 4)) := aS_n fun lo st M r e => by
  unfold j_mna at e
  split at e
  · rename_i k n s
    obtain ⟨h12, h345, h6⟩ := bandE e (by simp)
    obtain ⟨g1, g2⟩ := (Bool.and_eq_true _ _).mp h12
    obtain ⟨h34, g5⟩ := (Bool.and_eq_true _ _).mp h345
    obtain ⟨g3, g4⟩ := (Bool.and_eq_true _ _).mp h34
    have g1 : ¬ n < 0 := of_decide_eq_false (by simpa using g1)
    have g2 : ¬ k < 0 := of_decide_eq_false (by simpa using g2)
    have g3 := Nat.le_of_ble_eq_true g3
    have g4 := Nat.le_of_ble_eq_true g4
    have g5 := blt_lt g5
    cases h6
    generalize hn9 : n.toNatClampNeg = n9 at g3 g5
    generalize hk9 : k.toNatClampNeg = k9 at g4
    refine ⟨_, _, _, _, rfl, ⟨by show a_n M ≤ a_n M + 1 + n9; omega, by show a_c M ≤ a_c M + 1 + n9; omega, by show a_z M ≤ a_z M + n9 + n9 * k9; omega⟩, ?_⟩
    intro p l e R s9 m args below meth c D cy ad0 M0 Q hX hn hc hs hG ad H locs ls ha hW
    obtain ⟨hP, hD, hS, hwf, hl, hvl, hvs⟩ := hW
    have e1 : a_c (a_mna M n9 k9) - a_c M0 = a_c M - a_c M0 + 1 + n9 := by have := hn.2.1; show a_c M + 1 + n9 - a_c M0 = _; omega
    have e2 : a_z (a_mna M n9 k9) - a_z M0 = a_z M - a_z M0 + n9 + n9 * k9 := by have := hn.2.2; show a_z M + n9 + n9 * k9 - a_z M0 = _; omega
    rw [e1] at hc
    rw [e2] at hs
    have hK := hX.2.2.2.2.1
    have hE := hX.2.2.2.2.2.1.2
    have hvs' := vok_t (vok_t hvs)
    refine va_mna (X := wl cy ad M) (L := []) (f := fun _ => .inr (0, [])) (ty := .int) (cy := cy 15) (z := (k9, .inl (fun _ => 0))) hX.1.1 hX.1.2.1 hX.1.2.2.2.1 (hX.1.2.2.2.2 _ hw) hE.2.2.1 (hX.1.2.2.2.2 _ h2) (hK.2 1 (cy 15, .int) rfl).2 hK (by rw [show va_pl [] (fun _ => .inr (0, [])) = ([] : va_W) from rfl, List.append_nil]; exact hP) (by rw [show va_pl [] (fun _ => .inr (0, [])) = ([] : va_W) from rfl, List.append_nil]; exact hD) hS (fun q g => Or.inr g) g1 g2 hn9 hk9
      (by omega) (Nat.le_trans (Nat.mul_le_mul_right _ g4) (by decide)) (by omega) rfl rfl (by omega) (by omega) (fun c => arrV_new c k9 (.int 0)) hd (fun q r cA H1 hr1 hr2 hK1 p1 d1 s1 => ?_)
    have h3 : cA = cy 19 := Option.some.inj (((hK1.2 (tyK cy).length (cA, .array .int) (by simp)).2 : s9.vm.findClass _ = some cA).symm.trans (hK.2 5 (cy 19, .array .int) rfl).2)
    subst h3
    obtain ⟨k1, k2⟩ := wl_mna (cy := cy) (ad := ad) (n := n9) (k := k9) (q := q) (r := r) hwf g5
    have e3 : va_pl ([] ++ (List.range n9).map r) (vr_up (fun _ => .inr (0, [])) ((List.range n9).map r) (.inl (cy 15, (k9, .inl (fun _ => 0))))) = (List.range n9).map (fun j => (r j, .inl (cy 15, k9, .inl (fun _ => 0)))) := by
      unfold va_pl
      rw [List.nil_append, List.map_map]
      apply List.map_congr_left
      intro j hj
      show (r j, vr_up _ _ _ (r j)) = _
      rw [vr_up_in (List.mem_map.mpr ⟨j, hj, rfl⟩)]
    rw [e3, ← k2] at p1 d1
    have hl' : lo.map (tq (ad_m ad (a_n M) n9 q r)) = lo.map (tq ad) := List.map_congr_left (fun x hx => by unfold tq; rw [tv_agr k1 (hvl x hx)])
    have hs' : s.map (tv (ad_m ad (a_n M) n9 q r)) = s.map (tv ad) := List.map_congr_left (fun x hx => tv_agr k1 (hvs' x hx))
    have hlt : a_n M ≤ a_n (a_mna M n9 k9) := by show a_n M ≤ a_n M + 1 + n9; omega
    have := hG (ad_m ad (a_n M) n9 q r) H1 locs ls (agr_tr hn.1 ha k1) ⟨p1, d1, s1, wf_mna hwf g5, by rw [hl']; exact hl, fun x hx => vok_up hlt (hvl x hx), vok_c (fun j e => Or.inl (by cases e; show _ < a_n M + 1 + n9; omega)) (fun x hx => vok_up hlt (hvs' x hx))⟩
    rw [e1, e2] at this
    have e4 : (.inr (.inr (some (a_n M))) :: s : List aV).map (tv (ad_m ad (a_n M) n9 q r)) = .ref q :: s.map (tv ad) := by
      rw [List.map_cons, hs']
      show va_rf (some (ad_m ad (a_n M) n9 q r (a_n M))) :: _ = _
      rw [ad_m0]
      rfl
    rw [e4] at this
    exact this
  · cases e
end
section
/-! Tables as trees. -/
theorem S_ldcw {sc : aSc} {cI : Nat → aF} {F : aF} {pc : Nat} {i : Nat} {x : Int32} (hw : Cond.constant F.1.cls i x ∈ TB) (hd : decode F.2.1 pc = .ok (.ldc_w i, 3)) : aS sc cI F pc (j_c (pc + 3) x) := aS_n fun lo st M r e => by
  cases e
  exact ⟨_, _, _, _, rfl, aN_st (fun _ h _ => vok_c vok_i h) (fun p l e R s m args below meth c H locs cells slots Q ls ad C hl k => lv_ldcw C.1 C.2.1 C.2.2.2.1 (C.2.2.2.2 _ hw) hd k)⟩
theorem dfl {l : List Nat} {ty : Nat → FieldType} (h : ∀ j, j < l.length → defaultValue (ty j) = dfv (l.getD j 0)) : ∀ j t, l[j]? = some t → defaultValue (ty j) = dfv t := fun j t e => by
  have hj := (List.getElem?_eq_some_iff.mp e).1
  rw [h j hj, List.getD_eq_getElem?_getD, e]
  rfl
def tr (k : Nat) (a b : Nat → Option aI) : Nat → Option aI := fun pc => bif Nat.blt pc k then a pc else b pc
def lf (k : Nat) (i : aI) : Nat → Option aI := fun pc => bif Nat.beq pc k then some i else none
def aSC (sc : aSc) (cI : Nat → aF) (F : aF) (t : Nat → Option aI) : Prop := ∀ pc i, t pc = some i → aS sc cI F pc i
theorem sc_lf {sc : aSc} {cI : Nat → aF} {F : aF} {k : Nat} {i : aI} (h : aS sc cI F k i) : aSC sc cI F (lf k i) := fun pc j e => by
  unfold lf at e
  obtain ⟨h1, h2⟩ := bifE e
  rw [h2, nbT h1]
  exact h
theorem sc_tr {sc : aSc} {cI : Nat → aF} {F : aF} {k : Nat} {a b : Nat → Option aI} (ha : aSC sc cI F a) (hb : aSC sc cI F b) : aSC sc cI F (tr k a b) := fun pc j e => by
  unfold tr at e
  cases h : Nat.blt pc k with
  | true => rw [h] at e; exact ha pc j e
  | false => rw [h] at e; exact hb pc j e
def tm (k : Nat) (a b : Nat → Nat → Option aI) : Nat → Nat → Option aI := fun m pc => bif Nat.blt m k then a m pc else b m pc
def lm (k : Nat) (t : Nat → Option aI) : Nat → Nat → Option aI := fun m pc => bif Nat.beq m k then t pc else none
def aSD (sc : aSc) (cI : Nat → aF) (t : Nat → Nat → Option aI) : Prop := ∀ m pc i, t m pc = some i → aS sc cI (cI m) pc i ∧ plainFor (cI m).1 = true
theorem sd_lm {sc : aSc} {cI : Nat → aF} {F : aF} {k : Nat} {t : Nat → Option aI} (hF : cI k = F) (h : aSC sc cI F t) (hp : plainFor F.1 = true) : aSD sc cI (lm k t) := fun m pc i e => by
  unfold lm at e
  cases hb : Nat.beq m k with
  | false => rw [hb] at e; cases e
  | true =>
    rw [hb] at e
    rw [nbT hb, hF]
    exact ⟨h pc i e, hp⟩
theorem sd_tm {sc : aSc} {cI : Nat → aF} {k : Nat} {a b : Nat → Nat → Option aI} (ha : aSD sc cI a) (hb : aSD sc cI b) : aSD sc cI (tm k a b) := fun m pc j e => by
  unfold tm at e
  cases h : Nat.blt m k with
  | true => rw [h] at e; exact ha m pc j e
  | false => rw [h] at e; exact hb m pc j e
theorem S_callv2 {sc : aSc} {cI : Nat → aF} {F G : aF} {pc ix y ci n mx : Nat} {C : String} {T : u_T} {N : Nat} {ty : Nat → FieldType} (hG : cI y = G) (K : aKl ci C T N ty) (hC : G.1.cls = C) (hy : aY G n) (h1 : Cond.methodLink F.1.cls ix G.1 ∈ TB) (h2 : Cond.instanceMethod G.1 ∈ TB) (h3 : Cond.selects C G.1 G.1 ∈ TB) (hmx : mx ≤ G.2.2.1) (hd : decode F.2.1 pc = .ok (.invokevirtual ix, 3)) : aS sc cI F pc (j_callv y ci n mx) := by
  subst hG
  exact S_callv K hC hy h1 h2 h3 hmx hd
theorem S_calls2 {sc : aSc} {cI : Nat → aF} {F G : aF} {pc ix y n mx : Nat} (hG : cI y = G) (hy : aY G n) (h1 : Cond.methodLink F.1.cls ix G.1 ∈ TB) (h2 : Cond.static G.1 ∈ TB) (hmx : mx ≤ G.2.2.1) (hd : decode F.2.1 pc = .ok (.invokestatic ix, 3)) : aS sc cI F pc (j_calls y n mx) := by
  subst hG
  exact S_calls hy h1 h2 hmx hd
theorem S_callsN2 {sc : aSc} {cI : Nat → aF} {F G : aF} {pc ix y n mx : Nat} {host : String} (hG : cI y = G) (hy : aY G n) (h1 : Cond.methodLinkNest F.1.cls ix G.1 host ∈ NW) (h2 : Cond.static G.1 ∈ TB) (hmx : mx ≤ G.2.2.1) (hd : decode F.2.1 pc = .ok (.invokestatic ix, 3)) : aS sc cI F pc (j_calls y n mx) := by
  subst hG
  exact S_callsN hy h1 h2 hmx hd
theorem S_calli2 {sc : aSc} {cI : Nat → aF} {F G : aF} {pc ix y ci n mx : Nat} (hG : cI y = G) (hy : aY G n) (hr : G.2.2.2 = none) (hi : G.1.name = "<init>") (h1 : Cond.methodLink F.1.cls ix G.1 ∈ TB) (h2 : Cond.instanceMethod G.1 ∈ TB) (hmx : mx ≤ G.2.2.1) (hd : decode F.2.1 pc = .ok (.invokespecial ix, 3)) : aS sc cI F pc (j_callv y ci n mx) := by
  subst hG
  exact S_calli hy hr hi h1 h2 hmx hd
theorem S_calliN2 {sc : aSc} {cI : Nat → aF} {F G : aF} {pc ix y ci n mx : Nat} {host : String} (hG : cI y = G) (hy : aY G n) (hr : G.2.2.2 = none) (hi : G.1.name = "<init>") (h1 : Cond.methodLinkNest F.1.cls ix G.1 host ∈ NW) (h2 : Cond.instanceMethod G.1 ∈ TB) (hmx : mx ≤ G.2.2.1) (hd : decode F.2.1 pc = .ok (.invokespecial ix, 3)) : aS sc cI F pc (j_callv y ci n mx) := by
  subst hG
  exact S_calliN hy hr hi h1 h2 hmx hd
end
section
/-! led: the class's throws where there is none; the law's own catches it. -/
def exl (cd : Nat → Nat → Option aI) (stop : Nat) : Nat → Nat → Nat → Nat → aL → List aV → aM → Option ((Option aV × aM) ⊕ (aL × List aV × aM))
  | 0, _, _, _, _, _, _ => none
  | f + 1, d, mid, pc, lo, st, M => bif Nat.beq pc stop then some (.inr (lo, st, M)) else match cd mid pc with
    | none => none
    | some i => match i lo st M with
      | none => none
      | some (.inl (pc', lo', st', M')) => exl cd stop f d mid pc' lo' st' M'
      | some (.inr (.inl (y, As, rest))) => match d with
        | 0 => none
        | d' + 1 => match exec cd f d' y 0 (la 0 As) [] M with
          | none => none
          | some (r, M') => exl cd stop f (d' + 1) mid (pc + 3) lo (psh r rest) M'
      | some (.inr (.inr r)) => some (.inl (r, M))
theorem exl_exec {cd : Nat → Nat → Option aI} {stop : Nat} : ∀ (f d mid pc : Nat) (lo : aL) (st : List aV) (M : aM) (r : Option aV) (M' : aM), exl cd stop f d mid pc lo st M = some (.inl (r, M')) → exec cd f d mid pc lo st M = some (r, M') := by
  intro f
  induction f with
  | zero => intro d mid pc lo st M r M' h; cases h
  | succ f ih =>
    intro d mid pc lo st M r M' h
    unfold exl at h
    unfold exec
    cases hb : Nat.beq pc stop with
    | true => rw [hb] at h; cases h
    | false =>
      rw [hb] at h
      simp only [cond_false] at h
      split at h
      · cases h
      · rename_i i hi
        rw [hi]
        simp only
        split at h
        · cases h
        · rename_i he
          rw [he]
          exact ih _ _ _ _ _ _ _ _ h
        · rename_i y As rest he
          rw [he]
          simp only
          split at h
          · cases h
          · split at h
            · cases h
            · rename_i d' _ r1 M1 he1
              show (match exec cd f d' y 0 (la 0 As) [] M with
                | none => none
                | some (r, M') => exec cd f (d' + 1) mid (pc + 3) lo (psh r rest) M') = some (r, M')
              rw [he1]
              exact ih _ _ _ _ _ _ _ _ h
        · rename_i he
          rw [he]
          cases h
          rfl
set_option maxHeartbeats 4000000 in
theorem snd_exl {sc : aSc} {cd : Nat → Nat → Option aI} {cI : Nat → aF} (hcd : ∀ mid pc i, cd mid pc = some i → aS sc cI (cI mid) pc i) (hpl : ∀ mid pc i, cd mid pc = some i → plainFor (cI mid).1 = true) {stop : Nat} : ∀ (f d mid pc : Nat) (lo : aL) (st : List aV) (M : aM) (lo' : aL) (st' : List aV) (M' : aM), exl cd stop f d mid pc lo st M = some (.inr (lo', st', M')) →
    mle M M' ∧ ∀ (p : Program) (l : Launch) (e : Env) (R : Room) (s : State) (m : MethodId) (args : Array Value) (below : List Frame) (meth : Method) (c : Code) (D : va_G) (cy : Nat → ClassId) (ad0 : Nat → Nat) (M0 : aM) (Q : State → Prop), aX sc l (cI mid) p R s m args meth c D cy ad0 M0 → d + 1 ≤ R.frames → 60 * d + 20 ≤ R.locals → mle M0 M → a_c M' - a_c M0 ≤ R.cells → a_z M' - a_z M0 ≤ R.slots →
      aG (cI mid) p l e R s m args below meth c D cy ad0 M0 Q stop lo' st' M' → aG (cI mid) p l e R s m args below meth c D cy ad0 M0 Q pc lo st M := by
  intro f
  induction f with
  | zero => intro d mid pc lo st M lo' st' M' h; cases h
  | succ f ih =>
    intro d mid pc lo st M lo' st' M' h
    unfold exl at h
    cases hb : Nat.beq pc stop with
    | true =>
      rw [hb] at h
      cases h
      have := nbT hb
      subst this
      exact ⟨mle_rf, fun p l e R s m args below meth c D cy ad0 M0 Q _ _ _ _ _ _ h => h⟩
    | false =>
      rw [hb] at h
      simp only [cond_false] at h
      split at h
      · cases h
      · rename_i i hi
        obtain ⟨s1, s2, s3⟩ := hcd mid pc i hi lo st M
        split at h
        · cases h
        · rename_i pc1 lo1 st1 M1 he
          obtain ⟨g1, g3⟩ := ih d mid pc1 lo1 st1 M1 lo' st' M' h
          obtain ⟨k1, k3⟩ := s1 _ _ _ _ he
          refine ⟨mle_tr k1 g1, ?_⟩
          intro p l e R s m args below meth c D cy ad0 M0 Q hX hf hlo hn0 hc hs hG
          have q1 := g1.2.1
          have q2 := g1.2.2
          exact k3 p l e R s m args below meth c D cy ad0 M0 _ hX hn0 (by omega) (by omega) (g3 p l e R s m args below meth c D cy ad0 M0 Q hX hf hlo (mle_tr hn0 k1) hc hs hG)
        · rename_i y As rest he
          obtain ⟨k0, k9, k1⟩ := s2 _ _ _ he
          split at h
          · cases h
          · rename_i d'
            split at h
            · cases h
            · rename_i r1 M1 he1
              obtain ⟨q1, q3⟩ := ih (d' + 1) mid (pc + 3) lo (psh r1 rest) M1 lo' st' M' h
              have hy : ∃ i9, cd y 0 = some i9 := by
                cases f with
                | zero => cases he1
                | succ f =>
                  unfold exec at he1
                  split at he1
                  · cases he1
                  · rename_i i9 h9
                    exact ⟨i9, h9⟩
              obtain ⟨i9, h9⟩ := hy
              obtain ⟨g1, -⟩ := snd_exec hcd hpl f d' y 0 (la 0 As) [] M r1 M1 he1
              refine ⟨mle_tr g1 q1, ?_⟩
              intro p l e R s m args below meth c D cy ad0 M0 Q hX hf hlo hn0 hc hs hG
              have z1 := q1.2.1
              have z2 := q1.2.2
              exact k1 p l e R s m args below meth c D cy ad0 M0 _ d' r1 M1 hX hn0 g1 (by omega) (by omega) (by omega) (by omega)
                (exec_met hcd hpl he1 k0 (hpl y 0 i9 h9) k9 l D cy).2
                (q3 p l e R s m args below meth c D cy ad0 M0 Q hX hf hlo (mle_tr hn0 g1) hc hs hG)
        · cases h
/-- a cell of six slots more, of which nothing is known: the exception -/
def a_bmp (M : aM) : aM := (M.1, M.2.1 + 6, M.2.2.1 + 1, M.2.2.2)
abbrev led_nm : List String := ["java/lang/RuntimeException", "java/lang/Exception"]
/-- what a throw leaves behind -/
def led_B (D : va_G) (cy : Nat → ClassId) (ad : Nat → Nat) (M : aM) (sz : Nat) (M1 : aM) (E : String) (ad' : Nat → Nat) (t : State) : Prop := E = aNSE ∧ agr (a_n M) ad ad' ∧ va_P D vwCl (wl cy ad' M1) t.heap ∧ va_D (va_A (wl cy ad M) sz) (wl cy ad' M1) ∧ wf M1
set_option maxHeartbeats 4000000 in
theorem led_throws {sc : aSc} {cd : Nat → Nat → Option aI} {cI : Nat → aF} (hcd : ∀ mid pc i, cd mid pc = some i → aS sc cI (cI mid) pc i) (hpl : ∀ mid pc i, cd mid pc = some i → plainFor (cI mid).1 = true) {l : Launch} (hl : l.stackTraces = false) {f d y stop ik ic : Nat} {As : List aV} {M M1 : aM} {lo1 : aL} {G : aF} (hG : cI y = G) (hst : exl cd stop f d y 0 (la 0 As) [] M = some (.inr (lo1, [], M1)))
    (hp : plainName G.1.cls = true) (hnl : G.1 ≠ yL_law) (hcs : csum As ≤ G.2.2.1) (d0 : decode G.2.1 stop = .ok (.new ik, 3)) (d3 : decode G.2.1 (stop + 3) = .ok (.dup, 1)) (d4 : decode G.2.1 (stop + 4) = .ok (.invokespecial ic, 3)) (d7 : decode G.2.1 (stop + 7) = .ok (.athrow, 1))
    (hk : Cond.classLink G.1.cls ik aNSE ∈ TB) (hini : Cond.initialized aNSE ∈ TB) (hat : ∀ w ∈ (vx_at0 G.1.cls ic aNSE led_nm).filter goodWord, w ∈ TB) (hat2 : ∀ w ∈ (vx_at0 G.1.cls ic aNSE led_nm).filter (fun w => !goodWord w), w ∈ [Cond.castable aNSE aNSE]) (hgood : ∀ w ∈ Cond.classLink G.1.cls ik aNSE :: Cond.initialized aNSE :: vx_at0 G.1.cls ic aNSE led_nm, vx_ot w = true)
    (D : va_G) (cy : Nat → ClassId) (ad : Nat → Nat) (sz : Nat) (hwf : wf M) (hvA : ∀ v ∈ As, vok (a_n M) v) :
    vx_Met l G.1 (.code G.1 G.2.1 G.2.2.1 G.2.2.2 :: TB) { frames := d + 8, cells := a_c (a_bmp M1) - a_c M, slots := a_z (a_bmp M1) - a_z M, locals := 60 * d + 200 } (va_Pc (As.map (tv ad)) (aPre D cy ad M sz)) (va_Qi (fun (_ : Int32) (_ : Unit) => False) (fun _ _ => True) (va_A (wl cy ad M) sz)) (vx_X (fun _ : Nat → Nat => True) (led_B D cy ad M sz M1) (va_A (wl cy ad M) sz)) (a_c (a_bmp M1) - a_c M) (a_z (a_bmp M1) - a_z M) (va_A (wl cy ad M) sz) := by
  obtain ⟨g1, g3⟩ := snd_exl hcd hpl f d y 0 (la 0 As) [] M lo1 [] M1 hst
  rw [hG] at g3
  refine vx_ofW (cc := G.2.1) (maxL := G.2.2.1) (ret := G.2.2.2) hp rfl ?_
  intro p e s m args below meth c s₁ B hml hex hv
  obtain ⟨rfl, hsz, hP, hK, hD0, hE, hZ⟩ := hv
  subst hsz
  have hts := atoms_spec (ws := .code G.1 G.2.1 G.2.2.1 G.2.2.2 :: TB) B.pre
  have htb : ∀ w ∈ TB, w.before _ s = true := fun w hw => hts w (List.mem_cons_of_mem _ hw)
  have hX : aX sc l G p { frames := d + 8, cells := a_c (a_bmp M1) - a_c M, slots := a_z (a_bmp M1) - a_z M, locals := 60 * d + 200 } s m _ meth c D cy ad M := ⟨⟨B.exec, B.bytes, hml, findClass_of_methodNamed B.named, htb⟩, B.returns, B.notSynchronized, fun e => ((name_of_methodNamed B.named B.method).1).trans e, hK, hE, by show 1 ≤ d + 8; omega, by show 20 ≤ 60 * d + 200; omega, hZ, fun e => absurd e hnl⟩
  have hl9 := lv_entry (As.map (tv ad)) (n := G.2.2.1) (by rw [la_len]; exact hcs)
  rw [la_args] at hl9
  rw [lg_entry_eq]
  have q1 := g1.2.1
  have q2 := g1.2.2
  have c1 : a_c (a_bmp M1) - a_c M = a_c M1 - a_c M + 1 := by show a_c M1 + 1 - a_c M = _; omega
  have c2 : a_z (a_bmp M1) - a_z M = a_z M1 - a_z M + 6 := by show a_z M1 + 6 - a_z M = _; omega
  have hw := g3 p l e { frames := d + 8, cells := a_c (a_bmp M1) - a_c M, slots := a_z (a_bmp M1) - a_z M, locals := 60 * d + 200 } s m _ below meth c D cy ad M (vx_MQ below (va_Qi (fun (_ : Int32) (_ : Unit) => False) (fun _ _ => True) (va_A (wl cy ad M) s.heap.size)) (vx_X (fun _ : Nat → Nat => True) (led_B D cy ad M s.heap.size M1) (va_A (wl cy ad M) s.heap.size)) _ s (a_c (a_bmp M1) - a_c M) (a_z (a_bmp M1) - a_z M) (va_A (wl cy ad M) s.heap.size)) hX (by show d + 1 ≤ d + 8; omega) (by show 60 * d + 20 ≤ 60 * d + 200; omega) mle_rf (by show a_c M1 - a_c M ≤ a_c (a_bmp M1) - a_c M; omega) (by show a_z M1 - a_z M ≤ a_z (a_bmp M1) - a_z M; omega) (fun ad1 H locs ls ha hW => by
    obtain ⟨hP1, hD1, hS1, hwf1, hl1, hvl1, hvs1⟩ := hW
    refine vx_throw0 (own := G.1.cls) (cls := aNSE) (names := led_nm) (ik := ik) (ic := ic) (A := aA cy ad M s) (rest := []) B.exec B.bytes hl (findClass_of_methodNamed B.named) (by decide +kernel) (by decide +kernel) (htb _ hk) (htb _ hini)
      (vx_hat (fun w hw => htb w (hat w hw)) hat2 (fun w hw => by rw [List.mem_singleton.mp hw]; exact va_Nw.use rfl hE.2.2.2.2)) hgood hZ.1.1 hZ.1.2 hS1 (by rw [hml]; exact hl1.1) d0 d3 d4 d7 (fun x hx => absurd hx (fun z => hex x z)) (by show 2 + 3 < d + 8; omega) (by show 0 + (13 * (2 + 1) + 42) ≤ 60 * d + 200; omega) (by rw [c1]; exact Nat.le_refl _) (by rw [c2]; exact Nat.le_refl _) B.notSynchronized ?_ hS1.2.2 (by rw [c1]; exact Nat.le_refl _) (by rw [c2]; exact Nat.le_refl _)
    intro t hvm hz hk9
    refine ⟨ad1, trivial, ⟨rfl, ha, hP1.kept (fun k q hq => hk9 q.1 ((hP1 k q hq).lt)), hD1, hwf1⟩, Nat.le_trans hS1.1 hz, fun q h1 h2 => ?_⟩
    rw [hk9 q (Nat.lt_of_lt_of_le h1 hS1.1)]
    exact hS1.2.1 q h1 h2) ad s.heap [] _ agr_rf ⟨hP, hD0.self, va_S.rf, hwf, hl9, fun q hq => hvA _ (la_mem hq), fun _ h => nomatch h⟩
  rw [Nat.sub_self, Nat.sub_self] at hw
  exact hw
set_option maxHeartbeats 4000000 in
theorem met_ofH {sc : aSc} {l : Launch} {G : aF} {hh : List (Nat × Nat × Nat × Nat)} {d : Nat} {D : va_G} {cy : Nat → ClassId} {M : aM} {As : List aV} {r : Option aV} {M' : aM} (hpl : plainName G.1.cls = true) (hnl : G.1 ≠ yL_law) (hcs : csum As ≤ G.2.2.1)
    (h : ∀ (p : Program) (e : Env) (R : Room) (s : State) (m : MethodId) (args : Array Value) (below : List Frame) (meth : Method) (c : Code) (ad0 : Nat → Nat), aX sc l G p R s m args meth c D cy ad0 M → d + 1 ≤ R.frames → 60 * d + 20 ≤ R.locals → a_c M' - a_c M ≤ R.cells → a_z M' - a_z M ≤ R.slots →
      aG G p l e R s m args below meth c D cy ad0 M (MQ below (aPost D cy ad0 M s.heap.size r M') args s (a_c M' - a_c M) (a_z M' - a_z M) (aA cy ad0 M s)) 0 (la 0 As) [] M) (ad : Nat → Nat) (sz : Nat) (hwf : wf M) (hvA : ∀ v ∈ As, vok (a_n M) v) :
    Met l G.1 (.codeWith G.1 G.2.1 G.2.2.1 G.2.2.2 hh :: TB) { frames := d + 1, cells := a_c M' - a_c M, slots := a_z M' - a_z M, locals := 60 * d + 20 } (va_Pc (As.map (tv ad)) (aPre D cy ad M sz)) (aPost D cy ad M sz r M') (a_c M' - a_c M) (a_z M' - a_z M) (va_A (wl cy ad M) sz) := by
  refine va_MetW (cc := G.2.1) (maxL := G.2.2.1) (ret := G.2.2.2) hpl rfl ?_
  intro p e s m args below meth c s₁ B hml hv
  obtain ⟨rfl, hsz, hP, hK, hD0, hE, hZ⟩ := hv
  subst hsz
  have hts := atoms_spec (ws := .codeWith G.1 G.2.1 G.2.2.1 G.2.2.2 hh :: TB) B.pre
  have hX : aX sc l G p { frames := d + 1, cells := a_c M' - a_c M, slots := a_z M' - a_z M, locals := 60 * d + 20 } s m _ meth c D cy ad M := ⟨⟨B.exec, B.bytes, hml, findClass_of_methodNamed B.named, fun w hw => hts w (List.mem_cons_of_mem _ hw)⟩, B.returns, B.notSynchronized, fun e => ((name_of_methodNamed B.named B.method).1).trans e, hK, hE, Nat.le_add_left _ _, Nat.le_add_left _ _, hZ, fun e => absurd e hnl⟩
  have hl := lv_entry (As.map (tv ad)) (n := G.2.2.1) (by rw [la_len]; exact hcs)
  rw [la_args] at hl
  rw [lg_entry_eq]
  have hw := h p e { frames := d + 1, cells := a_c M' - a_c M, slots := a_z M' - a_z M, locals := 60 * d + 20 } s m _ below meth c ad hX (Nat.le_refl _) (Nat.le_refl _) (Nat.le_refl _) (Nat.le_refl _) ad s.heap [] _ agr_rf ⟨hP, hD0.self, va_S.rf, hwf, hl, fun q hq => hvA _ (la_mem hq), fun _ h => nomatch h⟩
  rw [Nat.sub_self, Nat.sub_self] at hw
  exact hw
end
section
theorem i_vc : Claimed_1_1 ∧ Claimed_1_2 := sorry
end
