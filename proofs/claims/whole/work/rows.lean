section
-- ===== PART A: goes FIRST, ahead of the names: the tables' words, and 'selects' of the private methods out of them =====
/-- a private method of a class that the tables say can be made, by its rows of tables_1 -/
def lw_okq (q : MethodName × Nat) : Prop := (q.1.cls ≠ "java/lang/invoke/MethodHandle" ∧ q.1.cls ≠ "java/lang/invoke/VarHandle") ∧ Cond.instantiable q.1.cls q.2 ∈ tables_1 ∧ Cond.privateMethod q.1 ∈ tables_1 ∧ Cond.instanceMethod q.1 ∈ tables_1
theorem lw_p0 : lw_okq (⟨"LastName$Reader", "split", "()V"⟩, 13) := ⟨⟨by decide +kernel, by decide +kernel⟩, List.mem_of_getElem? (i := 164) (by decide +kernel), List.mem_of_getElem? (i := 484) (by decide +kernel), List.mem_of_getElem? (i := 485) (by decide +kernel)⟩
theorem lw_p1 : lw_okq (⟨"LastName$Reader", "byteAt", "(I)I"⟩, 13) := ⟨⟨by decide +kernel, by decide +kernel⟩, List.mem_of_getElem? (i := 164) (by decide +kernel), List.mem_of_getElem? (i := 488) (by decide +kernel), List.mem_of_getElem? (i := 489) (by decide +kernel)⟩
theorem lw_p2 : lw_okq (⟨"LastName$Reader", "endOfToken", "(I)I"⟩, 13) := ⟨⟨by decide +kernel, by decide +kernel⟩, List.mem_of_getElem? (i := 164) (by decide +kernel), List.mem_of_getElem? (i := 495) (by decide +kernel), List.mem_of_getElem? (i := 496) (by decide +kernel)⟩
theorem lw_p3 : lw_okq (⟨"LastName$Reader", "kindOfToken", "(II)I"⟩, 13) := ⟨⟨by decide +kernel, by decide +kernel⟩, List.mem_of_getElem? (i := 164) (by decide +kernel), List.mem_of_getElem? (i := 505) (by decide +kernel), List.mem_of_getElem? (i := 506) (by decide +kernel)⟩
theorem lw_p4 : lw_okq (⟨"LastName$Reader", "kindOfWord", "(II)I"⟩, 13) := ⟨⟨by decide +kernel, by decide +kernel⟩, List.mem_of_getElem? (i := 164) (by decide +kernel), List.mem_of_getElem? (i := 509) (by decide +kernel), List.mem_of_getElem? (i := 510) (by decide +kernel)⟩
theorem lw_p5 : lw_okq (⟨"LastName$Reader", "isWordAt", "(III)Z"⟩, 13) := ⟨⟨by decide +kernel, by decide +kernel⟩, List.mem_of_getElem? (i := 164) (by decide +kernel), List.mem_of_getElem? (i := 562) (by decide +kernel), List.mem_of_getElem? (i := 563) (by decide +kernel)⟩
theorem lw_p6 : lw_okq (⟨"LastName$Reader", "numberOf", "(II)I"⟩, 13) := ⟨⟨by decide +kernel, by decide +kernel⟩, List.mem_of_getElem? (i := 164) (by decide +kernel), List.mem_of_getElem? (i := 624) (by decide +kernel), List.mem_of_getElem? (i := 625) (by decide +kernel)⟩
theorem lw_p7 : lw_okq (⟨"LastName$Reader", "addToken", "(III)V"⟩, 13) := ⟨⟨by decide +kernel, by decide +kernel⟩, List.mem_of_getElem? (i := 164) (by decide +kernel), List.mem_of_getElem? (i := 629) (by decide +kernel), List.mem_of_getElem? (i := 630) (by decide +kernel)⟩
theorem lw_p8 : lw_okq (⟨"LastName$Reader", "faultOfClause", "()I"⟩, 13) := ⟨⟨by decide +kernel, by decide +kernel⟩, List.mem_of_getElem? (i := 164) (by decide +kernel), List.mem_of_getElem? (i := 637) (by decide +kernel), List.mem_of_getElem? (i := 638) (by decide +kernel)⟩
theorem lw_p9 : lw_okq (⟨"LastName$Reader", "fail", "(I)V"⟩, 13) := ⟨⟨by decide +kernel, by decide +kernel⟩, List.mem_of_getElem? (i := 164) (by decide +kernel), List.mem_of_getElem? (i := 645) (by decide +kernel), List.mem_of_getElem? (i := 646) (by decide +kernel)⟩
theorem lw_p10 : lw_okq (⟨"LastName$Reader", "readGo", "()V"⟩, 13) := ⟨⟨by decide +kernel, by decide +kernel⟩, List.mem_of_getElem? (i := 164) (by decide +kernel), List.mem_of_getElem? (i := 649) (by decide +kernel), List.mem_of_getElem? (i := 650) (by decide +kernel)⟩
theorem lw_p11 : lw_okq (⟨"LastName$Reader", "step", "()V"⟩, 13) := ⟨⟨by decide +kernel, by decide +kernel⟩, List.mem_of_getElem? (i := 164) (by decide +kernel), List.mem_of_getElem? (i := 653) (by decide +kernel), List.mem_of_getElem? (i := 654) (by decide +kernel)⟩
theorem lw_p12 : lw_okq (⟨"LastName$Reader", "readNumber", "(I)I"⟩, 13) := ⟨⟨by decide +kernel, by decide +kernel⟩, List.mem_of_getElem? (i := 164) (by decide +kernel), List.mem_of_getElem? (i := 657) (by decide +kernel), List.mem_of_getElem? (i := 658) (by decide +kernel)⟩
theorem lw_p13 : lw_okq (⟨"LastName$Reader", "expect", "(I)V"⟩, 13) := ⟨⟨by decide +kernel, by decide +kernel⟩, List.mem_of_getElem? (i := 164) (by decide +kernel), List.mem_of_getElem? (i := 661) (by decide +kernel), List.mem_of_getElem? (i := 662) (by decide +kernel)⟩
theorem lw_p14 : lw_okq (⟨"LastName$Reader", "readRule", "(I)V"⟩, 13) := ⟨⟨by decide +kernel, by decide +kernel⟩, List.mem_of_getElem? (i := 164) (by decide +kernel), List.mem_of_getElem? (i := 669) (by decide +kernel), List.mem_of_getElem? (i := 670) (by decide +kernel)⟩
theorem lw_p15 : lw_okq (⟨"LastName$Reader", "readEither", "()V"⟩, 13) := ⟨⟨by decide +kernel, by decide +kernel⟩, List.mem_of_getElem? (i := 164) (by decide +kernel), List.mem_of_getElem? (i := 673) (by decide +kernel), List.mem_of_getElem? (i := 674) (by decide +kernel)⟩
def lw_privs_1 : List (MethodName × Nat) := [(⟨"LastName$Reader", "split", "()V"⟩, 13), (⟨"LastName$Reader", "byteAt", "(I)I"⟩, 13), (⟨"LastName$Reader", "endOfToken", "(I)I"⟩, 13), (⟨"LastName$Reader", "kindOfToken", "(II)I"⟩, 13), (⟨"LastName$Reader", "kindOfWord", "(II)I"⟩, 13), (⟨"LastName$Reader", "isWordAt", "(III)Z"⟩, 13), (⟨"LastName$Reader", "numberOf", "(II)I"⟩, 13), (⟨"LastName$Reader", "addToken", "(III)V"⟩, 13), (⟨"LastName$Reader", "faultOfClause", "()I"⟩, 13), (⟨"LastName$Reader", "fail", "(I)V"⟩, 13), (⟨"LastName$Reader", "readGo", "()V"⟩, 13), (⟨"LastName$Reader", "step", "()V"⟩, 13), (⟨"LastName$Reader", "readNumber", "(I)I"⟩, 13), (⟨"LastName$Reader", "expect", "(I)V"⟩, 13), (⟨"LastName$Reader", "readRule", "(I)V"⟩, 13), (⟨"LastName$Reader", "readEither", "()V"⟩, 13)]
theorem lw_r1 : ∀ q ∈ lw_privs_1, lw_okq q := List.forall_mem_cons.mpr ⟨lw_p0, List.forall_mem_cons.mpr ⟨lw_p1, List.forall_mem_cons.mpr ⟨lw_p2, List.forall_mem_cons.mpr ⟨lw_p3, List.forall_mem_cons.mpr ⟨lw_p4, List.forall_mem_cons.mpr ⟨lw_p5, List.forall_mem_cons.mpr ⟨lw_p6, List.forall_mem_cons.mpr ⟨lw_p7, List.forall_mem_cons.mpr ⟨lw_p8, List.forall_mem_cons.mpr ⟨lw_p9, List.forall_mem_cons.mpr ⟨lw_p10, List.forall_mem_cons.mpr ⟨lw_p11, List.forall_mem_cons.mpr ⟨lw_p12, List.forall_mem_cons.mpr ⟨lw_p13, List.forall_mem_cons.mpr ⟨lw_p14, List.forall_mem_cons.mpr ⟨lw_p15, fun _ h => absurd h List.not_mem_nil⟩⟩⟩⟩⟩⟩⟩⟩⟩⟩⟩⟩⟩⟩⟩⟩
theorem lw_p16 : lw_okq (⟨"LastName$Reader", "readAsk", "(I)V"⟩, 13) := ⟨⟨by decide +kernel, by decide +kernel⟩, List.mem_of_getElem? (i := 164) (by decide +kernel), List.mem_of_getElem? (i := 677) (by decide +kernel), List.mem_of_getElem? (i := 678) (by decide +kernel)⟩
theorem lw_p17 : lw_okq (⟨"LastName$Reader", "opens", "(I)Z"⟩, 13) := ⟨⟨by decide +kernel, by decide +kernel⟩, List.mem_of_getElem? (i := 164) (by decide +kernel), List.mem_of_getElem? (i := 681) (by decide +kernel), List.mem_of_getElem? (i := 682) (by decide +kernel)⟩
theorem lw_p18 : lw_okq (⟨"LastName$Reader", "readSum", "(I)V"⟩, 13) := ⟨⟨by decide +kernel, by decide +kernel⟩, List.mem_of_getElem? (i := 164) (by decide +kernel), List.mem_of_getElem? (i := 689) (by decide +kernel), List.mem_of_getElem? (i := 690) (by decide +kernel)⟩
theorem lw_p19 : lw_okq (⟨"LastName$Reader", "readProduct", "(I)V"⟩, 13) := ⟨⟨by decide +kernel, by decide +kernel⟩, List.mem_of_getElem? (i := 164) (by decide +kernel), List.mem_of_getElem? (i := 693) (by decide +kernel), List.mem_of_getElem? (i := 694) (by decide +kernel)⟩
theorem lw_p20 : lw_okq (⟨"LastName$Reader", "readOne", "(I)V"⟩, 13) := ⟨⟨by decide +kernel, by decide +kernel⟩, List.mem_of_getElem? (i := 164) (by decide +kernel), List.mem_of_getElem? (i := 697) (by decide +kernel), List.mem_of_getElem? (i := 698) (by decide +kernel)⟩
theorem lw_p21 : lw_okq (⟨"LastName$Reader", "readName", "()V"⟩, 13) := ⟨⟨by decide +kernel, by decide +kernel⟩, List.mem_of_getElem? (i := 164) (by decide +kernel), List.mem_of_getElem? (i := 701) (by decide +kernel), List.mem_of_getElem? (i := 702) (by decide +kernel)⟩
theorem lw_p22 : lw_okq (⟨"LastName$Goings", "isBarred", "(LLastName$Town;II)Z"⟩, 4) := ⟨⟨by decide +kernel, by decide +kernel⟩, List.mem_of_getElem? (i := 253) (by decide +kernel), List.mem_of_getElem? (i := 764) (by decide +kernel), List.mem_of_getElem? (i := 765) (by decide +kernel)⟩
theorem lw_p23 : lw_okq (⟨"LastName$Goings", "ruling", "()LLastName$Law;"⟩, 4) := ⟨⟨by decide +kernel, by decide +kernel⟩, List.mem_of_getElem? (i := 253) (by decide +kernel), List.mem_of_getElem? (i := 768) (by decide +kernel), List.mem_of_getElem? (i := 769) (by decide +kernel)⟩
theorem lw_p24 : lw_okq (⟨"LastName$Goings", "tellGoing", "(LLastName$Town;II)V"⟩, 4) := ⟨⟨by decide +kernel, by decide +kernel⟩, List.mem_of_getElem? (i := 253) (by decide +kernel), List.mem_of_getElem? (i := 772) (by decide +kernel), List.mem_of_getElem? (i := 773) (by decide +kernel)⟩
theorem lw_p25 : lw_okq (⟨"LastName$Goings", "feeOf", "(LLastName$Town;II)I"⟩, 4) := ⟨⟨by decide +kernel, by decide +kernel⟩, List.mem_of_getElem? (i := 253) (by decide +kernel), List.mem_of_getElem? (i := 799) (by decide +kernel), List.mem_of_getElem? (i := 800) (by decide +kernel)⟩
theorem lw_p26 : lw_okq (⟨"LastName$World", "coinsWhere", "(II)I"⟩, 14) := ⟨⟨by decide +kernel, by decide +kernel⟩, List.mem_of_getElem? (i := 31) (by decide +kernel), List.mem_of_getElem? (i := 842) (by decide +kernel), List.mem_of_getElem? (i := 843) (by decide +kernel)⟩
theorem lw_p27 : lw_okq (⟨"LastName$Odds", "isOfLot", "(I)Z"⟩, 7) := ⟨⟨by decide +kernel, by decide +kernel⟩, List.mem_of_getElem? (i := 289) (by decide +kernel), List.mem_of_getElem? (i := 923) (by decide +kernel), List.mem_of_getElem? (i := 924) (by decide +kernel)⟩
theorem lw_p28 : lw_okq (⟨"LastName$Odds", "sumFrom", "(IJ)J"⟩, 7) := ⟨⟨by decide +kernel, by decide +kernel⟩, List.mem_of_getElem? (i := 289) (by decide +kernel), List.mem_of_getElem? (i := 934) (by decide +kernel), List.mem_of_getElem? (i := 935) (by decide +kernel)⟩
theorem lw_p29 : lw_okq (⟨"LastName$Odds", "sumOfLot", "(IJ)J"⟩, 7) := ⟨⟨by decide +kernel, by decide +kernel⟩, List.mem_of_getElem? (i := 289) (by decide +kernel), List.mem_of_getElem? (i := 939) (by decide +kernel), List.mem_of_getElem? (i := 940) (by decide +kernel)⟩
theorem lw_p30 : lw_okq (⟨"LastName$Ways", "isLost", "(I)Z"⟩, 6) := ⟨⟨by decide +kernel, by decide +kernel⟩, List.mem_of_getElem? (i := 321) (by decide +kernel), List.mem_of_getElem? (i := 967) (by decide +kernel), List.mem_of_getElem? (i := 968) (by decide +kernel)⟩
theorem lw_p31 : lw_okq (⟨"LastName$Ways", "follow", "(I)V"⟩, 6) := ⟨⟨by decide +kernel, by decide +kernel⟩, List.mem_of_getElem? (i := 321) (by decide +kernel), List.mem_of_getElem? (i := 982) (by decide +kernel), List.mem_of_getElem? (i := 983) (by decide +kernel)⟩
def lw_privs_2 : List (MethodName × Nat) := [(⟨"LastName$Reader", "readAsk", "(I)V"⟩, 13), (⟨"LastName$Reader", "opens", "(I)Z"⟩, 13), (⟨"LastName$Reader", "readSum", "(I)V"⟩, 13), (⟨"LastName$Reader", "readProduct", "(I)V"⟩, 13), (⟨"LastName$Reader", "readOne", "(I)V"⟩, 13), (⟨"LastName$Reader", "readName", "()V"⟩, 13), (⟨"LastName$Goings", "isBarred", "(LLastName$Town;II)Z"⟩, 4), (⟨"LastName$Goings", "ruling", "()LLastName$Law;"⟩, 4), (⟨"LastName$Goings", "tellGoing", "(LLastName$Town;II)V"⟩, 4), (⟨"LastName$Goings", "feeOf", "(LLastName$Town;II)I"⟩, 4), (⟨"LastName$World", "coinsWhere", "(II)I"⟩, 14), (⟨"LastName$Odds", "isOfLot", "(I)Z"⟩, 7), (⟨"LastName$Odds", "sumFrom", "(IJ)J"⟩, 7), (⟨"LastName$Odds", "sumOfLot", "(IJ)J"⟩, 7), (⟨"LastName$Ways", "isLost", "(I)Z"⟩, 6), (⟨"LastName$Ways", "follow", "(I)V"⟩, 6)]
theorem lw_r2 : ∀ q ∈ lw_privs_2, lw_okq q := List.forall_mem_cons.mpr ⟨lw_p16, List.forall_mem_cons.mpr ⟨lw_p17, List.forall_mem_cons.mpr ⟨lw_p18, List.forall_mem_cons.mpr ⟨lw_p19, List.forall_mem_cons.mpr ⟨lw_p20, List.forall_mem_cons.mpr ⟨lw_p21, List.forall_mem_cons.mpr ⟨lw_p22, List.forall_mem_cons.mpr ⟨lw_p23, List.forall_mem_cons.mpr ⟨lw_p24, List.forall_mem_cons.mpr ⟨lw_p25, List.forall_mem_cons.mpr ⟨lw_p26, List.forall_mem_cons.mpr ⟨lw_p27, List.forall_mem_cons.mpr ⟨lw_p28, List.forall_mem_cons.mpr ⟨lw_p29, List.forall_mem_cons.mpr ⟨lw_p30, List.forall_mem_cons.mpr ⟨lw_p31, fun _ h => absurd h List.not_mem_nil⟩⟩⟩⟩⟩⟩⟩⟩⟩⟩⟩⟩⟩⟩⟩⟩
theorem lw_p32 : lw_okq (⟨"LastName$Ways", "tellEnd", "()V"⟩, 6) := ⟨⟨by decide +kernel, by decide +kernel⟩, List.mem_of_getElem? (i := 321) (by decide +kernel), List.mem_of_getElem? (i := 986) (by decide +kernel), List.mem_of_getElem? (i := 987) (by decide +kernel)⟩
theorem lw_p33 : lw_okq (⟨"LastName$Ways", "tellPlace", "(II)V"⟩, 6) := ⟨⟨by decide +kernel, by decide +kernel⟩, List.mem_of_getElem? (i := 321) (by decide +kernel), List.mem_of_getElem? (i := 991) (by decide +kernel), List.mem_of_getElem? (i := 992) (by decide +kernel)⟩
theorem lw_p34 : lw_okq (⟨"LastName$Ways", "followGoing", "(III)V"⟩, 6) := ⟨⟨by decide +kernel, by decide +kernel⟩, List.mem_of_getElem? (i := 321) (by decide +kernel), List.mem_of_getElem? (i := 998) (by decide +kernel), List.mem_of_getElem? (i := 999) (by decide +kernel)⟩
theorem lw_p35 : lw_okq (⟨"LastName$Ways", "mayBeOf", "(II)Z"⟩, 6) := ⟨⟨by decide +kernel, by decide +kernel⟩, List.mem_of_getElem? (i := 321) (by decide +kernel), List.mem_of_getElem? (i := 1002) (by decide +kernel), List.mem_of_getElem? (i := 1003) (by decide +kernel)⟩
theorem lw_p36 : lw_okq (⟨"LastName$Ways", "followIn", "(IIII)V"⟩, 6) := ⟨⟨by decide +kernel, by decide +kernel⟩, List.mem_of_getElem? (i := 321) (by decide +kernel), List.mem_of_getElem? (i := 1010) (by decide +kernel), List.mem_of_getElem? (i := 1011) (by decide +kernel)⟩
theorem lw_p37 : lw_okq (⟨"LastName", "setGoal", "(III)Z"⟩, 9) := ⟨⟨by decide +kernel, by decide +kernel⟩, List.mem_of_getElem? (i := 23) (by decide +kernel), List.mem_of_getElem? (i := 1038) (by decide +kernel), List.mem_of_getElem? (i := 1039) (by decide +kernel)⟩
theorem lw_p38 : lw_okq (⟨"LastName$Search", "add", "(JI)Z"⟩, 8) := ⟨⟨by decide +kernel, by decide +kernel⟩, List.mem_of_getElem? (i := 351) (by decide +kernel), List.mem_of_getElem? (i := 1063) (by decide +kernel), List.mem_of_getElem? (i := 1064) (by decide +kernel)⟩
theorem lw_p39 : lw_okq (⟨"LastName$Search", "slotOf", "(J)I"⟩, 8) := ⟨⟨by decide +kernel, by decide +kernel⟩, List.mem_of_getElem? (i := 351) (by decide +kernel), List.mem_of_getElem? (i := 1067) (by decide +kernel), List.mem_of_getElem? (i := 1068) (by decide +kernel)⟩
theorem lw_p40 : lw_okq (⟨"LastName$Search", "isAsWanted", "()Z"⟩, 8) := ⟨⟨by decide +kernel, by decide +kernel⟩, List.mem_of_getElem? (i := 351) (by decide +kernel), List.mem_of_getElem? (i := 1072) (by decide +kernel), List.mem_of_getElem? (i := 1073) (by decide +kernel)⟩
theorem lw_p41 : lw_okq (⟨"LastName$Search", "goOnFrom", "(II)I"⟩, 8) := ⟨⟨by decide +kernel, by decide +kernel⟩, List.mem_of_getElem? (i := 351) (by decide +kernel), List.mem_of_getElem? (i := 1077) (by decide +kernel), List.mem_of_getElem? (i := 1078) (by decide +kernel)⟩
theorem lw_p42 : lw_okq (⟨"LastName$Crowd", "countFrom", "(II)I"⟩, 6) := ⟨⟨by decide +kernel, by decide +kernel⟩, List.mem_of_getElem? (i := 385) (by decide +kernel), List.mem_of_getElem? (i := 1111) (by decide +kernel), List.mem_of_getElem? (i := 1112) (by decide +kernel)⟩
theorem lw_p43 : lw_okq (⟨"LastName$Crowd", "leastFrom", "(II)I"⟩, 6) := ⟨⟨by decide +kernel, by decide +kernel⟩, List.mem_of_getElem? (i := 385) (by decide +kernel), List.mem_of_getElem? (i := 1127) (by decide +kernel), List.mem_of_getElem? (i := 1128) (by decide +kernel)⟩
theorem lw_p44 : lw_okq (⟨"LastNameModel", "keep", "()V"⟩, 43) := ⟨⟨by decide +kernel, by decide +kernel⟩, List.mem_of_getElem? (i := 1174) (by decide +kernel), List.mem_of_getElem? (i := 1181) (by decide +kernel), List.mem_of_getElem? (i := 1182) (by decide +kernel)⟩
theorem lw_p45 : lw_okq (⟨"LastNameModel", "copy", "(II)V"⟩, 43) := ⟨⟨by decide +kernel, by decide +kernel⟩, List.mem_of_getElem? (i := 1174) (by decide +kernel), List.mem_of_getElem? (i := 1185) (by decide +kernel), List.mem_of_getElem? (i := 1186) (by decide +kernel)⟩
theorem lw_p46 : lw_okq (⟨"LastNameModel", "four", "(I)V"⟩, 43) := ⟨⟨by decide +kernel, by decide +kernel⟩, List.mem_of_getElem? (i := 1174) (by decide +kernel), List.mem_of_getElem? (i := 1336) (by decide +kernel), List.mem_of_getElem? (i := 1337) (by decide +kernel)⟩
theorem lw_p47 : lw_okq (⟨"LastNameModel", "readText", "()I"⟩, 43) := ⟨⟨by decide +kernel, by decide +kernel⟩, List.mem_of_getElem? (i := 1174) (by decide +kernel), List.mem_of_getElem? (i := 1348) (by decide +kernel), List.mem_of_getElem? (i := 1349) (by decide +kernel)⟩
def lw_privs_3 : List (MethodName × Nat) := [(⟨"LastName$Ways", "tellEnd", "()V"⟩, 6), (⟨"LastName$Ways", "tellPlace", "(II)V"⟩, 6), (⟨"LastName$Ways", "followGoing", "(III)V"⟩, 6), (⟨"LastName$Ways", "mayBeOf", "(II)Z"⟩, 6), (⟨"LastName$Ways", "followIn", "(IIII)V"⟩, 6), (⟨"LastName", "setGoal", "(III)Z"⟩, 9), (⟨"LastName$Search", "add", "(JI)Z"⟩, 8), (⟨"LastName$Search", "slotOf", "(J)I"⟩, 8), (⟨"LastName$Search", "isAsWanted", "()Z"⟩, 8), (⟨"LastName$Search", "goOnFrom", "(II)I"⟩, 8), (⟨"LastName$Crowd", "countFrom", "(II)I"⟩, 6), (⟨"LastName$Crowd", "leastFrom", "(II)I"⟩, 6), (⟨"LastNameModel", "keep", "()V"⟩, 43), (⟨"LastNameModel", "copy", "(II)V"⟩, 43), (⟨"LastNameModel", "four", "(I)V"⟩, 43), (⟨"LastNameModel", "readText", "()I"⟩, 43)]
theorem lw_r3 : ∀ q ∈ lw_privs_3, lw_okq q := List.forall_mem_cons.mpr ⟨lw_p32, List.forall_mem_cons.mpr ⟨lw_p33, List.forall_mem_cons.mpr ⟨lw_p34, List.forall_mem_cons.mpr ⟨lw_p35, List.forall_mem_cons.mpr ⟨lw_p36, List.forall_mem_cons.mpr ⟨lw_p37, List.forall_mem_cons.mpr ⟨lw_p38, List.forall_mem_cons.mpr ⟨lw_p39, List.forall_mem_cons.mpr ⟨lw_p40, List.forall_mem_cons.mpr ⟨lw_p41, List.forall_mem_cons.mpr ⟨lw_p42, List.forall_mem_cons.mpr ⟨lw_p43, List.forall_mem_cons.mpr ⟨lw_p44, List.forall_mem_cons.mpr ⟨lw_p45, List.forall_mem_cons.mpr ⟨lw_p46, List.forall_mem_cons.mpr ⟨lw_p47, fun _ h => absurd h List.not_mem_nil⟩⟩⟩⟩⟩⟩⟩⟩⟩⟩⟩⟩⟩⟩⟩⟩
theorem lw_p48 : lw_okq (⟨"LastNameModel", "nextToken", "()V"⟩, 43) := ⟨⟨by decide +kernel, by decide +kernel⟩, List.mem_of_getElem? (i := 1174) (by decide +kernel), List.mem_of_getElem? (i := 1352) (by decide +kernel), List.mem_of_getElem? (i := 1353) (by decide +kernel)⟩
theorem lw_p49 : lw_okq (⟨"LastNameModel", "byteAt", "(I)I"⟩, 43) := ⟨⟨by decide +kernel, by decide +kernel⟩, List.mem_of_getElem? (i := 1174) (by decide +kernel), List.mem_of_getElem? (i := 1356) (by decide +kernel), List.mem_of_getElem? (i := 1357) (by decide +kernel)⟩
theorem lw_p50 : lw_okq (⟨"LastNameModel", "clause", "()I"⟩, 43) := ⟨⟨by decide +kernel, by decide +kernel⟩, List.mem_of_getElem? (i := 1174) (by decide +kernel), List.mem_of_getElem? (i := 1367) (by decide +kernel), List.mem_of_getElem? (i := 1368) (by decide +kernel)⟩
theorem lw_p51 : lw_okq (⟨"LastNameModel", "sortOf", "()I"⟩, 43) := ⟨⟨by decide +kernel, by decide +kernel⟩, List.mem_of_getElem? (i := 1174) (by decide +kernel), List.mem_of_getElem? (i := 1371) (by decide +kernel), List.mem_of_getElem? (i := 1372) (by decide +kernel)⟩
theorem lw_p52 : lw_okq (⟨"LastNameModel", "isWord", "(J)Z"⟩, 43) := ⟨⟨by decide +kernel, by decide +kernel⟩, List.mem_of_getElem? (i := 1174) (by decide +kernel), List.mem_of_getElem? (i := 1381) (by decide +kernel), List.mem_of_getElem? (i := 1382) (by decide +kernel)⟩
theorem lw_p53 : lw_okq (⟨"LastNameModel", "goneBy", "(I)I"⟩, 43) := ⟨⟨by decide +kernel, by decide +kernel⟩, List.mem_of_getElem? (i := 1174) (by decide +kernel), List.mem_of_getElem? (i := 1386) (by decide +kernel), List.mem_of_getElem? (i := 1387) (by decide +kernel)⟩
theorem lw_p54 : lw_okq (⟨"LastNameModel", "figure", "(II)I"⟩, 43) := ⟨⟨by decide +kernel, by decide +kernel⟩, List.mem_of_getElem? (i := 1174) (by decide +kernel), List.mem_of_getElem? (i := 1390) (by decide +kernel), List.mem_of_getElem? (i := 1391) (by decide +kernel)⟩
theorem lw_p55 : lw_okq (⟨"LastNameModel", "either", "()I"⟩, 43) := ⟨⟨by decide +kernel, by decide +kernel⟩, List.mem_of_getElem? (i := 1174) (by decide +kernel), List.mem_of_getElem? (i := 1395) (by decide +kernel), List.mem_of_getElem? (i := 1396) (by decide +kernel)⟩
theorem lw_p56 : lw_okq (⟨"LastNameModel", "asks", "()I"⟩, 43) := ⟨⟨by decide +kernel, by decide +kernel⟩, List.mem_of_getElem? (i := 1174) (by decide +kernel), List.mem_of_getElem? (i := 1399) (by decide +kernel), List.mem_of_getElem? (i := 1400) (by decide +kernel)⟩
theorem lw_p57 : lw_okq (⟨"LastNameModel", "summed", "()I"⟩, 43) := ⟨⟨by decide +kernel, by decide +kernel⟩, List.mem_of_getElem? (i := 1174) (by decide +kernel), List.mem_of_getElem? (i := 1403) (by decide +kernel), List.mem_of_getElem? (i := 1404) (by decide +kernel)⟩
theorem lw_p58 : lw_okq (⟨"LastNameModel", "goesOn", "()Z"⟩, 43) := ⟨⟨by decide +kernel, by decide +kernel⟩, List.mem_of_getElem? (i := 1174) (by decide +kernel), List.mem_of_getElem? (i := 1407) (by decide +kernel), List.mem_of_getElem? (i := 1408) (by decide +kernel)⟩
theorem lw_p59 : lw_okq (⟨"LastNameModel", "hasParen", "()Z"⟩, 43) := ⟨⟨by decide +kernel, by decide +kernel⟩, List.mem_of_getElem? (i := 1174) (by decide +kernel), List.mem_of_getElem? (i := 1411) (by decide +kernel), List.mem_of_getElem? (i := 1412) (by decide +kernel)⟩
theorem lw_p60 : lw_okq (⟨"LastNameModel", "behindOne", "()I"⟩, 43) := ⟨⟨by decide +kernel, by decide +kernel⟩, List.mem_of_getElem? (i := 1174) (by decide +kernel), List.mem_of_getElem? (i := 1415) (by decide +kernel), List.mem_of_getElem? (i := 1416) (by decide +kernel)⟩
theorem lw_p61 : lw_okq (⟨"LastNameModel", "settle", "(I)V"⟩, 43) := ⟨⟨by decide +kernel, by decide +kernel⟩, List.mem_of_getElem? (i := 1174) (by decide +kernel), List.mem_of_getElem? (i := 1419) (by decide +kernel), List.mem_of_getElem? (i := 1420) (by decide +kernel)⟩
theorem lw_p62 : lw_okq (⟨"LastNameModel", "emit", "(II)V"⟩, 43) := ⟨⟨by decide +kernel, by decide +kernel⟩, List.mem_of_getElem? (i := 1174) (by decide +kernel), List.mem_of_getElem? (i := 1423) (by decide +kernel), List.mem_of_getElem? (i := 1424) (by decide +kernel)⟩
theorem lw_p63 : lw_okq (⟨"LastNameModel", "push", "(I)V"⟩, 43) := ⟨⟨by decide +kernel, by decide +kernel⟩, List.mem_of_getElem? (i := 1174) (by decide +kernel), List.mem_of_getElem? (i := 1427) (by decide +kernel), List.mem_of_getElem? (i := 1428) (by decide +kernel)⟩
def lw_privs_4 : List (MethodName × Nat) := [(⟨"LastNameModel", "nextToken", "()V"⟩, 43), (⟨"LastNameModel", "byteAt", "(I)I"⟩, 43), (⟨"LastNameModel", "clause", "()I"⟩, 43), (⟨"LastNameModel", "sortOf", "()I"⟩, 43), (⟨"LastNameModel", "isWord", "(J)Z"⟩, 43), (⟨"LastNameModel", "goneBy", "(I)I"⟩, 43), (⟨"LastNameModel", "figure", "(II)I"⟩, 43), (⟨"LastNameModel", "either", "()I"⟩, 43), (⟨"LastNameModel", "asks", "()I"⟩, 43), (⟨"LastNameModel", "summed", "()I"⟩, 43), (⟨"LastNameModel", "goesOn", "()Z"⟩, 43), (⟨"LastNameModel", "hasParen", "()Z"⟩, 43), (⟨"LastNameModel", "behindOne", "()I"⟩, 43), (⟨"LastNameModel", "settle", "(I)V"⟩, 43), (⟨"LastNameModel", "emit", "(II)V"⟩, 43), (⟨"LastNameModel", "push", "(I)V"⟩, 43)]
theorem lw_r4 : ∀ q ∈ lw_privs_4, lw_okq q := List.forall_mem_cons.mpr ⟨lw_p48, List.forall_mem_cons.mpr ⟨lw_p49, List.forall_mem_cons.mpr ⟨lw_p50, List.forall_mem_cons.mpr ⟨lw_p51, List.forall_mem_cons.mpr ⟨lw_p52, List.forall_mem_cons.mpr ⟨lw_p53, List.forall_mem_cons.mpr ⟨lw_p54, List.forall_mem_cons.mpr ⟨lw_p55, List.forall_mem_cons.mpr ⟨lw_p56, List.forall_mem_cons.mpr ⟨lw_p57, List.forall_mem_cons.mpr ⟨lw_p58, List.forall_mem_cons.mpr ⟨lw_p59, List.forall_mem_cons.mpr ⟨lw_p60, List.forall_mem_cons.mpr ⟨lw_p61, List.forall_mem_cons.mpr ⟨lw_p62, List.forall_mem_cons.mpr ⟨lw_p63, fun _ h => absurd h List.not_mem_nil⟩⟩⟩⟩⟩⟩⟩⟩⟩⟩⟩⟩⟩⟩⟩⟩
theorem lw_p64 : lw_okq (⟨"LastNameModel", "whole", "()V"⟩, 43) := ⟨⟨by decide +kernel, by decide +kernel⟩, List.mem_of_getElem? (i := 1174) (by decide +kernel), List.mem_of_getElem? (i := 1431) (by decide +kernel), List.mem_of_getElem? (i := 1432) (by decide +kernel)⟩
theorem lw_p65 : lw_okq (⟨"LastNameModel", "beginOne", "()I"⟩, 43) := ⟨⟨by decide +kernel, by decide +kernel⟩, List.mem_of_getElem? (i := 1174) (by decide +kernel), List.mem_of_getElem? (i := 1435) (by decide +kernel), List.mem_of_getElem? (i := 1436) (by decide +kernel)⟩
theorem lw_p66 : lw_okq (⟨"LastNameModel", "nameOf", "()I"⟩, 43) := ⟨⟨by decide +kernel, by decide +kernel⟩, List.mem_of_getElem? (i := 1174) (by decide +kernel), List.mem_of_getElem? (i := 1439) (by decide +kernel), List.mem_of_getElem? (i := 1440) (by decide +kernel)⟩
theorem lw_p67 : lw_okq (⟨"LastNameModel", "isBarred", "(I)Z"⟩, 43) := ⟨⟨by decide +kernel, by decide +kernel⟩, List.mem_of_getElem? (i := 1174) (by decide +kernel), List.mem_of_getElem? (i := 1447) (by decide +kernel), List.mem_of_getElem? (i := 1448) (by decide +kernel)⟩
theorem lw_p68 : lw_okq (⟨"LastNameModel", "compareOf", "()I"⟩, 43) := ⟨⟨by decide +kernel, by decide +kernel⟩, List.mem_of_getElem? (i := 1174) (by decide +kernel), List.mem_of_getElem? (i := 1451) (by decide +kernel), List.mem_of_getElem? (i := 1452) (by decide +kernel)⟩
theorem lw_p69 : lw_okq (⟨"LastNameModel", "isPerson", "(I)Z"⟩, 43) := ⟨⟨by decide +kernel, by decide +kernel⟩, List.mem_of_getElem? (i := 1174) (by decide +kernel), List.mem_of_getElem? (i := 1472) (by decide +kernel), List.mem_of_getElem? (i := 1473) (by decide +kernel)⟩
theorem lw_p70 : lw_okq (⟨"LastNameModel", "isGate", "(I)Z"⟩, 43) := ⟨⟨by decide +kernel, by decide +kernel⟩, List.mem_of_getElem? (i := 1174) (by decide +kernel), List.mem_of_getElem? (i := 1476) (by decide +kernel), List.mem_of_getElem? (i := 1477) (by decide +kernel)⟩
theorem lw_p71 : lw_okq (⟨"LastNameModel", "can", "(II)Z"⟩, 43) := ⟨⟨by decide +kernel, by decide +kernel⟩, List.mem_of_getElem? (i := 1174) (by decide +kernel), List.mem_of_getElem? (i := 1480) (by decide +kernel), List.mem_of_getElem? (i := 1481) (by decide +kernel)⟩
theorem lw_p72 : lw_okq (⟨"LastNameModel", "nameAt", "(I)I"⟩, 43) := ⟨⟨by decide +kernel, by decide +kernel⟩, List.mem_of_getElem? (i := 1174) (by decide +kernel), List.mem_of_getElem? (i := 1484) (by decide +kernel), List.mem_of_getElem? (i := 1485) (by decide +kernel)⟩
theorem lw_p73 : lw_okq (⟨"LastNameModel", "hung", "(I)I"⟩, 43) := ⟨⟨by decide +kernel, by decide +kernel⟩, List.mem_of_getElem? (i := 1174) (by decide +kernel), List.mem_of_getElem? (i := 1488) (by decide +kernel), List.mem_of_getElem? (i := 1489) (by decide +kernel)⟩
theorem lw_p74 : lw_okq (⟨"LastNameModel", "nameAll", "(II)V"⟩, 43) := ⟨⟨by decide +kernel, by decide +kernel⟩, List.mem_of_getElem? (i := 1174) (by decide +kernel), List.mem_of_getElem? (i := 1492) (by decide +kernel), List.mem_of_getElem? (i := 1493) (by decide +kernel)⟩
theorem lw_p75 : lw_okq (⟨"LastNameModel", "clauses", "()I"⟩, 43) := ⟨⟨by decide +kernel, by decide +kernel⟩, List.mem_of_getElem? (i := 1174) (by decide +kernel), List.mem_of_getElem? (i := 1496) (by decide +kernel), List.mem_of_getElem? (i := 1497) (by decide +kernel)⟩
theorem lw_p76 : lw_okq (⟨"LastNameModel", "sortAt", "(I)I"⟩, 43) := ⟨⟨by decide +kernel, by decide +kernel⟩, List.mem_of_getElem? (i := 1174) (by decide +kernel), List.mem_of_getElem? (i := 1500) (by decide +kernel), List.mem_of_getElem? (i := 1501) (by decide +kernel)⟩
theorem lw_p77 : lw_okq (⟨"LastNameModel", "work", "(I)V"⟩, 43) := ⟨⟨by decide +kernel, by decide +kernel⟩, List.mem_of_getElem? (i := 1174) (by decide +kernel), List.mem_of_getElem? (i := 1504) (by decide +kernel), List.mem_of_getElem? (i := 1505) (by decide +kernel)⟩
theorem lw_p78 : lw_okq (⟨"LastNameModel", "feeOf", "(II)I"⟩, 43) := ⟨⟨by decide +kernel, by decide +kernel⟩, List.mem_of_getElem? (i := 1174) (by decide +kernel), List.mem_of_getElem? (i := 1519) (by decide +kernel), List.mem_of_getElem? (i := 1520) (by decide +kernel)⟩
theorem lw_p79 : lw_okq (⟨"LastNameModel", "clauseOf", "(I)I"⟩, 43) := ⟨⟨by decide +kernel, by decide +kernel⟩, List.mem_of_getElem? (i := 1174) (by decide +kernel), List.mem_of_getElem? (i := 1523) (by decide +kernel), List.mem_of_getElem? (i := 1524) (by decide +kernel)⟩
def lw_privs_5 : List (MethodName × Nat) := [(⟨"LastNameModel", "whole", "()V"⟩, 43), (⟨"LastNameModel", "beginOne", "()I"⟩, 43), (⟨"LastNameModel", "nameOf", "()I"⟩, 43), (⟨"LastNameModel", "isBarred", "(I)Z"⟩, 43), (⟨"LastNameModel", "compareOf", "()I"⟩, 43), (⟨"LastNameModel", "isPerson", "(I)Z"⟩, 43), (⟨"LastNameModel", "isGate", "(I)Z"⟩, 43), (⟨"LastNameModel", "can", "(II)Z"⟩, 43), (⟨"LastNameModel", "nameAt", "(I)I"⟩, 43), (⟨"LastNameModel", "hung", "(I)I"⟩, 43), (⟨"LastNameModel", "nameAll", "(II)V"⟩, 43), (⟨"LastNameModel", "clauses", "()I"⟩, 43), (⟨"LastNameModel", "sortAt", "(I)I"⟩, 43), (⟨"LastNameModel", "work", "(I)V"⟩, 43), (⟨"LastNameModel", "feeOf", "(II)I"⟩, 43), (⟨"LastNameModel", "clauseOf", "(I)I"⟩, 43)]
theorem lw_r5 : ∀ q ∈ lw_privs_5, lw_okq q := List.forall_mem_cons.mpr ⟨lw_p64, List.forall_mem_cons.mpr ⟨lw_p65, List.forall_mem_cons.mpr ⟨lw_p66, List.forall_mem_cons.mpr ⟨lw_p67, List.forall_mem_cons.mpr ⟨lw_p68, List.forall_mem_cons.mpr ⟨lw_p69, List.forall_mem_cons.mpr ⟨lw_p70, List.forall_mem_cons.mpr ⟨lw_p71, List.forall_mem_cons.mpr ⟨lw_p72, List.forall_mem_cons.mpr ⟨lw_p73, List.forall_mem_cons.mpr ⟨lw_p74, List.forall_mem_cons.mpr ⟨lw_p75, List.forall_mem_cons.mpr ⟨lw_p76, List.forall_mem_cons.mpr ⟨lw_p77, List.forall_mem_cons.mpr ⟨lw_p78, List.forall_mem_cons.mpr ⟨lw_p79, fun _ h => absurd h List.not_mem_nil⟩⟩⟩⟩⟩⟩⟩⟩⟩⟩⟩⟩⟩⟩⟩⟩
theorem lw_p80 : lw_okq (⟨"LastNameModel", "leave", "(II)V"⟩, 43) := ⟨⟨by decide +kernel, by decide +kernel⟩, List.mem_of_getElem? (i := 1174) (by decide +kernel), List.mem_of_getElem? (i := 1530) (by decide +kernel), List.mem_of_getElem? (i := 1531) (by decide +kernel)⟩
theorem lw_p81 : lw_okq (⟨"LastNameModel", "isLot", "(I)Z"⟩, 43) := ⟨⟨by decide +kernel, by decide +kernel⟩, List.mem_of_getElem? (i := 1174) (by decide +kernel), List.mem_of_getElem? (i := 1534) (by decide +kernel), List.mem_of_getElem? (i := 1535) (by decide +kernel)⟩
theorem lw_p82 : lw_okq (⟨"LastNameModel", "draw", "(I)I"⟩, 43) := ⟨⟨by decide +kernel, by decide +kernel⟩, List.mem_of_getElem? (i := 1174) (by decide +kernel), List.mem_of_getElem? (i := 1538) (by decide +kernel), List.mem_of_getElem? (i := 1539) (by decide +kernel)⟩
theorem lw_p83 : lw_okq (⟨"LastNameModel", "chosen", "(II)I"⟩, 43) := ⟨⟨by decide +kernel, by decide +kernel⟩, List.mem_of_getElem? (i := 1174) (by decide +kernel), List.mem_of_getElem? (i := 1545) (by decide +kernel), List.mem_of_getElem? (i := 1546) (by decide +kernel)⟩
theorem lw_p84 : lw_okq (⟨"LastNameModel", "heapAt", "(II)I"⟩, 43) := ⟨⟨by decide +kernel, by decide +kernel⟩, List.mem_of_getElem? (i := 1174) (by decide +kernel), List.mem_of_getElem? (i := 1549) (by decide +kernel), List.mem_of_getElem? (i := 1550) (by decide +kernel)⟩
theorem lw_p85 : lw_okq (⟨"LastNameModel", "isBorn", "(I)Z"⟩, 43) := ⟨⟨by decide +kernel, by decide +kernel⟩, List.mem_of_getElem? (i := 1174) (by decide +kernel), List.mem_of_getElem? (i := 1553) (by decide +kernel), List.mem_of_getElem? (i := 1554) (by decide +kernel)⟩
theorem lw_p86 : lw_okq (⟨"LastNameModel", "come", "(III)V"⟩, 43) := ⟨⟨by decide +kernel, by decide +kernel⟩, List.mem_of_getElem? (i := 1174) (by decide +kernel), List.mem_of_getElem? (i := 1557) (by decide +kernel), List.mem_of_getElem? (i := 1558) (by decide +kernel)⟩
theorem lw_p87 : lw_okq (⟨"LastNameModel", "owesOf", "(I)I"⟩, 43) := ⟨⟨by decide +kernel, by decide +kernel⟩, List.mem_of_getElem? (i := 1174) (by decide +kernel), List.mem_of_getElem? (i := 1566) (by decide +kernel), List.mem_of_getElem? (i := 1567) (by decide +kernel)⟩
theorem lw_p88 : lw_okq (⟨"LastNameModel", "didOf", "(I)I"⟩, 43) := ⟨⟨by decide +kernel, by decide +kernel⟩, List.mem_of_getElem? (i := 1174) (by decide +kernel), List.mem_of_getElem? (i := 1570) (by decide +kernel), List.mem_of_getElem? (i := 1571) (by decide +kernel)⟩
theorem lw_p89 : lw_okq (⟨"LastNameModel", "holder", "(I)I"⟩, 43) := ⟨⟨by decide +kernel, by decide +kernel⟩, List.mem_of_getElem? (i := 1174) (by decide +kernel), List.mem_of_getElem? (i := 1578) (by decide +kernel), List.mem_of_getElem? (i := 1579) (by decide +kernel)⟩
theorem lw_p90 : lw_okq (⟨"LastNameModel", "doRow", "()I"⟩, 43) := ⟨⟨by decide +kernel, by decide +kernel⟩, List.mem_of_getElem? (i := 1174) (by decide +kernel), List.mem_of_getElem? (i := 1602) (by decide +kernel), List.mem_of_getElem? (i := 1603) (by decide +kernel)⟩
theorem lw_p91 : lw_okq (⟨"LastNameModel", "tries", "(I)V"⟩, 43) := ⟨⟨by decide +kernel, by decide +kernel⟩, List.mem_of_getElem? (i := 1174) (by decide +kernel), List.mem_of_getElem? (i := 1606) (by decide +kernel), List.mem_of_getElem? (i := 1607) (by decide +kernel)⟩
theorem lw_p92 : lw_okq (⟨"LastNameModel", "goes", "(II)Z"⟩, 43) := ⟨⟨by decide +kernel, by decide +kernel⟩, List.mem_of_getElem? (i := 1174) (by decide +kernel), List.mem_of_getElem? (i := 1610) (by decide +kernel), List.mem_of_getElem? (i := 1611) (by decide +kernel)⟩
theorem lw_p93 : lw_okq (⟨"LastNameModel", "lotMany", "()I"⟩, 43) := ⟨⟨by decide +kernel, by decide +kernel⟩, List.mem_of_getElem? (i := 1174) (by decide +kernel), List.mem_of_getElem? (i := 1622) (by decide +kernel), List.mem_of_getElem? (i := 1623) (by decide +kernel)⟩
theorem lw_p94 : lw_okq (⟨"LastNameModel", "add", "(J)V"⟩, 43) := ⟨⟨by decide +kernel, by decide +kernel⟩, List.mem_of_getElem? (i := 1174) (by decide +kernel), List.mem_of_getElem? (i := 1627) (by decide +kernel), List.mem_of_getElem? (i := 1628) (by decide +kernel)⟩
theorem lw_p95 : lw_okq (⟨"LastNameModel", "stepOn", "(I)Z"⟩, 43) := ⟨⟨by decide +kernel, by decide +kernel⟩, List.mem_of_getElem? (i := 1174) (by decide +kernel), List.mem_of_getElem? (i := 1634) (by decide +kernel), List.mem_of_getElem? (i := 1635) (by decide +kernel)⟩
def lw_privs_6 : List (MethodName × Nat) := [(⟨"LastNameModel", "leave", "(II)V"⟩, 43), (⟨"LastNameModel", "isLot", "(I)Z"⟩, 43), (⟨"LastNameModel", "draw", "(I)I"⟩, 43), (⟨"LastNameModel", "chosen", "(II)I"⟩, 43), (⟨"LastNameModel", "heapAt", "(II)I"⟩, 43), (⟨"LastNameModel", "isBorn", "(I)Z"⟩, 43), (⟨"LastNameModel", "come", "(III)V"⟩, 43), (⟨"LastNameModel", "owesOf", "(I)I"⟩, 43), (⟨"LastNameModel", "didOf", "(I)I"⟩, 43), (⟨"LastNameModel", "holder", "(I)I"⟩, 43), (⟨"LastNameModel", "doRow", "()I"⟩, 43), (⟨"LastNameModel", "tries", "(I)V"⟩, 43), (⟨"LastNameModel", "goes", "(II)Z"⟩, 43), (⟨"LastNameModel", "lotMany", "()I"⟩, 43), (⟨"LastNameModel", "add", "(J)V"⟩, 43), (⟨"LastNameModel", "stepOn", "(I)Z"⟩, 43)]
theorem lw_r6 : ∀ q ∈ lw_privs_6, lw_okq q := List.forall_mem_cons.mpr ⟨lw_p80, List.forall_mem_cons.mpr ⟨lw_p81, List.forall_mem_cons.mpr ⟨lw_p82, List.forall_mem_cons.mpr ⟨lw_p83, List.forall_mem_cons.mpr ⟨lw_p84, List.forall_mem_cons.mpr ⟨lw_p85, List.forall_mem_cons.mpr ⟨lw_p86, List.forall_mem_cons.mpr ⟨lw_p87, List.forall_mem_cons.mpr ⟨lw_p88, List.forall_mem_cons.mpr ⟨lw_p89, List.forall_mem_cons.mpr ⟨lw_p90, List.forall_mem_cons.mpr ⟨lw_p91, List.forall_mem_cons.mpr ⟨lw_p92, List.forall_mem_cons.mpr ⟨lw_p93, List.forall_mem_cons.mpr ⟨lw_p94, List.forall_mem_cons.mpr ⟨lw_p95, fun _ h => absurd h List.not_mem_nil⟩⟩⟩⟩⟩⟩⟩⟩⟩⟩⟩⟩⟩⟩⟩⟩
theorem lw_p96 : lw_okq (⟨"LastNameModel", "findWays", "()V"⟩, 43) := ⟨⟨by decide +kernel, by decide +kernel⟩, List.mem_of_getElem? (i := 1174) (by decide +kernel), List.mem_of_getElem? (i := 1646) (by decide +kernel), List.mem_of_getElem? (i := 1647) (by decide +kernel)⟩
theorem lw_p97 : lw_okq (⟨"LastNameModel", "count", "()V"⟩, 43) := ⟨⟨by decide +kernel, by decide +kernel⟩, List.mem_of_getElem? (i := 1174) (by decide +kernel), List.mem_of_getElem? (i := 1650) (by decide +kernel), List.mem_of_getElem? (i := 1651) (by decide +kernel)⟩
theorem lw_p98 : lw_okq (⟨"LastNameModel", "stepBook", "(I)Z"⟩, 43) := ⟨⟨by decide +kernel, by decide +kernel⟩, List.mem_of_getElem? (i := 1174) (by decide +kernel), List.mem_of_getElem? (i := 1654) (by decide +kernel), List.mem_of_getElem? (i := 1655) (by decide +kernel)⟩
theorem lw_p99 : lw_okq (⟨"LastNameModel", "isSo", "(IIII)Z"⟩, 43) := ⟨⟨by decide +kernel, by decide +kernel⟩, List.mem_of_getElem? (i := 1174) (by decide +kernel), List.mem_of_getElem? (i := 1658) (by decide +kernel), List.mem_of_getElem? (i := 1659) (by decide +kernel)⟩
theorem lw_p100 : lw_okq (⟨"LastNameModel", "isSet", "(I)Z"⟩, 43) := ⟨⟨by decide +kernel, by decide +kernel⟩, List.mem_of_getElem? (i := 1174) (by decide +kernel), List.mem_of_getElem? (i := 1674) (by decide +kernel), List.mem_of_getElem? (i := 1675) (by decide +kernel)⟩
theorem lw_p101 : lw_okq (⟨"LastNameModel", "areTwo", "(II)Z"⟩, 43) := ⟨⟨by decide +kernel, by decide +kernel⟩, List.mem_of_getElem? (i := 1174) (by decide +kernel), List.mem_of_getElem? (i := 1678) (by decide +kernel), List.mem_of_getElem? (i := 1679) (by decide +kernel)⟩
theorem lw_p102 : lw_okq (⟨"LastNameModel", "findGoal", "(IIII)I"⟩, 43) := ⟨⟨by decide +kernel, by decide +kernel⟩, List.mem_of_getElem? (i := 1174) (by decide +kernel), List.mem_of_getElem? (i := 1682) (by decide +kernel), List.mem_of_getElem? (i := 1683) (by decide +kernel)⟩
theorem lw_p103 : lw_okq (⟨"LastNameModel", "sumOf", "()I"⟩, 43) := ⟨⟨by decide +kernel, by decide +kernel⟩, List.mem_of_getElem? (i := 1174) (by decide +kernel), List.mem_of_getElem? (i := 1686) (by decide +kernel), List.mem_of_getElem? (i := 1687) (by decide +kernel)⟩
theorem lw_p104 : lw_okq (⟨"LastNameModel", "addState", "(III)V"⟩, 43) := ⟨⟨by decide +kernel, by decide +kernel⟩, List.mem_of_getElem? (i := 1174) (by decide +kernel), List.mem_of_getElem? (i := 1690) (by decide +kernel), List.mem_of_getElem? (i := 1691) (by decide +kernel)⟩
theorem lw_p105 : lw_okq (⟨"LastNameModel", "isGoal", "(III)Z"⟩, 43) := ⟨⟨by decide +kernel, by decide +kernel⟩, List.mem_of_getElem? (i := 1174) (by decide +kernel), List.mem_of_getElem? (i := 1694) (by decide +kernel), List.mem_of_getElem? (i := 1695) (by decide +kernel)⟩
theorem lw_p106 : lw_okq (⟨"LastNameModel", "isKnown", "(I)Z"⟩, 43) := ⟨⟨by decide +kernel, by decide +kernel⟩, List.mem_of_getElem? (i := 1174) (by decide +kernel), List.mem_of_getElem? (i := 1698) (by decide +kernel), List.mem_of_getElem? (i := 1699) (by decide +kernel)⟩
theorem lw_p107 : lw_okq (⟨"LastNameModel", "isState", "(I)Z"⟩, 43) := ⟨⟨by decide +kernel, by decide +kernel⟩, List.mem_of_getElem? (i := 1174) (by decide +kernel), List.mem_of_getElem? (i := 1702) (by decide +kernel), List.mem_of_getElem? (i := 1703) (by decide +kernel)⟩
theorem lw_p108 : lw_okq (⟨"LastNameModel", "nextOrder", "(I)Z"⟩, 43) := ⟨⟨by decide +kernel, by decide +kernel⟩, List.mem_of_getElem? (i := 1174) (by decide +kernel), List.mem_of_getElem? (i := 1714) (by decide +kernel), List.mem_of_getElem? (i := 1715) (by decide +kernel)⟩
def lw_privs_7 : List (MethodName × Nat) := [(⟨"LastNameModel", "findWays", "()V"⟩, 43), (⟨"LastNameModel", "count", "()V"⟩, 43), (⟨"LastNameModel", "stepBook", "(I)Z"⟩, 43), (⟨"LastNameModel", "isSo", "(IIII)Z"⟩, 43), (⟨"LastNameModel", "isSet", "(I)Z"⟩, 43), (⟨"LastNameModel", "areTwo", "(II)Z"⟩, 43), (⟨"LastNameModel", "findGoal", "(IIII)I"⟩, 43), (⟨"LastNameModel", "sumOf", "()I"⟩, 43), (⟨"LastNameModel", "addState", "(III)V"⟩, 43), (⟨"LastNameModel", "isGoal", "(III)Z"⟩, 43), (⟨"LastNameModel", "isKnown", "(I)Z"⟩, 43), (⟨"LastNameModel", "isState", "(I)Z"⟩, 43), (⟨"LastNameModel", "nextOrder", "(I)Z"⟩, 43)]
theorem lw_r7 : ∀ q ∈ lw_privs_7, lw_okq q := List.forall_mem_cons.mpr ⟨lw_p96, List.forall_mem_cons.mpr ⟨lw_p97, List.forall_mem_cons.mpr ⟨lw_p98, List.forall_mem_cons.mpr ⟨lw_p99, List.forall_mem_cons.mpr ⟨lw_p100, List.forall_mem_cons.mpr ⟨lw_p101, List.forall_mem_cons.mpr ⟨lw_p102, List.forall_mem_cons.mpr ⟨lw_p103, List.forall_mem_cons.mpr ⟨lw_p104, List.forall_mem_cons.mpr ⟨lw_p105, List.forall_mem_cons.mpr ⟨lw_p106, List.forall_mem_cons.mpr ⟨lw_p107, List.forall_mem_cons.mpr ⟨lw_p108, fun _ h => absurd h List.not_mem_nil⟩⟩⟩⟩⟩⟩⟩⟩⟩⟩⟩⟩⟩
def lw_privs : List (MethodName × Nat) := lw_privs_1 ++ (lw_privs_2 ++ (lw_privs_3 ++ (lw_privs_4 ++ (lw_privs_5 ++ (lw_privs_6 ++ (lw_privs_7))))))
def lw_tbl : List Cond := k2_sels lw_privs ++ tables_1
theorem lw_privs_ok : ∀ q ∈ lw_privs, lw_okq q := by
  show ∀ q ∈ lw_privs_1 ++ (lw_privs_2 ++ (lw_privs_3 ++ (lw_privs_4 ++ (lw_privs_5 ++ (lw_privs_6 ++ (lw_privs_7)))))), lw_okq q
  exact List.forall_mem_append.mpr ⟨lw_r1, List.forall_mem_append.mpr ⟨lw_r2, List.forall_mem_append.mpr ⟨lw_r3, List.forall_mem_append.mpr ⟨lw_r4, List.forall_mem_append.mpr ⟨lw_r5, List.forall_mem_append.mpr ⟨lw_r6, lw_r7⟩⟩⟩⟩⟩⟩
end
section
/-! ===== BEGIN words of one list among another's, by their places ===== -/
theorem goodIn_r {big : List Cond} (ws : List Cond) (ps : List Nat) (hp : ws = ps.filterMap (fun i => big[i]?)) (h : ws.all goodWord = true) : GoodIn big ws := by
  intro w hw
  have h1 := List.all_eq_true.mp h w hw
  rw [hp] at hw
  obtain ⟨i, -, hi⟩ := List.mem_filterMap.mp hw
  have hm : w ∈ big := by first | exact List.mem_of_getElem? hi | exact List.getElem?_mem hi
  exact ⟨hm, good_of_word h1⟩
theorem goodIn_app {big a b : List Cond} (ha : GoodIn big a) (hb : GoodIn big b) : GoodIn big (a ++ b) := fun w h => (List.mem_append.mp h).elim (ha w) (hb w)
theorem goodIn_ca {big a b : List Cond} {c : Cond} (ha : GoodIn big (c :: a)) (hb : GoodIn big b) : GoodIn big (c :: (a ++ b)) := fun w h => (List.mem_cons.mp h).elim (fun e => ha w (List.mem_cons.mpr (Or.inl e))) (fun h => (List.mem_append.mp h).elim (fun h => ha w (List.mem_cons.mpr (Or.inr h))) (hb w))
theorem goodIn_sub {big ws : List Cond} (hm : ∀ w ∈ ws, w ∈ big) (h : ws.all goodWord = true) : GoodIn big ws := fun w hw => ⟨hm w hw, good_of_word (List.all_eq_true.mp h w hw)⟩
/-! ===== END ===== -/
def RX0 : String := "LastName$Crowd"
def TX0 : u_T := fun k => match k with
  | 0 => ("LastName$Crowd", "world", "LLastName$World;", true)
  | 1 => ("LastName$Crowd", "goings", "LLastName$Goings;", true)
  | 2 => ("LastName$Crowd", "town", "LLastName$Town;", true)
  | 3 => ("LastName$Crowd", "gate", "I", false)
  | 4 => ("LastName$Crowd", "who", "I", false)
  | _ => ("LastName$Crowd", "name", "I", false)
def tyX0 : Nat → FieldType := fun k => match k with
  | 0 => .object "LastName$World"
  | 1 => .object "LastName$Goings"
  | 2 => .object "LastName$Town"
  | 3 => .int
  | 4 => .int
  | _ => .int
abbrev wsX00 : List Cond := u_ws RX0 TX0 6
theorem nmX0 : ∀ a, a < 6 → ∀ b, b < 6 → a ≠ b → (TX0 a).2.1 ≠ (TX0 b).2.1 := by decide +kernel
theorem tyX0_ok : ∀ k, k < 6 → parseFieldDescriptor (TX0 k).2.2.1 = some (tyX0 k) := by decide +kernel
abbrev cX0_init : ByteArray := prog_2_method_1_code
def yX0_init : MethodName := ⟨RX0, "<init>", "(LLastName$World;LLastName$Goings;)V"⟩
abbrev cX0_countOrders : ByteArray := prog_2_method_2_code
def yX0_countOrders : MethodName := ⟨RX0, "countOrders", "(III)I"⟩
abbrev cX0_countFrom : ByteArray := prog_2_method_3_code
def yX0_countFrom : MethodName := ⟨RX0, "countFrom", "(II)I"⟩
abbrev cX0_leastOwed : ByteArray := prog_2_method_4_code
def yX0_leastOwed : MethodName := ⟨RX0, "leastOwed", "(II)I"⟩
abbrev cX0_leastFrom : ByteArray := prog_2_method_5_code
def yX0_leastFrom : MethodName := ⟨RX0, "leastFrom", "(II)I"⟩
abbrev cX0_lesser : ByteArray := prog_2_method_6_code
def yX0_lesser : MethodName := ⟨RX0, "lesser", "(II)I"⟩
def RX1 : String := "LastName$Goings"
def TX1 : u_T := fun k => match k with
  | 0 => ("LastName$Goings", "world", "LLastName$World;", true)
  | 1 => ("LastName$Goings", "laws", "[LLastName$Law;", true)
  | 2 => ("LastName$Goings", "sums", "LLastName$Sums;", true)
  | _ => ("LastName$Goings", "tried", "LLastName$Town;", true)
def tyX1 : Nat → FieldType := fun k => match k with
  | 0 => .object "LastName$World"
  | 1 => .array (.object "LastName$Law")
  | 2 => .object "LastName$Sums"
  | _ => .object "LastName$Town"
abbrev wsX10 : List Cond := u_ws RX1 TX1 4
theorem nmX1 : ∀ a, a < 4 → ∀ b, b < 4 → a ≠ b → (TX1 a).2.1 ≠ (TX1 b).2.1 := by decide +kernel
theorem tyX1_ok : ∀ k, k < 4 → parseFieldDescriptor (TX1 k).2.2.1 = some (tyX1 k) := by decide +kernel
abbrev cX1_init : ByteArray := prog_3_method_1_code
def yX1_init : MethodName := ⟨RX1, "<init>", "(LLastName$World;[LLastName$Law;)V"⟩
abbrev cX1_ruling : ByteArray := prog_3_method_2_code
def yX1_ruling : MethodName := ⟨RX1, "ruling", "()LLastName$Law;"⟩
abbrev cX1_canBe : ByteArray := prog_3_method_3_code
def yX1_canBe : MethodName := ⟨RX1, "canBe", "(LLastName$Town;II)Z"⟩
abbrev cX1_isBarred : ByteArray := prog_3_method_4_code
def yX1_isBarred : MethodName := ⟨RX1, "isBarred", "(LLastName$Town;II)Z"⟩
abbrev cX1_feeOf : ByteArray := prog_3_method_5_code
def yX1_feeOf : MethodName := ⟨RX1, "feeOf", "(LLastName$Town;II)I"⟩
abbrev cX1_placeFor : ByteArray := prog_3_method_6_code
def yX1_placeFor : MethodName := ⟨RX1, "placeFor", "(LLastName$Town;II)I"⟩
abbrev cX1_tellGoing : ByteArray := prog_3_method_7_code
def yX1_tellGoing : MethodName := ⟨RX1, "tellGoing", "(LLastName$Town;II)V"⟩
abbrev cX1_doNow : ByteArray := prog_3_method_8_code
def yX1_doNow : MethodName := ⟨RX1, "doNow", "(II)I"⟩
abbrev cX1_doTried : ByteArray := prog_3_method_9_code
def yX1_doTried : MethodName := ⟨RX1, "doTried", "(LLastName$Town;II)I"⟩
abbrev cX1_judgeRow : ByteArray := prog_3_method_10_code
def yX1_judgeRow : MethodName := ⟨RX1, "judgeRow", "()I"⟩
def RX2 : String := "LastName$Law"
def TX2 : u_T := fun k => match k with
  | 0 => ("LastName$Law", "code", "[I", true)
  | 1 => ("LastName$Law", "codeLength", "I", false)
  | 2 => ("LastName$Law", "kinds", "[I", true)
  | 3 => ("LastName$Law", "from", "[I", true)
  | 4 => ("LastName$Law", "to", "[I", true)
  | 5 => ("LastName$Law", "size", "I", false)
  | 6 => ("LastName$Law", "take", "I", false)
  | _ => ("LastName$Law", "fee", "I", false)
def tyX2 : Nat → FieldType := fun k => match k with
  | 0 => .array .int
  | 1 => .int
  | 2 => .array .int
  | 3 => .array .int
  | 4 => .array .int
  | 5 => .int
  | 6 => .int
  | _ => .int
abbrev wsX20 : List Cond := u_ws RX2 TX2 8
theorem nmX2 : ∀ a, a < 8 → ∀ b, b < 8 → a ≠ b → (TX2 a).2.1 ≠ (TX2 b).2.1 := by decide +kernel
theorem tyX2_ok : ∀ k, k < 8 → parseFieldDescriptor (TX2 k).2.2.1 = some (tyX2 k) := by decide +kernel
abbrev cX2_init : ByteArray := prog_4_method_1_code
def yX2_init : MethodName := ⟨RX2, "<init>", "()V"⟩
abbrev cX2_clear : ByteArray := prog_4_method_2_code
def yX2_clear : MethodName := ⟨RX2, "clear", "()V"⟩
abbrev cX2_copyFrom : ByteArray := prog_4_method_3_code
def yX2_copyFrom : MethodName := ⟨RX2, "copyFrom", "(LLastName$Law;)V"⟩
abbrev cX2_emit : ByteArray := prog_4_method_4_code
def yX2_emit : MethodName := ⟨RX2, "emit", "(I)V"⟩
abbrev cX2_addClause : ByteArray := prog_4_method_5_code
def yX2_addClause : MethodName := ⟨RX2, "addClause", "(III)V"⟩
abbrev cX2_hasAlready : ByteArray := prog_4_method_6_code
def yX2_hasAlready : MethodName := ⟨RX2, "hasAlready", "(I)Z"⟩
abbrev cX2_kindOf : ByteArray := prog_4_method_7_code
def yX2_kindOf : MethodName := ⟨RX2, "kindOf", "(I)I"⟩
abbrev cX2_fromOf : ByteArray := prog_4_method_8_code
def yX2_fromOf : MethodName := ⟨RX2, "fromOf", "(I)I"⟩
abbrev cX2_toOf : ByteArray := prog_4_method_9_code
def yX2_toOf : MethodName := ⟨RX2, "toOf", "(I)I"⟩
abbrev cX2_codeAt : ByteArray := prog_4_method_10_code
def yX2_codeAt : MethodName := ⟨RX2, "codeAt", "(I)I"⟩
def RX3 : String := "LastName$Odds"
def TX3 : u_T := fun k => match k with
  | 0 => ("LastName$Odds", "world", "LLastName$World;", true)
  | 1 => ("LastName$Odds", "goings", "LLastName$Goings;", true)
  | 2 => ("LastName$Odds", "town", "LLastName$Town;", true)
  | 3 => ("LastName$Odds", "who", "I", false)
  | 4 => ("LastName$Odds", "name", "I", false)
  | 5 => ("LastName$Odds", "upper", "J", false)
  | _ => ("LastName$Odds", "lower", "J", false)
def tyX3 : Nat → FieldType := fun k => match k with
  | 0 => .object "LastName$World"
  | 1 => .object "LastName$Goings"
  | 2 => .object "LastName$Town"
  | 3 => .int
  | 4 => .int
  | 5 => .long
  | _ => .long
abbrev wsX30 : List Cond := u_ws RX3 TX3 7
theorem nmX3 : ∀ a, a < 7 → ∀ b, b < 7 → a ≠ b → (TX3 a).2.1 ≠ (TX3 b).2.1 := by decide +kernel
theorem tyX3_ok : ∀ k, k < 7 → parseFieldDescriptor (TX3 k).2.2.1 = some (tyX3 k) := by decide +kernel
abbrev cX3_init : ByteArray := prog_5_method_1_code
def yX3_init : MethodName := ⟨RX3, "<init>", "(LLastName$World;LLastName$Goings;)V"⟩
abbrev cX3_lotsOfRow : ByteArray := prog_5_method_2_code
def yX3_lotsOfRow : MethodName := ⟨RX3, "lotsOfRow", "()I"⟩
abbrev cX3_isOfLot : ByteArray := prog_5_method_3_code
def yX3_isOfLot : MethodName := ⟨RX3, "isOfLot", "(I)Z"⟩
abbrev cX3_reckon : ByteArray := prog_5_method_4_code
def yX3_reckon : MethodName := ⟨RX3, "reckon", "(II)V"⟩
abbrev cX3_sumFrom : ByteArray := prog_5_method_5_code
def yX3_sumFrom : MethodName := ⟨RX3, "sumFrom", "(IJ)J"⟩
abbrev cX3_sumOfLot : ByteArray := prog_5_method_6_code
def yX3_sumOfLot : MethodName := ⟨RX3, "sumOfLot", "(IJ)J"⟩
abbrev cX3_commonDivisor : ByteArray := prog_5_method_7_code
def yX3_commonDivisor : MethodName := ⟨RX3, "commonDivisor", "(JJ)J"⟩
def RX4 : String := "LastName$Reader"
def TX4 : u_T := fun k => match k with
  | 0 => ("LastName$Reader", "bytes", "[I", true)
  | 1 => ("LastName$Reader", "length", "I", false)
  | 2 => ("LastName$Reader", "kinds", "[I", true)
  | 3 => ("LastName$Reader", "starts", "[I", true)
  | 4 => ("LastName$Reader", "numbers", "[I", true)
  | 5 => ("LastName$Reader", "tokens", "I", false)
  | 6 => ("LastName$Reader", "hasRead", "Z", false)
  | 7 => ("LastName$Reader", "fault", "I", false)
  | 8 => ("LastName$Reader", "place", "I", false)
  | 9 => ("LastName$Reader", "at", "I", false)
  | 10 => ("LastName$Reader", "kind", "I", false)
  | 11 => ("LastName$Reader", "allowedNames", "I", false)
  | _ => ("LastName$Reader", "draft", "LLastName$Law;", true)
def tyX4 : Nat → FieldType := fun k => match k with
  | 0 => .array .int
  | 1 => .int
  | 2 => .array .int
  | 3 => .array .int
  | 4 => .array .int
  | 5 => .int
  | 6 => .boolean
  | 7 => .int
  | 8 => .int
  | 9 => .int
  | 10 => .int
  | 11 => .int
  | _ => .object "LastName$Law"
abbrev wsX40 : List Cond := u_ws RX4 TX4 13
theorem nmX4 : ∀ a, a < 13 → ∀ b, b < 13 → a ≠ b → (TX4 a).2.1 ≠ (TX4 b).2.1 := by decide +kernel
theorem tyX4_ok : ∀ k, k < 13 → parseFieldDescriptor (TX4 k).2.2.1 = some (tyX4 k) := by decide +kernel
abbrev cX4_init : ByteArray := prog_6_method_1_code
def yX4_init : MethodName := ⟨RX4, "<init>", "()V"⟩
abbrev cX4_addFour : ByteArray := prog_6_method_2_code
def yX4_addFour : MethodName := ⟨RX4, "addFour", "(I)V"⟩
abbrev cX4_readTape : ByteArray := prog_6_method_3_code
def yX4_readTape : MethodName := ⟨RX4, "readTape", "()Z"⟩
abbrev cX4_split : ByteArray := prog_6_method_4_code
def yX4_split : MethodName := ⟨RX4, "split", "()V"⟩
abbrev cX4_addToken : ByteArray := prog_6_method_5_code
def yX4_addToken : MethodName := ⟨RX4, "addToken", "(III)V"⟩
abbrev cX4_endOfToken : ByteArray := prog_6_method_6_code
def yX4_endOfToken : MethodName := ⟨RX4, "endOfToken", "(I)I"⟩
abbrev cX4_kindOfToken : ByteArray := prog_6_method_7_code
def yX4_kindOfToken : MethodName := ⟨RX4, "kindOfToken", "(II)I"⟩
abbrev cX4_kindOfWord : ByteArray := prog_6_method_8_code
def yX4_kindOfWord : MethodName := ⟨RX4, "kindOfWord", "(II)I"⟩
abbrev cX4_isWordAt : ByteArray := prog_6_method_9_code
def yX4_isWordAt : MethodName := ⟨RX4, "isWordAt", "(III)Z"⟩
abbrev cX4_numberOf : ByteArray := prog_6_method_10_code
def yX4_numberOf : MethodName := ⟨RX4, "numberOf", "(II)I"⟩
abbrev cX4_byteAt : ByteArray := prog_6_method_11_code
def yX4_byteAt : MethodName := ⟨RX4, "byteAt", "(I)I"⟩
abbrev cX4_isBlank : ByteArray := prog_6_method_12_code
def yX4_isBlank : MethodName := ⟨RX4, "isBlank", "(I)Z"⟩
abbrev cX4_isLetter : ByteArray := prog_6_method_13_code
def yX4_isLetter : MethodName := ⟨RX4, "isLetter", "(I)Z"⟩
abbrev cX4_isDigit : ByteArray := prog_6_method_14_code
def yX4_isDigit : MethodName := ⟨RX4, "isDigit", "(I)Z"⟩
abbrev cX4_fail : ByteArray := prog_6_method_15_code
def yX4_fail : MethodName := ⟨RX4, "fail", "(I)V"⟩
abbrev cX4_step : ByteArray := prog_6_method_16_code
def yX4_step : MethodName := ⟨RX4, "step", "()V"⟩
abbrev cX4_faultOfClause : ByteArray := prog_6_method_17_code
def yX4_faultOfClause : MethodName := ⟨RX4, "faultOfClause", "()I"⟩
abbrev cX4_readGo : ByteArray := prog_6_method_18_code
def yX4_readGo : MethodName := ⟨RX4, "readGo", "()V"⟩
abbrev cX4_readRule : ByteArray := prog_6_method_19_code
def yX4_readRule : MethodName := ⟨RX4, "readRule", "(I)V"⟩
abbrev cX4_readNumber : ByteArray := prog_6_method_20_code
def yX4_readNumber : MethodName := ⟨RX4, "readNumber", "(I)I"⟩
abbrev cX4_expect : ByteArray := prog_6_method_21_code
def yX4_expect : MethodName := ⟨RX4, "expect", "(I)V"⟩
abbrev cX4_readEither : ByteArray := prog_6_method_22_code
def yX4_readEither : MethodName := ⟨RX4, "readEither", "()V"⟩
abbrev cX4_readAsk : ByteArray := prog_6_method_23_code
def yX4_readAsk : MethodName := ⟨RX4, "readAsk", "(I)V"⟩
abbrev cX4_readSum : ByteArray := prog_6_method_24_code
def yX4_readSum : MethodName := ⟨RX4, "readSum", "(I)V"⟩
abbrev cX4_readProduct : ByteArray := prog_6_method_25_code
def yX4_readProduct : MethodName := ⟨RX4, "readProduct", "(I)V"⟩
abbrev cX4_readOne : ByteArray := prog_6_method_26_code
def yX4_readOne : MethodName := ⟨RX4, "readOne", "(I)V"⟩
abbrev cX4_readName : ByteArray := prog_6_method_27_code
def yX4_readName : MethodName := ⟨RX4, "readName", "()V"⟩
abbrev cX4_opens : ByteArray := prog_6_method_28_code
def yX4_opens : MethodName := ⟨RX4, "opens", "(I)Z"⟩
abbrev cX4_compares : ByteArray := prog_6_method_29_code
def yX4_compares : MethodName := ⟨RX4, "compares", "(I)Z"⟩
def RX5 : String := "LastName$Search"
def TX5 : u_T := fun k => match k with
  | 0 => ("LastName$Search", "world", "LLastName$World;", true)
  | 1 => ("LastName$Search", "goings", "LLastName$Goings;", true)
  | 2 => ("LastName$Search", "town", "LLastName$Town;", true)
  | 3 => ("LastName$Search", "wanted", "[I", true)
  | 4 => ("LastName$Search", "states", "[J", true)
  | 5 => ("LastName$Search", "origins", "[I", true)
  | 6 => ("LastName$Search", "table", "[I", true)
  | _ => ("LastName$Search", "size", "I", false)
def tyX5 : Nat → FieldType := fun k => match k with
  | 0 => .object "LastName$World"
  | 1 => .object "LastName$Goings"
  | 2 => .object "LastName$Town"
  | 3 => .array .int
  | 4 => .array .long
  | 5 => .array .int
  | 6 => .array .int
  | _ => .int
abbrev wsX50 : List Cond := u_ws RX5 TX5 8
theorem nmX5 : ∀ a, a < 8 → ∀ b, b < 8 → a ≠ b → (TX5 a).2.1 ≠ (TX5 b).2.1 := by decide +kernel
theorem tyX5_ok : ∀ k, k < 8 → parseFieldDescriptor (TX5 k).2.2.1 = some (tyX5 k) := by decide +kernel
abbrev cX5_init : ByteArray := prog_7_method_1_code
def yX5_init : MethodName := ⟨RX5, "<init>", "(LLastName$World;LLastName$Goings;)V"⟩
abbrev cX5_wantNothing : ByteArray := prog_7_method_2_code
def yX5_wantNothing : MethodName := ⟨RX5, "wantNothing", "()V"⟩
abbrev cX5_want : ByteArray := prog_7_method_3_code
def yX5_want : MethodName := ⟨RX5, "want", "(II)V"⟩
abbrev cX5_find : ByteArray := prog_7_method_4_code
def yX5_find : MethodName := ⟨RX5, "find", "(I)I"⟩
abbrev cX5_goOnFrom : ByteArray := prog_7_method_5_code
def yX5_goOnFrom : MethodName := ⟨RX5, "goOnFrom", "(II)I"⟩
abbrev cX5_isAsWanted : ByteArray := prog_7_method_6_code
def yX5_isAsWanted : MethodName := ⟨RX5, "isAsWanted", "()Z"⟩
abbrev cX5_add : ByteArray := prog_7_method_7_code
def yX5_add : MethodName := ⟨RX5, "add", "(JI)Z"⟩
abbrev cX5_slotOf : ByteArray := prog_7_method_8_code
def yX5_slotOf : MethodName := ⟨RX5, "slotOf", "(J)I"⟩
abbrev cX5_lengthOf : ByteArray := prog_7_method_9_code
def yX5_lengthOf : MethodName := ⟨RX5, "lengthOf", "(I)I"⟩
abbrev cX5_goingOf : ByteArray := prog_7_method_10_code
def yX5_goingOf : MethodName := ⟨RX5, "goingOf", "(II)I"⟩
def RX6 : String := "LastName$Sums"
def TX6 : u_T := fun k => match k with
  | 0 => ("LastName$Sums", "values", "[I", true)
  | _ => ("LastName$Sums", "stack", "[I", true)
def tyX6 : Nat → FieldType := fun k => match k with
  | 0 => .array .int
  | _ => .array .int
abbrev wsX60 : List Cond := u_ws RX6 TX6 2
theorem nmX6 : ∀ a, a < 2 → ∀ b, b < 2 → a ≠ b → (TX6 a).2.1 ≠ (TX6 b).2.1 := by decide +kernel
theorem tyX6_ok : ∀ k, k < 2 → parseFieldDescriptor (TX6 k).2.2.1 = some (tyX6 k) := by decide +kernel
abbrev cX6_init : ByteArray := prog_8_method_1_code
def yX6_init : MethodName := ⟨RX6, "<init>", "()V"⟩
abbrev cX6_worthOf : ByteArray := prog_8_method_2_code
def yX6_worthOf : MethodName := ⟨RX6, "worthOf", "(LLastName$Law;I)I"⟩
abbrev cX6_worthOfBoth : ByteArray := prog_8_method_3_code
def yX6_worthOfBoth : MethodName := ⟨RX6, "worthOfBoth", "(IJJ)J"⟩
def RX7 : String := "LastName$Town"
def TX7 : u_T := fun k => match k with
  | 0 => ("LastName$Town", "names", "[I", true)
  | 1 => ("LastName$Town", "sizes", "[I", true)
  | _ => ("LastName$Town", "heaps", "[[I", true)
def tyX7 : Nat → FieldType := fun k => match k with
  | 0 => .array .int
  | 1 => .array .int
  | _ => .array (.array .int)
abbrev wsX70 : List Cond := u_ws RX7 TX7 3
theorem nmX7 : ∀ a, a < 3 → ∀ b, b < 3 → a ≠ b → (TX7 a).2.1 ≠ (TX7 b).2.1 := by decide +kernel
theorem tyX7_ok : ∀ k, k < 3 → parseFieldDescriptor (TX7 k).2.2.1 = some (tyX7 k) := by decide +kernel
abbrev cX7_init : ByteArray := prog_9_method_1_code
def yX7_init : MethodName := ⟨RX7, "<init>", "()V"⟩
abbrev cX7_copyFrom : ByteArray := prog_9_method_2_code
def yX7_copyFrom : MethodName := ⟨RX7, "copyFrom", "(LLastName$Town;)V"⟩
abbrev cX7_nameAtBirth : ByteArray := prog_9_method_3_code
def yX7_nameAtBirth : MethodName := ⟨RX7, "nameAtBirth", "(II)V"⟩
abbrev cX7_nameOf : ByteArray := prog_9_method_4_code
def yX7_nameOf : MethodName := ⟨RX7, "nameOf", "(I)I"⟩
abbrev cX7_sizeOf : ByteArray := prog_9_method_5_code
def yX7_sizeOf : MethodName := ⟨RX7, "sizeOf", "(I)I"⟩
abbrev cX7_nameAt : ByteArray := prog_9_method_6_code
def yX7_nameAt : MethodName := ⟨RX7, "nameAt", "(II)I"⟩
abbrev cX7_holderOf : ByteArray := prog_9_method_7_code
def yX7_holderOf : MethodName := ⟨RX7, "holderOf", "(I)I"⟩
abbrev cX7_leave : ByteArray := prog_9_method_8_code
def yX7_leave : MethodName := ⟨RX7, "leave", "(II)I"⟩
abbrev cX7_enter : ByteArray := prog_9_method_9_code
def yX7_enter : MethodName := ⟨RX7, "enter", "(III)I"⟩
abbrev cX7_packed : ByteArray := prog_9_method_10_code
def yX7_packed : MethodName := ⟨RX7, "packed", "()J"⟩
abbrev cX7_unpack : ByteArray := prog_9_method_11_code
def yX7_unpack : MethodName := ⟨RX7, "unpack", "(J)V"⟩
def RX8 : String := "LastName$Triples"
def TX8 : u_T := fun k => match k with
  | 0 => ("LastName$Triples", "cells", "[I", true)
  | _ => ("LastName$Triples", "size", "I", false)
def tyX8 : Nat → FieldType := fun k => match k with
  | 0 => .array .int
  | _ => .int
abbrev wsX80 : List Cond := u_ws RX8 TX8 2
theorem nmX8 : ∀ a, a < 2 → ∀ b, b < 2 → a ≠ b → (TX8 a).2.1 ≠ (TX8 b).2.1 := by decide +kernel
theorem tyX8_ok : ∀ k, k < 2 → parseFieldDescriptor (TX8 k).2.2.1 = some (tyX8 k) := by decide +kernel
abbrev cX8_init : ByteArray := prog_10_method_1_code
def yX8_init : MethodName := ⟨RX8, "<init>", "(I)V"⟩
abbrev cX8_add : ByteArray := prog_10_method_2_code
def yX8_add : MethodName := ⟨RX8, "add", "(III)I"⟩
abbrev cX8_at : ByteArray := prog_10_method_3_code
def yX8_at : MethodName := ⟨RX8, "at", "(II)I"⟩
abbrev cX8_copyFrom : ByteArray := prog_10_method_4_code
def yX8_copyFrom : MethodName := ⟨RX8, "copyFrom", "(LLastName$Triples;)V"⟩
def RX9 : String := "LastName$Ways"
def TX9 : u_T := fun k => match k with
  | 0 => ("LastName$Ways", "world", "LLastName$World;", true)
  | 1 => ("LastName$Ways", "goings", "LLastName$Goings;", true)
  | 2 => ("LastName$Ways", "town", "LLastName$Town;", true)
  | 3 => ("LastName$Ways", "count", "I", false)
  | 4 => ("LastName$Ways", "places", "[I", true)
  | _ => ("LastName$Ways", "parts", "[[I", true)
def tyX9 : Nat → FieldType := fun k => match k with
  | 0 => .object "LastName$World"
  | 1 => .object "LastName$Goings"
  | 2 => .object "LastName$Town"
  | 3 => .int
  | 4 => .array .int
  | _ => .array (.array .int)
abbrev wsX90 : List Cond := u_ws RX9 TX9 6
theorem nmX9 : ∀ a, a < 6 → ∀ b, b < 6 → a ≠ b → (TX9 a).2.1 ≠ (TX9 b).2.1 := by decide +kernel
theorem tyX9_ok : ∀ k, k < 6 → parseFieldDescriptor (TX9 k).2.2.1 = some (tyX9 k) := by decide +kernel
abbrev cX9_init : ByteArray := prog_11_method_1_code
def yX9_init : MethodName := ⟨RX9, "<init>", "(LLastName$World;LLastName$Goings;)V"⟩
abbrev cX9_hasLost : ByteArray := prog_11_method_2_code
def yX9_hasLost : MethodName := ⟨RX9, "hasLost", "()Z"⟩
abbrev cX9_isLost : ByteArray := prog_11_method_3_code
def yX9_isLost : MethodName := ⟨RX9, "isLost", "(I)Z"⟩
abbrev cX9_reckon : ByteArray := prog_11_method_4_code
def yX9_reckon : MethodName := ⟨RX9, "reckon", "()V"⟩
abbrev cX9_follow : ByteArray := prog_11_method_5_code
def yX9_follow : MethodName := ⟨RX9, "follow", "(I)V"⟩
abbrev cX9_followGoing : ByteArray := prog_11_method_6_code
def yX9_followGoing : MethodName := ⟨RX9, "followGoing", "(III)V"⟩
abbrev cX9_mayBeOf : ByteArray := prog_11_method_7_code
def yX9_mayBeOf : MethodName := ⟨RX9, "mayBeOf", "(II)Z"⟩
abbrev cX9_followIn : ByteArray := prog_11_method_8_code
def yX9_followIn : MethodName := ⟨RX9, "followIn", "(IIII)V"⟩
abbrev cX9_tellEnd : ByteArray := prog_11_method_9_code
def yX9_tellEnd : MethodName := ⟨RX9, "tellEnd", "()V"⟩
abbrev cX9_tellPlace : ByteArray := prog_11_method_10_code
def yX9_tellPlace : MethodName := ⟨RX9, "tellPlace", "(II)V"⟩
abbrev cX9_greatestPart : ByteArray := prog_11_method_11_code
def yX9_greatestPart : MethodName := ⟨RX9, "greatestPart", "(I)I"⟩
abbrev cX9_whomToLookAt : ByteArray := prog_11_method_12_code
def yX9_whomToLookAt : MethodName := ⟨RX9, "whomToLookAt", "()I"⟩
def RX10 : String := "LastName$World"
def TX10 : u_T := fun k => match k with
  | 0 => ("LastName$World", "people", "I", false)
  | 1 => ("LastName$World", "gates", "I", false)
  | 2 => ("LastName$World", "hour", "I", false)
  | 3 => ("LastName$World", "texts", "I", false)
  | 4 => ("LastName$World", "ruling", "I", false)
  | 5 => ("LastName$World", "x", "I", false)
  | 6 => ("LastName$World", "born", "[Z", true)
  | 7 => ("LastName$World", "lot", "[Z", true)
  | 8 => ("LastName$World", "paid", "[I", true)
  | 9 => ("LastName$World", "done", "[I", true)
  | 10 => ("LastName$World", "town", "LLastName$Town;", true)
  | 11 => ("LastName$World", "deeds", "LLastName$Triples;", true)
  | 12 => ("LastName$World", "row", "LLastName$Triples;", true)
  | _ => ("LastName$World", "book", "LLastName$Triples;", true)
def tyX10 : Nat → FieldType := fun k => match k with
  | 0 => .int
  | 1 => .int
  | 2 => .int
  | 3 => .int
  | 4 => .int
  | 5 => .int
  | 6 => .array .boolean
  | 7 => .array .boolean
  | 8 => .array .int
  | 9 => .array .int
  | 10 => .object "LastName$Town"
  | 11 => .object "LastName$Triples"
  | 12 => .object "LastName$Triples"
  | _ => .object "LastName$Triples"
abbrev wsX100 : List Cond := u_ws RX10 TX10 14
theorem nmX10 : ∀ a, a < 14 → ∀ b, b < 14 → a ≠ b → (TX10 a).2.1 ≠ (TX10 b).2.1 := by decide +kernel
theorem tyX10_ok : ∀ k, k < 14 → parseFieldDescriptor (TX10 k).2.2.1 = some (tyX10 k) := by decide +kernel
abbrev cX10_init : ByteArray := prog_12_method_1_code
def yX10_init : MethodName := ⟨RX10, "<init>", "()V"⟩
abbrev cX10_copyFrom : ByteArray := prog_12_method_2_code
def yX10_copyFrom : MethodName := ⟨RX10, "copyFrom", "(LLastName$World;)V"⟩
abbrev cX10_addPerson : ByteArray := prog_12_method_3_code
def yX10_addPerson : MethodName := ⟨RX10, "addPerson", "(Z)I"⟩
abbrev cX10_addGate : ByteArray := prog_12_method_4_code
def yX10_addGate : MethodName := ⟨RX10, "addGate", "(Z)I"⟩
abbrev cX10_hasPerson : ByteArray := prog_12_method_5_code
def yX10_hasPerson : MethodName := ⟨RX10, "hasPerson", "(I)Z"⟩
abbrev cX10_hasGate : ByteArray := prog_12_method_6_code
def yX10_hasGate : MethodName := ⟨RX10, "hasGate", "(I)Z"⟩
abbrev cX10_isInside : ByteArray := prog_12_method_7_code
def yX10_isInside : MethodName := ⟨RX10, "isInside", "(I)Z"⟩
abbrev cX10_countInside : ByteArray := prog_12_method_8_code
def yX10_countInside : MethodName := ⟨RX10, "countInside", "()I"⟩
abbrev cX10_owedUnder : ByteArray := prog_12_method_9_code
def yX10_owedUnder : MethodName := ⟨RX10, "owedUnder", "(I)I"⟩
abbrev cX10_didBy : ByteArray := prog_12_method_10_code
def yX10_didBy : MethodName := ⟨RX10, "didBy", "(I)I"⟩
abbrev cX10_coinsWhere : ByteArray := prog_12_method_11_code
def yX10_coinsWhere : MethodName := ⟨RX10, "coinsWhere", "(II)I"⟩
abbrev cX10_sow : ByteArray := prog_12_method_12_code
def yX10_sow : MethodName := ⟨RX10, "sow", "(I)V"⟩
abbrev cX10_draw : ByteArray := prog_12_method_13_code
def yX10_draw : MethodName := ⟨RX10, "draw", "(I)I"⟩
def RX11 : String := "LastName"
def TX11 : u_T := fun k => match k with
  | 0 => ("LastName", "now", "LLastName$World;", true)
  | 1 => ("LastName", "saved", "LLastName$World;", true)
  | 2 => ("LastName", "laws", "[LLastName$Law;", true)
  | 3 => ("LastName", "reader", "LLastName$Reader;", true)
  | 4 => ("LastName", "goings", "LLastName$Goings;", true)
  | 5 => ("LastName", "odds", "LLastName$Odds;", true)
  | 6 => ("LastName", "book", "LLastName$Ways;", true)
  | 7 => ("LastName", "search", "LLastName$Search;", true)
  | _ => ("LastName", "crowd", "LLastName$Crowd;", true)
def tyX11 : Nat → FieldType := fun k => match k with
  | 0 => .object "LastName$World"
  | 1 => .object "LastName$World"
  | 2 => .array (.object "LastName$Law")
  | 3 => .object "LastName$Reader"
  | 4 => .object "LastName$Goings"
  | 5 => .object "LastName$Odds"
  | 6 => .object "LastName$Ways"
  | 7 => .object "LastName$Search"
  | _ => .object "LastName$Crowd"
abbrev wsX110 : List Cond := u_ws RX11 TX11 9
theorem nmX11 : ∀ a, a < 9 → ∀ b, b < 9 → a ≠ b → (TX11 a).2.1 ≠ (TX11 b).2.1 := by decide +kernel
theorem tyX11_ok : ∀ k, k < 9 → parseFieldDescriptor (TX11 k).2.2.1 = some (tyX11 k) := by decide +kernel
abbrev cX11_init : ByteArray := prog_1_method_1_code
def yX11_init : MethodName := ⟨RX11, "<init>", "()V"⟩
abbrev cX11_person : ByteArray := prog_1_method_2_code
def yX11_person : MethodName := ⟨RX11, "person", "(Z)I"⟩
abbrev cX11_gate : ByteArray := prog_1_method_3_code
def yX11_gate : MethodName := ⟨RX11, "gate", "(Z)I"⟩
abbrev cX11_hour : ByteArray := prog_1_method_4_code
def yX11_hour : MethodName := ⟨RX11, "hour", "(I)Z"⟩
abbrev cX11_feed : ByteArray := prog_1_method_5_code
def yX11_feed : MethodName := ⟨RX11, "feed", "(IIIII)I"⟩
abbrev cX11_end : ByteArray := prog_1_method_6_code
def yX11_end : MethodName := ⟨RX11, "end", "(I)I"⟩
abbrev cX11_text : ByteArray := prog_1_method_7_code
def yX11_text : MethodName := ⟨RX11, "text", "()I"⟩
abbrev cX11_fault : ByteArray := prog_1_method_8_code
def yX11_fault : MethodName := ⟨RX11, "fault", "(I)I"⟩
abbrev cX11_by : ByteArray := prog_1_method_9_code
def yX11_by : MethodName := ⟨RX11, "by", "(I)Z"⟩
abbrev cX11_gone : ByteArray := prog_1_method_10_code
def yX11_gone : MethodName := ⟨RX11, "gone", "(I)I"⟩
abbrev cX11_go : ByteArray := prog_1_method_11_code
def yX11_go : MethodName := ⟨RX11, "go", "(II)I"⟩
abbrev cX11_of : ByteArray := prog_1_method_12_code
def yX11_of : MethodName := ⟨RX11, "of", "(II)I"⟩
abbrev cX11_called : ByteArray := prog_1_method_13_code
def yX11_called : MethodName := ⟨RX11, "called", "(I)I"⟩
abbrev cX11_heap : ByteArray := prog_1_method_14_code
def yX11_heap : MethodName := ⟨RX11, "heap", "(II)I"⟩
abbrev cX11_deed : ByteArray := prog_1_method_15_code
def yX11_deed : MethodName := ⟨RX11, "deed", "(II)I"⟩
abbrev cX11_owes : ByteArray := prog_1_method_16_code
def yX11_owes : MethodName := ⟨RX11, "owes", "(I)I"⟩
abbrev cX11_row : ByteArray := prog_1_method_17_code
def yX11_row : MethodName := ⟨RX11, "row", "(II)I"⟩
abbrev cX11_judge : ByteArray := prog_1_method_18_code
def yX11_judge : MethodName := ⟨RX11, "judge", "()I"⟩
abbrev cX11_then : ByteArray := prog_1_method_19_code
def yX11_then : MethodName := ⟨RX11, "then", "(I)I"⟩
abbrev cX11_chance : ByteArray := prog_1_method_20_code
def yX11_chance : MethodName := ⟨RX11, "chance", "(III)J"⟩
abbrev cX11_line : ByteArray := prog_1_method_21_code
def yX11_line : MethodName := ⟨RX11, "line", "(ZII)I"⟩
abbrev cX11_ways : ByteArray := prog_1_method_22_code
def yX11_ways : MethodName := ⟨RX11, "ways", "()I"⟩
abbrev cX11_may : ByteArray := prog_1_method_23_code
def yX11_may : MethodName := ⟨RX11, "may", "(I)I"⟩
abbrev cX11_ask : ByteArray := prog_1_method_24_code
def yX11_ask : MethodName := ⟨RX11, "ask", "(I)I"⟩
abbrev cX11_fewest : ByteArray := prog_1_method_25_code
def yX11_fewest : MethodName := ⟨RX11, "fewest", "(IIIII)I"⟩
abbrev cX11_third : ByteArray := prog_1_method_26_code
def yX11_third : MethodName := ⟨RX11, "third", "(II)I"⟩
abbrev cX11_setGoal : ByteArray := prog_1_method_27_code
def yX11_setGoal : MethodName := ⟨RX11, "setGoal", "(III)Z"⟩
abbrev cX11_left : ByteArray := prog_1_method_28_code
def yX11_left : MethodName := ⟨RX11, "left", "(III)I"⟩
abbrev cX11_thief : ByteArray := prog_1_method_29_code
def yX11_thief : MethodName := ⟨RX11, "thief", "(II)I"⟩
abbrev cX11_seed : ByteArray := prog_1_method_30_code
def yX11_seed : MethodName := ⟨RX11, "seed", "(I)Z"⟩
abbrev cX11_days : ByteArray := prog_1_method_31_code
def yX11_days : MethodName := ⟨RX11, "days", "(I)I"⟩
abbrev cX11_image : ByteArray := prog_1_method_32_code
def yX11_image : MethodName := ⟨RX11, "image", "()I"⟩
abbrev cX11_back : ByteArray := prog_1_method_33_code
def yX11_back : MethodName := ⟨RX11, "back", "()I"⟩
abbrev cX11_about : ByteArray := prog_1_method_34_code
def yX11_about : MethodName := ⟨RX11, "about", "(I)I"⟩
abbrev cX11_isName : ByteArray := prog_1_method_35_code
def yX11_isName : MethodName := ⟨RX11, "isName", "(I)Z"⟩
abbrev cX11_isNameOrNone : ByteArray := prog_1_method_36_code
def yX11_isNameOrNone : MethodName := ⟨RX11, "isNameOrNone", "(I)Z"⟩
def RX12 : String := "LastNameModel"
def TX12 : u_T := fun k => match k with
  | 0 => ("LastNameModel", "a", "[I", true)
  | 1 => ("LastNameModel", "image", "[I", true)
  | 2 => ("LastNameModel", "d", "[I", true)
  | 3 => ("LastNameModel", "b", "I", false)
  | 4 => ("LastNameModel", "texts", "[I", true)
  | 5 => ("LastNameModel", "tape", "[I", true)
  | 6 => ("LastNameModel", "taped", "I", false)
  | 7 => ("LastNameModel", "fault", "I", false)
  | 8 => ("LastNameModel", "faultPlace", "I", false)
  | 9 => ("LastNameModel", "at", "I", false)
  | 10 => ("LastNameModel", "place", "I", false)
  | 11 => ("LastNameModel", "token", "I", false)
  | 12 => ("LastNameModel", "number", "I", false)
  | 13 => ("LastNameModel", "word", "J", false)
  | 14 => ("LastNameModel", "text0", "I", false)
  | 15 => ("LastNameModel", "clauses", "I", false)
  | 16 => ("LastNameModel", "written", "I", false)
  | 17 => ("LastNameModel", "came", "I", false)
  | 18 => ("LastNameModel", "pile", "[I", true)
  | 19 => ("LastNameModel", "piled", "I", false)
  | 20 => ("LastNameModel", "opens", "I", false)
  | 21 => ("LastNameModel", "isWhole", "Z", false)
  | 22 => ("LastNameModel", "sort0", "I", false)
  | 23 => ("LastNameModel", "once", "I", false)
  | 24 => ("LastNameModel", "named", "[I", true)
  | 25 => ("LastNameModel", "values", "[J", true)
  | 26 => ("LastNameModel", "truth", "[Z", true)
  | 27 => ("LastNameModel", "upper", "J", false)
  | 28 => ("LastNameModel", "under", "J", false)
  | 29 => ("LastNameModel", "lots", "[I", true)
  | 30 => ("LastNameModel", "shares", "[J", true)
  | 31 => ("LastNameModel", "tried", "[I", true)
  | 32 => ("LastNameModel", "wayMany", "I", false)
  | 33 => ("LastNameModel", "mays", "[I", true)
  | 34 => ("LastNameModel", "parts", "[I", true)
  | 35 => ("LastNameModel", "states", "[I", true)
  | 36 => ("LastNameModel", "camesFrom", "[I", true)
  | 37 => ("LastNameModel", "cameBy", "[I", true)
  | 38 => ("LastNameModel", "chain", "[I", true)
  | 39 => ("LastNameModel", "chains", "[I", true)
  | 40 => ("LastNameModel", "stateMany", "I", false)
  | 41 => ("LastNameModel", "path", "[I", true)
  | _ => ("LastNameModel", "order", "[I", true)
def tyX12 : Nat → FieldType := fun k => match k with
  | 0 => .array .int
  | 1 => .array .int
  | 2 => .array .int
  | 3 => .int
  | 4 => .array .int
  | 5 => .array .int
  | 6 => .int
  | 7 => .int
  | 8 => .int
  | 9 => .int
  | 10 => .int
  | 11 => .int
  | 12 => .int
  | 13 => .long
  | 14 => .int
  | 15 => .int
  | 16 => .int
  | 17 => .int
  | 18 => .array .int
  | 19 => .int
  | 20 => .int
  | 21 => .boolean
  | 22 => .int
  | 23 => .int
  | 24 => .array .int
  | 25 => .array .long
  | 26 => .array .boolean
  | 27 => .long
  | 28 => .long
  | 29 => .array .int
  | 30 => .array .long
  | 31 => .array .int
  | 32 => .int
  | 33 => .array .int
  | 34 => .array .int
  | 35 => .array .int
  | 36 => .array .int
  | 37 => .array .int
  | 38 => .array .int
  | 39 => .array .int
  | 40 => .int
  | 41 => .array .int
  | _ => .array .int
abbrev wsX120 : List Cond := u_ws RX12 TX12 43
theorem nmX12 : ∀ a, a < 43 → ∀ b, b < 43 → a ≠ b → (TX12 a).2.1 ≠ (TX12 b).2.1 := by decide +kernel
theorem tyX12_ok : ∀ k, k < 43 → parseFieldDescriptor (TX12 k).2.2.1 = some (tyX12 k) := by decide +kernel
abbrev cX12_init : ByteArray := prog_14_method_1_code
def yX12_init : MethodName := ⟨RX12, "<init>", "()V"⟩
abbrev cX12_keep : ByteArray := prog_14_method_2_code
def yX12_keep : MethodName := ⟨RX12, "keep", "()V"⟩
abbrev cX12_copy : ByteArray := prog_14_method_3_code
def yX12_copy : MethodName := ⟨RX12, "copy", "(II)V"⟩
abbrev cX12_tries : ByteArray := prog_14_method_4_code
def yX12_tries : MethodName := ⟨RX12, "tries", "(I)V"⟩
abbrev cX12_isIn : ByteArray := prog_14_method_5_code
def yX12_isIn : MethodName := ⟨RX12, "isIn", "(III)Z"⟩
abbrev cX12_held : ByteArray := prog_14_method_6_code
def yX12_held : MethodName := ⟨RX12, "held", "(JII)I"⟩
abbrev cX12_isPerson : ByteArray := prog_14_method_7_code
def yX12_isPerson : MethodName := ⟨RX12, "isPerson", "(I)Z"⟩
abbrev cX12_isGate : ByteArray := prog_14_method_8_code
def yX12_isGate : MethodName := ⟨RX12, "isGate", "(I)Z"⟩
abbrev cX12_isLot : ByteArray := prog_14_method_9_code
def yX12_isLot : MethodName := ⟨RX12, "isLot", "(I)Z"⟩
abbrev cX12_isBorn : ByteArray := prog_14_method_10_code
def yX12_isBorn : MethodName := ⟨RX12, "isBorn", "(I)Z"⟩
abbrev cX12_person : ByteArray := prog_14_method_11_code
def yX12_person : MethodName := ⟨RX12, "person", "(Z)I"⟩
abbrev cX12_gate : ByteArray := prog_14_method_12_code
def yX12_gate : MethodName := ⟨RX12, "gate", "(Z)I"⟩
abbrev cX12_hour : ByteArray := prog_14_method_13_code
def yX12_hour : MethodName := ⟨RX12, "hour", "(I)Z"⟩
abbrev cX12_four : ByteArray := prog_14_method_14_code
def yX12_four : MethodName := ⟨RX12, "four", "(I)V"⟩
abbrev cX12_feed : ByteArray := prog_14_method_15_code
def yX12_feed : MethodName := ⟨RX12, "feed", "(IIIII)I"⟩
abbrev cX12_end : ByteArray := prog_14_method_16_code
def yX12_end : MethodName := ⟨RX12, "end", "(I)I"⟩
abbrev cX12_byteAt : ByteArray := prog_14_method_17_code
def yX12_byteAt : MethodName := ⟨RX12, "byteAt", "(I)I"⟩
abbrev cX12_isLetter : ByteArray := prog_14_method_18_code
def yX12_isLetter : MethodName := ⟨RX12, "isLetter", "(I)Z"⟩
abbrev cX12_isDigit : ByteArray := prog_14_method_19_code
def yX12_isDigit : MethodName := ⟨RX12, "isDigit", "(I)Z"⟩
abbrev cX12_nextToken : ByteArray := prog_14_method_20_code
def yX12_nextToken : MethodName := ⟨RX12, "nextToken", "()V"⟩
abbrev cX12_w3 : ByteArray := prog_14_method_21_code
def yX12_w3 : MethodName := ⟨RX12, "w3", "(III)J"⟩
abbrev cX12_w5 : ByteArray := prog_14_method_22_code
def yX12_w5 : MethodName := ⟨RX12, "w5", "(IIIII)J"⟩
abbrev cX12_w4 : ByteArray := prog_14_method_23_code
def yX12_w4 : MethodName := ⟨RX12, "w4", "(IIII)J"⟩
abbrev cX12_isWord : ByteArray := prog_14_method_25_code
def yX12_isWord : MethodName := ⟨RX12, "isWord", "(J)Z"⟩
abbrev cX12_emit : ByteArray := prog_14_method_26_code
def yX12_emit : MethodName := ⟨RX12, "emit", "(II)V"⟩
abbrev cX12_push : ByteArray := prog_14_method_27_code
def yX12_push : MethodName := ⟨RX12, "push", "(I)V"⟩
abbrev cX12_whole : ByteArray := prog_14_method_28_code
def yX12_whole : MethodName := ⟨RX12, "whole", "()V"⟩
abbrev cX12_settle : ByteArray := prog_14_method_29_code
def yX12_settle : MethodName := ⟨RX12, "settle", "(I)V"⟩
abbrev cX12_nameOf : ByteArray := prog_14_method_30_code
def yX12_nameOf : MethodName := ⟨RX12, "nameOf", "()I"⟩
abbrev cX12_isBarred : ByteArray := prog_14_method_31_code
def yX12_isBarred : MethodName := ⟨RX12, "isBarred", "(I)Z"⟩
abbrev cX12_beginOne : ByteArray := prog_14_method_32_code
def yX12_beginOne : MethodName := ⟨RX12, "beginOne", "()I"⟩
abbrev cX12_hasParen : ByteArray := prog_14_method_33_code
def yX12_hasParen : MethodName := ⟨RX12, "hasParen", "()Z"⟩
abbrev cX12_goesOn : ByteArray := prog_14_method_34_code
def yX12_goesOn : MethodName := ⟨RX12, "goesOn", "()Z"⟩
abbrev cX12_behindOne : ByteArray := prog_14_method_35_code
def yX12_behindOne : MethodName := ⟨RX12, "behindOne", "()I"⟩
abbrev cX12_summed : ByteArray := prog_14_method_36_code
def yX12_summed : MethodName := ⟨RX12, "summed", "()I"⟩
abbrev cX12_compareOf : ByteArray := prog_14_method_37_code
def yX12_compareOf : MethodName := ⟨RX12, "compareOf", "()I"⟩
abbrev cX12_asks : ByteArray := prog_14_method_38_code
def yX12_asks : MethodName := ⟨RX12, "asks", "()I"⟩
abbrev cX12_either : ByteArray := prog_14_method_39_code
def yX12_either : MethodName := ⟨RX12, "either", "()I"⟩
abbrev cX12_sortOf : ByteArray := prog_14_method_40_code
def yX12_sortOf : MethodName := ⟨RX12, "sortOf", "()I"⟩
abbrev cX12_figure : ByteArray := prog_14_method_41_code
def yX12_figure : MethodName := ⟨RX12, "figure", "(II)I"⟩
abbrev cX12_goneBy : ByteArray := prog_14_method_42_code
def yX12_goneBy : MethodName := ⟨RX12, "goneBy", "(I)I"⟩
abbrev cX12_clause : ByteArray := prog_14_method_43_code
def yX12_clause : MethodName := ⟨RX12, "clause", "()I"⟩
abbrev cX12_readText : ByteArray := prog_14_method_44_code
def yX12_readText : MethodName := ⟨RX12, "readText", "()I"⟩
abbrev cX12_text : ByteArray := prog_14_method_45_code
def yX12_text : MethodName := ⟨RX12, "text", "()I"⟩
abbrev cX12_fault : ByteArray := prog_14_method_46_code
def yX12_fault : MethodName := ⟨RX12, "fault", "(I)I"⟩
abbrev cX12_by : ByteArray := prog_14_method_47_code
def yX12_by : MethodName := ⟨RX12, "by", "(I)Z"⟩
abbrev cX12_gone : ByteArray := prog_14_method_48_code
def yX12_gone : MethodName := ⟨RX12, "gone", "(I)I"⟩
abbrev cX12_clip : ByteArray := prog_14_method_49_code
def yX12_clip : MethodName := ⟨RX12, "clip", "(J)J"⟩
abbrev cX12_two : ByteArray := prog_14_method_50_code
def yX12_two : MethodName := ⟨RX12, "two", "(IJJ)J"⟩
abbrev cX12_isAsked : ByteArray := prog_14_method_51_code
def yX12_isAsked : MethodName := ⟨RX12, "isAsked", "(IJJ)Z"⟩
abbrev cX12_work : ByteArray := prog_14_method_52_code
def yX12_work : MethodName := ⟨RX12, "work", "(I)V"⟩
abbrev cX12_clauses : ByteArray := prog_14_method_53_code
def yX12_clauses : MethodName := ⟨RX12, "clauses", "()I"⟩
abbrev cX12_sortAt : ByteArray := prog_14_method_54_code
def yX12_sortAt : MethodName := ⟨RX12, "sortAt", "(I)I"⟩
abbrev cX12_clauseOf : ByteArray := prog_14_method_55_code
def yX12_clauseOf : MethodName := ⟨RX12, "clauseOf", "(I)I"⟩
abbrev cX12_nameAt : ByteArray := prog_14_method_56_code
def yX12_nameAt : MethodName := ⟨RX12, "nameAt", "(I)I"⟩
abbrev cX12_hung : ByteArray := prog_14_method_57_code
def yX12_hung : MethodName := ⟨RX12, "hung", "(I)I"⟩
abbrev cX12_heapAt : ByteArray := prog_14_method_58_code
def yX12_heapAt : MethodName := ⟨RX12, "heapAt", "(II)I"⟩
abbrev cX12_nameAll : ByteArray := prog_14_method_59_code
def yX12_nameAll : MethodName := ⟨RX12, "nameAll", "(II)V"⟩
abbrev cX12_can : ByteArray := prog_14_method_60_code
def yX12_can : MethodName := ⟨RX12, "can", "(II)Z"⟩
abbrev cX12_feeOf : ByteArray := prog_14_method_61_code
def yX12_feeOf : MethodName := ⟨RX12, "feeOf", "(II)I"⟩
abbrev cX12_chosen : ByteArray := prog_14_method_62_code
def yX12_chosen : MethodName := ⟨RX12, "chosen", "(II)I"⟩
abbrev cX12_leave : ByteArray := prog_14_method_63_code
def yX12_leave : MethodName := ⟨RX12, "leave", "(II)V"⟩
abbrev cX12_come : ByteArray := prog_14_method_64_code
def yX12_come : MethodName := ⟨RX12, "come", "(III)V"⟩
abbrev cX12_draw : ByteArray := prog_14_method_65_code
def yX12_draw : MethodName := ⟨RX12, "draw", "(I)I"⟩
abbrev cX12_go : ByteArray := prog_14_method_66_code
def yX12_go : MethodName := ⟨RX12, "go", "(II)I"⟩
abbrev cX12_goes : ByteArray := prog_14_method_67_code
def yX12_goes : MethodName := ⟨RX12, "goes", "(II)Z"⟩
abbrev cX12_of : ByteArray := prog_14_method_68_code
def yX12_of : MethodName := ⟨RX12, "of", "(II)I"⟩
abbrev cX12_holder : ByteArray := prog_14_method_69_code
def yX12_holder : MethodName := ⟨RX12, "holder", "(I)I"⟩
abbrev cX12_called : ByteArray := prog_14_method_70_code
def yX12_called : MethodName := ⟨RX12, "called", "(I)I"⟩
abbrev cX12_heap : ByteArray := prog_14_method_71_code
def yX12_heap : MethodName := ⟨RX12, "heap", "(II)I"⟩
abbrev cX12_deed : ByteArray := prog_14_method_72_code
def yX12_deed : MethodName := ⟨RX12, "deed", "(II)I"⟩
abbrev cX12_owesOf : ByteArray := prog_14_method_73_code
def yX12_owesOf : MethodName := ⟨RX12, "owesOf", "(I)I"⟩
abbrev cX12_didOf : ByteArray := prog_14_method_74_code
def yX12_didOf : MethodName := ⟨RX12, "didOf", "(I)I"⟩
abbrev cX12_owes : ByteArray := prog_14_method_75_code
def yX12_owes : MethodName := ⟨RX12, "owes", "(I)I"⟩
abbrev cX12_row : ByteArray := prog_14_method_76_code
def yX12_row : MethodName := ⟨RX12, "row", "(II)I"⟩
abbrev cX12_doRow : ByteArray := prog_14_method_77_code
def yX12_doRow : MethodName := ⟨RX12, "doRow", "()I"⟩
abbrev cX12_judge : ByteArray := prog_14_method_78_code
def yX12_judge : MethodName := ⟨RX12, "judge", "()I"⟩
abbrev cX12_then : ByteArray := prog_14_method_79_code
def yX12_then : MethodName := ⟨RX12, "then", "(I)I"⟩
abbrev cX12_common : ByteArray := prog_14_method_80_code
def yX12_common : MethodName := ⟨RX12, "common", "(JJ)J"⟩
abbrev cX12_add : ByteArray := prog_14_method_81_code
def yX12_add : MethodName := ⟨RX12, "add", "(J)V"⟩
abbrev cX12_stepOn : ByteArray := prog_14_method_82_code
def yX12_stepOn : MethodName := ⟨RX12, "stepOn", "(I)Z"⟩
abbrev cX12_lotMany : ByteArray := prog_14_method_83_code
def yX12_lotMany : MethodName := ⟨RX12, "lotMany", "()I"⟩
abbrev cX12_chance : ByteArray := prog_14_method_84_code
def yX12_chance : MethodName := ⟨RX12, "chance", "(III)J"⟩
abbrev cX12_line : ByteArray := prog_14_method_85_code
def yX12_line : MethodName := ⟨RX12, "line", "(ZII)I"⟩
abbrev cX12_isSo : ByteArray := prog_14_method_86_code
def yX12_isSo : MethodName := ⟨RX12, "isSo", "(IIII)Z"⟩
abbrev cX12_stepBook : ByteArray := prog_14_method_87_code
def yX12_stepBook : MethodName := ⟨RX12, "stepBook", "(I)Z"⟩
abbrev cX12_count : ByteArray := prog_14_method_88_code
def yX12_count : MethodName := ⟨RX12, "count", "()V"⟩
abbrev cX12_findWays : ByteArray := prog_14_method_89_code
def yX12_findWays : MethodName := ⟨RX12, "findWays", "()V"⟩
abbrev cX12_ways : ByteArray := prog_14_method_90_code
def yX12_ways : MethodName := ⟨RX12, "ways", "()I"⟩
abbrev cX12_may : ByteArray := prog_14_method_91_code
def yX12_may : MethodName := ⟨RX12, "may", "(I)I"⟩
abbrev cX12_ask : ByteArray := prog_14_method_92_code
def yX12_ask : MethodName := ⟨RX12, "ask", "(I)I"⟩
abbrev cX12_sumOf : ByteArray := prog_14_method_93_code
def yX12_sumOf : MethodName := ⟨RX12, "sumOf", "()I"⟩
abbrev cX12_isState : ByteArray := prog_14_method_94_code
def yX12_isState : MethodName := ⟨RX12, "isState", "(I)Z"⟩
abbrev cX12_isKnown : ByteArray := prog_14_method_95_code
def yX12_isKnown : MethodName := ⟨RX12, "isKnown", "(I)Z"⟩
abbrev cX12_addState : ByteArray := prog_14_method_96_code
def yX12_addState : MethodName := ⟨RX12, "addState", "(III)V"⟩
abbrev cX12_isGoal : ByteArray := prog_14_method_97_code
def yX12_isGoal : MethodName := ⟨RX12, "isGoal", "(III)Z"⟩
abbrev cX12_findGoal : ByteArray := prog_14_method_98_code
def yX12_findGoal : MethodName := ⟨RX12, "findGoal", "(IIII)I"⟩
abbrev cX12_isSet : ByteArray := prog_14_method_99_code
def yX12_isSet : MethodName := ⟨RX12, "isSet", "(I)Z"⟩
abbrev cX12_areTwo : ByteArray := prog_14_method_100_code
def yX12_areTwo : MethodName := ⟨RX12, "areTwo", "(II)Z"⟩
abbrev cX12_fewest : ByteArray := prog_14_method_101_code
def yX12_fewest : MethodName := ⟨RX12, "fewest", "(IIIII)I"⟩
abbrev cX12_third : ByteArray := prog_14_method_102_code
def yX12_third : MethodName := ⟨RX12, "third", "(II)I"⟩
abbrev cX12_nextOrder : ByteArray := prog_14_method_103_code
def yX12_nextOrder : MethodName := ⟨RX12, "nextOrder", "(I)Z"⟩
abbrev cX12_left : ByteArray := prog_14_method_104_code
def yX12_left : MethodName := ⟨RX12, "left", "(III)I"⟩
abbrev cX12_thief : ByteArray := prog_14_method_105_code
def yX12_thief : MethodName := ⟨RX12, "thief", "(II)I"⟩
abbrev cX12_seed : ByteArray := prog_14_method_106_code
def yX12_seed : MethodName := ⟨RX12, "seed", "(I)Z"⟩
abbrev cX12_days : ByteArray := prog_14_method_107_code
def yX12_days : MethodName := ⟨RX12, "days", "(I)I"⟩
abbrev cX12_image : ByteArray := prog_14_method_108_code
def yX12_image : MethodName := ⟨RX12, "image", "()I"⟩
abbrev cX12_back : ByteArray := prog_14_method_109_code
def yX12_back : MethodName := ⟨RX12, "back", "()I"⟩
abbrev cX12_about : ByteArray := prog_14_method_110_code
def yX12_about : MethodName := ⟨RX12, "about", "(I)I"⟩
def RJx145de : String := "java/io/Serializable"
def TJx145de : u_T := fun k => match k with
  | _ => ("", "", "", false)
def tyJx145de : Nat → FieldType := fun k => match k with
  | _ => .int
theorem nmJx145de : ∀ a, a < 0 → ∀ b, b < 0 → a ≠ b → (TJx145de a).2.1 ≠ (TJx145de b).2.1 := by decide +kernel
theorem tyJx145de_ok : ∀ k, k < 0 → parseFieldDescriptor (TJx145de k).2.2.1 = some (tyJx145de k) := by decide +kernel
def RJx9f9b0 : String := "java/lang/CharSequence"
def TJx9f9b0 : u_T := fun k => match k with
  | _ => ("", "", "", false)
def tyJx9f9b0 : Nat → FieldType := fun k => match k with
  | _ => .int
theorem nmJx9f9b0 : ∀ a, a < 0 → ∀ b, b < 0 → a ≠ b → (TJx9f9b0 a).2.1 ≠ (TJx9f9b0 b).2.1 := by decide +kernel
theorem tyJx9f9b0_ok : ∀ k, k < 0 → parseFieldDescriptor (TJx9f9b0 k).2.2.1 = some (tyJx9f9b0 k) := by decide +kernel
def RJ11 : String := "java/lang/Character"
def TJ11 : u_T := fun k => match k with
  | _ => ("", "", "", false)
def tyJ11 : Nat → FieldType := fun k => match k with
  | _ => .int
theorem nmJ11 : ∀ a, a < 0 → ∀ b, b < 0 → a ≠ b → (TJ11 a).2.1 ≠ (TJ11 b).2.1 := by decide +kernel
theorem tyJ11_ok : ∀ k, k < 0 → parseFieldDescriptor (TJ11 k).2.2.1 = some (tyJ11 k) := by decide +kernel
abbrev cJ11_isValidCodePoint_9a6ad : ByteArray := prog_15_method_11_code
def yJ11_isValidCodePoint_9a6ad : MethodName := ⟨RJ11, "isValidCodePoint", "(I)Z"⟩
abbrev cJ11_highSurrogate_5068e : ByteArray := prog_15_method_28_code
def yJ11_highSurrogate_5068e : MethodName := ⟨RJ11, "highSurrogate", "(I)C"⟩
abbrev cJ11_lowSurrogate_5068e : ByteArray := prog_15_method_29_code
def yJ11_lowSurrogate_5068e : MethodName := ⟨RJ11, "lowSurrogate", "(I)C"⟩
def RJxb160c : String := "java/lang/Comparable"
def TJxb160c : u_T := fun k => match k with
  | _ => ("", "", "", false)
def tyJxb160c : Nat → FieldType := fun k => match k with
  | _ => .int
theorem nmJxb160c : ∀ a, a < 0 → ∀ b, b < 0 → a ≠ b → (TJxb160c a).2.1 ≠ (TJxb160c b).2.1 := by decide +kernel
theorem tyJxb160c_ok : ∀ k, k < 0 → parseFieldDescriptor (TJxb160c k).2.2.1 = some (tyJxb160c k) := by decide +kernel
def RJ9 : String := "java/lang/Math"
def TJ9 : u_T := fun k => match k with
  | _ => ("", "", "", false)
def tyJ9 : Nat → FieldType := fun k => match k with
  | _ => .int
theorem nmJ9 : ∀ a, a < 0 → ∀ b, b < 0 → a ≠ b → (TJ9 a).2.1 ≠ (TJ9 b).2.1 := by decide +kernel
theorem tyJ9_ok : ∀ k, k < 0 → parseFieldDescriptor (TJ9 k).2.2.1 = some (tyJ9 k) := by decide +kernel
abbrev cJ9_max_7cf53 : ByteArray := prog_16_method_65_code
def yJ9_max_7cf53 : MethodName := ⟨RJ9, "max", "(II)I"⟩
abbrev cJ9_max_f86c9 : ByteArray := prog_16_method_66_code
def yJ9_max_f86c9 : MethodName := ⟨RJ9, "max", "(JJ)J"⟩
abbrev cJ9_min_7cf53 : ByteArray := prog_16_method_69_code
def yJ9_min_7cf53 : MethodName := ⟨RJ9, "min", "(II)I"⟩
abbrev cJ9_min_f86c9 : ByteArray := prog_16_method_70_code
def yJ9_min_f86c9 : MethodName := ⟨RJ9, "min", "(JJ)J"⟩
def RJ0 : String := "java/lang/String"
def TJ0 : u_T := fun k => match k with
  | _ => ("", "", "", false)
def tyJ0 : Nat → FieldType := fun k => match k with
  | _ => .int
theorem nmJ0 : ∀ a, a < 0 → ∀ b, b < 0 → a ≠ b → (TJ0 a).2.1 ≠ (TJ0 b).2.1 := by decide +kernel
theorem tyJ0_ok : ∀ k, k < 0 → parseFieldDescriptor (TJ0 k).2.2.1 = some (tyJ0 k) := by decide +kernel
abbrev cJ0_length_8abf5 : ByteArray := prog_17_method_54_code
def yJ0_length_8abf5 : MethodName := ⟨RJ0, "length", "()I"⟩
abbrev cJ0_charAt_5068e : ByteArray := prog_17_method_56_code
def yJ0_charAt_5068e : MethodName := ⟨RJ0, "charAt", "(I)C"⟩
abbrev cJ0_indexOf_0f7a4 : ByteArray := prog_17_method_79_code
def yJ0_indexOf_0f7a4 : MethodName := ⟨RJ0, "indexOf", "(I)I"⟩
abbrev cJ0_indexOf_7cf53 : ByteArray := prog_17_method_80_code
def yJ0_indexOf_7cf53 : MethodName := ⟨RJ0, "indexOf", "(II)I"⟩
abbrev cJ0_coder_7d493 : ByteArray := prog_17_method_152_code
def yJ0_coder_7d493 : MethodName := ⟨RJ0, "coder", "()B"⟩
abbrev cJ0_isLatin1_aae02 : ByteArray := prog_17_method_154_code
def yJ0_isLatin1_aae02 : MethodName := ⟨RJ0, "isLatin1", "()Z"⟩
abbrev cJ0_checkIndex_df160 : ByteArray := prog_17_method_155_code
def yJ0_checkIndex_df160 : MethodName := ⟨RJ0, "checkIndex", "(II)V"⟩
abbrev cJ0_checkBoundsBeginEnd_23922 : ByteArray := prog_17_method_158_code
def yJ0_checkBoundsBeginEnd_23922 : MethodName := ⟨RJ0, "checkBoundsBeginEnd", "(III)V"⟩
def RJ1 : String := "java/lang/StringLatin1"
def TJ1 : u_T := fun k => match k with
  | _ => ("", "", "", false)
def tyJ1 : Nat → FieldType := fun k => match k with
  | _ => .int
theorem nmJ1 : ∀ a, a < 0 → ∀ b, b < 0 → a ≠ b → (TJ1 a).2.1 ≠ (TJ1 b).2.1 := by decide +kernel
theorem tyJ1_ok : ∀ k, k < 0 → parseFieldDescriptor (TJ1 k).2.2.1 = some (tyJ1 k) := by decide +kernel
abbrev cJ1_charAt_3b067 : ByteArray := prog_18_method_2_code
def yJ1_charAt_3b067 : MethodName := ⟨RJ1, "charAt", "([BI)C"⟩
abbrev cJ1_canEncode_9a6ad : ByteArray := prog_18_method_4_code
def yJ1_canEncode_9a6ad : MethodName := ⟨RJ1, "canEncode", "(I)Z"⟩
abbrev cJ1_indexOf_4cfef : ByteArray := prog_18_method_22_code
def yJ1_indexOf_4cfef : MethodName := ⟨RJ1, "indexOf", "([BIII)I"⟩
abbrev cJ1_indexOfChar_4cfef : ByteArray := prog_18_method_23_code
def yJ1_indexOfChar_4cfef : MethodName := ⟨RJ1, "indexOfChar", "([BIII)I"⟩
def RJ2 : String := "java/lang/StringUTF16"
def TJ2 : u_T := fun k => match k with
  | _ => ("", "", "", false)
def tyJ2 : Nat → FieldType := fun k => match k with
  | _ => .int
theorem nmJ2 : ∀ a, a < 0 → ∀ b, b < 0 → a ≠ b → (TJ2 a).2.1 ≠ (TJ2 b).2.1 := by decide +kernel
theorem tyJ2_ok : ∀ k, k < 0 → parseFieldDescriptor (TJ2 k).2.2.1 = some (tyJ2 k) := by decide +kernel
abbrev cJ2_getChar_3b067 : ByteArray := prog_19_method_5_code
def yJ2_getChar_3b067 : MethodName := ⟨RJ2, "getChar", "([BI)C"⟩
abbrev cJ2_length_9d52b : ByteArray := prog_19_method_6_code
def yJ2_length_9d52b : MethodName := ⟨RJ2, "length", "([B)I"⟩
abbrev cJ2_indexOf_4cfef : ByteArray := prog_19_method_40_code
def yJ2_indexOf_4cfef : MethodName := ⟨RJ2, "indexOf", "([BIII)I"⟩
abbrev cJ2_indexOfChar_4cfef : ByteArray := prog_19_method_47_code
def yJ2_indexOfChar_4cfef : MethodName := ⟨RJ2, "indexOfChar", "([BIII)I"⟩
abbrev cJ2_indexOfCharUnsafe_4cfef : ByteArray := prog_19_method_48_code
def yJ2_indexOfCharUnsafe_4cfef : MethodName := ⟨RJ2, "indexOfCharUnsafe", "([BIII)I"⟩
abbrev cJ2_indexOfSupplementary_4cfef : ByteArray := prog_19_method_49_code
def yJ2_indexOfSupplementary_4cfef : MethodName := ⟨RJ2, "indexOfSupplementary", "([BIII)I"⟩
abbrev cJ2_charAt_3b067 : ByteArray := prog_19_method_83_code
def yJ2_charAt_3b067 : MethodName := ⟨RJ2, "charAt", "([BI)C"⟩
abbrev cJ2_checkIndex_2214a : ByteArray := prog_19_method_91_code
def yJ2_checkIndex_2214a : MethodName := ⟨RJ2, "checkIndex", "(I[B)V"⟩
abbrev cJ2_checkBoundsBeginEnd_d044e : ByteArray := prog_19_method_93_code
def yJ2_checkBoundsBeginEnd_d044e : MethodName := ⟨RJ2, "checkBoundsBeginEnd", "(II[B)V"⟩
def RJ10 : String := "java/lang/System"
def TJ10 : u_T := fun k => match k with
  | _ => ("", "", "", false)
def tyJ10 : Nat → FieldType := fun k => match k with
  | _ => .int
theorem nmJ10 : ∀ a, a < 0 → ∀ b, b < 0 → a ≠ b → (TJ10 a).2.1 ≠ (TJ10 b).2.1 := by decide +kernel
theorem tyJ10_ok : ∀ k, k < 0 → parseFieldDescriptor (TJ10 k).2.2.1 = some (tyJ10 k) := by decide +kernel
def RJxfd54e : String := "java/lang/constant/Constable"
def TJxfd54e : u_T := fun k => match k with
  | _ => ("", "", "", false)
def tyJxfd54e : Nat → FieldType := fun k => match k with
  | _ => .int
theorem nmJxfd54e : ∀ a, a < 0 → ∀ b, b < 0 → a ≠ b → (TJxfd54e a).2.1 ≠ (TJxfd54e b).2.1 := by decide +kernel
theorem tyJxfd54e_ok : ∀ k, k < 0 → parseFieldDescriptor (TJxfd54e k).2.2.1 = some (tyJxfd54e k) := by decide +kernel
def RJx3cf43 : String := "java/lang/constant/ConstantDesc"
def TJx3cf43 : u_T := fun k => match k with
  | _ => ("", "", "", false)
def tyJx3cf43 : Nat → FieldType := fun k => match k with
  | _ => .int
theorem nmJx3cf43 : ∀ a, a < 0 → ∀ b, b < 0 → a ≠ b → (TJx3cf43 a).2.1 ≠ (TJx3cf43 b).2.1 := by decide +kernel
theorem tyJx3cf43_ok : ∀ k, k < 0 → parseFieldDescriptor (TJx3cf43 k).2.2.1 = some (tyJx3cf43 k) := by decide +kernel
def RJ7 : String := "java/util/Arrays"
def TJ7 : u_T := fun k => match k with
  | _ => ("", "", "", false)
def tyJ7 : Nat → FieldType := fun k => match k with
  | _ => .int
theorem nmJ7 : ∀ a, a < 0 → ∀ b, b < 0 → a ≠ b → (TJ7 a).2.1 ≠ (TJ7 b).2.1 := by decide +kernel
theorem tyJ7_ok : ∀ k, k < 0 → parseFieldDescriptor (TJ7 k).2.2.1 = some (tyJ7 k) := by decide +kernel
abbrev cJ7_fill_53178 : ByteArray := prog_21_method_103_code
def yJ7_fill_53178 : MethodName := ⟨RJ7, "fill", "([II)V"⟩
def RJ3 : String := "jdk/internal/util/Preconditions"
def TJ3 : u_T := fun k => match k with
  | _ => ("", "", "", false)
def tyJ3 : Nat → FieldType := fun k => match k with
  | _ => .int
theorem nmJ3 : ∀ a, a < 0 → ∀ b, b < 0 → a ≠ b → (TJ3 a).2.1 ≠ (TJ3 b).2.1 := by decide +kernel
theorem tyJ3_ok : ∀ k, k < 0 → parseFieldDescriptor (TJ3 k).2.2.1 = some (tyJ3 k) := by decide +kernel
abbrev cJ3_checkIndex_8e157 : ByteArray := prog_22_method_11_code
def yJ3_checkIndex_8e157 : MethodName := ⟨RJ3, "checkIndex", "(IILjava/util/function/BiFunction;)I"⟩
abbrev cJ3_checkFromToIndex_8c36e : ByteArray := prog_22_method_12_code
def yJ3_checkFromToIndex_8c36e : MethodName := ⟨RJ3, "checkFromToIndex", "(IIILjava/util/function/BiFunction;)I"⟩
def RL : String := "LastNameLaw"
abbrev cL_law : ByteArray := code
def yL_law : MethodName := ⟨RL, "law", "([I)Z"⟩
abbrev vwCl : List vw_C := [(RX0, TX0, 6), (RX1, TX1, 4), (RX2, TX2, 8), (RX3, TX3, 7), (RX4, TX4, 13), (RX5, TX5, 8), (RX6, TX6, 2), (RX7, TX7, 3), (RX8, TX8, 2), (RX9, TX9, 6), (RX10, TX10, 14), (RX11, TX11, 9), (RX12, TX12, 43)]
end
section
/-! ===== THE ABSTRACT MACHINE: words ===== -/
def ALLW : List Jvm.Cond := lw_tbl.filter goodWord
theorem allw_good {w : Jvm.Cond} (h : w ∈ ALLW) : (w.onTables && w.keeps) = true ∨ ∃ ty, w = .arrayClass ty := good_of_word (List.mem_filter.mp h).2
theorem allw_in {w : Jvm.Cond} (h : w ∈ ALLW) : w ∈ lw_tbl := (List.mem_filter.mp h).1
def wdOK (i : Nat) (w : Jvm.Cond) : Bool := decide (lw_tbl[i]? = some w) && goodWord w
theorem wdOK_mem {i : Nat} {w : Jvm.Cond} (h : wdOK i w = true) : w ∈ ALLW := by
  unfold wdOK at h
  rw [Bool.and_eq_true, decide_eq_true_eq] at h
  exact List.mem_filter.mpr ⟨List.mem_of_getElem? h.1, h.2⟩
def isNest : Jvm.Cond → Bool
  | .fieldLinkNest .. => true
  | .methodLinkNest .. => true
  | _ => false
def NESTW : List Jvm.Cond := lw_tbl.filter isNest
def nwOK (i : Nat) (w : Jvm.Cond) : Bool := decide (lw_tbl[i]? = some w) && isNest w
theorem nwOK_mem {i : Nat} {w : Jvm.Cond} (h : nwOK i w = true) : w ∈ NESTW := by
  unfold nwOK at h
  rw [Bool.and_eq_true, decide_eq_true_eq] at h
  exact List.mem_filter.mpr ⟨List.mem_of_getElem? h.1, h.2⟩
theorem nest_warm {s U : State} (hW : s.WarmedH U.vm) {w : Jvm.Cond} (hw : isNest w = true) (h : va_Nw w s) : va_Nw w U := by
  cases w <;> first | (cases hw; done) | exact va_Nw.warmF hW h | exact va_Nw.warmM hW h
theorem nest_tab {w : Jvm.Cond} (hw : isNest w = true) : w.onTables = true := by
  cases w <;> first | (cases hw; done) | rfl
abbrev MI : Type := MethodName × ByteArray × Nat × Option FieldType
def wOf (M : MI) : List Jvm.Cond := .code M.1 M.2.1 M.2.2.1 M.2.2.2 :: ALLW
def rmD (d : Nat) : Room := { frames := d, cells := 0, slots := 0, locals := 40 * d }
/-! ===== ids and places ===== -/
def gV (ad : Nat → Nat) : Value → Value
  | .ref i => .ref (ad i)
  | v => v
def gE (ad : Nat → Nat) (E : Nat → ClassId) : va_E → va_E
  | .inl (k, n, .inr (.inr (.inr (.inr f)))) => .inl (E k, n, .inr (.inr (.inr (.inr (fun i => (f i).map ad)))))
  | .inl (k, n, .inl f) => .inl (E k, n, .inl f)
  | .inl (k, n, .inr (.inl f)) => .inl (E k, n, .inr (.inl f))
  | .inl (k, n, .inr (.inr (.inl f))) => .inl (E k, n, .inr (.inr (.inl f)))
  | .inl (k, n, .inr (.inr (.inr (.inl f)))) => .inl (E k, n, .inr (.inr (.inr (.inl f))))
  | .inr (c, fs) => .inr (c, fs.map (gV ad))
def conc (ad : Nat → Nat) (E : Nat → ClassId) (h : List va_E) : va_W := h.mapIdx (fun i e => (ad i, gE ad E e))
theorem conc_get {ad : Nat → Nat} {E : Nat → ClassId} {h : List va_E} {i : Nat} : (conc ad E h)[i]? = (h[i]?).map (fun e => (ad i, gE ad E e)) := by
  unfold conc
  rw [List.getElem?_mapIdx]
theorem conc_at {ad : Nat → Nat} {E : Nat → ClassId} {h : List va_E} {i : Nat} {e : va_E} (hi : h[i]? = some e) : (conc ad E h)[i]? = some (ad i, gE ad E e) := by
  rw [conc_get, hi]; rfl
theorem conc_set {ad : Nat → Nat} {E : Nat → ClassId} {h : List va_E} {i : Nat} {e : va_E} : (conc ad E h).set i (ad i, gE ad E e) = conc ad E (h.set i e) := by
  apply List.ext_getElem?
  intro j
  rw [conc_get, List.getElem?_set, List.getElem?_set]
  by_cases hij : i = j
  · subst hij
    simp only [if_true]
    have hl : (conc ad E h).length = h.length := by simp [conc]
    rw [hl]
    by_cases hi : i < h.length <;> simp [hi]
  · simp only [hij, if_false]
    rw [conc_get]
theorem conc_len {ad : Nat → Nat} {E : Nat → ClassId} {h : List va_E} : (conc ad E h).length = h.length := by simp [conc]
theorem gV_cat (ad : Nat → Nat) (v : Value) : (gV ad v).category = v.category := by cases v <;> rfl
def tysOf (E : Nat → ClassId) : List (ClassId × FieldType) := [(E 0, .int), (E 1, .long), (E 2, .boolean), (E 3, .object "LastName$Law"), (E 4, .array .int)]
/-! ===== locals ===== -/
def setL : List (Option Value) → Nat → Option Value → List (Option Value)
  | [], 0, v => [v]
  | [], n + 1, v => none :: setL [] n v
  | _ :: t, 0, v => v :: t
  | x :: t, n + 1, v => x :: setL t n v
theorem setL_get : ∀ (ls : List (Option Value)) (i : Nat) (o : Option Value) (j : Nat) (w : Value), (setL ls i o)[j]? = some (some w) → (j = i ∧ o = some w) ∨ (j ≠ i ∧ ls[j]? = some (some w))
  | [], 0, o, j, w, h => by
    cases j with
    | zero => left; simpa [setL] using h
    | succ j => simp [setL] at h
  | [], n + 1, o, j, w, h => by
    cases j with
    | zero => simp [setL] at h
    | succ j =>
      have h' : (setL [] n o)[j]? = some (some w) := by simpa [setL] using h
      rcases setL_get [] n o j w h' with ⟨a, b⟩ | ⟨a, b⟩
      · left; exact ⟨by omega, b⟩
      · simp at b
  | x :: t, 0, o, j, w, h => by
    cases j with
    | zero => left; simpa [setL] using h
    | succ j => right; exact ⟨by omega, by simpa [setL] using h⟩
  | x :: t, n + 1, o, j, w, h => by
    cases j with
    | zero => right; exact ⟨by omega, by simpa [setL] using h⟩
    | succ j =>
      have h' : (setL t n o)[j]? = some (some w) := by simpa [setL] using h
      rcases setL_get t n o j w h' with ⟨a, b⟩ | ⟨a, b⟩
      · left; exact ⟨by omega, b⟩
      · right; exact ⟨by omega, by simpa using b⟩
def isC2 : Option (Option Value) → Bool
  | some (some (.long _)) => true
  | some (some (.double _)) => true
  | _ => false
def killL (ls : List (Option Value)) : Nat → List (Option Value)
  | 0 => ls
  | j + 1 => bif isC2 ls[j]? then setL ls j none else ls
def sto1 (ls : List (Option Value)) (i : Nat) (v : Value) : List (Option Value) := setL (killL ls i) i (some v)
def sto2 (ls : List (Option Value)) (i : Nat) (v : Value) : List (Option Value) := setL (setL (killL ls i) (i + 1) none) i (some v)
def Lh (ad : Nat → Nat) (a : Array Slot) (n : Nat) (ls : List (Option Value)) : Prop := a.size = n ∧ lv_wf a ∧ ∀ (i : Nat) (v : Value), ls[i]? = some (some v) → a[i]? = some (.val (gV ad v))
def toLv (ad : Nat → Nat) : Nat → List (Option Value) → List (Nat × Value)
  | _, [] => []
  | k, none :: t => toLv ad (k + 1) t
  | k, some v :: t => (k, gV ad v) :: toLv ad (k + 1) t
theorem toLv_mem (ad : Nat → Nat) : ∀ (ls : List (Option Value)) (k : Nat) (q : Nat × Value), q ∈ toLv ad k ls ↔ ∃ (j : Nat) (v : Value), ls[j]? = some (some v) ∧ q = (k + j, gV ad v)
  | [], k, q => by simp [toLv]
  | none :: t, k, q => by
    rw [toLv, toLv_mem ad t (k + 1) q]
    constructor
    · rintro ⟨j, v, h1, h2⟩
      exact ⟨j + 1, v, by simpa using h1, by rw [h2]; congr 1; omega⟩
    · rintro ⟨j, v, h1, h2⟩
      cases j with
      | zero => simp at h1
      | succ j => exact ⟨j, v, by simpa using h1, by rw [h2]; congr 1; omega⟩
  | some w :: t, k, q => by
    rw [toLv, List.mem_cons, toLv_mem ad t (k + 1) q]
    constructor
    · rintro (h | ⟨j, v, h1, h2⟩)
      · exact ⟨0, w, by simp, by rw [h]; congr 1⟩
      · exact ⟨j + 1, v, by simpa using h1, by rw [h2]; congr 1; omega⟩
    · rintro ⟨j, v, h1, h2⟩
      cases j with
      | zero =>
        left
        have : w = v := by simpa using h1
        subst this
        exact h2
      | succ j => right; exact ⟨j, v, by simpa using h1, by rw [h2]; congr 1; omega⟩
theorem Lh.has {ad : Nat → Nat} {a : Array Slot} {n : Nat} {ls : List (Option Value)} (h : Lh ad a n ls) : lv_has a n (toLv ad 0 ls) := by
  refine ⟨h.1, h.2.1, fun q hq => ?_⟩
  obtain ⟨j, v, h1, h2⟩ := (toLv_mem ad ls 0 q).mp hq
  rw [h2]
  show a[0 + j]? = _
  rw [Nat.zero_add]
  exact h.2.2 j v h1
theorem killL_get {ls : List (Option Value)} {i j : Nat} {w : Value} (h : (killL ls i)[j]? = some (some w)) : ls[j]? = some (some w) ∧ (j + 1 = i → w.category = 1) := by
  cases i with
  | zero => exact ⟨h, fun e => by omega⟩
  | succ i =>
    have h2 : (bif isC2 ls[i]? then setL ls i none else ls)[j]? = some (some w) := h
    cases hc : isC2 ls[i]? with
    | true =>
      rw [hc] at h2
      dsimp only [cond_true] at h2
      rcases setL_get _ _ _ _ _ h2 with ⟨_, b⟩ | ⟨a, b⟩
      · cases b
      · exact ⟨b, fun e => absurd (by omega) a⟩
    | false =>
      rw [hc] at h2
      dsimp only [cond_false] at h2
      refine ⟨h2, fun e => ?_⟩
      have e2 : j = i := by omega
      subst e2
      rw [h2] at hc
      cases w <;> first | rfl | (simp [isC2] at hc)
theorem Lh.sto1 {ad : Nat → Nat} {a a' : Array Slot} {n i : Nat} {ls : List (Option Value)} {v : Value} (h : Lh ad a n ls) (h' : lv_has a' n ((i, gV ad v) :: (toLv ad 0 ls).filter (fun q => !(q.1 == i) && !(q.1 + 1 == i && q.2.category == 2)))) : Lh ad a' n (sto1 ls i v) := by
  refine ⟨h'.1, h'.2.1, fun j w hj => ?_⟩
  rcases setL_get _ _ _ _ _ hj with ⟨e1, e2⟩ | ⟨e1, e2⟩
  · subst e1
    have : v = w := Option.some.inj e2
    subst this
    exact h'.2.2 _ List.mem_cons_self
  · obtain ⟨e3, e4⟩ := killL_get e2
    refine h'.2.2 (j, gV ad w) (List.mem_cons_of_mem _ (List.mem_filter.mpr ⟨(toLv_mem ad ls 0 _).mpr ⟨j, w, e3, by rw [Nat.zero_add]⟩, ?_⟩))
    simp only [Bool.and_eq_true, Bool.not_eq_true', beq_eq_false_iff_ne, Bool.and_eq_false_iff, gV_cat]
    refine ⟨e1, ?_⟩
    by_cases hq : j + 1 = i
    · right; rw [e4 hq]; decide
    · left; exact hq
theorem Lh.sto2 {ad : Nat → Nat} {a a' : Array Slot} {n i : Nat} {ls : List (Option Value)} {v : Value} (h : Lh ad a n ls) (h' : lv_has a' n ((i, gV ad v) :: (toLv ad 0 ls).filter (fun q => !(q.1 == i) && (!(q.1 == i + 1) && !(q.1 + 1 == i && q.2.category == 2))))) : Lh ad a' n (sto2 ls i v) := by
  refine ⟨h'.1, h'.2.1, fun j w hj => ?_⟩
  rcases setL_get _ _ _ _ _ hj with ⟨e1, e2⟩ | ⟨e1, e2⟩
  · subst e1
    have : v = w := Option.some.inj e2
    subst this
    exact h'.2.2 _ List.mem_cons_self
  · rcases setL_get _ _ _ _ _ e2 with ⟨_, b⟩ | ⟨e5, e6⟩
    · cases b
    · obtain ⟨e3, e4⟩ := killL_get e6
      refine h'.2.2 (j, gV ad w) (List.mem_cons_of_mem _ (List.mem_filter.mpr ⟨(toLv_mem ad ls 0 _).mpr ⟨j, w, e3, by rw [Nat.zero_add]⟩, ?_⟩))
      simp only [Bool.and_eq_true, Bool.not_eq_true', beq_eq_false_iff_ne, Bool.and_eq_false_iff, gV_cat]
      refine ⟨e1, e5, ?_⟩
      by_cases hq : j + 1 = i
      · right; rw [e4 hq]; decide
      · left; exact hq
def entL : List Value → List (Option Value)
  | [] => []
  | .long v :: vs => some (.long v) :: none :: entL vs
  | .double v :: vs => some (.double v) :: none :: entL vs
  | .int v :: vs => some (.int v) :: entL vs
  | .ref v :: vs => some (.ref v) :: entL vs
  | .null :: vs => some .null :: entL vs
  | .float v :: vs => some (.float v) :: entL vs
  | .retAddr v :: vs => some (.retAddr v) :: entL vs
theorem entL_mem (ad : Nat → Nat) : ∀ (vs : List Value) (k i : Nat) (v : Value), (entL vs)[i]? = some (some v) → (k + i, gV ad v) ∈ lv_args k (vs.map (gV ad))
  | [], k, i, v, h => by simp [entL] at h
  | .long x :: vs, k, i, v, h => by
    match i, h with
    | 0, h =>
      have h : Value.long x = v := by simpa [entL] using h
      subst h; exact List.mem_cons_self
    | 1, h => simp [entL] at h
    | i + 2, h =>
      have h' : (entL vs)[i]? = some (some v) := by simpa [entL] using h
      have := entL_mem ad vs (k + 2) i v h'
      refine List.mem_cons_of_mem _ ?_
      rw [show k + (i + 2) = k + 2 + i by omega]
      exact this
  | .double x :: vs, k, i, v, h => by
    match i, h with
    | 0, h =>
      have h : Value.double x = v := by simpa [entL] using h
      subst h; exact List.mem_cons_self
    | 1, h => simp [entL] at h
    | i + 2, h =>
      have h' : (entL vs)[i]? = some (some v) := by simpa [entL] using h
      have := entL_mem ad vs (k + 2) i v h'
      refine List.mem_cons_of_mem _ ?_
      rw [show k + (i + 2) = k + 2 + i by omega]
      exact this
  | .int x :: vs, k, i, v, h => by
    match i, h with
    | 0, h =>
      have h : Value.int x = v := by simpa [entL] using h
      subst h; exact List.mem_cons_self
    | i + 1, h =>
      have h' : (entL vs)[i]? = some (some v) := by simpa [entL] using h
      have := entL_mem ad vs (k + 1) i v h'
      refine List.mem_cons_of_mem _ ?_
      rw [show k + (i + 1) = k + 1 + i by omega]
      exact this
  | .ref x :: vs, k, i, v, h => by
    match i, h with
    | 0, h =>
      have h : Value.ref x = v := by simpa [entL] using h
      subst h; exact List.mem_cons_self
    | i + 1, h =>
      have h' : (entL vs)[i]? = some (some v) := by simpa [entL] using h
      have := entL_mem ad vs (k + 1) i v h'
      refine List.mem_cons_of_mem _ ?_
      rw [show k + (i + 1) = k + 1 + i by omega]
      exact this
  | .null :: vs, k, i, v, h => by
    match i, h with
    | 0, h =>
      have h : Value.null = v := by simpa [entL] using h
      subst h; exact List.mem_cons_self
    | i + 1, h =>
      have h' : (entL vs)[i]? = some (some v) := by simpa [entL] using h
      have := entL_mem ad vs (k + 1) i v h'
      refine List.mem_cons_of_mem _ ?_
      rw [show k + (i + 1) = k + 1 + i by omega]
      exact this
  | .float x :: vs, k, i, v, h => by
    match i, h with
    | 0, h =>
      have h : Value.float x = v := by simpa [entL] using h
      subst h; exact List.mem_cons_self
    | i + 1, h =>
      have h' : (entL vs)[i]? = some (some v) := by simpa [entL] using h
      have := entL_mem ad vs (k + 1) i v h'
      refine List.mem_cons_of_mem _ ?_
      rw [show k + (i + 1) = k + 1 + i by omega]
      exact this
  | .retAddr x :: vs, k, i, v, h => by
    match i, h with
    | 0, h =>
      have h : Value.retAddr x = v := by simpa [entL] using h
      subst h; exact List.mem_cons_self
    | i + 1, h =>
      have h' : (entL vs)[i]? = some (some v) := by simpa [entL] using h
      have := entL_mem ad vs (k + 1) i v h'
      refine List.mem_cons_of_mem _ ?_
      rw [show k + (i + 1) = k + 1 + i by omega]
      exact this
theorem Lh.entry (ad : Nat → Nat) (vs : List Value) {n : Nat} (h : (lg_sl (vs.map (gV ad))).length ≤ n) : Lh ad ((lg_sl (vs.map (gV ad)) ++ List.replicate (n - (lg_sl (vs.map (gV ad))).length) Slot.unset).toArray) n (entL vs) := by
  have hl := lv_entry (vs.map (gV ad)) h
  refine ⟨hl.1, hl.2.1, fun i v hi => ?_⟩
  have := hl.2.2 _ (entL_mem ad vs 0 i v hi)
  rw [Nat.zero_add] at this
  exact this
/-! ===== the judgement ===== -/
def Cin (D : va_G) (E : Nat → ClassId) (ws : va_W) (sz : Nat) (U : State) : Prop := U.heap.size = sz ∧ va_P D vwCl ws U.heap ∧ va_K D vwCl (tysOf E) U ∧ va_D (fun _ => True) ws ∧ ∀ w ∈ NESTW, va_Nw w U
def Cout (D : va_G) (E : Nat → ClassId) (ws ws' : va_W) (sz : Nat) (r : Option Value) : Array Value → State → Outcome → State → Prop := fun _ st oc t => (oc = .returned r ∧ va_P D vwCl ws' t.heap ∧ va_K D vwCl (tysOf E) t ∧ va_D (va_A ws sz) ws') ∧ va_F (va_A ws sz) st t
def Ctr (d : Nat) (M : MI) (args : List Value) (h : List va_E) (r : Option Value) (h' : List va_E) : Prop :=
  ∀ (ad : Nat → Nat) (D : va_G) (E : Nat → ClassId) (l : Launch) (sz : Nat), Met l M.1 (wOf M) (rmD d) (va_Pc (args.map (gV ad)) (Cin D E (conc ad E h) sz)) (Cout D E (conc ad E h) (conc ad E h') sz (r.map (gV ad))) 0 0 (va_A (conc ad E h) sz)
abbrev CXT : Type := MI × Nat × Option Value × List va_E × List va_E
def CF (M : MI) (D : va_G) (E : Nat → ClassId) (p : Program) (s : State) (m : MethodId) (args : Array Value) (meth : Method) (c : Code) : Prop :=
  p.tables.exec = Jvm.exec ∧ c.code = M.2.1 ∧ meth.sig.returnType = M.2.2.2 ∧ c.maxLocals = M.2.2.1 ∧ meth.locks = false ∧ s.vm.findClass M.1.cls = some m.cls ∧ (∀ w ∈ ALLW, w.before args s = true) ∧ va_K D vwCl (tysOf E) s ∧ ∀ w ∈ NESTW, va_Nw w s
def AJ (x : CXT) (pc : Nat) (ls : List (Option Value)) (st : List Value) (h : List va_E) : Prop :=
  ∀ (ad : Nat → Nat) (D : va_G) (E : Nat → ClassId) (p : Program) (l : Launch) (e : Env) (s : State) (m : MethodId) (args : Array Value) (below : List Frame) (meth : Method) (c : Code) (H : Heap) (locs : List Loc) (la : Array Slot),
    CF x.1 D E p s m args meth c → Lh ad la x.1.2.2.1 ls → va_P D vwCl (conc ad E h) H → va_D (va_A (conc ad E x.2.2.2.1) s.heap.size) (conc ad E h) → va_S (va_A (conc ad E x.2.2.2.1) s.heap.size) s.heap H locs →
    W p l e (rmD x.2.1) s m args below meth c H locs 0 0 (MQ below (Cout D E (conc ad E x.2.2.2.1) (conc ad E x.2.2.2.2) s.heap.size (x.2.2.1.map (gV ad))) args s 0 0 (va_A (conc ad E x.2.2.2.1) s.heap.size)) (F0 m pc la (st.map (gV ad)))
theorem Ctr.intro {d : Nat} {M : MI} {args : List Value} {h : List va_E} {r : Option Value} {h' : List va_E} (hp : plainName M.1.cls = true) (hl : (args.map Value.category).sum ≤ M.2.2.1) (k : AJ (M, d, r, h, h') 0 (entL args) [] h) : Ctr d M args h r h' := by
  intro ad D E l sz
  refine Met.ofW (cc := M.2.1) (maxL := M.2.2.1) (ret := M.2.2.2) hp rfl ?_
  intro p e s m args' below meth c s₁ B hml hv
  obtain ⟨rfl, hsz, hP, hK, hD0, hN⟩ := hv
  have hts := atoms_spec (ws := wOf M) B.pre
  have hown : s.vm.findClass M.1.cls = some m.cls := findClass_of_methodNamed B.named
  subst hsz
  have hlen : ∀ vs : List Value, (lg_sl (vs.map (gV ad))).length = (vs.map Value.category).sum := by
    intro vs
    induction vs with
    | nil => rfl
    | cons v vs ih =>
      have e1 : lg_sl ((v :: vs).map (gV ad)) = (if (gV ad v).category = 2 then [Slot.val (gV ad v), .second] else [.val (gV ad v)]) ++ lg_sl (vs.map (gV ad)) := by
        simp [lg_sl]
      rw [e1, List.length_append, ih, List.map_cons, List.sum_cons]
      congr 1
      cases v <;> rfl
  have hlh := Lh.entry ad args (n := M.2.2.1) (by rw [hlen]; exact hl)
  rw [lg_entry_eq]
  exact k ad D E p l e s m _ below meth c s.heap [] _ ⟨B.exec, B.bytes, B.returns, hml, B.notSynchronized, hown, fun w hw => hts w (List.mem_cons_of_mem _ hw), hK, hN⟩ hlh hP (hD0.self (sz := s.heap.size)) va_S.rf
end
section
/-! ===== one step of straight code ===== -/
abbrev ix (i : Int32) : Nat := i.toNatClampNeg
abbrev inb (i : Int32) (n : Nat) : Prop := ¬ i < 0 ∧ i.toNatClampNeg < n
theorem inb_vp {i : Int32} {n : Nat} (h : inb i n) : vp_in i n := fun q => q.elim h.1 (fun q => Nat.not_lt.mpr q h.2)
abbrev bz (v : Int32) : Prop := v = 0 ∨ v = 1
abbrev ENT : Type := Instr × (Nat × Nat × Nat) × Int
abbrev SS : Type := Nat × List (Option Value) × List Value × List va_E
def st2i (f : Int32 → Int32 → Value) : List Value → Option (List Value)
  | .int y :: .int x :: r => some (f x y :: r)
  | _ => none
def st1i (f : Int32 → Value) : List Value → Option (List Value)
  | .int x :: r => some (f x :: r)
  | _ => none
def st2l (f : Int64 → Int64 → Value) : List Value → Option (List Value)
  | .long y :: .long x :: r => some (f x y :: r)
  | _ => none
def st1l (f : Int64 → Value) : List Value → Option (List Value)
  | .long x :: r => some (f x :: r)
  | _ => none
def stli (f : Int64 → Int32 → Value) : List Value → Option (List Value)
  | .int y :: .long x :: r => some (f x y :: r)
  | _ => none
theorem st2i_eq {f : Int32 → Int32 → Value} {s t : List Value} (h : st2i f s = some t) : ∃ x y r, s = .int y :: .int x :: r ∧ t = f x y :: r := by
  unfold st2i at h; split at h
  · exact ⟨_, _, _, rfl, (Option.some.inj h).symm⟩
  · cases h
theorem st1i_eq {f : Int32 → Value} {s t : List Value} (h : st1i f s = some t) : ∃ x r, s = .int x :: r ∧ t = f x :: r := by
  unfold st1i at h; split at h
  · exact ⟨_, _, rfl, (Option.some.inj h).symm⟩
  · cases h
theorem st2l_eq {f : Int64 → Int64 → Value} {s t : List Value} (h : st2l f s = some t) : ∃ x y r, s = .long y :: .long x :: r ∧ t = f x y :: r := by
  unfold st2l at h; split at h
  · exact ⟨_, _, _, rfl, (Option.some.inj h).symm⟩
  · cases h
theorem st1l_eq {f : Int64 → Value} {s t : List Value} (h : st1l f s = some t) : ∃ x r, s = .long x :: r ∧ t = f x :: r := by
  unfold st1l at h; split at h
  · exact ⟨_, _, rfl, (Option.some.inj h).symm⟩
  · cases h
theorem stli_eq {f : Int64 → Int32 → Value} {s t : List Value} (h : stli f s = some t) : ∃ x y r, s = .int y :: .long x :: r ∧ t = f x y :: r := by
  unfold stli at h; split at h
  · exact ⟨_, _, _, rfl, (Option.some.inj h).symm⟩
  · cases h
/-- behind a pure operation on the stack -/
def nx (n : Nat) (s : SS) (o : Option (List Value)) : Option (Option Prop × SS) := match o with
  | some t => some (none, s.1 + n, s.2.1, t, s.2.2.2)
  | none => none
theorem nx_eq {n : Nat} {s : SS} {o : Option (List Value)} {g : Option Prop} {s' : SS} (h : nx n s o = some (g, s')) : ∃ t, o = some t ∧ g = none ∧ s' = (s.1 + n, s.2.1, t, s.2.2.2) := by
  unfold nx at h; split at h
  · cases h; exact ⟨_, rfl, rfl, rfl⟩
  · cases h
def ldI (ls : List (Option Value)) (i : Nat) (st : List Value) : Option (List Value) := match ls[i]? with
  | some (some (.int v)) => some (.int v :: st)
  | _ => none
def ldJ (ls : List (Option Value)) (i : Nat) (st : List Value) : Option (List Value) := match ls[i]? with
  | some (some (.long v)) => some (.long v :: st)
  | _ => none
def ldA (ls : List (Option Value)) (i : Nat) (st : List Value) : Option (List Value) := match ls[i]? with
  | some (some (.ref v)) => some (.ref v :: st)
  | _ => none
theorem ldI_eq {ls : List (Option Value)} {i : Nat} {st t : List Value} (h : ldI ls i st = some t) : ∃ v, ls[i]? = some (some (.int v)) ∧ t = .int v :: st := by
  unfold ldI at h; split at h
  · rename_i v e; exact ⟨v, e, (Option.some.inj h).symm⟩
  · cases h
theorem ldJ_eq {ls : List (Option Value)} {i : Nat} {st t : List Value} (h : ldJ ls i st = some t) : ∃ v, ls[i]? = some (some (.long v)) ∧ t = .long v :: st := by
  unfold ldJ at h; split at h
  · rename_i v e; exact ⟨v, e, (Option.some.inj h).symm⟩
  · cases h
theorem ldA_eq {ls : List (Option Value)} {i : Nat} {st t : List Value} (h : ldA ls i st = some t) : ∃ v, ls[i]? = some (some (.ref v)) ∧ t = .ref v :: st := by
  unfold ldA at h; split at h
  · rename_i v e; exact ⟨v, e, (Option.some.inj h).symm⟩
  · cases h
/-- stores: the place must be one of the method's (checked against nL) -/
def stI (nL n : Nat) (s : SS) (i : Nat) : Option (Option Prop × SS) := match s.2.2.1 with
  | .int v :: r => if i < nL then some (none, s.1 + n, sto1 s.2.1 i (.int v), r, s.2.2.2) else none
  | _ => none
def stJ (nL n : Nat) (s : SS) (i : Nat) : Option (Option Prop × SS) := match s.2.2.1 with
  | .long v :: r => if i + 1 < nL then some (none, s.1 + n, sto2 s.2.1 i (.long v), r, s.2.2.2) else none
  | _ => none
def stA (nL n : Nat) (s : SS) (i : Nat) : Option (Option Prop × SS) := match s.2.2.1 with
  | .ref v :: r => if i < nL then some (none, s.1 + n, sto1 s.2.1 i (.ref v), r, s.2.2.2) else none
  | _ => none
theorem stI_eq {nL n : Nat} {s s' : SS} {i : Nat} {g : Option Prop} (h : stI nL n s i = some (g, s')) : ∃ v r, s.2.2.1 = .int v :: r ∧ i < nL ∧ g = none ∧ s' = (s.1 + n, sto1 s.2.1 i (.int v), r, s.2.2.2) := by
  unfold stI at h; split at h
  · rename_i v r e
    split at h
    · rename_i hi; cases h; exact ⟨v, r, e, hi, rfl, rfl⟩
    · cases h
  · cases h
theorem stJ_eq {nL n : Nat} {s s' : SS} {i : Nat} {g : Option Prop} (h : stJ nL n s i = some (g, s')) : ∃ v r, s.2.2.1 = .long v :: r ∧ i + 1 < nL ∧ g = none ∧ s' = (s.1 + n, sto2 s.2.1 i (.long v), r, s.2.2.2) := by
  unfold stJ at h; split at h
  · rename_i v r e
    split at h
    · rename_i hi; cases h; exact ⟨v, r, e, hi, rfl, rfl⟩
    · cases h
  · cases h
theorem stA_eq {nL n : Nat} {s s' : SS} {i : Nat} {g : Option Prop} (h : stA nL n s i = some (g, s')) : ∃ v r, s.2.2.1 = .ref v :: r ∧ i < nL ∧ g = none ∧ s' = (s.1 + n, sto1 s.2.1 i (.ref v), r, s.2.2.2) := by
  unfold stA at h; split at h
  · rename_i v r e
    split at h
    · rename_i hi; cases h; exact ⟨v, r, e, hi, rfl, rfl⟩
    · cases h
  · cases h
def incI (nL : Nat) (s : SS) (i : Nat) (n : Int) : Option (Option Prop × SS) := match s.2.1[i]? with
  | some (some (.int v)) => if i < nL then some (none, s.1 + 3, sto1 s.2.1 i (.int (v + Int32.ofInt n)), s.2.2.1, s.2.2.2) else none
  | _ => none
theorem incI_eq {nL : Nat} {s s' : SS} {i : Nat} {n : Int} {g : Option Prop} (h : incI nL s i n = some (g, s')) : ∃ v, s.2.1[i]? = some (some (.int v)) ∧ i < nL ∧ g = none ∧ s' = (s.1 + 3, sto1 s.2.1 i (.int (v + Int32.ofInt n)), s.2.2.1, s.2.2.2) := by
  unfold incI at h; split at h
  · rename_i v e
    split at h
    · rename_i hi; cases h; exact ⟨v, e, hi, rfl, rfl⟩
    · cases h
  · cases h
/-- division: a guard -/
def gdI (s : SS) (f : Int32 → Int32 → Int32) : Option (Option Prop × SS) := match s.2.2.1 with
  | .int y :: .int x :: r => some (some (¬ y = 0), s.1 + 1, s.2.1, .int (f x y) :: r, s.2.2.2)
  | _ => none
def gdJ (s : SS) (f : Int64 → Int64 → Int64) : Option (Option Prop × SS) := match s.2.2.1 with
  | .long y :: .long x :: r => some (some (¬ y = 0), s.1 + 1, s.2.1, .long (f x y) :: r, s.2.2.2)
  | _ => none
theorem gdI_eq {s s' : SS} {f : Int32 → Int32 → Int32} {g : Option Prop} (h : gdI s f = some (g, s')) : ∃ x y r, s.2.2.1 = .int y :: .int x :: r ∧ g = some (¬ y = 0) ∧ s' = (s.1 + 1, s.2.1, .int (f x y) :: r, s.2.2.2) := by
  unfold gdI at h; split at h
  · rename_i y x r e; cases h; exact ⟨x, y, r, e, rfl, rfl⟩
  · cases h
theorem gdJ_eq {s s' : SS} {f : Int64 → Int64 → Int64} {g : Option Prop} (h : gdJ s f = some (g, s')) : ∃ x y r, s.2.2.1 = .long y :: .long x :: r ∧ g = some (¬ y = 0) ∧ s' = (s.1 + 1, s.2.1, .long (f x y) :: r, s.2.2.2) := by
  unfold gdJ at h; split at h
  · rename_i y x r e; cases h; exact ⟨x, y, r, e, rfl, rfl⟩
  · cases h
/-- fields -/
def getF (s : SS) (ci k : Nat) : Option (Option Prop × SS) := match s.2.2.1 with
  | .ref q :: r => match s.2.2.2[q]? with
    | some (.inr (c, fs)) => match decide (c = ci), fs[k]? with
      | true, some v => some (none, s.1 + 3, s.2.1, v :: r, s.2.2.2)
      | _, _ => none
    | _ => none
  | _ => none
theorem getF_eq {s s' : SS} {ci k : Nat} {g : Option Prop} (h : getF s ci k = some (g, s')) : ∃ q r fs v, s.2.2.1 = .ref q :: r ∧ s.2.2.2[q]? = some (.inr (ci, fs)) ∧ fs[k]? = some v ∧ g = none ∧ s' = (s.1 + 3, s.2.1, v :: r, s.2.2.2) := by
  unfold getF at h; split at h
  · rename_i q r e
    split at h
    · rename_i c fs e2
      split at h
      · rename_i v e3 e4
        cases h
        have e3 := of_decide_eq_true e3
        subst e3
        exact ⟨q, r, fs, v, e, e2, e4, rfl, rfl⟩
      · cases h
    · cases h
  · cases h
/-- what a value must be for a field of a type: ints and longs; of a boolean 0 or 1 -/
def fitG : FieldType → Value → Option (Option Prop)
  | .int, .int _ => some none
  | .long, .long _ => some none
  | .boolean, .int v => some (some (bz v))
  | _, _ => none
def putF (s : SS) (ci k : Nat) (ty : FieldType) : Option (Option Prop × SS) := match s.2.2.1 with
  | v :: .ref q :: r => match s.2.2.2[q]?, fitG ty v with
    | some (.inr (c, fs)), some g => match decide (c = ci), decide (k < fs.length) with
      | true, true => some (g, s.1 + 3, s.2.1, r, s.2.2.2.set q (.inr (c, fs.set k v)))
      | _, _ => none
    | _, _ => none
  | _ => none
theorem putF_eq {s s' : SS} {ci k : Nat} {ty : FieldType} {g : Option Prop} (h : putF s ci k ty = some (g, s')) : ∃ v q r fs, s.2.2.1 = v :: .ref q :: r ∧ s.2.2.2[q]? = some (.inr (ci, fs)) ∧ k < fs.length ∧ fitG ty v = some g ∧ s' = (s.1 + 3, s.2.1, r, s.2.2.2.set q (.inr (ci, fs.set k v))) := by
  unfold putF at h; split at h
  · rename_i v q r e
    split at h
    · rename_i c fs g' e2 e5
      split at h
      · rename_i e3 e4
        cases h
        have e3 := of_decide_eq_true e3
        subst e3
        exact ⟨v, q, r, fs, e, e2, of_decide_eq_true e4, e5, rfl⟩
      · cases h
    · cases h
  · cases h
/-- arrays of ints (kind 0) and booleans (kind 2) -/
def aldI (s : SS) (kd : Nat) : Option (Option Prop × SS) := match s.2.2.1 with
  | .int i :: .ref q :: r => match s.2.2.2[q]? with
    | some (.inl (k, n, .inl f)) => match decide (k = kd) with
      | true => some (some (inb i n), s.1 + 1, s.2.1, .int (f (ix i)) :: r, s.2.2.2)
      | false => none
    | _ => none
  | _ => none
theorem aldI_eq {s s' : SS} {kd : Nat} {g : Option Prop} (h : aldI s kd = some (g, s')) : ∃ i q r n f, s.2.2.1 = .int i :: .ref q :: r ∧ s.2.2.2[q]? = some (.inl (kd, n, .inl f)) ∧ g = some (inb i n) ∧ s' = (s.1 + 1, s.2.1, .int (f (ix i)) :: r, s.2.2.2) := by
  unfold aldI at h; split at h
  · rename_i i q r e
    split at h
    · rename_i k n f e2
      split at h
      · rename_i e3
        cases h
        have e3 := of_decide_eq_true e3
        subst e3
        exact ⟨i, q, r, n, f, e, e2, rfl, rfl⟩
      · cases h
    · cases h
  · cases h
def astI (s : SS) (kd : Nat) (nr : Int32 → Int32) : Option (Option Prop × SS) := match s.2.2.1 with
  | .int x :: .int i :: .ref q :: r => match s.2.2.2[q]? with
    | some (.inl (k, n, .inl f)) => match decide (k = kd) with
      | true => some (some (inb i n), s.1 + 1, s.2.1, r, s.2.2.2.set q (.inl (k, n, .inl (upd f (ix i) (nr x)))))
      | false => none
    | _ => none
  | _ => none
theorem astI_eq {s s' : SS} {kd : Nat} {nr : Int32 → Int32} {g : Option Prop} (h : astI s kd nr = some (g, s')) : ∃ x i q r n f, s.2.2.1 = .int x :: .int i :: .ref q :: r ∧ s.2.2.2[q]? = some (.inl (kd, n, .inl f)) ∧ g = some (inb i n) ∧ s' = (s.1 + 1, s.2.1, r, s.2.2.2.set q (.inl (kd, n, .inl (upd f (ix i) (nr x))))) := by
  unfold astI at h; split at h
  · rename_i x i q r e
    split at h
    · rename_i k n f e2
      split at h
      · rename_i e3
        cases h
        have e3 := of_decide_eq_true e3
        subst e3
        exact ⟨x, i, q, r, n, f, e, e2, rfl, rfl⟩
      · cases h
    · cases h
  · cases h
def aldJ (s : SS) : Option (Option Prop × SS) := match s.2.2.1 with
  | .int i :: .ref q :: r => match s.2.2.2[q]? with
    | some (.inl (k, n, .inr (.inl f))) => match decide (k = 1) with
      | true => some (some (inb i n), s.1 + 1, s.2.1, .long (f (ix i)) :: r, s.2.2.2)
      | false => none
    | _ => none
  | _ => none
theorem aldJ_eq {s s' : SS} {g : Option Prop} (h : aldJ s = some (g, s')) : ∃ i q r n f, s.2.2.1 = .int i :: .ref q :: r ∧ s.2.2.2[q]? = some (.inl (1, n, .inr (.inl f))) ∧ g = some (inb i n) ∧ s' = (s.1 + 1, s.2.1, .long (f (ix i)) :: r, s.2.2.2) := by
  unfold aldJ at h; split at h
  · rename_i i q r e
    split at h
    · rename_i k n f e2
      split at h
      · rename_i e3
        cases h
        have e3 := of_decide_eq_true e3
        subst e3
        exact ⟨i, q, r, n, f, e, e2, rfl, rfl⟩
      · cases h
    · cases h
  · cases h
def astJ (s : SS) : Option (Option Prop × SS) := match s.2.2.1 with
  | .long x :: .int i :: .ref q :: r => match s.2.2.2[q]? with
    | some (.inl (k, n, .inr (.inl f))) => match decide (k = 1) with
      | true => some (some (inb i n), s.1 + 1, s.2.1, r, s.2.2.2.set q (.inl (k, n, .inr (.inl (vp_updL f (ix i) x)))))
      | false => none
    | _ => none
  | _ => none
theorem astJ_eq {s s' : SS} {g : Option Prop} (h : astJ s = some (g, s')) : ∃ x i q r n f, s.2.2.1 = .long x :: .int i :: .ref q :: r ∧ s.2.2.2[q]? = some (.inl (1, n, .inr (.inl f))) ∧ g = some (inb i n) ∧ s' = (s.1 + 1, s.2.1, r, s.2.2.2.set q (.inl (1, n, .inr (.inl (vp_updL f (ix i) x))))) := by
  unfold astJ at h; split at h
  · rename_i x i q r e
    split at h
    · rename_i k n f e2
      split at h
      · rename_i e3
        cases h
        have e3 := of_decide_eq_true e3
        subst e3
        exact ⟨x, i, q, r, n, f, e, e2, rfl, rfl⟩
      · cases h
    · cases h
  · cases h
def alnA (s : SS) : Option (Option Prop × SS) := match s.2.2.1 with
  | .ref q :: r => match s.2.2.2[q]? with
    | some (.inl (k, n, _)) => match decide (k < 5) with
      | true => some (none, s.1 + 1, s.2.1, .int (Int32.ofNat n) :: r, s.2.2.2)
      | false => none
    | _ => none
  | _ => none
theorem alnA_eq {s s' : SS} {g : Option Prop} (h : alnA s = some (g, s')) : ∃ q r k n a, s.2.2.1 = .ref q :: r ∧ s.2.2.2[q]? = some (.inl (k, n, a)) ∧ k < 5 ∧ g = none ∧ s' = (s.1 + 1, s.2.1, .int (Int32.ofNat n) :: r, s.2.2.2) := by
  unfold alnA at h; split at h
  · rename_i q r e
    split at h
    · rename_i k n a e2
      split at h
      · rename_i e3
        cases h
        exact ⟨q, r, k, n, a, e, e2, of_decide_eq_true e3, rfl, rfl⟩
      · cases h
    · cases h
  · cases h
def dup1 : List Value → Option (List Value)
  | .int v :: r => some (.int v :: .int v :: r)
  | .ref v :: r => some (.ref v :: .ref v :: r)
  | _ => none
theorem dup1_eq {s t : List Value} (h : dup1 s = some t) : ∃ v r, s = v :: r ∧ t = v :: v :: r ∧ v.category = 1 := by
  unfold dup1 at h; split at h
  · exact ⟨_, _, rfl, (Option.some.inj h).symm, rfl⟩
  · exact ⟨_, _, rfl, (Option.some.inj h).symm, rfl⟩
  · cases h
def dup2s : List Value → Option (List Value)
  | .int v :: .int w :: r => some (.int v :: .int w :: .int v :: .int w :: r)
  | .int v :: .ref w :: r => some (.int v :: .ref w :: .int v :: .ref w :: r)
  | _ => none
theorem dup2s_eq {s t : List Value} (h : dup2s s = some t) : ∃ v w r, s = v :: w :: r ∧ t = v :: w :: v :: w :: r ∧ v.category = 1 ∧ w.category = 1 := by
  unfold dup2s at h; split at h
  · exact ⟨_, _, _, rfl, (Option.some.inj h).symm, rfl, rfl⟩
  · exact ⟨_, _, _, rfl, (Option.some.inj h).symm, rfl, rfl⟩
  · cases h
def pop1 : List Value → Option (List Value)
  | .int _ :: r => some r
  | .ref _ :: r => some r
  | _ => none
theorem pop1_eq {s t : List Value} (h : pop1 s = some t) : ∃ v r, s = v :: r ∧ t = r ∧ v.category = 1 := by
  unfold pop1 at h; split at h
  · exact ⟨_, _, rfl, (Option.some.inj h).symm, rfl⟩
  · exact ⟨_, _, rfl, (Option.some.inj h).symm, rfl⟩
  · cases h
def gotoS (s : SS) (off : Int) (tgt : Nat) : Option (Option Prop × SS) := match decide ((s.1 : Int) + off = (tgt : Int)) with
  | true => some (none, tgt, s.2.1, s.2.2.1, s.2.2.2)
  | false => none
theorem gotoS_eq {s s' : SS} {off : Int} {tgt : Nat} {g : Option Prop} (h : gotoS s off tgt = some (g, s')) : (s.1 : Int) + off = (tgt : Int) ∧ g = none ∧ s' = (tgt, s.2.1, s.2.2.1, s.2.2.2) := by
  unfold gotoS at h; split at h
  · rename_i e; cases h; exact ⟨of_decide_eq_true e, rfl, rfl⟩
  · cases h
/-- one instruction; aux: a field's class, its number, its word's place; a jump's aim; a constant -/
def pin (nL : Nat) (e : ENT) (s : SS) : Option (Option Prop × SS) := match e.1 with
  | .iconst n => nx 1 s (some (.int (Int32.ofInt n) :: s.2.2.1))
  | .bipush n => nx 2 s (some (.int ((Int8.ofInt n).toInt32) :: s.2.2.1))
  | .sipush n => nx 3 s (some (.int ((Int16.ofInt n).toInt32) :: s.2.2.1))
  | .ldc _ => nx 2 s (some (.int (Int32.ofInt e.2.2) :: s.2.2.1))
  | .ldc2_w _ => nx 3 s (some (.long (Int64.ofInt e.2.2) :: s.2.2.1))
  | .lconst n => nx 1 s (some (.long (Int64.ofNat n) :: s.2.2.1))
  | .iload_n k => nx 1 s (ldI s.2.1 k s.2.2.1)
  | .iload k => nx 2 s (ldI s.2.1 k s.2.2.1)
  | .lload_n k => nx 1 s (ldJ s.2.1 k s.2.2.1)
  | .lload k => nx 2 s (ldJ s.2.1 k s.2.2.1)
  | .aload_n k => nx 1 s (ldA s.2.1 k s.2.2.1)
  | .aload k => nx 2 s (ldA s.2.1 k s.2.2.1)
  | .istore_n k => stI nL 1 s k
  | .istore k => stI nL 2 s k
  | .lstore_n k => stJ nL 1 s k
  | .lstore k => stJ nL 2 s k
  | .astore_n k => stA nL 1 s k
  | .astore k => stA nL 2 s k
  | .iinc i n => incI nL s i n
  | .dup => nx 1 s (dup1 s.2.2.1)
  | .dup2 => nx 1 s (dup2s s.2.2.1)
  | .pop => nx 1 s (pop1 s.2.2.1)
  | .iadd => nx 1 s (st2i (fun x y => .int (x + y)) s.2.2.1)
  | .isub => nx 1 s (st2i (fun x y => .int (x - y)) s.2.2.1)
  | .imul => nx 1 s (st2i (fun x y => .int (x * y)) s.2.2.1)
  | .iand => nx 1 s (st2i (fun x y => .int (x &&& y)) s.2.2.1)
  | .ior => nx 1 s (st2i (fun x y => .int (x ||| y)) s.2.2.1)
  | .ixor => nx 1 s (st2i (fun x y => .int (x ^^^ y)) s.2.2.1)
  | .ishl => nx 1 s (st2i (fun x y => .int (x <<< (y &&& 31))) s.2.2.1)
  | .ishr => nx 1 s (st2i (fun x y => .int (x >>> (y &&& 31))) s.2.2.1)
  | .iushr => nx 1 s (st2i (fun x y => .int ((x.toUInt32 >>> (y.toUInt32 &&& Int32.toUInt32 31)).toInt32)) s.2.2.1)
  | .ineg => nx 1 s (st1i (fun x => .int (-x)) s.2.2.1)
  | .idiv => gdI s (fun x y => x / y)
  | .irem => gdI s (fun x y => x - x / y * y)
  | .ladd => nx 1 s (st2l (fun x y => .long (x + y)) s.2.2.1)
  | .lsub => nx 1 s (st2l (fun x y => .long (x - y)) s.2.2.1)
  | .lmul => nx 1 s (st2l (fun x y => .long (x * y)) s.2.2.1)
  | .land => nx 1 s (st2l (fun x y => .long (x &&& y)) s.2.2.1)
  | .lor => nx 1 s (st2l (fun x y => .long (x ||| y)) s.2.2.1)
  | .lcmp => nx 1 s (st2l (fun x y => .int (lg_cmp x y)) s.2.2.1)
  | .lneg => nx 1 s (st1l (fun x => .long (-x)) s.2.2.1)
  | .ldiv => gdJ s (fun x y => x / y)
  | .lrem => gdJ s (fun x y => x - x / y * y)
  | .lshl => nx 1 s (stli (fun x y => .long (x <<< (y.toInt64 &&& 63))) s.2.2.1)
  | .lushr => nx 1 s (stli (fun x y => .long ((x.toUInt64 >>> (y.toInt64.toUInt64 &&& Int64.toUInt64 63)).toInt64)) s.2.2.1)
  | .i2l => nx 1 s (st1i (fun x => .long x.toInt64) s.2.2.1)
  | .l2i => nx 1 s (st1l (fun x => .int x.toInt32) s.2.2.1)
  | .i2c => nx 1 s (st1i (fun x => .int ((x.toUInt32 % 65536).toInt32)) s.2.2.1)
  | .goto off => gotoS s off e.2.1.1
  | .getfield _ => getF s e.2.1.1 e.2.1.2.1
  | .putfield _ => match vwCl[e.2.1.1]? with
    | some c => match parseFieldDescriptor (c.2.1 e.2.1.2.1).2.2.1 with
      | some ty => putF s e.2.1.1 e.2.1.2.1 ty
      | none => none
    | none => none
  | .iaload => aldI s 0
  | .baload => aldI s 2
  | .laload => aldJ s
  | .iastore => astI s 0 (fun x => x)
  | .bastore => astI s 2 (vp_nar .boolean)
  | .lastore => astJ s
  | .arraylength => alnA s
  | _ => none
def iln : Instr → Nat
  | .bipush _ => 2 | .sipush _ => 3 | .ldc _ => 2 | .ldc2_w _ => 3
  | .iload _ => 2 | .lload _ => 2 | .aload _ => 2 | .istore _ => 2 | .lstore _ => 2 | .astore _ => 2
  | .iinc _ _ => 3 | .goto _ => 3 | .getfield _ => 3 | .putfield _ => 3
  | .ifCond _ _ => 3 | .if_icmp _ _ => 3 | .ifnull _ => 3 | .ifnonnull _ => 3
  | .invokevirtual _ => 3 | .invokestatic _ => 3 | .invokespecial _ => 3
  | _ => 1
/-- the words that an instruction needs; a field of a nest mate: the constant is 1 -/
def lnkF (own : String) (i : Nat) (e : ENT) (c : vw_C) : Bool := decide (e.2.1.2.1 < c.2.2) && (bif decide (e.2.2 = 1) then nwOK e.2.1.2.2 (.fieldLinkNest own i (c.2.1 e.2.1.2.1).1 (c.2.1 e.2.1.2.1).2.1 (c.2.1 e.2.1.2.1).2.2.1 "LastName") else wdOK e.2.1.2.2 (.fieldLink own i (c.2.1 e.2.1.2.1).1 (c.2.1 e.2.1.2.1).2.1 (c.2.1 e.2.1.2.1).2.2.1))
def lnk (own : String) (e : ENT) : Bool := match e.1 with
  | .getfield i => match vwCl[e.2.1.1]? with
    | some c => lnkF own i e c
    | none => false
  | .putfield i => match vwCl[e.2.1.1]? with
    | some c => !(c.2.1 e.2.1.2.1).2.2.2 && lnkF own i e c
    | none => false
  | .ldc i => wdOK e.2.1.2.2 (.constant own i (Int32.ofInt e.2.2))
  | .ldc2_w i => wdOK e.2.1.2.2 (.constantLong own i (Int64.ofInt e.2.2))
  | _ => true
def chk (own : String) (cc : ByteArray) (pc : Nat) (e : ENT) : Bool := decide (decode cc pc = .ok (e.1, iln e.1)) && lnk own e
theorem chk_eq {own : String} {cc : ByteArray} {pc : Nat} {e : ENT} (h : chk own cc pc e = true) : decode cc pc = .ok (e.1, iln e.1) ∧ lnk own e = true := by
  unfold chk at h
  rw [Bool.and_eq_true, decide_eq_true_eq] at h
  exact h
end
section
def wdsOK : List Nat → List Jvm.Cond → Bool
  | [], [] => true
  | i :: is, w :: ws => wdOK i w && wdsOK is ws
  | _, _ => false
theorem wdsOK_mem : ∀ (is : List Nat) (ws : List Jvm.Cond), wdsOK is ws = true → ∀ w ∈ ws, w ∈ ALLW
  | [], [], _, w, h => by cases h
  | [], _ :: _, h, _, _ => by cases h
  | _ :: _, [], h, _, _ => by cases h
  | i :: is, v :: ws, h, w, hw => by
    unfold wdsOK at h
    rw [Bool.and_eq_true] at h
    rcases List.mem_cons.mp hw with rfl | hw
    · exact wdOK_mem h.1
    · exact wdsOK_mem is ws h.2 w hw
set_option maxRecDepth 20000 in
theorem aw_0 : ∀ w ∈ u_ws RX0 TX0 6, w ∈ ALLW := wdsOK_mem [507, 509, 511, 513, 515, 517] _ (by decide +kernel)
set_option maxRecDepth 20000 in
theorem aw_1 : ∀ w ∈ u_ws RX1 TX1 4, w ∈ ALLW := wdsOK_mem [388, 390, 392, 394] _ (by decide +kernel)
set_option maxRecDepth 20000 in
theorem aw_2 : ∀ w ∈ u_ws RX2 TX2 8, w ∈ ALLW := wdsOK_mem [298, 300, 302, 304, 306, 308, 310, 312] _ (by decide +kernel)
set_option maxRecDepth 20000 in
theorem aw_3 : ∀ w ∈ u_ws RX3 TX3 7, w ∈ ALLW := wdsOK_mem [414, 416, 418, 420, 422, 424, 426] _ (by decide +kernel)
set_option maxRecDepth 20000 in
theorem aw_4 : ∀ w ∈ u_ws RX4 TX4 13, w ∈ ALLW := wdsOK_mem [333, 335, 337, 339, 341, 343, 345, 347, 349, 351, 353, 355, 357] _ (by decide +kernel)
set_option maxRecDepth 20000 in
theorem aw_5 : ∀ w ∈ u_ws RX5 TX5 8, w ∈ ALLW := wdsOK_mem [475, 477, 479, 481, 483, 485, 487, 489] _ (by decide +kernel)
set_option maxRecDepth 20000 in
theorem aw_6 : ∀ w ∈ u_ws RX6 TX6 2, w ∈ ALLW := wdsOK_mem [376, 378] _ (by decide +kernel)
set_option maxRecDepth 20000 in
theorem aw_7 : ∀ w ∈ u_ws RX7 TX7 3, w ∈ ALLW := wdsOK_mem [159, 161, 163] _ (by decide +kernel)
set_option maxRecDepth 20000 in
theorem aw_8 : ∀ w ∈ u_ws RX8 TX8 2, w ∈ ALLW := wdsOK_mem [184, 186] _ (by decide +kernel)
set_option maxRecDepth 20000 in
theorem aw_9 : ∀ w ∈ u_ws RX9 TX9 6, w ∈ ALLW := wdsOK_mem [446, 448, 450, 452, 454, 456] _ (by decide +kernel)
set_option maxRecDepth 20000 in
theorem aw_10 : ∀ w ∈ u_ws RX10 TX10 14, w ∈ ALLW := wdsOK_mem [241, 243, 245, 247, 249, 251, 253, 255, 257, 259, 261, 263, 265, 267] _ (by decide +kernel)
set_option maxRecDepth 20000 in
theorem aw_11 : ∀ w ∈ u_ws RX11 TX11 9, w ∈ ALLW := wdsOK_mem [529, 531, 533, 535, 537, 539, 541, 543, 545] _ (by decide +kernel)
set_option maxRecDepth 20000 in
theorem aw_12 : ∀ w ∈ u_ws RX12 TX12 43, w ∈ ALLW := wdsOK_mem [1338, 1340, 1342, 1344, 1346, 1348, 1350, 1352, 1354, 1356, 1358, 1360, 1362, 1364, 1366, 1368, 1370, 1372, 1374, 1376, 1378, 1380, 1382, 1384, 1386, 1388, 1390, 1392, 1394, 1396, 1398, 1400, 1402, 1404, 1406, 1408, 1410, 1412, 1414, 1416, 1418, 1420, 1422] _ (by decide +kernel)
def clsF (c : vw_C) : Prop := (∀ w ∈ u_ws c.1 c.2.1 c.2.2, w ∈ ALLW) ∧ (∃ ty0 : Nat → FieldType, ∀ k, k < c.2.2 → parseFieldDescriptor (c.2.1 k).2.2.1 = some (ty0 k)) ∧ ∀ a, a < c.2.2 → ∀ b, b < c.2.2 → a ≠ b → (c.2.1 a).2.1 ≠ (c.2.1 b).2.1
theorem cls_ok : ∀ (k : Nat) (c : vw_C), vwCl[k]? = some c → clsF c := by
  intro k c h
  match k, h with
  | 0, h => cases h; exact ⟨aw_0, ⟨tyX0, tyX0_ok⟩, nmX0⟩
  | 1, h => cases h; exact ⟨aw_1, ⟨tyX1, tyX1_ok⟩, nmX1⟩
  | 2, h => cases h; exact ⟨aw_2, ⟨tyX2, tyX2_ok⟩, nmX2⟩
  | 3, h => cases h; exact ⟨aw_3, ⟨tyX3, tyX3_ok⟩, nmX3⟩
  | 4, h => cases h; exact ⟨aw_4, ⟨tyX4, tyX4_ok⟩, nmX4⟩
  | 5, h => cases h; exact ⟨aw_5, ⟨tyX5, tyX5_ok⟩, nmX5⟩
  | 6, h => cases h; exact ⟨aw_6, ⟨tyX6, tyX6_ok⟩, nmX6⟩
  | 7, h => cases h; exact ⟨aw_7, ⟨tyX7, tyX7_ok⟩, nmX7⟩
  | 8, h => cases h; exact ⟨aw_8, ⟨tyX8, tyX8_ok⟩, nmX8⟩
  | 9, h => cases h; exact ⟨aw_9, ⟨tyX9, tyX9_ok⟩, nmX9⟩
  | 10, h => cases h; exact ⟨aw_10, ⟨tyX10, tyX10_ok⟩, nmX10⟩
  | 11, h => cases h; exact ⟨aw_11, ⟨tyX11, tyX11_ok⟩, nmX11⟩
  | 12, h => cases h; exact ⟨aw_12, ⟨tyX12, tyX12_ok⟩, nmX12⟩
  | k + 13, h => simp [vwCl] at h
end
section
/-! ===== soundness of one step ===== -/
theorem gV_int {ad : Nat → Nat} {v : Int32} : gV ad (.int v) = .int v := rfl
theorem toLv_place {ad : Nat → Nat} {ls : List (Option Value)} {i : Nat} {v : Value} (h : ls[i]? = some (some v)) : ∃ k : Nat, (toLv ad 0 ls)[k]? = some (i, gV ad v) :=
  List.getElem?_of_mem ((toLv_mem ad ls 0 _).mpr ⟨i, v, h, by rw [Nat.zero_add]⟩)
theorem conc_putF {ad : Nat → Nat} {E : Nat → ClassId} {h : List va_E} {q ci k : Nat} {fs : List Value} {v : Value} : (conc ad E h).set q (ad q, .inr (ci, (fs.map (gV ad)).set k (gV ad v))) = conc ad E (h.set q (.inr (ci, fs.set k v))) := by
  rw [← conc_set]
  show _ = (conc ad E h).set q (ad q, Sum.inr (ci, (fs.set k v).map (gV ad)))
  rw [List.map_set]
theorem lnkF_eq {own : String} {i : Nat} {e : ENT} {c : vw_C} (h : lnkF own i e c = true) : e.2.1.2.1 < c.2.2 ∧ ((Jvm.Cond.fieldLinkNest own i (c.2.1 e.2.1.2.1).1 (c.2.1 e.2.1.2.1).2.1 (c.2.1 e.2.1.2.1).2.2.1 "LastName" ∈ NESTW) ∨ (Jvm.Cond.fieldLink own i (c.2.1 e.2.1.2.1).1 (c.2.1 e.2.1.2.1).2.1 (c.2.1 e.2.1.2.1).2.2.1 ∈ ALLW)) := by
  unfold lnkF at h
  rw [Bool.and_eq_true, decide_eq_true_eq] at h
  refine ⟨h.1, ?_⟩
  have h2 := h.2
  cases hq : decide (e.2.2 = 1) with
  | true => rw [hq] at h2; exact Or.inl (nwOK_mem h2)
  | false => rw [hq] at h2; exact Or.inr (wdOK_mem h2)
theorem nest_use {s : State} {args : Array Value} (hN : ∀ w ∈ NESTW, va_Nw w s) {w : Jvm.Cond} (hw : w ∈ NESTW) : w.before args s = true := va_Nw.use (nest_tab (List.mem_filter.mp hw).2) (hN w hw)
theorem fitG_ok {ty : FieldType} {v : Value} {g : Option Prop} (h : fitG ty v = some g) (hg : ∀ q, g = some q → q) (ad : Nat → Nat) : narrow ty (gV ad v) = gV ad v ∧ fits ty (gV ad v) = true := by
  unfold fitG at h
  split at h
  · exact ⟨rfl, rfl⟩
  · exact ⟨rfl, rfl⟩
  · rename_i v
    cases h
    rcases hg _ rfl with rfl | rfl
    · exact ⟨(by decide : narrow .boolean (.int 0) = .int 0), (by decide : fits .boolean (.int 0) = true)⟩
    · exact ⟨(by decide : narrow .boolean (.int 1) = .int 1), (by decide : fits .boolean (.int 1) = true)⟩
  · cases h

theorem ps_iconst {X : CXT} (n : Int) {aux : Nat × Nat × Nat} {v : Int} {pc : Nat} {ls : List (Option Value)} {st : List Value} {h : List va_E} {g : Option Prop} {s' : SS} (hd : decode X.1.2.1 pc = .ok (.iconst n, iln (.iconst n))) (hl : lnk X.1.1.cls (.iconst n, aux, v) = true) (hp : pin X.1.2.2.1 (.iconst n, aux, v) (pc, ls, st, h) = some (g, s')) (hg : ∀ q, g = some q → q) (k : AJ X s'.1 s'.2.1 s'.2.2.1 s'.2.2.2) : AJ X pc ls st h := by
    intro ad D E p l ev s m args below meth c H locs la hCF hLh hP hD hS
    obtain ⟨hx, hb, hr, hml, hlk, hown, hts, hK, hN⟩ := id hCF
    have hp2 : some ((none : Option Prop), pc + 1, ls, Value.int (Int32.ofInt n) :: st, h) = some (g, s') := hp
    cases hp2
    exact lv_iconst hx hb hd rfl (k ad D E p l ev s m args below meth c H locs la hCF hLh hP hD hS)
theorem ps_bipush {X : CXT} (n : Int) {aux : Nat × Nat × Nat} {v : Int} {pc : Nat} {ls : List (Option Value)} {st : List Value} {h : List va_E} {g : Option Prop} {s' : SS} (hd : decode X.1.2.1 pc = .ok (.bipush n, iln (.bipush n))) (hl : lnk X.1.1.cls (.bipush n, aux, v) = true) (hp : pin X.1.2.2.1 (.bipush n, aux, v) (pc, ls, st, h) = some (g, s')) (hg : ∀ q, g = some q → q) (k : AJ X s'.1 s'.2.1 s'.2.2.1 s'.2.2.2) : AJ X pc ls st h := by
    intro ad D E p l ev s m args below meth c H locs la hCF hLh hP hD hS
    obtain ⟨hx, hb, hr, hml, hlk, hown, hts, hK, hN⟩ := id hCF
    have hp2 : some ((none : Option Prop), pc + 2, ls, Value.int ((Int8.ofInt n).toInt32) :: st, h) = some (g, s') := hp
    cases hp2
    exact lv_bipush hx hb hd rfl (k ad D E p l ev s m args below meth c H locs la hCF hLh hP hD hS)
theorem ps_sipush {X : CXT} (n : Int) {aux : Nat × Nat × Nat} {v : Int} {pc : Nat} {ls : List (Option Value)} {st : List Value} {h : List va_E} {g : Option Prop} {s' : SS} (hd : decode X.1.2.1 pc = .ok (.sipush n, iln (.sipush n))) (hl : lnk X.1.1.cls (.sipush n, aux, v) = true) (hp : pin X.1.2.2.1 (.sipush n, aux, v) (pc, ls, st, h) = some (g, s')) (hg : ∀ q, g = some q → q) (k : AJ X s'.1 s'.2.1 s'.2.2.1 s'.2.2.2) : AJ X pc ls st h := by
    intro ad D E p l ev s m args below meth c H locs la hCF hLh hP hD hS
    obtain ⟨hx, hb, hr, hml, hlk, hown, hts, hK, hN⟩ := id hCF
    have hp2 : some ((none : Option Prop), pc + 3, ls, Value.int ((Int16.ofInt n).toInt32) :: st, h) = some (g, s') := hp
    cases hp2
    exact lv_sipush hx hb hd rfl (k ad D E p l ev s m args below meth c H locs la hCF hLh hP hD hS)
theorem ps_lconst {X : CXT} (n : Fin 2) {aux : Nat × Nat × Nat} {v : Int} {pc : Nat} {ls : List (Option Value)} {st : List Value} {h : List va_E} {g : Option Prop} {s' : SS} (hd : decode X.1.2.1 pc = .ok (.lconst n, iln (.lconst n))) (hl : lnk X.1.1.cls (.lconst n, aux, v) = true) (hp : pin X.1.2.2.1 (.lconst n, aux, v) (pc, ls, st, h) = some (g, s')) (hg : ∀ q, g = some q → q) (k : AJ X s'.1 s'.2.1 s'.2.2.1 s'.2.2.2) : AJ X pc ls st h := by
    intro ad D E p l ev s m args below meth c H locs la hCF hLh hP hD hS
    obtain ⟨hx, hb, hr, hml, hlk, hown, hts, hK, hN⟩ := id hCF
    have hp2 : some ((none : Option Prop), pc + 1, ls, Value.long (Int64.ofNat n) :: st, h) = some (g, s') := hp
    cases hp2
    exact lv_lconst hx hb hd rfl (k ad D E p l ev s m args below meth c H locs la hCF hLh hP hD hS)
theorem ps_ldc {X : CXT} (n : Nat) {aux : Nat × Nat × Nat} {v : Int} {pc : Nat} {ls : List (Option Value)} {st : List Value} {h : List va_E} {g : Option Prop} {s' : SS} (hd : decode X.1.2.1 pc = .ok (.ldc n, iln (.ldc n))) (hl : lnk X.1.1.cls (.ldc n, aux, v) = true) (hp : pin X.1.2.2.1 (.ldc n, aux, v) (pc, ls, st, h) = some (g, s')) (hg : ∀ q, g = some q → q) (k : AJ X s'.1 s'.2.1 s'.2.2.1 s'.2.2.2) : AJ X pc ls st h := by
    intro ad D E p l ev s m args below meth c H locs la hCF hLh hP hD hS
    obtain ⟨hx, hb, hr, hml, hlk, hown, hts, hK, hN⟩ := id hCF
    have hp2 : some ((none : Option Prop), pc + 2, ls, Value.int (Int32.ofInt v) :: st, h) = some (g, s') := hp
    cases hp2
    exact lv_ldc hx hb hown (hts _ (wdOK_mem hl)) hd (k ad D E p l ev s m args below meth c H locs la hCF hLh hP hD hS)
theorem ps_ldc2_w {X : CXT} (n : Nat) {aux : Nat × Nat × Nat} {v : Int} {pc : Nat} {ls : List (Option Value)} {st : List Value} {h : List va_E} {g : Option Prop} {s' : SS} (hd : decode X.1.2.1 pc = .ok (.ldc2_w n, iln (.ldc2_w n))) (hl : lnk X.1.1.cls (.ldc2_w n, aux, v) = true) (hp : pin X.1.2.2.1 (.ldc2_w n, aux, v) (pc, ls, st, h) = some (g, s')) (hg : ∀ q, g = some q → q) (k : AJ X s'.1 s'.2.1 s'.2.2.1 s'.2.2.2) : AJ X pc ls st h := by
    intro ad D E p l ev s m args below meth c H locs la hCF hLh hP hD hS
    obtain ⟨hx, hb, hr, hml, hlk, hown, hts, hK, hN⟩ := id hCF
    have hp2 : some ((none : Option Prop), pc + 3, ls, Value.long (Int64.ofInt v) :: st, h) = some (g, s') := hp
    cases hp2
    exact lv_ldc2 hx hb hown (hts _ (wdOK_mem hl)) hd (k ad D E p l ev s m args below meth c H locs la hCF hLh hP hD hS)
theorem ps_iload_n {X : CXT} (n : Fin 4) {aux : Nat × Nat × Nat} {v : Int} {pc : Nat} {ls : List (Option Value)} {st : List Value} {h : List va_E} {g : Option Prop} {s' : SS} (hd : decode X.1.2.1 pc = .ok (.iload_n n, iln (.iload_n n))) (hl : lnk X.1.1.cls (.iload_n n, aux, v) = true) (hp : pin X.1.2.2.1 (.iload_n n, aux, v) (pc, ls, st, h) = some (g, s')) (hg : ∀ q, g = some q → q) (k : AJ X s'.1 s'.2.1 s'.2.2.1 s'.2.2.2) : AJ X pc ls st h := by
    intro ad D E p l ev s m args below meth c H locs la hCF hLh hP hD hS
    obtain ⟨hx, hb, hr, hml, hlk, hown, hts, hK, hN⟩ := id hCF
    obtain ⟨t, e1, rfl, rfl⟩ := nx_eq hp
    obtain ⟨w, e2, rfl⟩ := ldI_eq e1
    exact lv_iload_n hx hb hd rfl (hLh.2.2 _ _ e2) (k ad D E p l ev s m args below meth c H locs la hCF hLh hP hD hS)
theorem ps_iload {X : CXT} (n : Nat) {aux : Nat × Nat × Nat} {v : Int} {pc : Nat} {ls : List (Option Value)} {st : List Value} {h : List va_E} {g : Option Prop} {s' : SS} (hd : decode X.1.2.1 pc = .ok (.iload n, iln (.iload n))) (hl : lnk X.1.1.cls (.iload n, aux, v) = true) (hp : pin X.1.2.2.1 (.iload n, aux, v) (pc, ls, st, h) = some (g, s')) (hg : ∀ q, g = some q → q) (k : AJ X s'.1 s'.2.1 s'.2.2.1 s'.2.2.2) : AJ X pc ls st h := by
    intro ad D E p l ev s m args below meth c H locs la hCF hLh hP hD hS
    obtain ⟨hx, hb, hr, hml, hlk, hown, hts, hK, hN⟩ := id hCF
    obtain ⟨t, e1, rfl, rfl⟩ := nx_eq hp
    obtain ⟨w, e2, rfl⟩ := ldI_eq e1
    exact lv_iload hx hb hd (hLh.2.2 _ _ e2) (k ad D E p l ev s m args below meth c H locs la hCF hLh hP hD hS)
theorem ps_lload_n {X : CXT} (n : Fin 4) {aux : Nat × Nat × Nat} {v : Int} {pc : Nat} {ls : List (Option Value)} {st : List Value} {h : List va_E} {g : Option Prop} {s' : SS} (hd : decode X.1.2.1 pc = .ok (.lload_n n, iln (.lload_n n))) (hl : lnk X.1.1.cls (.lload_n n, aux, v) = true) (hp : pin X.1.2.2.1 (.lload_n n, aux, v) (pc, ls, st, h) = some (g, s')) (hg : ∀ q, g = some q → q) (k : AJ X s'.1 s'.2.1 s'.2.2.1 s'.2.2.2) : AJ X pc ls st h := by
    intro ad D E p l ev s m args below meth c H locs la hCF hLh hP hD hS
    obtain ⟨hx, hb, hr, hml, hlk, hown, hts, hK, hN⟩ := id hCF
    obtain ⟨t, e1, rfl, rfl⟩ := nx_eq hp
    obtain ⟨w, e2, rfl⟩ := ldJ_eq e1
    exact lv_lload_n hx hb hd rfl (hLh.2.2 _ _ e2) (k ad D E p l ev s m args below meth c H locs la hCF hLh hP hD hS)
theorem ps_lload {X : CXT} (n : Nat) {aux : Nat × Nat × Nat} {v : Int} {pc : Nat} {ls : List (Option Value)} {st : List Value} {h : List va_E} {g : Option Prop} {s' : SS} (hd : decode X.1.2.1 pc = .ok (.lload n, iln (.lload n))) (hl : lnk X.1.1.cls (.lload n, aux, v) = true) (hp : pin X.1.2.2.1 (.lload n, aux, v) (pc, ls, st, h) = some (g, s')) (hg : ∀ q, g = some q → q) (k : AJ X s'.1 s'.2.1 s'.2.2.1 s'.2.2.2) : AJ X pc ls st h := by
    intro ad D E p l ev s m args below meth c H locs la hCF hLh hP hD hS
    obtain ⟨hx, hb, hr, hml, hlk, hown, hts, hK, hN⟩ := id hCF
    obtain ⟨t, e1, rfl, rfl⟩ := nx_eq hp
    obtain ⟨w, e2, rfl⟩ := ldJ_eq e1
    exact lv_lload hx hb hd (hLh.2.2 _ _ e2) (k ad D E p l ev s m args below meth c H locs la hCF hLh hP hD hS)
theorem ps_aload_n {X : CXT} (n : Fin 4) {aux : Nat × Nat × Nat} {v : Int} {pc : Nat} {ls : List (Option Value)} {st : List Value} {h : List va_E} {g : Option Prop} {s' : SS} (hd : decode X.1.2.1 pc = .ok (.aload_n n, iln (.aload_n n))) (hl : lnk X.1.1.cls (.aload_n n, aux, v) = true) (hp : pin X.1.2.2.1 (.aload_n n, aux, v) (pc, ls, st, h) = some (g, s')) (hg : ∀ q, g = some q → q) (k : AJ X s'.1 s'.2.1 s'.2.2.1 s'.2.2.2) : AJ X pc ls st h := by
    intro ad D E p l ev s m args below meth c H locs la hCF hLh hP hD hS
    obtain ⟨hx, hb, hr, hml, hlk, hown, hts, hK, hN⟩ := id hCF
    obtain ⟨t, e1, rfl, rfl⟩ := nx_eq hp
    obtain ⟨w, e2, rfl⟩ := ldA_eq e1
    exact lv_aload_n hx hb hd rfl (hLh.2.2 _ _ e2) (k ad D E p l ev s m args below meth c H locs la hCF hLh hP hD hS)
theorem ps_aload {X : CXT} (n : Nat) {aux : Nat × Nat × Nat} {v : Int} {pc : Nat} {ls : List (Option Value)} {st : List Value} {h : List va_E} {g : Option Prop} {s' : SS} (hd : decode X.1.2.1 pc = .ok (.aload n, iln (.aload n))) (hl : lnk X.1.1.cls (.aload n, aux, v) = true) (hp : pin X.1.2.2.1 (.aload n, aux, v) (pc, ls, st, h) = some (g, s')) (hg : ∀ q, g = some q → q) (k : AJ X s'.1 s'.2.1 s'.2.2.1 s'.2.2.2) : AJ X pc ls st h := by
    intro ad D E p l ev s m args below meth c H locs la hCF hLh hP hD hS
    obtain ⟨hx, hb, hr, hml, hlk, hown, hts, hK, hN⟩ := id hCF
    obtain ⟨t, e1, rfl, rfl⟩ := nx_eq hp
    obtain ⟨w, e2, rfl⟩ := ldA_eq e1
    exact lv_aload hx hb hd (hLh.2.2 _ _ e2) (k ad D E p l ev s m args below meth c H locs la hCF hLh hP hD hS)
theorem ps_istore_n {X : CXT} (n : Fin 4) {aux : Nat × Nat × Nat} {v : Int} {pc : Nat} {ls : List (Option Value)} {st : List Value} {h : List va_E} {g : Option Prop} {s' : SS} (hd : decode X.1.2.1 pc = .ok (.istore_n n, iln (.istore_n n))) (hl : lnk X.1.1.cls (.istore_n n, aux, v) = true) (hp : pin X.1.2.2.1 (.istore_n n, aux, v) (pc, ls, st, h) = some (g, s')) (hg : ∀ q, g = some q → q) (k : AJ X s'.1 s'.2.1 s'.2.2.1 s'.2.2.2) : AJ X pc ls st h := by
    intro ad D E p l ev s m args below meth c H locs la hCF hLh hP hD hS
    obtain ⟨hx, hb, hr, hml, hlk, hown, hts, hK, hN⟩ := id hCF
    obtain ⟨w, r, rfl, hi, rfl, rfl⟩ := stI_eq hp
    exact lv_istore_n hx hb hd rfl hLh.has hi rfl (fun la' h' => k ad D E p l ev s m args below meth c H locs la' hCF (Lh.sto1 hLh h') hP hD hS)
theorem ps_istore {X : CXT} (n : Nat) {aux : Nat × Nat × Nat} {v : Int} {pc : Nat} {ls : List (Option Value)} {st : List Value} {h : List va_E} {g : Option Prop} {s' : SS} (hd : decode X.1.2.1 pc = .ok (.istore n, iln (.istore n))) (hl : lnk X.1.1.cls (.istore n, aux, v) = true) (hp : pin X.1.2.2.1 (.istore n, aux, v) (pc, ls, st, h) = some (g, s')) (hg : ∀ q, g = some q → q) (k : AJ X s'.1 s'.2.1 s'.2.2.1 s'.2.2.2) : AJ X pc ls st h := by
    intro ad D E p l ev s m args below meth c H locs la hCF hLh hP hD hS
    obtain ⟨hx, hb, hr, hml, hlk, hown, hts, hK, hN⟩ := id hCF
    obtain ⟨w, r, rfl, hi, rfl, rfl⟩ := stI_eq hp
    exact lv_istore hx hb hd hLh.has hi rfl (fun la' h' => k ad D E p l ev s m args below meth c H locs la' hCF (Lh.sto1 hLh h') hP hD hS)
theorem ps_lstore_n {X : CXT} (n : Fin 4) {aux : Nat × Nat × Nat} {v : Int} {pc : Nat} {ls : List (Option Value)} {st : List Value} {h : List va_E} {g : Option Prop} {s' : SS} (hd : decode X.1.2.1 pc = .ok (.lstore_n n, iln (.lstore_n n))) (hl : lnk X.1.1.cls (.lstore_n n, aux, v) = true) (hp : pin X.1.2.2.1 (.lstore_n n, aux, v) (pc, ls, st, h) = some (g, s')) (hg : ∀ q, g = some q → q) (k : AJ X s'.1 s'.2.1 s'.2.2.1 s'.2.2.2) : AJ X pc ls st h := by
    intro ad D E p l ev s m args below meth c H locs la hCF hLh hP hD hS
    obtain ⟨hx, hb, hr, hml, hlk, hown, hts, hK, hN⟩ := id hCF
    obtain ⟨w, r, rfl, hi, rfl, rfl⟩ := stJ_eq hp
    exact lv_lstore_n hx hb hd rfl hLh.has hi rfl (fun la' h' => k ad D E p l ev s m args below meth c H locs la' hCF (Lh.sto2 hLh h') hP hD hS)
theorem ps_lstore {X : CXT} (n : Nat) {aux : Nat × Nat × Nat} {v : Int} {pc : Nat} {ls : List (Option Value)} {st : List Value} {h : List va_E} {g : Option Prop} {s' : SS} (hd : decode X.1.2.1 pc = .ok (.lstore n, iln (.lstore n))) (hl : lnk X.1.1.cls (.lstore n, aux, v) = true) (hp : pin X.1.2.2.1 (.lstore n, aux, v) (pc, ls, st, h) = some (g, s')) (hg : ∀ q, g = some q → q) (k : AJ X s'.1 s'.2.1 s'.2.2.1 s'.2.2.2) : AJ X pc ls st h := by
    intro ad D E p l ev s m args below meth c H locs la hCF hLh hP hD hS
    obtain ⟨hx, hb, hr, hml, hlk, hown, hts, hK, hN⟩ := id hCF
    obtain ⟨w, r, rfl, hi, rfl, rfl⟩ := stJ_eq hp
    exact lv_lstore hx hb hd hLh.has hi rfl (fun la' h' => k ad D E p l ev s m args below meth c H locs la' hCF (Lh.sto2 hLh h') hP hD hS)
theorem ps_astore_n {X : CXT} (n : Fin 4) {aux : Nat × Nat × Nat} {v : Int} {pc : Nat} {ls : List (Option Value)} {st : List Value} {h : List va_E} {g : Option Prop} {s' : SS} (hd : decode X.1.2.1 pc = .ok (.astore_n n, iln (.astore_n n))) (hl : lnk X.1.1.cls (.astore_n n, aux, v) = true) (hp : pin X.1.2.2.1 (.astore_n n, aux, v) (pc, ls, st, h) = some (g, s')) (hg : ∀ q, g = some q → q) (k : AJ X s'.1 s'.2.1 s'.2.2.1 s'.2.2.2) : AJ X pc ls st h := by
    intro ad D E p l ev s m args below meth c H locs la hCF hLh hP hD hS
    obtain ⟨hx, hb, hr, hml, hlk, hown, hts, hK, hN⟩ := id hCF
    obtain ⟨w, r, rfl, hi, rfl, rfl⟩ := stA_eq hp
    exact lv_astore_n hx hb hd rfl hLh.has hi rfl (fun la' h' => k ad D E p l ev s m args below meth c H locs la' hCF (Lh.sto1 hLh h') hP hD hS)
theorem ps_astore {X : CXT} (n : Nat) {aux : Nat × Nat × Nat} {v : Int} {pc : Nat} {ls : List (Option Value)} {st : List Value} {h : List va_E} {g : Option Prop} {s' : SS} (hd : decode X.1.2.1 pc = .ok (.astore n, iln (.astore n))) (hl : lnk X.1.1.cls (.astore n, aux, v) = true) (hp : pin X.1.2.2.1 (.astore n, aux, v) (pc, ls, st, h) = some (g, s')) (hg : ∀ q, g = some q → q) (k : AJ X s'.1 s'.2.1 s'.2.2.1 s'.2.2.2) : AJ X pc ls st h := by
    intro ad D E p l ev s m args below meth c H locs la hCF hLh hP hD hS
    obtain ⟨hx, hb, hr, hml, hlk, hown, hts, hK, hN⟩ := id hCF
    obtain ⟨w, r, rfl, hi, rfl, rfl⟩ := stA_eq hp
    exact lv_astore hx hb hd hLh.has hi rfl (fun la' h' => k ad D E p l ev s m args below meth c H locs la' hCF (Lh.sto1 hLh h') hP hD hS)
theorem ps_iinc {X : CXT} (i : Nat) (n : Int) {aux : Nat × Nat × Nat} {v : Int} {pc : Nat} {ls : List (Option Value)} {st : List Value} {h : List va_E} {g : Option Prop} {s' : SS} (hd : decode X.1.2.1 pc = .ok (.iinc i n, iln (.iinc i n))) (hl : lnk X.1.1.cls (.iinc i n, aux, v) = true) (hp : pin X.1.2.2.1 (.iinc i n, aux, v) (pc, ls, st, h) = some (g, s')) (hg : ∀ q, g = some q → q) (k : AJ X s'.1 s'.2.1 s'.2.2.1 s'.2.2.2) : AJ X pc ls st h := by
    intro ad D E p l ev s m args below meth c H locs la hCF hLh hP hD hS
    obtain ⟨hx, hb, hr, hml, hlk, hown, hts, hK, hN⟩ := id hCF
    obtain ⟨w, e2, hi, rfl, rfl⟩ := incI_eq hp
    obtain ⟨kp, hkp⟩ := toLv_place (ad := ad) e2
    exact lv_iinc hx hb hd hLh.has hkp rfl hi rfl (fun la' h' => k ad D E p l ev s m args below meth c H locs la' hCF (Lh.sto1 (v := .int (w + Int32.ofInt n)) hLh h') hP hD hS)
theorem ps_dup {X : CXT}  {aux : Nat × Nat × Nat} {v : Int} {pc : Nat} {ls : List (Option Value)} {st : List Value} {h : List va_E} {g : Option Prop} {s' : SS} (hd : decode X.1.2.1 pc = .ok (.dup, iln (.dup))) (hl : lnk X.1.1.cls (.dup, aux, v) = true) (hp : pin X.1.2.2.1 (.dup, aux, v) (pc, ls, st, h) = some (g, s')) (hg : ∀ q, g = some q → q) (k : AJ X s'.1 s'.2.1 s'.2.2.1 s'.2.2.2) : AJ X pc ls st h := by
    intro ad D E p l ev s m args below meth c H locs la hCF hLh hP hD hS
    obtain ⟨hx, hb, hr, hml, hlk, hown, hts, hK, hN⟩ := id hCF
    obtain ⟨t, e1, rfl, rfl⟩ := nx_eq hp
    obtain ⟨w, r, rfl, rfl, hcat⟩ := dup1_eq e1
    exact lv_dup hx hb hd (by rw [gV_cat]; exact hcat) (k ad D E p l ev s m args below meth c H locs la hCF hLh hP hD hS)
theorem ps_dup2 {X : CXT}  {aux : Nat × Nat × Nat} {v : Int} {pc : Nat} {ls : List (Option Value)} {st : List Value} {h : List va_E} {g : Option Prop} {s' : SS} (hd : decode X.1.2.1 pc = .ok (.dup2, iln (.dup2))) (hl : lnk X.1.1.cls (.dup2, aux, v) = true) (hp : pin X.1.2.2.1 (.dup2, aux, v) (pc, ls, st, h) = some (g, s')) (hg : ∀ q, g = some q → q) (k : AJ X s'.1 s'.2.1 s'.2.2.1 s'.2.2.2) : AJ X pc ls st h := by
    intro ad D E p l ev s m args below meth c H locs la hCF hLh hP hD hS
    obtain ⟨hx, hb, hr, hml, hlk, hown, hts, hK, hN⟩ := id hCF
    obtain ⟨t, e1, rfl, rfl⟩ := nx_eq hp
    obtain ⟨w, z, r, rfl, rfl, hcat, hcat2⟩ := dup2s_eq e1
    exact lv_dup2_11 hx hb hd (by rw [gV_cat]; exact hcat) (by rw [gV_cat]; exact hcat2) (k ad D E p l ev s m args below meth c H locs la hCF hLh hP hD hS)
theorem ps_pop {X : CXT}  {aux : Nat × Nat × Nat} {v : Int} {pc : Nat} {ls : List (Option Value)} {st : List Value} {h : List va_E} {g : Option Prop} {s' : SS} (hd : decode X.1.2.1 pc = .ok (.pop, iln (.pop))) (hl : lnk X.1.1.cls (.pop, aux, v) = true) (hp : pin X.1.2.2.1 (.pop, aux, v) (pc, ls, st, h) = some (g, s')) (hg : ∀ q, g = some q → q) (k : AJ X s'.1 s'.2.1 s'.2.2.1 s'.2.2.2) : AJ X pc ls st h := by
    intro ad D E p l ev s m args below meth c H locs la hCF hLh hP hD hS
    obtain ⟨hx, hb, hr, hml, hlk, hown, hts, hK, hN⟩ := id hCF
    obtain ⟨t, e1, rfl, rfl⟩ := nx_eq hp
    obtain ⟨w, r, rfl, rfl, hcat⟩ := pop1_eq e1
    exact lv_pop hx hb hd (by rw [gV_cat]; exact hcat) (k ad D E p l ev s m args below meth c H locs la hCF hLh hP hD hS)
theorem ps_iadd {X : CXT}  {aux : Nat × Nat × Nat} {v : Int} {pc : Nat} {ls : List (Option Value)} {st : List Value} {h : List va_E} {g : Option Prop} {s' : SS} (hd : decode X.1.2.1 pc = .ok (.iadd, iln (.iadd))) (hl : lnk X.1.1.cls (.iadd, aux, v) = true) (hp : pin X.1.2.2.1 (.iadd, aux, v) (pc, ls, st, h) = some (g, s')) (hg : ∀ q, g = some q → q) (k : AJ X s'.1 s'.2.1 s'.2.2.1 s'.2.2.2) : AJ X pc ls st h := by
    intro ad D E p l ev s m args below meth c H locs la hCF hLh hP hD hS
    obtain ⟨hx, hb, hr, hml, hlk, hown, hts, hK, hN⟩ := id hCF
    obtain ⟨t, e1, rfl, rfl⟩ := nx_eq hp
    obtain ⟨a, b, r, rfl, rfl⟩ := st2i_eq e1
    exact lv_iadd hx hb hd (k ad D E p l ev s m args below meth c H locs la hCF hLh hP hD hS)
theorem ps_isub {X : CXT}  {aux : Nat × Nat × Nat} {v : Int} {pc : Nat} {ls : List (Option Value)} {st : List Value} {h : List va_E} {g : Option Prop} {s' : SS} (hd : decode X.1.2.1 pc = .ok (.isub, iln (.isub))) (hl : lnk X.1.1.cls (.isub, aux, v) = true) (hp : pin X.1.2.2.1 (.isub, aux, v) (pc, ls, st, h) = some (g, s')) (hg : ∀ q, g = some q → q) (k : AJ X s'.1 s'.2.1 s'.2.2.1 s'.2.2.2) : AJ X pc ls st h := by
    intro ad D E p l ev s m args below meth c H locs la hCF hLh hP hD hS
    obtain ⟨hx, hb, hr, hml, hlk, hown, hts, hK, hN⟩ := id hCF
    obtain ⟨t, e1, rfl, rfl⟩ := nx_eq hp
    obtain ⟨a, b, r, rfl, rfl⟩ := st2i_eq e1
    exact lv_isub hx hb hd (k ad D E p l ev s m args below meth c H locs la hCF hLh hP hD hS)
theorem ps_imul {X : CXT}  {aux : Nat × Nat × Nat} {v : Int} {pc : Nat} {ls : List (Option Value)} {st : List Value} {h : List va_E} {g : Option Prop} {s' : SS} (hd : decode X.1.2.1 pc = .ok (.imul, iln (.imul))) (hl : lnk X.1.1.cls (.imul, aux, v) = true) (hp : pin X.1.2.2.1 (.imul, aux, v) (pc, ls, st, h) = some (g, s')) (hg : ∀ q, g = some q → q) (k : AJ X s'.1 s'.2.1 s'.2.2.1 s'.2.2.2) : AJ X pc ls st h := by
    intro ad D E p l ev s m args below meth c H locs la hCF hLh hP hD hS
    obtain ⟨hx, hb, hr, hml, hlk, hown, hts, hK, hN⟩ := id hCF
    obtain ⟨t, e1, rfl, rfl⟩ := nx_eq hp
    obtain ⟨a, b, r, rfl, rfl⟩ := st2i_eq e1
    exact lv_imul hx hb hd (k ad D E p l ev s m args below meth c H locs la hCF hLh hP hD hS)
theorem ps_iand {X : CXT}  {aux : Nat × Nat × Nat} {v : Int} {pc : Nat} {ls : List (Option Value)} {st : List Value} {h : List va_E} {g : Option Prop} {s' : SS} (hd : decode X.1.2.1 pc = .ok (.iand, iln (.iand))) (hl : lnk X.1.1.cls (.iand, aux, v) = true) (hp : pin X.1.2.2.1 (.iand, aux, v) (pc, ls, st, h) = some (g, s')) (hg : ∀ q, g = some q → q) (k : AJ X s'.1 s'.2.1 s'.2.2.1 s'.2.2.2) : AJ X pc ls st h := by
    intro ad D E p l ev s m args below meth c H locs la hCF hLh hP hD hS
    obtain ⟨hx, hb, hr, hml, hlk, hown, hts, hK, hN⟩ := id hCF
    obtain ⟨t, e1, rfl, rfl⟩ := nx_eq hp
    obtain ⟨a, b, r, rfl, rfl⟩ := st2i_eq e1
    exact lv_iand hx hb hd (k ad D E p l ev s m args below meth c H locs la hCF hLh hP hD hS)
theorem ps_ior {X : CXT}  {aux : Nat × Nat × Nat} {v : Int} {pc : Nat} {ls : List (Option Value)} {st : List Value} {h : List va_E} {g : Option Prop} {s' : SS} (hd : decode X.1.2.1 pc = .ok (.ior, iln (.ior))) (hl : lnk X.1.1.cls (.ior, aux, v) = true) (hp : pin X.1.2.2.1 (.ior, aux, v) (pc, ls, st, h) = some (g, s')) (hg : ∀ q, g = some q → q) (k : AJ X s'.1 s'.2.1 s'.2.2.1 s'.2.2.2) : AJ X pc ls st h := by
    intro ad D E p l ev s m args below meth c H locs la hCF hLh hP hD hS
    obtain ⟨hx, hb, hr, hml, hlk, hown, hts, hK, hN⟩ := id hCF
    obtain ⟨t, e1, rfl, rfl⟩ := nx_eq hp
    obtain ⟨a, b, r, rfl, rfl⟩ := st2i_eq e1
    exact lv_ior hx hb hd (k ad D E p l ev s m args below meth c H locs la hCF hLh hP hD hS)
theorem ps_ixor {X : CXT}  {aux : Nat × Nat × Nat} {v : Int} {pc : Nat} {ls : List (Option Value)} {st : List Value} {h : List va_E} {g : Option Prop} {s' : SS} (hd : decode X.1.2.1 pc = .ok (.ixor, iln (.ixor))) (hl : lnk X.1.1.cls (.ixor, aux, v) = true) (hp : pin X.1.2.2.1 (.ixor, aux, v) (pc, ls, st, h) = some (g, s')) (hg : ∀ q, g = some q → q) (k : AJ X s'.1 s'.2.1 s'.2.2.1 s'.2.2.2) : AJ X pc ls st h := by
    intro ad D E p l ev s m args below meth c H locs la hCF hLh hP hD hS
    obtain ⟨hx, hb, hr, hml, hlk, hown, hts, hK, hN⟩ := id hCF
    obtain ⟨t, e1, rfl, rfl⟩ := nx_eq hp
    obtain ⟨a, b, r, rfl, rfl⟩ := st2i_eq e1
    exact lv_ixor hx hb hd (k ad D E p l ev s m args below meth c H locs la hCF hLh hP hD hS)
theorem ps_ishl {X : CXT}  {aux : Nat × Nat × Nat} {v : Int} {pc : Nat} {ls : List (Option Value)} {st : List Value} {h : List va_E} {g : Option Prop} {s' : SS} (hd : decode X.1.2.1 pc = .ok (.ishl, iln (.ishl))) (hl : lnk X.1.1.cls (.ishl, aux, v) = true) (hp : pin X.1.2.2.1 (.ishl, aux, v) (pc, ls, st, h) = some (g, s')) (hg : ∀ q, g = some q → q) (k : AJ X s'.1 s'.2.1 s'.2.2.1 s'.2.2.2) : AJ X pc ls st h := by
    intro ad D E p l ev s m args below meth c H locs la hCF hLh hP hD hS
    obtain ⟨hx, hb, hr, hml, hlk, hown, hts, hK, hN⟩ := id hCF
    obtain ⟨t, e1, rfl, rfl⟩ := nx_eq hp
    obtain ⟨a, b, r, rfl, rfl⟩ := st2i_eq e1
    exact lv_ishl hx hb hd (k ad D E p l ev s m args below meth c H locs la hCF hLh hP hD hS)
theorem ps_ishr {X : CXT}  {aux : Nat × Nat × Nat} {v : Int} {pc : Nat} {ls : List (Option Value)} {st : List Value} {h : List va_E} {g : Option Prop} {s' : SS} (hd : decode X.1.2.1 pc = .ok (.ishr, iln (.ishr))) (hl : lnk X.1.1.cls (.ishr, aux, v) = true) (hp : pin X.1.2.2.1 (.ishr, aux, v) (pc, ls, st, h) = some (g, s')) (hg : ∀ q, g = some q → q) (k : AJ X s'.1 s'.2.1 s'.2.2.1 s'.2.2.2) : AJ X pc ls st h := by
    intro ad D E p l ev s m args below meth c H locs la hCF hLh hP hD hS
    obtain ⟨hx, hb, hr, hml, hlk, hown, hts, hK, hN⟩ := id hCF
    obtain ⟨t, e1, rfl, rfl⟩ := nx_eq hp
    obtain ⟨a, b, r, rfl, rfl⟩ := st2i_eq e1
    exact lv_ishr hx hb hd (k ad D E p l ev s m args below meth c H locs la hCF hLh hP hD hS)
theorem ps_iushr {X : CXT}  {aux : Nat × Nat × Nat} {v : Int} {pc : Nat} {ls : List (Option Value)} {st : List Value} {h : List va_E} {g : Option Prop} {s' : SS} (hd : decode X.1.2.1 pc = .ok (.iushr, iln (.iushr))) (hl : lnk X.1.1.cls (.iushr, aux, v) = true) (hp : pin X.1.2.2.1 (.iushr, aux, v) (pc, ls, st, h) = some (g, s')) (hg : ∀ q, g = some q → q) (k : AJ X s'.1 s'.2.1 s'.2.2.1 s'.2.2.2) : AJ X pc ls st h := by
    intro ad D E p l ev s m args below meth c H locs la hCF hLh hP hD hS
    obtain ⟨hx, hb, hr, hml, hlk, hown, hts, hK, hN⟩ := id hCF
    obtain ⟨t, e1, rfl, rfl⟩ := nx_eq hp
    obtain ⟨a, b, r, rfl, rfl⟩ := st2i_eq e1
    exact lv_iushr hx hb hd rfl (k ad D E p l ev s m args below meth c H locs la hCF hLh hP hD hS)
theorem ps_ladd {X : CXT}  {aux : Nat × Nat × Nat} {v : Int} {pc : Nat} {ls : List (Option Value)} {st : List Value} {h : List va_E} {g : Option Prop} {s' : SS} (hd : decode X.1.2.1 pc = .ok (.ladd, iln (.ladd))) (hl : lnk X.1.1.cls (.ladd, aux, v) = true) (hp : pin X.1.2.2.1 (.ladd, aux, v) (pc, ls, st, h) = some (g, s')) (hg : ∀ q, g = some q → q) (k : AJ X s'.1 s'.2.1 s'.2.2.1 s'.2.2.2) : AJ X pc ls st h := by
    intro ad D E p l ev s m args below meth c H locs la hCF hLh hP hD hS
    obtain ⟨hx, hb, hr, hml, hlk, hown, hts, hK, hN⟩ := id hCF
    obtain ⟨t, e1, rfl, rfl⟩ := nx_eq hp
    obtain ⟨a, b, r, rfl, rfl⟩ := st2l_eq e1
    exact lv_ladd hx hb hd (k ad D E p l ev s m args below meth c H locs la hCF hLh hP hD hS)
theorem ps_lsub {X : CXT}  {aux : Nat × Nat × Nat} {v : Int} {pc : Nat} {ls : List (Option Value)} {st : List Value} {h : List va_E} {g : Option Prop} {s' : SS} (hd : decode X.1.2.1 pc = .ok (.lsub, iln (.lsub))) (hl : lnk X.1.1.cls (.lsub, aux, v) = true) (hp : pin X.1.2.2.1 (.lsub, aux, v) (pc, ls, st, h) = some (g, s')) (hg : ∀ q, g = some q → q) (k : AJ X s'.1 s'.2.1 s'.2.2.1 s'.2.2.2) : AJ X pc ls st h := by
    intro ad D E p l ev s m args below meth c H locs la hCF hLh hP hD hS
    obtain ⟨hx, hb, hr, hml, hlk, hown, hts, hK, hN⟩ := id hCF
    obtain ⟨t, e1, rfl, rfl⟩ := nx_eq hp
    obtain ⟨a, b, r, rfl, rfl⟩ := st2l_eq e1
    exact lv_lsub hx hb hd (k ad D E p l ev s m args below meth c H locs la hCF hLh hP hD hS)
theorem ps_lmul {X : CXT}  {aux : Nat × Nat × Nat} {v : Int} {pc : Nat} {ls : List (Option Value)} {st : List Value} {h : List va_E} {g : Option Prop} {s' : SS} (hd : decode X.1.2.1 pc = .ok (.lmul, iln (.lmul))) (hl : lnk X.1.1.cls (.lmul, aux, v) = true) (hp : pin X.1.2.2.1 (.lmul, aux, v) (pc, ls, st, h) = some (g, s')) (hg : ∀ q, g = some q → q) (k : AJ X s'.1 s'.2.1 s'.2.2.1 s'.2.2.2) : AJ X pc ls st h := by
    intro ad D E p l ev s m args below meth c H locs la hCF hLh hP hD hS
    obtain ⟨hx, hb, hr, hml, hlk, hown, hts, hK, hN⟩ := id hCF
    obtain ⟨t, e1, rfl, rfl⟩ := nx_eq hp
    obtain ⟨a, b, r, rfl, rfl⟩ := st2l_eq e1
    exact lv_lmul hx hb hd (k ad D E p l ev s m args below meth c H locs la hCF hLh hP hD hS)
theorem ps_land {X : CXT}  {aux : Nat × Nat × Nat} {v : Int} {pc : Nat} {ls : List (Option Value)} {st : List Value} {h : List va_E} {g : Option Prop} {s' : SS} (hd : decode X.1.2.1 pc = .ok (.land, iln (.land))) (hl : lnk X.1.1.cls (.land, aux, v) = true) (hp : pin X.1.2.2.1 (.land, aux, v) (pc, ls, st, h) = some (g, s')) (hg : ∀ q, g = some q → q) (k : AJ X s'.1 s'.2.1 s'.2.2.1 s'.2.2.2) : AJ X pc ls st h := by
    intro ad D E p l ev s m args below meth c H locs la hCF hLh hP hD hS
    obtain ⟨hx, hb, hr, hml, hlk, hown, hts, hK, hN⟩ := id hCF
    obtain ⟨t, e1, rfl, rfl⟩ := nx_eq hp
    obtain ⟨a, b, r, rfl, rfl⟩ := st2l_eq e1
    exact lv_land hx hb hd (k ad D E p l ev s m args below meth c H locs la hCF hLh hP hD hS)
theorem ps_lor {X : CXT}  {aux : Nat × Nat × Nat} {v : Int} {pc : Nat} {ls : List (Option Value)} {st : List Value} {h : List va_E} {g : Option Prop} {s' : SS} (hd : decode X.1.2.1 pc = .ok (.lor, iln (.lor))) (hl : lnk X.1.1.cls (.lor, aux, v) = true) (hp : pin X.1.2.2.1 (.lor, aux, v) (pc, ls, st, h) = some (g, s')) (hg : ∀ q, g = some q → q) (k : AJ X s'.1 s'.2.1 s'.2.2.1 s'.2.2.2) : AJ X pc ls st h := by
    intro ad D E p l ev s m args below meth c H locs la hCF hLh hP hD hS
    obtain ⟨hx, hb, hr, hml, hlk, hown, hts, hK, hN⟩ := id hCF
    obtain ⟨t, e1, rfl, rfl⟩ := nx_eq hp
    obtain ⟨a, b, r, rfl, rfl⟩ := st2l_eq e1
    exact lv_lor hx hb hd (k ad D E p l ev s m args below meth c H locs la hCF hLh hP hD hS)
theorem ps_lcmp {X : CXT}  {aux : Nat × Nat × Nat} {v : Int} {pc : Nat} {ls : List (Option Value)} {st : List Value} {h : List va_E} {g : Option Prop} {s' : SS} (hd : decode X.1.2.1 pc = .ok (.lcmp, iln (.lcmp))) (hl : lnk X.1.1.cls (.lcmp, aux, v) = true) (hp : pin X.1.2.2.1 (.lcmp, aux, v) (pc, ls, st, h) = some (g, s')) (hg : ∀ q, g = some q → q) (k : AJ X s'.1 s'.2.1 s'.2.2.1 s'.2.2.2) : AJ X pc ls st h := by
    intro ad D E p l ev s m args below meth c H locs la hCF hLh hP hD hS
    obtain ⟨hx, hb, hr, hml, hlk, hown, hts, hK, hN⟩ := id hCF
    obtain ⟨t, e1, rfl, rfl⟩ := nx_eq hp
    obtain ⟨a, b, r, rfl, rfl⟩ := st2l_eq e1
    exact W.lcmp hx hb hd (k ad D E p l ev s m args below meth c H locs la hCF hLh hP hD hS)
theorem ps_ineg {X : CXT}  {aux : Nat × Nat × Nat} {v : Int} {pc : Nat} {ls : List (Option Value)} {st : List Value} {h : List va_E} {g : Option Prop} {s' : SS} (hd : decode X.1.2.1 pc = .ok (.ineg, iln (.ineg))) (hl : lnk X.1.1.cls (.ineg, aux, v) = true) (hp : pin X.1.2.2.1 (.ineg, aux, v) (pc, ls, st, h) = some (g, s')) (hg : ∀ q, g = some q → q) (k : AJ X s'.1 s'.2.1 s'.2.2.1 s'.2.2.2) : AJ X pc ls st h := by
    intro ad D E p l ev s m args below meth c H locs la hCF hLh hP hD hS
    obtain ⟨hx, hb, hr, hml, hlk, hown, hts, hK, hN⟩ := id hCF
    obtain ⟨t, e1, rfl, rfl⟩ := nx_eq hp
    obtain ⟨a, r, rfl, rfl⟩ := st1i_eq e1
    exact lv_ineg hx hb hd (k ad D E p l ev s m args below meth c H locs la hCF hLh hP hD hS)
theorem ps_lneg {X : CXT}  {aux : Nat × Nat × Nat} {v : Int} {pc : Nat} {ls : List (Option Value)} {st : List Value} {h : List va_E} {g : Option Prop} {s' : SS} (hd : decode X.1.2.1 pc = .ok (.lneg, iln (.lneg))) (hl : lnk X.1.1.cls (.lneg, aux, v) = true) (hp : pin X.1.2.2.1 (.lneg, aux, v) (pc, ls, st, h) = some (g, s')) (hg : ∀ q, g = some q → q) (k : AJ X s'.1 s'.2.1 s'.2.2.1 s'.2.2.2) : AJ X pc ls st h := by
    intro ad D E p l ev s m args below meth c H locs la hCF hLh hP hD hS
    obtain ⟨hx, hb, hr, hml, hlk, hown, hts, hK, hN⟩ := id hCF
    obtain ⟨t, e1, rfl, rfl⟩ := nx_eq hp
    obtain ⟨a, r, rfl, rfl⟩ := st1l_eq e1
    exact lv_lneg hx hb hd (k ad D E p l ev s m args below meth c H locs la hCF hLh hP hD hS)
theorem ps_i2l {X : CXT}  {aux : Nat × Nat × Nat} {v : Int} {pc : Nat} {ls : List (Option Value)} {st : List Value} {h : List va_E} {g : Option Prop} {s' : SS} (hd : decode X.1.2.1 pc = .ok (.i2l, iln (.i2l))) (hl : lnk X.1.1.cls (.i2l, aux, v) = true) (hp : pin X.1.2.2.1 (.i2l, aux, v) (pc, ls, st, h) = some (g, s')) (hg : ∀ q, g = some q → q) (k : AJ X s'.1 s'.2.1 s'.2.2.1 s'.2.2.2) : AJ X pc ls st h := by
    intro ad D E p l ev s m args below meth c H locs la hCF hLh hP hD hS
    obtain ⟨hx, hb, hr, hml, hlk, hown, hts, hK, hN⟩ := id hCF
    obtain ⟨t, e1, rfl, rfl⟩ := nx_eq hp
    obtain ⟨a, r, rfl, rfl⟩ := st1i_eq e1
    exact lv_i2l hx hb hd rfl (k ad D E p l ev s m args below meth c H locs la hCF hLh hP hD hS)
theorem ps_l2i {X : CXT}  {aux : Nat × Nat × Nat} {v : Int} {pc : Nat} {ls : List (Option Value)} {st : List Value} {h : List va_E} {g : Option Prop} {s' : SS} (hd : decode X.1.2.1 pc = .ok (.l2i, iln (.l2i))) (hl : lnk X.1.1.cls (.l2i, aux, v) = true) (hp : pin X.1.2.2.1 (.l2i, aux, v) (pc, ls, st, h) = some (g, s')) (hg : ∀ q, g = some q → q) (k : AJ X s'.1 s'.2.1 s'.2.2.1 s'.2.2.2) : AJ X pc ls st h := by
    intro ad D E p l ev s m args below meth c H locs la hCF hLh hP hD hS
    obtain ⟨hx, hb, hr, hml, hlk, hown, hts, hK, hN⟩ := id hCF
    obtain ⟨t, e1, rfl, rfl⟩ := nx_eq hp
    obtain ⟨a, r, rfl, rfl⟩ := st1l_eq e1
    exact lv_l2i hx hb hd rfl (k ad D E p l ev s m args below meth c H locs la hCF hLh hP hD hS)
theorem ps_i2c {X : CXT}  {aux : Nat × Nat × Nat} {v : Int} {pc : Nat} {ls : List (Option Value)} {st : List Value} {h : List va_E} {g : Option Prop} {s' : SS} (hd : decode X.1.2.1 pc = .ok (.i2c, iln (.i2c))) (hl : lnk X.1.1.cls (.i2c, aux, v) = true) (hp : pin X.1.2.2.1 (.i2c, aux, v) (pc, ls, st, h) = some (g, s')) (hg : ∀ q, g = some q → q) (k : AJ X s'.1 s'.2.1 s'.2.2.1 s'.2.2.2) : AJ X pc ls st h := by
    intro ad D E p l ev s m args below meth c H locs la hCF hLh hP hD hS
    obtain ⟨hx, hb, hr, hml, hlk, hown, hts, hK, hN⟩ := id hCF
    obtain ⟨t, e1, rfl, rfl⟩ := nx_eq hp
    obtain ⟨a, r, rfl, rfl⟩ := st1i_eq e1
    exact lv_i2c hx hb hd rfl (k ad D E p l ev s m args below meth c H locs la hCF hLh hP hD hS)
theorem ps_lshl {X : CXT}  {aux : Nat × Nat × Nat} {v : Int} {pc : Nat} {ls : List (Option Value)} {st : List Value} {h : List va_E} {g : Option Prop} {s' : SS} (hd : decode X.1.2.1 pc = .ok (.lshl, iln (.lshl))) (hl : lnk X.1.1.cls (.lshl, aux, v) = true) (hp : pin X.1.2.2.1 (.lshl, aux, v) (pc, ls, st, h) = some (g, s')) (hg : ∀ q, g = some q → q) (k : AJ X s'.1 s'.2.1 s'.2.2.1 s'.2.2.2) : AJ X pc ls st h := by
    intro ad D E p l ev s m args below meth c H locs la hCF hLh hP hD hS
    obtain ⟨hx, hb, hr, hml, hlk, hown, hts, hK, hN⟩ := id hCF
    obtain ⟨t, e1, rfl, rfl⟩ := nx_eq hp
    obtain ⟨a, b, r, rfl, rfl⟩ := stli_eq e1
    exact lv_lshl hx hb hd rfl (k ad D E p l ev s m args below meth c H locs la hCF hLh hP hD hS)
theorem ps_lushr {X : CXT}  {aux : Nat × Nat × Nat} {v : Int} {pc : Nat} {ls : List (Option Value)} {st : List Value} {h : List va_E} {g : Option Prop} {s' : SS} (hd : decode X.1.2.1 pc = .ok (.lushr, iln (.lushr))) (hl : lnk X.1.1.cls (.lushr, aux, v) = true) (hp : pin X.1.2.2.1 (.lushr, aux, v) (pc, ls, st, h) = some (g, s')) (hg : ∀ q, g = some q → q) (k : AJ X s'.1 s'.2.1 s'.2.2.1 s'.2.2.2) : AJ X pc ls st h := by
    intro ad D E p l ev s m args below meth c H locs la hCF hLh hP hD hS
    obtain ⟨hx, hb, hr, hml, hlk, hown, hts, hK, hN⟩ := id hCF
    obtain ⟨t, e1, rfl, rfl⟩ := nx_eq hp
    obtain ⟨a, b, r, rfl, rfl⟩ := stli_eq e1
    exact lv_lushr hx hb hd rfl (k ad D E p l ev s m args below meth c H locs la hCF hLh hP hD hS)
theorem ps_idiv {X : CXT}  {aux : Nat × Nat × Nat} {v : Int} {pc : Nat} {ls : List (Option Value)} {st : List Value} {h : List va_E} {g : Option Prop} {s' : SS} (hd : decode X.1.2.1 pc = .ok (.idiv, iln (.idiv))) (hl : lnk X.1.1.cls (.idiv, aux, v) = true) (hp : pin X.1.2.2.1 (.idiv, aux, v) (pc, ls, st, h) = some (g, s')) (hg : ∀ q, g = some q → q) (k : AJ X s'.1 s'.2.1 s'.2.2.1 s'.2.2.2) : AJ X pc ls st h := by
    intro ad D E p l ev s m args below meth c H locs la hCF hLh hP hD hS
    obtain ⟨hx, hb, hr, hml, hlk, hown, hts, hK, hN⟩ := id hCF
    obtain ⟨a, b, r, rfl, rfl, rfl⟩ := gdI_eq hp
    exact lv_idiv hx hb hd (hg _ rfl) (k ad D E p l ev s m args below meth c H locs la hCF hLh hP hD hS)
theorem ps_irem {X : CXT}  {aux : Nat × Nat × Nat} {v : Int} {pc : Nat} {ls : List (Option Value)} {st : List Value} {h : List va_E} {g : Option Prop} {s' : SS} (hd : decode X.1.2.1 pc = .ok (.irem, iln (.irem))) (hl : lnk X.1.1.cls (.irem, aux, v) = true) (hp : pin X.1.2.2.1 (.irem, aux, v) (pc, ls, st, h) = some (g, s')) (hg : ∀ q, g = some q → q) (k : AJ X s'.1 s'.2.1 s'.2.2.1 s'.2.2.2) : AJ X pc ls st h := by
    intro ad D E p l ev s m args below meth c H locs la hCF hLh hP hD hS
    obtain ⟨hx, hb, hr, hml, hlk, hown, hts, hK, hN⟩ := id hCF
    obtain ⟨a, b, r, rfl, rfl, rfl⟩ := gdI_eq hp
    exact lv_irem hx hb hd (hg _ rfl) (k ad D E p l ev s m args below meth c H locs la hCF hLh hP hD hS)
theorem ps_ldiv {X : CXT}  {aux : Nat × Nat × Nat} {v : Int} {pc : Nat} {ls : List (Option Value)} {st : List Value} {h : List va_E} {g : Option Prop} {s' : SS} (hd : decode X.1.2.1 pc = .ok (.ldiv, iln (.ldiv))) (hl : lnk X.1.1.cls (.ldiv, aux, v) = true) (hp : pin X.1.2.2.1 (.ldiv, aux, v) (pc, ls, st, h) = some (g, s')) (hg : ∀ q, g = some q → q) (k : AJ X s'.1 s'.2.1 s'.2.2.1 s'.2.2.2) : AJ X pc ls st h := by
    intro ad D E p l ev s m args below meth c H locs la hCF hLh hP hD hS
    obtain ⟨hx, hb, hr, hml, hlk, hown, hts, hK, hN⟩ := id hCF
    obtain ⟨a, b, r, rfl, rfl, rfl⟩ := gdJ_eq hp
    exact lv_ldiv hx hb hd (hg _ rfl) (k ad D E p l ev s m args below meth c H locs la hCF hLh hP hD hS)
theorem ps_lrem {X : CXT}  {aux : Nat × Nat × Nat} {v : Int} {pc : Nat} {ls : List (Option Value)} {st : List Value} {h : List va_E} {g : Option Prop} {s' : SS} (hd : decode X.1.2.1 pc = .ok (.lrem, iln (.lrem))) (hl : lnk X.1.1.cls (.lrem, aux, v) = true) (hp : pin X.1.2.2.1 (.lrem, aux, v) (pc, ls, st, h) = some (g, s')) (hg : ∀ q, g = some q → q) (k : AJ X s'.1 s'.2.1 s'.2.2.1 s'.2.2.2) : AJ X pc ls st h := by
    intro ad D E p l ev s m args below meth c H locs la hCF hLh hP hD hS
    obtain ⟨hx, hb, hr, hml, hlk, hown, hts, hK, hN⟩ := id hCF
    obtain ⟨a, b, r, rfl, rfl, rfl⟩ := gdJ_eq hp
    exact lv_lrem hx hb hd (hg _ rfl) (k ad D E p l ev s m args below meth c H locs la hCF hLh hP hD hS)
theorem ps_goto {X : CXT} (off : Int) {aux : Nat × Nat × Nat} {v : Int} {pc : Nat} {ls : List (Option Value)} {st : List Value} {h : List va_E} {g : Option Prop} {s' : SS} (hd : decode X.1.2.1 pc = .ok (.goto off, iln (.goto off))) (hl : lnk X.1.1.cls (.goto off, aux, v) = true) (hp : pin X.1.2.2.1 (.goto off, aux, v) (pc, ls, st, h) = some (g, s')) (hg : ∀ q, g = some q → q) (k : AJ X s'.1 s'.2.1 s'.2.2.1 s'.2.2.2) : AJ X pc ls st h := by
    intro ad D E p l ev s m args below meth c H locs la hCF hLh hP hD hS
    obtain ⟨hx, hb, hr, hml, hlk, hown, hts, hK, hN⟩ := id hCF
    obtain ⟨e1, rfl, rfl⟩ := gotoS_eq hp
    exact lv_goto hx hb hd e1 (k ad D E p l ev s m args below meth c H locs la hCF hLh hP hD hS)
theorem ps_getfield {X : CXT} (i : Nat) {aux : Nat × Nat × Nat} {v : Int} {pc : Nat} {ls : List (Option Value)} {st : List Value} {h : List va_E} {g : Option Prop} {s' : SS} (hd : decode X.1.2.1 pc = .ok (.getfield i, iln (.getfield i))) (hl : lnk X.1.1.cls (.getfield i, aux, v) = true) (hp : pin X.1.2.2.1 (.getfield i, aux, v) (pc, ls, st, h) = some (g, s')) (hg : ∀ q, g = some q → q) (k : AJ X s'.1 s'.2.1 s'.2.2.1 s'.2.2.2) : AJ X pc ls st h := by
    intro ad D E p l ev s m args below meth c H locs la hCF hLh hP hD hS
    obtain ⟨hx, hb, hr, hml, hlk, hown, hts, hK, hN⟩ := id hCF
    obtain ⟨q, r, fs, w, rfl, e2, e3, rfl, rfl⟩ := getF_eq hp
    obtain ⟨cc, ecc⟩ : ∃ cc, vwCl[aux.1]? = some cc := by
      cases hq : vwCl[aux.1]? with
      | some cc => exact ⟨cc, rfl⟩
      | none => simp only [lnk, hq] at hl; cases hl
    have hl2 : lnkF X.1.1.cls i (.getfield i, aux, v) cc = true := by simpa only [lnk, ecc] using hl
    obtain ⟨hk, hw⟩ := lnkF_eq hl2
    obtain ⟨h1, ⟨ty0, h2⟩, h3⟩ := cls_ok _ _ ecc
    have e4 : (fs.map (gV ad))[aux.2.1]? = some (gV ad w) := by rw [List.getElem?_map, e3]; rfl
    rcases hw with hw | hw
    · exact va_getN hx hb hts h1 hown hK hP q (conc_at e2) ecc _ hk (nest_use hN hw) (fun _ h9 => h9) e4 hd (k ad D E p l ev s m args below meth c H locs la hCF hLh hP hD hS)
    · exact va_get hx hb hts h1 hown hK hP q (conc_at e2) ecc _ hk (hts _ hw) (fun _ h9 => h9) e4 hd (k ad D E p l ev s m args below meth c H locs la hCF hLh hP hD hS)
theorem ps_putfield {X : CXT} (i : Nat) {aux : Nat × Nat × Nat} {v : Int} {pc : Nat} {ls : List (Option Value)} {st : List Value} {h : List va_E} {g : Option Prop} {s' : SS} (hd : decode X.1.2.1 pc = .ok (.putfield i, iln (.putfield i))) (hl : lnk X.1.1.cls (.putfield i, aux, v) = true) (hp : pin X.1.2.2.1 (.putfield i, aux, v) (pc, ls, st, h) = some (g, s')) (hg : ∀ q, g = some q → q) (k : AJ X s'.1 s'.2.1 s'.2.2.1 s'.2.2.2) : AJ X pc ls st h := by
    intro ad D E p l ev s m args below meth c H locs la hCF hLh hP hD hS
    obtain ⟨hx, hb, hr, hml, hlk, hown, hts, hK, hN⟩ := id hCF
    obtain ⟨cc, ecc⟩ : ∃ cc, vwCl[aux.1]? = some cc := by
      cases hq : vwCl[aux.1]? with
      | some cc => exact ⟨cc, rfl⟩
      | none => simp only [lnk, hq] at hl; cases hl
    obtain ⟨h1, ⟨ty0, h2⟩, h3⟩ := cls_ok _ _ ecc
    have hl2 : (!(cc.2.1 aux.2.1).2.2.2 && lnkF X.1.1.cls i (.putfield i, aux, v) cc) = true := by simpa only [lnk, ecc] using hl
    rw [Bool.and_eq_true] at hl2
    obtain ⟨hk, hw⟩ := lnkF_eq hl2.2
    have hfin : (cc.2.1 aux.2.1).2.2.2 = false := by simpa using hl2.1
    have hp2 : putF (pc, ls, st, h) aux.1 aux.2.1 (ty0 aux.2.1) = some (g, s') := by
      have hp3 := hp
      simp only [pin, ecc, h2 _ hk] at hp3
      exact hp3
    obtain ⟨w, q, r, fs, rfl, e2, e3, e4, rfl⟩ := putF_eq hp2
    obtain ⟨n1, n2⟩ := fitG_ok e4 hg ad
    have e5 : aux.2.1 < (fs.map (gV ad)).length := by rw [List.length_map]; exact e3
    rcases hw with hw | hw
    · exact va_putN hx hb hts h1 ty0 h2 h3 hown hK hP hD hS q (conc_at e2) ecc _ hk (nest_use hN hw) (fun _ h9 => h9) hfin (h2 _ hk) n1 n2 e5 hd (fun H1 locs1 hP1 hD1 hS1 => k ad D E p l ev s m args below meth c H1 locs1 la hCF hLh (conc_putF ▸ hP1) (conc_putF ▸ hD1) hS1)
    · exact va_put hx hb hts h1 ty0 h2 h3 hown hK hP hD hS q (conc_at e2) ecc _ hk (hts _ hw) (fun _ h9 => h9) hfin (h2 _ hk) n1 n2 e5 hd (fun H1 locs1 hP1 hD1 hS1 => k ad D E p l ev s m args below meth c H1 locs1 la hCF hLh (conc_putF ▸ hP1) (conc_putF ▸ hD1) hS1)
theorem ps_iaload {X : CXT}  {aux : Nat × Nat × Nat} {v : Int} {pc : Nat} {ls : List (Option Value)} {st : List Value} {h : List va_E} {g : Option Prop} {s' : SS} (hd : decode X.1.2.1 pc = .ok (.iaload, iln (.iaload))) (hl : lnk X.1.1.cls (.iaload, aux, v) = true) (hp : pin X.1.2.2.1 (.iaload, aux, v) (pc, ls, st, h) = some (g, s')) (hg : ∀ q, g = some q → q) (k : AJ X s'.1 s'.2.1 s'.2.2.1 s'.2.2.2) : AJ X pc ls st h := by
    intro ad D E p l ev s m args below meth c H locs la hCF hLh hP hD hS
    obtain ⟨hx, hb, hr, hml, hlk, hown, hts, hK, hN⟩ := id hCF
    obtain ⟨i, q, r, n, f, rfl, e2, rfl, rfl⟩ := aldI_eq hp
    exact va_iald hx hb hK hP q 0 (conc_at e2) rfl (inb_vp (hg _ rfl)) hd (k ad D E p l ev s m args below meth c H locs la hCF hLh hP hD hS)
theorem ps_baload {X : CXT}  {aux : Nat × Nat × Nat} {v : Int} {pc : Nat} {ls : List (Option Value)} {st : List Value} {h : List va_E} {g : Option Prop} {s' : SS} (hd : decode X.1.2.1 pc = .ok (.baload, iln (.baload))) (hl : lnk X.1.1.cls (.baload, aux, v) = true) (hp : pin X.1.2.2.1 (.baload, aux, v) (pc, ls, st, h) = some (g, s')) (hg : ∀ q, g = some q → q) (k : AJ X s'.1 s'.2.1 s'.2.2.1 s'.2.2.2) : AJ X pc ls st h := by
    intro ad D E p l ev s m args below meth c H locs la hCF hLh hP hD hS
    obtain ⟨hx, hb, hr, hml, hlk, hown, hts, hK, hN⟩ := id hCF
    obtain ⟨i, q, r, n, f, rfl, e2, rfl, rfl⟩ := aldI_eq hp
    exact va_zald hx hb hK hP q 2 (conc_at e2) rfl (inb_vp (hg _ rfl)) hd (k ad D E p l ev s m args below meth c H locs la hCF hLh hP hD hS)
theorem ps_laload {X : CXT}  {aux : Nat × Nat × Nat} {v : Int} {pc : Nat} {ls : List (Option Value)} {st : List Value} {h : List va_E} {g : Option Prop} {s' : SS} (hd : decode X.1.2.1 pc = .ok (.laload, iln (.laload))) (hl : lnk X.1.1.cls (.laload, aux, v) = true) (hp : pin X.1.2.2.1 (.laload, aux, v) (pc, ls, st, h) = some (g, s')) (hg : ∀ q, g = some q → q) (k : AJ X s'.1 s'.2.1 s'.2.2.1 s'.2.2.2) : AJ X pc ls st h := by
    intro ad D E p l ev s m args below meth c H locs la hCF hLh hP hD hS
    obtain ⟨hx, hb, hr, hml, hlk, hown, hts, hK, hN⟩ := id hCF
    obtain ⟨i, q, r, n, f, rfl, e2, rfl, rfl⟩ := aldJ_eq hp
    exact va_lald hx hb hK hP q 1 (conc_at e2) rfl (inb_vp (hg _ rfl)) hd (k ad D E p l ev s m args below meth c H locs la hCF hLh hP hD hS)
theorem ps_iastore {X : CXT}  {aux : Nat × Nat × Nat} {v : Int} {pc : Nat} {ls : List (Option Value)} {st : List Value} {h : List va_E} {g : Option Prop} {s' : SS} (hd : decode X.1.2.1 pc = .ok (.iastore, iln (.iastore))) (hl : lnk X.1.1.cls (.iastore, aux, v) = true) (hp : pin X.1.2.2.1 (.iastore, aux, v) (pc, ls, st, h) = some (g, s')) (hg : ∀ q, g = some q → q) (k : AJ X s'.1 s'.2.1 s'.2.2.1 s'.2.2.2) : AJ X pc ls st h := by
    intro ad D E p l ev s m args below meth c H locs la hCF hLh hP hD hS
    obtain ⟨hx, hb, hr, hml, hlk, hown, hts, hK, hN⟩ := id hCF
    obtain ⟨w, i, q, r, n, f, rfl, e2, rfl, rfl⟩ := astI_eq hp
    exact va_iast hx hb hK hP hD hS q 0 (conc_at e2) rfl (inb_vp (hg _ rfl)) hd (fun H1 locs1 hP1 hD1 hS1 => k ad D E p l ev s m args below meth c H1 locs1 la hCF hLh (conc_set ▸ hP1) (conc_set ▸ hD1) hS1)
theorem ps_bastore {X : CXT}  {aux : Nat × Nat × Nat} {v : Int} {pc : Nat} {ls : List (Option Value)} {st : List Value} {h : List va_E} {g : Option Prop} {s' : SS} (hd : decode X.1.2.1 pc = .ok (.bastore, iln (.bastore))) (hl : lnk X.1.1.cls (.bastore, aux, v) = true) (hp : pin X.1.2.2.1 (.bastore, aux, v) (pc, ls, st, h) = some (g, s')) (hg : ∀ q, g = some q → q) (k : AJ X s'.1 s'.2.1 s'.2.2.1 s'.2.2.2) : AJ X pc ls st h := by
    intro ad D E p l ev s m args below meth c H locs la hCF hLh hP hD hS
    obtain ⟨hx, hb, hr, hml, hlk, hown, hts, hK, hN⟩ := id hCF
    obtain ⟨w, i, q, r, n, f, rfl, e2, rfl, rfl⟩ := astI_eq hp
    exact va_zast hx hb hK hP hD hS q 2 (conc_at e2) rfl (inb_vp (hg _ rfl)) hd (fun H1 locs1 hP1 hD1 hS1 => k ad D E p l ev s m args below meth c H1 locs1 la hCF hLh (conc_set ▸ hP1) (conc_set ▸ hD1) hS1)
theorem ps_lastore {X : CXT}  {aux : Nat × Nat × Nat} {v : Int} {pc : Nat} {ls : List (Option Value)} {st : List Value} {h : List va_E} {g : Option Prop} {s' : SS} (hd : decode X.1.2.1 pc = .ok (.lastore, iln (.lastore))) (hl : lnk X.1.1.cls (.lastore, aux, v) = true) (hp : pin X.1.2.2.1 (.lastore, aux, v) (pc, ls, st, h) = some (g, s')) (hg : ∀ q, g = some q → q) (k : AJ X s'.1 s'.2.1 s'.2.2.1 s'.2.2.2) : AJ X pc ls st h := by
    intro ad D E p l ev s m args below meth c H locs la hCF hLh hP hD hS
    obtain ⟨hx, hb, hr, hml, hlk, hown, hts, hK, hN⟩ := id hCF
    obtain ⟨w, i, q, r, n, f, rfl, e2, rfl, rfl⟩ := astJ_eq hp
    exact va_last hx hb hK hP hD hS q 1 (conc_at e2) rfl (inb_vp (hg _ rfl)) hd (fun H1 locs1 hP1 hD1 hS1 => k ad D E p l ev s m args below meth c H1 locs1 la hCF hLh (conc_set ▸ hP1) (conc_set ▸ hD1) hS1)
theorem ps_arraylength {X : CXT}  {aux : Nat × Nat × Nat} {v : Int} {pc : Nat} {ls : List (Option Value)} {st : List Value} {h : List va_E} {g : Option Prop} {s' : SS} (hd : decode X.1.2.1 pc = .ok (.arraylength, iln (.arraylength))) (hl : lnk X.1.1.cls (.arraylength, aux, v) = true) (hp : pin X.1.2.2.1 (.arraylength, aux, v) (pc, ls, st, h) = some (g, s')) (hg : ∀ q, g = some q → q) (k : AJ X s'.1 s'.2.1 s'.2.2.1 s'.2.2.2) : AJ X pc ls st h := by
    intro ad D E p l ev s m args below meth c H locs la hCF hLh hP hD hS
    obtain ⟨hx, hb, hr, hml, hlk, hown, hts, hK, hN⟩ := id hCF
    obtain ⟨q, r, kd, n, a, rfl, e2, hkd, rfl, rfl⟩ := alnA_eq hp
    have e3 : ∃ z : vp_A, gE ad E (.inl (kd, n, a)) = .inl (E kd, z) ∧ z.1 = n := by
      rcases a with f | f | f | f | f <;> exact ⟨_, rfl, rfl⟩
    obtain ⟨z, e4, e5⟩ := e3
    have e6 := conc_at (ad := ad) (E := E) e2
    rw [e4] at e6
    obtain ⟨ty, hty⟩ : ∃ ty, (tysOf E)[kd]? = some (E kd, ty) := by
      match kd, hkd with
      | 0, _ => exact ⟨_, rfl⟩
      | 1, _ => exact ⟨_, rfl⟩
      | 2, _ => exact ⟨_, rfl⟩
      | 3, _ => exact ⟨_, rfl⟩
      | 4, _ => exact ⟨_, rfl⟩
    exact va_alen hx hb hK hP q kd e6 hty (by rw [e5]) hd (k ad D E p l ev s m args below meth c H locs la hCF hLh hP hD hS)
theorem AJ.step {X : CXT} {e : ENT} {pc : Nat} {ls : List (Option Value)} {st : List Value} {h : List va_E} {g : Option Prop} {s' : SS} (hc : chk X.1.1.cls X.1.2.1 pc e = true) (hp : pin X.1.2.2.1 e (pc, ls, st, h) = some (g, s')) (hg : ∀ q, g = some q → q) (k : AJ X s'.1 s'.2.1 s'.2.2.1 s'.2.2.2) : AJ X pc ls st h := by
  obtain ⟨hd, hl⟩ := chk_eq hc
  obtain ⟨i, aux, v⟩ := e
  cases i with
  | iconst n => exact ps_iconst n hd hl hp hg k
  | bipush n => exact ps_bipush n hd hl hp hg k
  | sipush n => exact ps_sipush n hd hl hp hg k
  | lconst n => exact ps_lconst n hd hl hp hg k
  | ldc n => exact ps_ldc n hd hl hp hg k
  | ldc2_w n => exact ps_ldc2_w n hd hl hp hg k
  | iload_n n => exact ps_iload_n n hd hl hp hg k
  | iload n => exact ps_iload n hd hl hp hg k
  | lload_n n => exact ps_lload_n n hd hl hp hg k
  | lload n => exact ps_lload n hd hl hp hg k
  | aload_n n => exact ps_aload_n n hd hl hp hg k
  | aload n => exact ps_aload n hd hl hp hg k
  | istore_n n => exact ps_istore_n n hd hl hp hg k
  | istore n => exact ps_istore n hd hl hp hg k
  | lstore_n n => exact ps_lstore_n n hd hl hp hg k
  | lstore n => exact ps_lstore n hd hl hp hg k
  | astore_n n => exact ps_astore_n n hd hl hp hg k
  | astore n => exact ps_astore n hd hl hp hg k
  | iinc i n => exact ps_iinc i n hd hl hp hg k
  | dup => exact ps_dup hd hl hp hg k
  | dup2 => exact ps_dup2 hd hl hp hg k
  | pop => exact ps_pop hd hl hp hg k
  | iadd => exact ps_iadd hd hl hp hg k
  | isub => exact ps_isub hd hl hp hg k
  | imul => exact ps_imul hd hl hp hg k
  | iand => exact ps_iand hd hl hp hg k
  | ior => exact ps_ior hd hl hp hg k
  | ixor => exact ps_ixor hd hl hp hg k
  | ishl => exact ps_ishl hd hl hp hg k
  | ishr => exact ps_ishr hd hl hp hg k
  | iushr => exact ps_iushr hd hl hp hg k
  | ladd => exact ps_ladd hd hl hp hg k
  | lsub => exact ps_lsub hd hl hp hg k
  | lmul => exact ps_lmul hd hl hp hg k
  | land => exact ps_land hd hl hp hg k
  | lor => exact ps_lor hd hl hp hg k
  | lcmp => exact ps_lcmp hd hl hp hg k
  | ineg => exact ps_ineg hd hl hp hg k
  | lneg => exact ps_lneg hd hl hp hg k
  | i2l => exact ps_i2l hd hl hp hg k
  | l2i => exact ps_l2i hd hl hp hg k
  | i2c => exact ps_i2c hd hl hp hg k
  | lshl => exact ps_lshl hd hl hp hg k
  | lushr => exact ps_lushr hd hl hp hg k
  | idiv => exact ps_idiv hd hl hp hg k
  | irem => exact ps_irem hd hl hp hg k
  | ldiv => exact ps_ldiv hd hl hp hg k
  | lrem => exact ps_lrem hd hl hp hg k
  | goto off => exact ps_goto off hd hl hp hg k
  | getfield i => exact ps_getfield i hd hl hp hg k
  | putfield i => exact ps_putfield i hd hl hp hg k
  | iaload => exact ps_iaload hd hl hp hg k
  | baload => exact ps_baload hd hl hp hg k
  | laload => exact ps_laload hd hl hp hg k
  | iastore => exact ps_iastore hd hl hp hg k
  | bastore => exact ps_bastore hd hl hp hg k
  | lastore => exact ps_lastore hd hl hp hg k
  | arraylength => exact ps_arraylength hd hl hp hg k
  | _ => cases hp
end
section
/-! ===== runs of straight code ===== -/
def cj (g : Option Prop) (C : Prop) : Prop := match g with
  | none => C
  | some p => p ∧ C
def prun (nL : Nat) : List (Nat × ENT) → SS → Option (Prop × SS)
  | [], s => some (True, s)
  | e :: t, s => match decide (s.1 = e.1) with
    | true => match pin nL e.2 s with
      | none => none
      | some (g, s') => match prun nL t s' with
        | none => none
        | some (C, s'') => some (cj g C, s'')
    | false => none
def segOK (own : String) (cc : ByteArray) (seg : List (Nat × ENT)) : Bool := seg.all (fun q => chk own cc q.1 q.2)
theorem AJ.run {X : CXT} : ∀ (seg : List (Nat × ENT)) {pc : Nat} {ls : List (Option Value)} {st : List Value} {h : List va_E} {C : Prop} {pc' : Nat} {ls' : List (Option Value)} {st' : List Value} {h' : List va_E}, segOK X.1.1.cls X.1.2.1 seg = true → prun X.1.2.2.1 seg (pc, ls, st, h) = some (C, pc', ls', st', h') → C → AJ X pc' ls' st' h' → AJ X pc ls st h
  | [], pc, ls, st, h, C, pc', ls', st', h', _, hr, _, k => by
    cases hr
    exact k
  | e :: t, pc, ls, st, h, C, pc', ls', st', h', hs, hr, hC, k => by
    unfold segOK at hs
    rw [List.all_cons, Bool.and_eq_true] at hs
    unfold prun at hr
    split at hr
    · rename_i hpc
      have hpc : pc = e.1 := of_decide_eq_true hpc
      split at hr
      · cases hr
      · rename_i g s1 hp
        split at hr
        · cases hr
        · rename_i C1 s2 hr2
          cases hr
          have hg : ∀ q, g = some q → q := by
            intro q hq
            subst hq
            exact hC.1
          have hC1 : C1 := by
            cases g with
            | none => exact hC
            | some q => exact hC.2
          refine AJ.step (e := e.2) (by rw [hpc]; exact hs.1) hp hg ?_
          exact AJ.run t hs.2 hr2 hC1 k
    · cases hr
/-! ===== branches ===== -/
def cnd : Instr → List Value → Option (Prop × Bool × Int × List Value)
  | .ifCond .eq off, .int x :: r => some (x = 0, true, off, r)
  | .ifCond .ne off, .int x :: r => some (x = 0, false, off, r)
  | .ifCond .lt off, .int x :: r => some (x < 0, true, off, r)
  | .ifCond .ge off, .int x :: r => some (x < 0, false, off, r)
  | .ifCond .gt off, .int x :: r => some (0 < x, true, off, r)
  | .ifCond .le off, .int x :: r => some (0 < x, false, off, r)
  | .if_icmp .eq off, .int y :: .int x :: r => some (x = y, true, off, r)
  | .if_icmp .ne off, .int y :: .int x :: r => some (x = y, false, off, r)
  | .if_icmp .lt off, .int y :: .int x :: r => some (x < y, true, off, r)
  | .if_icmp .ge off, .int y :: .int x :: r => some (x < y, false, off, r)
  | .if_icmp .gt off, .int y :: .int x :: r => some (y < x, true, off, r)
  | .if_icmp .le off, .int y :: .int x :: r => some (y < x, false, off, r)
  | _, _ => none
theorem AJ.cnd {X : CXT} {i : Instr} {pc tgt nxt : Nat} {ls : List (Option Value)} {st r : List Value} {h : List va_E} {P : Prop} {b : Bool} {off : Int} (hs : segOK X.1.1.cls X.1.2.1 [(pc, i, (0, 0, 0), 0)] = true) (hc : cnd i st = some (P, b, off, r)) (ht : (pc : Int) + off = (tgt : Int)) (hn : pc + 3 = nxt)
    (kT : P → AJ X (bif b then tgt else nxt) ls r h) (kF : ¬ P → AJ X (bif b then nxt else tgt) ls r h) : AJ X pc ls st h := by
  intro ad D E p l ev s m args below meth c H locs la hCF hLh hP hD hS
  obtain ⟨hx, hb, hr, hml, hlk, hown, hts, hK, hN⟩ := id hCF
  subst hn
  unfold segOK at hs
  rw [List.all_cons, Bool.and_eq_true] at hs
  obtain ⟨hd, -⟩ := chk_eq hs.1
  have kT' := fun q => kT q ad D E p l ev s m args below meth c H locs la hCF hLh hP hD hS
  have kF' := fun q => kF q ad D E p l ev s m args below meth c H locs la hCF hLh hP hD hS
  unfold Jvm.Pilot.@@N@@.cnd at hc
  split at hc <;> first | (cases hc; done) | skip
  · cases hc; exact lv_if_eq hx hb hd ht (fun q => kT' q) (fun q => kF' q)
  · cases hc; exact lv_if_ne hx hb hd ht (fun q => kF' q) (fun q => kT' q)
  · cases hc; exact lv_if_lt hx hb hd ht (fun q => kT' q) (fun q => kF' q)
  · cases hc; exact lv_if_ge hx hb hd ht (fun q => kF' (Int32.not_lt.mpr q)) (fun q => kT' (Int32.not_le.mp q))
  · cases hc; exact lv_if_gt hx hb hd ht (fun q => kT' q) (fun q => kF' q)
  · cases hc; exact lv_if_le hx hb hd ht (fun q => kF' (Int32.not_lt.mpr q)) (fun q => kT' (Int32.not_le.mp q))
  · cases hc; exact lv_icmp_eq hx hb hd ht (fun q => kT' q) (fun q => kF' q)
  · cases hc; exact lv_icmp_ne hx hb hd ht (fun q => kF' q) (fun q => kT' q)
  · cases hc; exact lv_icmp_lt hx hb hd ht (fun q => kT' q) (fun q => kF' q)
  · cases hc; exact lv_icmp_ge hx hb hd ht (fun q => kF' (Int32.not_lt.mpr q)) (fun q => kT' (Int32.not_le.mp q))
  · cases hc; exact lv_icmp_gt hx hb hd ht (fun q => kT' q) (fun q => kF' q)
  · cases hc; exact lv_icmp_le hx hb hd ht (fun q => kF' (Int32.not_lt.mpr q)) (fun q => kT' (Int32.not_le.mp q))
/-! ===== returns ===== -/
theorem AJ.iret {M : MI} {d : Nat} {h0 h : List va_E} {pc : Nat} {ls : List (Option Value)} {v : Int32} (hs : segOK M.1.cls M.2.1 [(pc, .ireturn, (0, 0, 0), 0)] = true) (hr0 : M.2.2.2 = some .int) : AJ (M, d, some (.int v), h0, h) pc ls [.int v] h := by
  intro ad D E p l ev s m args below meth c H locs la hCF hLh hP hD hS
  obtain ⟨hx, hb, hr, hml, hlk, hown, hts, hK, hN⟩ := id hCF
  unfold segOK at hs
  rw [List.all_cons, Bool.and_eq_true] at hs
  obtain ⟨hd, -⟩ := chk_eq hs.1
  exact W.iret hx hb (hr.trans hr0) (fun t ht hW => ⟨⟨rfl, by rw [ht]; exact hP, va_K.moved hW.alike hK, hD⟩, hS.F ht⟩) hS.2.2 hd hlk
theorem AJ.zret {M : MI} {d : Nat} {h0 h : List va_E} {pc : Nat} {ls : List (Option Value)} {v : Int32} (hz : bz v) (hs : segOK M.1.cls M.2.1 [(pc, .ireturn, (0, 0, 0), 0)] = true) (hr0 : M.2.2.2 = some .boolean) : AJ (M, d, some (.int v), h0, h) pc ls [.int v] h := by
  intro ad D E p l ev s m args below meth c H locs la hCF hLh hP hD hS
  obtain ⟨hx, hb, hr, hml, hlk, hown, hts, hK, hN⟩ := id hCF
  unfold segOK at hs
  rw [List.all_cons, Bool.and_eq_true] at hs
  obtain ⟨hd, -⟩ := chk_eq hs.1
  exact W.zret hx hb (hr.trans hr0) (by rcases hz with rfl | rfl <;> decide) (fun t ht hW => ⟨⟨rfl, by rw [ht]; exact hP, va_K.moved hW.alike hK, hD⟩, hS.F ht⟩) hS.2.2 hd hlk
theorem AJ.lret {M : MI} {d : Nat} {h0 h : List va_E} {pc : Nat} {ls : List (Option Value)} {v : Int64} (hs : segOK M.1.cls M.2.1 [(pc, .lreturn, (0, 0, 0), 0)] = true) (hr0 : M.2.2.2 = some .long) : AJ (M, d, some (.long v), h0, h) pc ls [.long v] h := by
  intro ad D E p l ev s m args below meth c H locs la hCF hLh hP hD hS
  obtain ⟨hx, hb, hr, hml, hlk, hown, hts, hK, hN⟩ := id hCF
  unfold segOK at hs
  rw [List.all_cons, Bool.and_eq_true] at hs
  obtain ⟨hd, -⟩ := chk_eq hs.1
  exact W.lret hx hb (hr.trans hr0) (fun t ht hW => ⟨⟨rfl, by rw [ht]; exact hP, va_K.moved hW.alike hK, hD⟩, hS.F ht⟩) hS.2.2 hd hlk
theorem AJ.vret {M : MI} {d : Nat} {h0 h : List va_E} {pc : Nat} {ls : List (Option Value)} (hs : segOK M.1.cls M.2.1 [(pc, .return_, (0, 0, 0), 0)] = true) (hr0 : M.2.2.2 = none) : AJ (M, d, none, h0, h) pc ls [] h := by
  intro ad D E p l ev s m args below meth c H locs la hCF hLh hP hD hS
  obtain ⟨hx, hb, hr, hml, hlk, hown, hts, hK, hN⟩ := id hCF
  unfold segOK at hs
  rw [List.all_cons, Bool.and_eq_true] at hs
  obtain ⟨hd, -⟩ := chk_eq hs.1
  exact W.vret hx hb (hr.trans hr0) (fun t ht hW => ⟨⟨rfl, by rw [ht]; exact hP, va_K.moved hW.alike hK, hD⟩, hS.F ht⟩) hS.2.2 hd hlk
/-! ===== calls ===== -/
def sg (σ : List Nat) (i : Nat) : Nat := σ.getD i 0
abbrev rnE (σ : List Nat) : va_E → va_E := gE (sg σ) (fun k => k)
theorem gV_gV (ad bd : Nat → Nat) (v : Value) : gV ad (gV bd v) = gV (fun i => ad (bd i)) v := by cases v <;> rfl
theorem gE_gE (ad bd : Nat → Nat) (E : Nat → ClassId) (e : va_E) : gE ad E (gE bd (fun k => k) e) = gE (fun i => ad (bd i)) E e := by
  rcases e with ⟨k, n, f | f | f | f | f⟩ | ⟨c, fs⟩
  · rfl
  · rfl
  · rfl
  · rfl
  · show (Sum.inl (E k, n, Sum.inr (Sum.inr (Sum.inr (Sum.inr (fun i => ((f i).map bd).map ad))))) : va_E) = Sum.inl (E k, n, Sum.inr (Sum.inr (Sum.inr (Sum.inr (fun i => (f i).map (fun i => ad (bd i)))))))
    congr 7
    funext i
    rw [Option.map_map]; rfl
  · show (Sum.inr (c, (fs.map (gV bd)).map (gV ad)) : va_E) = Sum.inr (c, fs.map (gV (fun i => ad (bd i))))
    rw [List.map_map]
    congr 2
    apply List.map_congr_left
    intro v _
    exact gV_gV ad bd v
def putS : List va_E → List Nat → List va_E → List va_E
  | h, i :: σ, e :: es => putS (h.set i e) σ es
  | h, _, _ => h
theorem putS_len : ∀ (σ : List Nat) (es h : List va_E), (putS h σ es).length = h.length
  | [], _, h => by unfold putS; rfl
  | _ :: _, [], h => by unfold putS; rfl
  | i :: σ, e :: es, h => by unfold putS; rw [putS_len σ es]; simp
theorem putS_out : ∀ (σ : List Nat) (es h : List va_E) (k : Nat), k ∉ σ → (putS h σ es)[k]? = h[k]?
  | [], _, h, k, _ => by unfold putS; rfl
  | _ :: _, [], h, k, _ => by unfold putS; rfl
  | i :: σ, e :: es, h, k, hk => by
    unfold putS
    rw [putS_out σ es _ k (fun q => hk (List.mem_cons_of_mem _ q)), List.getElem?_set_ne (fun q => hk (by rw [q]; exact List.mem_cons_self))]
theorem putS_in : ∀ (σ : List Nat) (es h : List va_E) (j k : Nat), va_nd σ = true → σ[j]? = some k → k < h.length → j < es.length → (putS h σ es)[k]? = es[j]?
  | [], es, h, j, k, _, hj, _, _ => by simp at hj
  | _ :: _, [], h, j, k, _, _, _, hl => by simp at hl
  | i :: σ, e :: es, h, 0, k, hn, hj, hk, _ => by
    have e1 : i = k := by simpa using hj
    subst e1
    unfold va_nd at hn
    rw [Bool.and_eq_true, decide_eq_true_eq] at hn
    unfold putS
    rw [putS_out σ es _ i hn.1]
    simp [hk]
  | i :: σ, e :: es, h, j + 1, k, hn, hj, hk, hl => by
    unfold va_nd at hn
    rw [Bool.and_eq_true] at hn
    unfold putS
    rw [putS_in σ es _ j k hn.2 (by simpa using hj) (by simpa using hk) (by simpa using hl)]
    simp
end
section
/-! ===== calls: the core ===== -/
theorem sg_at {σ : List Nat} {j k : Nat} (h : σ[j]? = some k) : sg σ j = k := by
  unfold sg; rw [List.getD_eq_getElem?_getD, h]; rfl
/-- the callee's cells among the caller's -/
theorem sub_at {h hc : List va_E} {σ : List Nat} (hh : σ.map (fun i => h[i]?) = hc.map (fun e => some (rnE σ e))) {j : Nat} {e : va_E} (he : hc[j]? = some e) : ∃ k, σ[j]? = some k ∧ h[k]? = some (rnE σ e) := by
  have h1 : (σ.map (fun i => h[i]?))[j]? = some (some (rnE σ e)) := by rw [hh, List.getElem?_map, he]; rfl
  rw [List.getElem?_map] at h1
  cases hj : σ[j]? with
  | none => rw [hj] at h1; cases h1
  | some k => rw [hj] at h1; exact ⟨k, rfl, Option.some.inj h1⟩
theorem sub_len {h hc : List va_E} {σ : List Nat} (hh : σ.map (fun i => h[i]?) = hc.map (fun e => some (rnE σ e))) : σ.length = hc.length := by
  have := congrArg List.length hh
  simpa using this
theorem sub_lt {h hc : List va_E} {σ : List Nat} (hh : σ.map (fun i => h[i]?) = hc.map (fun e => some (rnE σ e))) {j k : Nat} (hj : σ[j]? = some k) : k < h.length := by
  have hl : j < hc.length := by rw [← sub_len hh]; exact (List.getElem?_eq_some_iff.mp hj).1
  obtain ⟨k2, h1, h2⟩ := sub_at hh (List.getElem?_eq_getElem hl)
  rw [hj] at h1
  have := Option.some.inj h1
  subst this
  exact (List.getElem?_eq_some_iff.mp h2).1
theorem sub_conc {ad : Nat → Nat} {E : Nat → ClassId} {h hc : List va_E} {σ : List Nat} (hh : σ.map (fun i => h[i]?) = hc.map (fun e => some (rnE σ e))) {j : Nat} {q : Nat × va_E} (hq : (conc (fun i => ad (sg σ i)) E hc)[j]? = some q) : ∃ k, σ[j]? = some k ∧ (conc ad E h)[k]? = some q := by
  rw [conc_get] at hq
  cases he : hc[j]? with
  | none => rw [he] at hq; cases hq
  | some e =>
    rw [he] at hq
    obtain ⟨k, h1, h2⟩ := sub_at hh he
    refine ⟨k, h1, ?_⟩
    rw [conc_at h2, ← Option.some.inj hq]
    show some (ad k, gE ad E (gE (sg σ) (fun k => k) e)) = some (ad (sg σ j), gE (fun i => ad (sg σ i)) E e)
    rw [gE_gE, sg_at h1]
theorem callW {X : CXT} {p : Program} {l : Launch} {ev : Env} {s : State} {m : MethodId} {args : Array Value} {below : List Frame} {meth : Method} {c : Code} {H : Heap} {locs : List Loc} {la : Array Slot} {ad : Nat → Nat} {D : va_G} {E : Nat → ClassId}
    {pc : Nat} {ls : List (Option Value)} {st0 rest : List Value} {h hc hc' : List va_E} {r : Option Value} {σ : List Nat} {av : Array Value}
    (hrun : va_Run p l ev (rmD X.2.1) s m args below meth c H locs 0 0 0 0 (F0 m pc la st0) (rest.map (gV ad)) (Cout D E (conc (fun i => ad (sg σ i)) E hc) (conc (fun i => ad (sg σ i)) E hc') H.size (r.map (gV (fun i => ad (sg σ i)))) av) (va_A (conc (fun i => ad (sg σ i)) E hc) H.size))
    (hCF : CF X.1 D E p s m args meth c) (hLh : Lh ad la X.1.2.2.1 ls) (hP : va_P D vwCl (conc ad E h) H) (hD : va_D (va_A (conc ad E X.2.2.2.1) s.heap.size) (conc ad E h)) (hS : va_S (va_A (conc ad E X.2.2.2.1) s.heap.size) s.heap H locs)
    (hσ : va_nd σ = true) (hh : σ.map (fun i => h[i]?) = hc.map (fun e => some (rnE σ e))) (hlen : hc'.length = hc.length)
    (k : AJ X (pc + 3) ls ((r.map (gV (sg σ))).toList ++ rest) (putS h σ (hc'.map (rnE σ)))) :
    W p l ev (rmD X.2.1) s m args below meth c H locs 0 0 (MQ below (Cout D E (conc ad E X.2.2.2.1) (conc ad E X.2.2.2.2) s.heap.size (X.2.2.1.map (gV ad))) args s 0 0 (va_A (conc ad E X.2.2.2.1) s.heap.size)) (F0 m pc la st0) := by
  have hA0 : ∀ q, va_A (conc (fun i => ad (sg σ i)) E hc) H.size q → va_A (conc ad E X.2.2.2.1) s.heap.size q := by
    intro q hq
    rcases hq with ⟨j, e, hq⟩ | hq
    · obtain ⟨k2, -, h2⟩ := sub_conc hh hq
      exact hD.2 k2 _ h2
    · exact Or.inr (Nat.le_trans hS.1 hq)
  intro T hT Xs
  obtain ⟨v, st₀, t, T', L, h0, X', hL, e1, e2, ⟨⟨hv, hP1, hK1, hD1⟩, hz, hk⟩, stp⟩ := hrun T hT Xs
  rw [h0] at hz hk
  cases hv
  have hadr : ∀ (j q : Nat) (e : va_E), (putS h σ (hc'.map (rnE σ)))[q]? = some e → q ∉ σ → h[q]? = some e := fun j q e h1 h2 => by rw [putS_out _ _ _ _ h2] at h1; exact h1
  have hPn : va_P D vwCl (conc ad E (putS h σ (hc'.map (rnE σ)))) T'.heap := by
    intro q z hq
    rw [conc_get] at hq
    cases he : (putS h σ (hc'.map (rnE σ)))[q]? with
    | none => rw [he] at hq; cases hq
    | some e =>
      rw [he] at hq
      have hz1 : (ad q, gE ad E e) = z := Option.some.inj hq
      subst hz1
      by_cases hin : q ∈ σ
      · obtain ⟨j, hj⟩ := List.getElem?_of_mem hin
        have hjl : j < (hc'.map (rnE σ)).length := by rw [List.length_map, hlen, ← sub_len hh]; exact (List.getElem?_eq_some_iff.mp hj).1
        rw [putS_in σ _ h j q hσ hj (sub_lt hh hj) hjl, List.getElem?_map] at he
        cases he2 : hc'[j]? with
        | none => rw [he2] at he; cases he
        | some e' =>
          rw [he2] at he
          have he3 : rnE σ e' = e := Option.some.inj he
          have h9 := hP1 j _ (conc_at (ad := fun i => ad (sg σ i)) (E := E) he2)
          rw [← e1] at h9
          rw [← he3]
          show va_at D vwCl (ad q, gE ad E (gE (sg σ) (fun k => k) e')) T'.heap
          rw [gE_gE, ← sg_at hj]
          exact h9
      · have h3 := hadr 0 q e he hin
        have h4 := conc_at (ad := ad) (E := E) h3
        have h5 := hP q _ h4
        refine h5.kept ?_
        rw [e1]
        refine hk _ h5.lt ?_
        rintro (⟨j, e', hq2⟩ | hq2)
        · obtain ⟨k2, g1, g2⟩ := sub_conc hh hq2
          have := hD.1 q k2 _ _ h4 g2 rfl
          subst this
          exact hin (List.mem_of_getElem? g1)
        · exact absurd h5.lt (Nat.not_lt.mpr hq2)
  have hDn : va_D (va_A (conc ad E X.2.2.2.1) s.heap.size) (conc ad E (putS h σ (hc'.map (rnE σ)))) := by
    have hpl : ∀ (q : Nat) (z : Nat × va_E), (conc ad E (putS h σ (hc'.map (rnE σ))))[q]? = some z → ∃ z', (conc ad E h)[q]? = some z' ∧ z'.1 = z.1 := by
      intro q z hq
      rw [conc_get] at hq
      cases he : (putS h σ (hc'.map (rnE σ)))[q]? with
      | none => rw [he] at hq; cases hq
      | some e =>
        rw [he] at hq
        have hl : q < h.length := by
          have := (List.getElem?_eq_some_iff.mp he).1
          rw [putS_len] at this
          exact this
        refine ⟨_, conc_at (List.getElem?_eq_getElem hl), ?_⟩
        rw [← Option.some.inj hq]
    refine ⟨fun i j a b hi hj hab => ?_, fun q z hq => ?_⟩
    · obtain ⟨a', g1, g2⟩ := hpl i a hi
      obtain ⟨b', g3, g4⟩ := hpl j b hj
      exact hD.1 i j a' b' g1 g3 (by rw [g2, g4, hab])
    · obtain ⟨z', g1, g2⟩ := hpl q z hq
      rw [← g2]
      exact hD.2 q z' g1
  have hSn : va_S (va_A (conc ad E X.2.2.2.1) s.heap.size) s.heap T'.heap (locs ++ L) := by
    refine ⟨Nat.le_trans hS.1 (by rw [e1]; exact hz), fun q h1 h2 => ?_, fun q hq => ?_⟩
    · rw [e1, hk q (Nat.lt_of_lt_of_le h1 hS.1) (fun z => h2 (hA0 q z))]
      exact hS.2.1 q h1 h2
    · rcases List.mem_append.mp hq with h9 | h9
      · exact hS.2.2 q h9
      · exact hA0 _ (hL q h9)
  have e9 : ((r.map (gV (sg σ))).toList ++ rest).map (gV ad) = (r.map (gV (fun i => ad (sg σ i)))).toList ++ rest.map (gV ad) := by
    rw [List.map_append]
    cases r with
    | none => rfl
    | some v => show gV ad (gV (sg σ) v) :: _ = gV (fun i => ad (sg σ i)) v :: _; rw [gV_gV]; rfl
  have kk := k ad D E p l ev s m args below meth c T'.heap (locs ++ L) la hCF hLh hPn hDn hSn
  rw [e9] at kk
  obtain ⟨t2, a1, b1⟩ := kk T' rfl X'
  exact ⟨t2, stp t2 a1, b1⟩
/-! ===== the three calls ===== -/
/-- what the tables say of a method that is called; n: its arguments beside the receiver; virt: by a receiver -/
def mOK (M : MI) (n : Nat) (virt : Bool) (pc pi p1 p2 : Nat) : Bool :=
  wdOK pc (.code M.1 M.2.1 M.2.2.1 M.2.2.2) && (wdOK pi (.initialized M.1.cls) && (decide (M.1.cls ≠ "java/lang/invoke/MethodHandle" ∧ M.1.cls ≠ "java/lang/invoke/VarHandle" ∧ (parseMethodDescriptor M.1.desc).map (fun d => d.parameters.length) = some n) && (decide (M.2.2.1 ≤ 21) && (bif virt then wdOK p1 (.instanceMethod M.1) && wdOK p2 (.selects M.1.cls M.1 M.1) else wdOK p1 (.static M.1)))))
def MOK (M : MI) (n : Nat) (virt : Bool) : Prop := (.code M.1 M.2.1 M.2.2.1 M.2.2.2 ∈ ALLW) ∧ (.initialized M.1.cls ∈ ALLW) ∧ (M.1.cls ≠ "java/lang/invoke/MethodHandle" ∧ M.1.cls ≠ "java/lang/invoke/VarHandle" ∧ (parseMethodDescriptor M.1.desc).map (fun d => d.parameters.length) = some n) ∧ M.2.2.1 ≤ 21 ∧ (if virt = true then (.instanceMethod M.1 ∈ ALLW) ∧ (.selects M.1.cls M.1 M.1 ∈ ALLW) else .static M.1 ∈ ALLW)
theorem mOK_eq {M : MI} {n : Nat} {virt : Bool} {pc pi p1 p2 : Nat} (h : mOK M n virt pc pi p1 p2 = true) : MOK M n virt := by
  unfold mOK at h
  simp only [Bool.and_eq_true, decide_eq_true_eq] at h
  refine ⟨wdOK_mem h.1, wdOK_mem h.2.1, h.2.2.1, h.2.2.2.1, ?_⟩
  have h5 := h.2.2.2.2
  cases virt with
  | true =>
    simp only [cond_true, Bool.and_eq_true] at h5
    rw [if_pos rfl]
    exact ⟨wdOK_mem h5.1, wdOK_mem h5.2⟩
  | false =>
    simp only [cond_false] at h5
    rw [if_neg (by decide)]
    exact wdOK_mem h5
/-- a call's place: decoded, linked (plain or of a nest mate) -/
def csOK (own : String) (cc : ByteArray) (pc : Nat) (i : Instr) (idx : Nat) (y : MethodName) (nest : Bool) (pl : Nat) : Bool :=
  decide (decode cc pc = .ok (i, 3)) && (bif nest then nwOK pl (.methodLinkNest own idx y "LastName") else wdOK pl (.methodLink own idx y))
theorem allw_GoodIn {M : MI} (h : .code M.1 M.2.1 M.2.2.1 M.2.2.2 ∈ ALLW) : GoodIn ALLW (wOf M) := by
  intro w hw
  rcases List.mem_cons.mp hw with rfl | hw
  · exact ⟨h, allw_good h⟩
  · exact ⟨hw, allw_good hw⟩
theorem callB {X : CXT} {M : MI} {n d : Nat} {virt : Bool} {s : State} {args : Array Value} {own : String} {idx : Nat} (mk : MOK M n virt) (hts : ∀ w ∈ ALLW, w.before args s = true) (hd : X.2.1 = d + 1) (hl : (Jvm.Cond.methodLink own idx M.1).before args s = true) :
    CallB (rmD X.2.1) s args own idx M.1 M.2.1 M.2.2.1 M.2.2.2 (wOf M) (rmD d) 0 0 n :=
  callB_of (ws' := ALLW) n hts (allw_GoodIn mk.1) rfl rfl rfl (hts _ mk.2.1) hl mk.2.2.1 ⟨by rw [hd]; exact Nat.le_refl _, by
    rw [hd]
    show 8 + (M.2.2.1 + 11) + 40 * d ≤ 40 * (d + 1)
    have := mk.2.2.2.1
    omega⟩
theorem callN {X : CXT} {M : MI} {n d : Nat} {virt : Bool} {s : State} {args : Array Value} {own : String} {idx : Nat} (mk : MOK M n virt) (hts : ∀ w ∈ ALLW, w.before args s = true) (hd : X.2.1 = d + 1) (hl : va_Nw (.methodLinkNest own idx M.1 "LastName") s) :
    va_CN (rmD X.2.1) s args own idx M.1 "LastName" M.2.1 M.2.2.1 M.2.2.2 (wOf M) (rmD d) 0 0 n :=
  va_cnB (ws' := ALLW) n hts (allw_GoodIn mk.1) rfl rfl rfl hl (hts _ mk.2.1) mk.2.2.1 ⟨by rw [hd]; exact Nat.le_refl _, by
    rw [hd]
    show 8 + (M.2.2.1 + 11) + 40 * d ≤ 40 * (d + 1)
    have := mk.2.2.2.1
    omega⟩
theorem Cin_blind {D : va_G} {E : Nat → ClassId} {ws : va_W} {sz : Nat} {av : List Value} : FrameBlind (va_Pc av (Cin D E ws sz)) := by
  intro a U g mk q
  obtain ⟨q0, q1, qP, qK, qD, qN⟩ := q
  exact ⟨q0, q1, qP, va_K.moved (u := U) (U := U.calling g mk a) (Vm.Alike.refl U.vm) qK, qD, fun w hw => va_Nw.same (u := U) (U := U.calling g mk a) (nest_tab (List.mem_filter.mp hw).2) rfl (qN w hw)⟩
theorem Cin_call {ad : Nat → Nat} {D : va_G} {E : Nat → ClassId} {h hc : List va_E} {σ : List Nat} {A : Nat → Prop} {H : Heap} {s U : State} (hP : va_P D vwCl (conc ad E h) H) (hD : va_D A (conc ad E h)) (hK : va_K D vwCl (tysOf E) s) (hN : ∀ w ∈ NESTW, va_Nw w s) (hσ : va_nd σ = true) (hh : σ.map (fun i => h[i]?) = hc.map (fun e => some (rnE σ e))) (hU : U.heap = H) (hW : s.WarmedH U.vm) : Cin D E (conc (fun i => ad (sg σ i)) E hc) H.size U := by
  refine ⟨by rw [hU], ?_, va_K.moved hW.alike hK, ?_, fun w hw => nest_warm hW (List.mem_filter.mp hw).2 (hN w hw)⟩
  · rw [hU]
    intro j q hq
    obtain ⟨k, -, h2⟩ := sub_conc hh hq
    exact hP k q h2
  · refine ⟨fun i j a b hi hj hab => ?_, fun _ _ _ => trivial⟩
    obtain ⟨k1, g1, g2⟩ := sub_conc hh hi
    obtain ⟨k2, g3, g4⟩ := sub_conc hh hj
    have := hD.1 k1 k2 a b g2 g4 hab
    subst this
    exact va_nd_inj σ hσ i j k1 g1 g3
/-- a static method -/
theorem AJ.callS {X : CXT} {d n : Nat} {M : MI} {idx pl pc nxt : Nat} {nest : Bool} {ls : List (Option Value)} {st rest as : List Value} {h hc hc' : List va_E} {r : Option Value} (mk : MOK M n false) (hd : X.2.1 = d + 1) (cs : csOK X.1.1.cls X.1.2.1 pc (.invokestatic idx) idx M.1 nest pl = true) (C : Ctr d M as hc r hc') (σ : List Nat) (hσ : va_nd σ = true) (hh : σ.map (fun i => h[i]?) = hc.map (fun e => some (rnE σ e))) (hlen : hc'.length = hc.length) (hst : st = (as.map (gV (sg σ))).reverse ++ rest) (hn : as.length = n) (hroom : (rest.map Value.category).sum ≤ 8) (hnx : pc + 3 = nxt)
    (k : AJ X nxt ls ((r.map (gV (sg σ))).toList ++ rest) (putS h σ (hc'.map (rnE σ)))) : AJ X pc ls st h := by
  intro ad D E p l ev s m args below meth c H locs la hCF hLh hP hD hS
  obtain ⟨hx, hb, hr, hml, hlk, hown, hts, hK, hN⟩ := id hCF
  subst hst
  subst hnx
  unfold csOK at cs
  rw [Bool.and_eq_true, decide_eq_true_eq] at cs
  obtain ⟨hdg, hlk2⟩ := cs
  have hstk : (((as.map (gV (sg σ))).reverse ++ rest).map (gV ad)) = (as.map (gV (fun i => ad (sg σ i)))).reverse ++ rest.map (gV ad) := by
    rw [List.map_append, List.map_reverse, List.map_map]
    congr 2
    apply List.map_congr_left
    intro v _
    exact gV_gV ad (sg σ) v
  have hroom2 : ((rest.map (gV ad)).map fun v => v.category).sum ≤ 8 := by
    rw [List.map_map]
    have : (Value.category ∘ gV ad) = Value.category := by funext v; exact gV_cat ad v
    show ((rest.map (Value.category ∘ gV ad)).sum) ≤ 8
    rw [this]; exact hroom
  have hstat : (Jvm.Cond.static M.1).before args s = true := hts _ (by have := mk.2.2.2.2; rwa [if_neg (by decide)] at this)
  have hpre : PreS s H (va_Pc (as.map (gV (fun i => ad (sg σ i)))) (Cin D E (conc (fun i => ad (sg σ i)) E hc) H.size)) (as.map (gV (fun i => ad (sg σ i)))) := ⟨Cin_blind, fun U hU hW => ⟨rfl, Cin_call hP hD hK hN hσ hh hU hW⟩⟩
  cases nest with
  | false =>
    have hl : (Jvm.Cond.methodLink X.1.1.cls idx M.1).before args s = true := hts _ (wdOK_mem hlk2)
    refine callW (va_runS ⟨hx, hb, hml, hown, hts⟩ (C (fun i => ad (sg σ i)) D E l H.size) ⟨callB mk hts hd hl, hstat⟩ hpre rfl (by rw [List.length_map]; exact hn) hLh.1 hstk (lv_room hroom2) hdg ⟨Nat.le_refl _, Nat.le_refl _⟩) hCF hLh hP hD hS hσ hh hlen k
  | true =>
    have hl : va_Nw (.methodLinkNest X.1.1.cls idx M.1 "LastName") s := hN _ (nwOK_mem hlk2)
    refine callW (va_runSN ⟨hx, hb, hml, hown, hts⟩ (C (fun i => ad (sg σ i)) D E l H.size) ⟨callN mk hts hd hl, hstat, trivial⟩ hpre rfl (by rw [List.length_map]; exact hn) hLh.1 hstk (lv_room hroom2) hdg ⟨Nat.le_refl _, Nat.le_refl _⟩) hCF hLh hP hD hS hσ hh hlen k
/-- a method of a receiver: at place i0 of the callee's cells, an object of its class -/
theorem AJ.callV {X : CXT} {d n : Nat} {M : MI} {idx pl pc nxt : Nat} {nest : Bool} {ls : List (Option Value)} {st rest as : List Value} {h hc hc' : List va_E} {r : Option Value} {i0 ci : Nat} {fs : List Value} {cc : vw_C} (mk : MOK M n true) (hd : X.2.1 = d + 1) (cs : csOK X.1.1.cls X.1.2.1 pc (.invokevirtual idx) idx M.1 nest pl = true) (C : Ctr d M (.ref i0 :: as) hc r hc') (hrc : hc[i0]? = some (.inr (ci, fs))) (hcc : vwCl[ci]? = some cc) (hcn : cc.1 = M.1.cls) (σ : List Nat) (hσ : va_nd σ = true) (hh : σ.map (fun i => h[i]?) = hc.map (fun e => some (rnE σ e))) (hlen : hc'.length = hc.length) (hst : st = (as.map (gV (sg σ))).reverse ++ .ref (sg σ i0) :: rest) (hn : as.length = n) (hroom : (rest.map Value.category).sum ≤ 8) (hnx : pc + 3 = nxt)
    (k : AJ X nxt ls ((r.map (gV (sg σ))).toList ++ rest) (putS h σ (hc'.map (rnE σ)))) : AJ X pc ls st h := by
  intro ad D E p l ev s m args below meth c H locs la hCF hLh hP hD hS
  obtain ⟨hx, hb, hr, hml, hlk, hown, hts, hK, hN⟩ := id hCF
  subst hst
  subst hnx
  unfold csOK at cs
  rw [Bool.and_eq_true, decide_eq_true_eq] at cs
  obtain ⟨hdg, hlk2⟩ := cs
  have hstk : (((as.map (gV (sg σ))).reverse ++ .ref (sg σ i0) :: rest).map (gV ad)) = (as.map (gV (fun i => ad (sg σ i)))).reverse ++ .ref (ad (sg σ i0)) :: rest.map (gV ad) := by
    rw [List.map_append, List.map_reverse, List.map_map]
    congr 2
    apply List.map_congr_left
    intro v _
    exact gV_gV ad (sg σ) v
  have hroom2 : ((rest.map (gV ad)).map fun v => v.category).sum ≤ 8 := by
    rw [List.map_map]
    have : (Value.category ∘ gV ad) = Value.category := by funext v; exact gV_cat ad v
    show ((rest.map (Value.category ∘ gV ad)).sum) ≤ 8
    rw [this]; exact hroom
  have hvv : (.instanceMethod M.1 ∈ ALLW) ∧ (.selects M.1.cls M.1 M.1 ∈ ALLW) := by have := mk.2.2.2.2; rwa [if_pos rfl] at this
  obtain ⟨k0, g1, g2⟩ := sub_conc (ad := ad) (E := E) hh (conc_at (ad := fun i => ad (sg σ i)) (E := E) hrc)
  have hrecv := va_recv hK hP hcc g2
  rw [hcn] at hrecv
  have hpre : PreV s H M.1.cls (ad (sg σ i0)) (va_Pc ((Value.ref i0 :: as).map (gV (fun i => ad (sg σ i)))) (Cin D E (conc (fun i => ad (sg σ i)) E hc) H.size)) (as.map (gV (fun i => ad (sg σ i)))) := ⟨Cin_blind, hrecv, fun U hU hW => ⟨rfl, Cin_call hP hD hK hN hσ hh hU hW⟩⟩
  cases nest with
  | false =>
    have hl : (Jvm.Cond.methodLink X.1.1.cls idx M.1).before args s = true := hts _ (wdOK_mem hlk2)
    refine callW (va_runV ⟨hx, hb, hml, hown, hts⟩ (C (fun i => ad (sg σ i)) D E l H.size) ⟨callB mk hts hd hl, hts _ hvv.1, hts _ hvv.2⟩ hpre rfl (by rw [List.length_map]; exact hn) hLh.1 hstk (lv_room hroom2) hdg ⟨Nat.le_refl _, Nat.le_refl _⟩) hCF hLh hP hD hS hσ hh hlen k
  | true =>
    have hl : va_Nw (.methodLinkNest X.1.1.cls idx M.1 "LastName") s := hN _ (nwOK_mem hlk2)
    refine callW (va_runVN ⟨hx, hb, hml, hown, hts⟩ (C (fun i => ad (sg σ i)) D E l H.size) ⟨callN mk hts hd hl, hts _ hvv.1, hts _ hvv.2⟩ hpre rfl (by rw [List.length_map]; exact hn) hLh.1 hstk (lv_room hroom2) hdg ⟨Nat.le_refl _, Nat.le_refl _⟩) hCF hLh hP hD hS hσ hh hlen k
end
