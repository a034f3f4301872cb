section
-- ===== PART A: goes FIRST, ahead of the names: the tables' words, and 'selects' of the private methods out of them =====
/-- a private method of a class that the tables say can be made, by its rows of tables_1 -/
def lw_okq (q : MethodName × Nat) : Prop := (q.1.cls ≠ "java/lang/invoke/MethodHandle" ∧ q.1.cls ≠ "java/lang/invoke/VarHandle") ∧ Cond.instantiable q.1.cls q.2 ∈ tables_1 ∧ Cond.privateMethod q.1 ∈ tables_1 ∧ Cond.instanceMethod q.1 ∈ tables_1
theorem lw_p0 : lw_okq (⟨"SweptRound", "fail", "(I)I"⟩, 10) := ⟨⟨by decide +kernel, by decide +kernel⟩, List.mem_of_getElem? (i := 22) (by decide +kernel), List.mem_of_getElem? (i := 265) (by decide +kernel), List.mem_of_getElem? (i := 266) (by decide +kernel)⟩
theorem lw_p1 : lw_okq (⟨"SweptRound$Law", "withoutText", "(II)I"⟩, 3) := ⟨⟨by decide +kernel, by decide +kernel⟩, List.mem_of_getElem? (i := 80) (by decide +kernel), List.mem_of_getElem? (i := 303) (by decide +kernel), List.mem_of_getElem? (i := 304) (by decide +kernel)⟩
theorem lw_p2 : lw_okq (⟨"SweptRound$Reader", "reads", "(II)Z"⟩, 6) := ⟨⟨by decide +kernel, by decide +kernel⟩, List.mem_of_getElem? (i := 175) (by decide +kernel), List.mem_of_getElem? (i := 428) (by decide +kernel), List.mem_of_getElem? (i := 429) (by decide +kernel)⟩
theorem lw_p3 : lw_okq (⟨"SweptRound$Reader", "readsOne", "(I)Z"⟩, 6) := ⟨⟨by decide +kernel, by decide +kernel⟩, List.mem_of_getElem? (i := 175) (by decide +kernel), List.mem_of_getElem? (i := 432) (by decide +kernel), List.mem_of_getElem? (i := 433) (by decide +kernel)⟩
theorem lw_p4 : lw_okq (⟨"SweptRound$Reader", "next", "()I"⟩, 6) := ⟨⟨by decide +kernel, by decide +kernel⟩, List.mem_of_getElem? (i := 175) (by decide +kernel), List.mem_of_getElem? (i := 436) (by decide +kernel), List.mem_of_getElem? (i := 437) (by decide +kernel)⟩
theorem lw_p5 : lw_okq (⟨"SweptRound$Reader", "readNumber", "()V"⟩, 6) := ⟨⟨by decide +kernel, by decide +kernel⟩, List.mem_of_getElem? (i := 175) (by decide +kernel), List.mem_of_getElem? (i := 444) (by decide +kernel), List.mem_of_getElem? (i := 445) (by decide +kernel)⟩
theorem lw_p6 : lw_okq (⟨"SweptRound$Reader", "write", "(I)V"⟩, 6) := ⟨⟨by decide +kernel, by decide +kernel⟩, List.mem_of_getElem? (i := 175) (by decide +kernel), List.mem_of_getElem? (i := 448) (by decide +kernel), List.mem_of_getElem? (i := 449) (by decide +kernel)⟩
theorem lw_p7 : lw_okq (⟨"SweptRound$Reader", "nameOf", "(I)I"⟩, 6) := ⟨⟨by decide +kernel, by decide +kernel⟩, List.mem_of_getElem? (i := 175) (by decide +kernel), List.mem_of_getElem? (i := 452) (by decide +kernel), List.mem_of_getElem? (i := 453) (by decide +kernel)⟩
theorem lw_p8 : lw_okq (⟨"SweptRound$Reader", "readsDenied", "(I)Z"⟩, 6) := ⟨⟨by decide +kernel, by decide +kernel⟩, List.mem_of_getElem? (i := 175) (by decide +kernel), List.mem_of_getElem? (i := 540) (by decide +kernel), List.mem_of_getElem? (i := 541) (by decide +kernel)⟩
theorem lw_p9 : lw_okq (⟨"SweptRound$Reader", "readsClosed", "(I)Z"⟩, 6) := ⟨⟨by decide +kernel, by decide +kernel⟩, List.mem_of_getElem? (i := 175) (by decide +kernel), List.mem_of_getElem? (i := 544) (by decide +kernel), List.mem_of_getElem? (i := 545) (by decide +kernel)⟩
theorem lw_p10 : lw_okq (⟨"SweptRound$Street", "goers", "(I)I"⟩, 18) := ⟨⟨by decide +kernel, by decide +kernel⟩, List.mem_of_getElem? (i := 97) (by decide +kernel), List.mem_of_getElem? (i := 587) (by decide +kernel), List.mem_of_getElem? (i := 588) (by decide +kernel)⟩
theorem lw_p11 : lw_okq (⟨"SweptRound$Street", "drawn", "()I"⟩, 18) := ⟨⟨by decide +kernel, by decide +kernel⟩, List.mem_of_getElem? (i := 97) (by decide +kernel), List.mem_of_getElem? (i := 604) (by decide +kernel), List.mem_of_getElem? (i := 605) (by decide +kernel)⟩
theorem lw_p12 : lw_okq (⟨"SweptRound", "dirtOnceSwept", "(I)I"⟩, 10) := ⟨⟨by decide +kernel, by decide +kernel⟩, List.mem_of_getElem? (i := 22) (by decide +kernel), List.mem_of_getElem? (i := 643) (by decide +kernel), List.mem_of_getElem? (i := 644) (by decide +kernel)⟩
theorem lw_p13 : lw_okq (⟨"SweptRound", "staysBelow", "(II)Z"⟩, 10) := ⟨⟨by decide +kernel, by decide +kernel⟩, List.mem_of_getElem? (i := 22) (by decide +kernel), List.mem_of_getElem? (i := 653) (by decide +kernel), List.mem_of_getElem? (i := 654) (by decide +kernel)⟩
theorem lw_p14 : lw_okq (⟨"SweptRound", "dirtWithout", "(III)I"⟩, 10) := ⟨⟨by decide +kernel, by decide +kernel⟩, List.mem_of_getElem? (i := 22) (by decide +kernel), List.mem_of_getElem? (i := 666) (by decide +kernel), List.mem_of_getElem? (i := 667) (by decide +kernel)⟩
theorem lw_p15 : lw_okq (⟨"SweptRound", "leastPairToTow", "(III)I"⟩, 10) := ⟨⟨by decide +kernel, by decide +kernel⟩, List.mem_of_getElem? (i := 22) (by decide +kernel), List.mem_of_getElem? (i := 670) (by decide +kernel), List.mem_of_getElem? (i := 671) (by decide +kernel)⟩
def lw_privs_1 : List (MethodName × Nat) := [(⟨"SweptRound", "fail", "(I)I"⟩, 10), (⟨"SweptRound$Law", "withoutText", "(II)I"⟩, 3), (⟨"SweptRound$Reader", "reads", "(II)Z"⟩, 6), (⟨"SweptRound$Reader", "readsOne", "(I)Z"⟩, 6), (⟨"SweptRound$Reader", "next", "()I"⟩, 6), (⟨"SweptRound$Reader", "readNumber", "()V"⟩, 6), (⟨"SweptRound$Reader", "write", "(I)V"⟩, 6), (⟨"SweptRound$Reader", "nameOf", "(I)I"⟩, 6), (⟨"SweptRound$Reader", "readsDenied", "(I)Z"⟩, 6), (⟨"SweptRound$Reader", "readsClosed", "(I)Z"⟩, 6), (⟨"SweptRound$Street", "goers", "(I)I"⟩, 18), (⟨"SweptRound$Street", "drawn", "()I"⟩, 18), (⟨"SweptRound", "dirtOnceSwept", "(I)I"⟩, 10), (⟨"SweptRound", "staysBelow", "(II)Z"⟩, 10), (⟨"SweptRound", "dirtWithout", "(III)I"⟩, 10), (⟨"SweptRound", "leastPairToTow", "(III)I"⟩, 10)]
theorem lw_r1 : ∀ q ∈ lw_privs_1, lw_okq q := List.forall_mem_cons.mpr ⟨lw_p0, List.forall_mem_cons.mpr ⟨lw_p1, List.forall_mem_cons.mpr ⟨lw_p2, List.forall_mem_cons.mpr ⟨lw_p3, List.forall_mem_cons.mpr ⟨lw_p4, List.forall_mem_cons.mpr ⟨lw_p5, List.forall_mem_cons.mpr ⟨lw_p6, List.forall_mem_cons.mpr ⟨lw_p7, List.forall_mem_cons.mpr ⟨lw_p8, List.forall_mem_cons.mpr ⟨lw_p9, List.forall_mem_cons.mpr ⟨lw_p10, List.forall_mem_cons.mpr ⟨lw_p11, List.forall_mem_cons.mpr ⟨lw_p12, List.forall_mem_cons.mpr ⟨lw_p13, List.forall_mem_cons.mpr ⟨lw_p14, List.forall_mem_cons.mpr ⟨lw_p15, fun _ h => absurd h List.not_mem_nil⟩⟩⟩⟩⟩⟩⟩⟩⟩⟩⟩⟩⟩⟩⟩⟩
theorem lw_p16 : lw_okq (⟨"SweptRound", "liesAs", "(I)Z"⟩, 10) := ⟨⟨by decide +kernel, by decide +kernel⟩, List.mem_of_getElem? (i := 22) (by decide +kernel), List.mem_of_getElem? (i := 689) (by decide +kernel), List.mem_of_getElem? (i := 690) (by decide +kernel)⟩
theorem lw_p17 : lw_okq (⟨"SweptRound", "stand", "(III)Z"⟩, 10) := ⟨⟨by decide +kernel, by decide +kernel⟩, List.mem_of_getElem? (i := 22) (by decide +kernel), List.mem_of_getElem? (i := 829) (by decide +kernel), List.mem_of_getElem? (i := 830) (by decide +kernel)⟩
theorem lw_p18 : lw_okq (⟨"SweptRoundModel", "errs", "(I)I"⟩, 25) := ⟨⟨by decide +kernel, by decide +kernel⟩, List.mem_of_getElem? (i := 871) (by decide +kernel), List.mem_of_getElem? (i := 961) (by decide +kernel), List.mem_of_getElem? (i := 962) (by decide +kernel)⟩
theorem lw_p19 : lw_okq (⟨"SweptRoundModel", "gets", "(III)V"⟩, 25) := ⟨⟨by decide +kernel, by decide +kernel⟩, List.mem_of_getElem? (i := 871) (by decide +kernel), List.mem_of_getElem? (i := 967) (by decide +kernel), List.mem_of_getElem? (i := 968) (by decide +kernel)⟩
theorem lw_p20 : lw_okq (⟨"SweptRoundModel", "isYard", "(I)Z"⟩, 25) := ⟨⟨by decide +kernel, by decide +kernel⟩, List.mem_of_getElem? (i := 871) (by decide +kernel), List.mem_of_getElem? (i := 975) (by decide +kernel), List.mem_of_getElem? (i := 976) (by decide +kernel)⟩
theorem lw_p21 : lw_okq (⟨"SweptRoundModel", "its", "(II)I"⟩, 25) := ⟨⟨by decide +kernel, by decide +kernel⟩, List.mem_of_getElem? (i := 871) (by decide +kernel), List.mem_of_getElem? (i := 979) (by decide +kernel), List.mem_of_getElem? (i := 980) (by decide +kernel)⟩
theorem lw_p22 : lw_okq (⟨"SweptRoundModel", "falling", "(I)I"⟩, 25) := ⟨⟨by decide +kernel, by decide +kernel⟩, List.mem_of_getElem? (i := 871) (by decide +kernel), List.mem_of_getElem? (i := 983) (by decide +kernel), List.mem_of_getElem? (i := 984) (by decide +kernel)⟩
theorem lw_p23 : lw_okq (⟨"SweptRoundModel", "lawOf", "(IIII)I"⟩, 25) := ⟨⟨by decide +kernel, by decide +kernel⟩, List.mem_of_getElem? (i := 871) (by decide +kernel), List.mem_of_getElem? (i := 987) (by decide +kernel), List.mem_of_getElem? (i := 988) (by decide +kernel)⟩
theorem lw_p24 : lw_okq (⟨"SweptRoundModel", "walks", "(IIII)I"⟩, 25) := ⟨⟨by decide +kernel, by decide +kernel⟩, List.mem_of_getElem? (i := 871) (by decide +kernel), List.mem_of_getElem? (i := 991) (by decide +kernel), List.mem_of_getElem? (i := 992) (by decide +kernel)⟩
theorem lw_p25 : lw_okq (⟨"SweptRoundModel", "whole", "()I"⟩, 25) := ⟨⟨by decide +kernel, by decide +kernel⟩, List.mem_of_getElem? (i := 871) (by decide +kernel), List.mem_of_getElem? (i := 995) (by decide +kernel), List.mem_of_getElem? (i := 996) (by decide +kernel)⟩
theorem lw_p26 : lw_okq (⟨"SweptRoundModel", "both", "()I"⟩, 25) := ⟨⟨by decide +kernel, by decide +kernel⟩, List.mem_of_getElem? (i := 871) (by decide +kernel), List.mem_of_getElem? (i := 999) (by decide +kernel), List.mem_of_getElem? (i := 1000) (by decide +kernel)⟩
theorem lw_p27 : lw_okq (⟨"SweptRoundModel", "compared", "()I"⟩, 25) := ⟨⟨by decide +kernel, by decide +kernel⟩, List.mem_of_getElem? (i := 871) (by decide +kernel), List.mem_of_getElem? (i := 1003) (by decide +kernel), List.mem_of_getElem? (i := 1004) (by decide +kernel)⟩
theorem lw_p28 : lw_okq (⟨"SweptRoundModel", "sum", "()I"⟩, 25) := ⟨⟨by decide +kernel, by decide +kernel⟩, List.mem_of_getElem? (i := 871) (by decide +kernel), List.mem_of_getElem? (i := 1007) (by decide +kernel), List.mem_of_getElem? (i := 1008) (by decide +kernel)⟩
theorem lw_p29 : lw_okq (⟨"SweptRoundModel", "product", "()I"⟩, 25) := ⟨⟨by decide +kernel, by decide +kernel⟩, List.mem_of_getElem? (i := 871) (by decide +kernel), List.mem_of_getElem? (i := 1011) (by decide +kernel), List.mem_of_getElem? (i := 1012) (by decide +kernel)⟩
theorem lw_p30 : lw_okq (⟨"SweptRoundModel", "factor", "()I"⟩, 25) := ⟨⟨by decide +kernel, by decide +kernel⟩, List.mem_of_getElem? (i := 871) (by decide +kernel), List.mem_of_getElem? (i := 1015) (by decide +kernel), List.mem_of_getElem? (i := 1016) (by decide +kernel)⟩
theorem lw_p31 : lw_okq (⟨"SweptRoundModel", "byteAt", "(I)I"⟩, 25) := ⟨⟨by decide +kernel, by decide +kernel⟩, List.mem_of_getElem? (i := 871) (by decide +kernel), List.mem_of_getElem? (i := 1019) (by decide +kernel), List.mem_of_getElem? (i := 1020) (by decide +kernel)⟩
def lw_privs_2 : List (MethodName × Nat) := [(⟨"SweptRound", "liesAs", "(I)Z"⟩, 10), (⟨"SweptRound", "stand", "(III)Z"⟩, 10), (⟨"SweptRoundModel", "errs", "(I)I"⟩, 25), (⟨"SweptRoundModel", "gets", "(III)V"⟩, 25), (⟨"SweptRoundModel", "isYard", "(I)Z"⟩, 25), (⟨"SweptRoundModel", "its", "(II)I"⟩, 25), (⟨"SweptRoundModel", "falling", "(I)I"⟩, 25), (⟨"SweptRoundModel", "lawOf", "(IIII)I"⟩, 25), (⟨"SweptRoundModel", "walks", "(IIII)I"⟩, 25), (⟨"SweptRoundModel", "whole", "()I"⟩, 25), (⟨"SweptRoundModel", "both", "()I"⟩, 25), (⟨"SweptRoundModel", "compared", "()I"⟩, 25), (⟨"SweptRoundModel", "sum", "()I"⟩, 25), (⟨"SweptRoundModel", "product", "()I"⟩, 25), (⟨"SweptRoundModel", "factor", "()I"⟩, 25), (⟨"SweptRoundModel", "byteAt", "(I)I"⟩, 25)]
theorem lw_r2 : ∀ q ∈ lw_privs_2, lw_okq q := List.forall_mem_cons.mpr ⟨lw_p16, List.forall_mem_cons.mpr ⟨lw_p17, List.forall_mem_cons.mpr ⟨lw_p18, List.forall_mem_cons.mpr ⟨lw_p19, List.forall_mem_cons.mpr ⟨lw_p20, List.forall_mem_cons.mpr ⟨lw_p21, List.forall_mem_cons.mpr ⟨lw_p22, List.forall_mem_cons.mpr ⟨lw_p23, List.forall_mem_cons.mpr ⟨lw_p24, List.forall_mem_cons.mpr ⟨lw_p25, List.forall_mem_cons.mpr ⟨lw_p26, List.forall_mem_cons.mpr ⟨lw_p27, List.forall_mem_cons.mpr ⟨lw_p28, List.forall_mem_cons.mpr ⟨lw_p29, List.forall_mem_cons.mpr ⟨lw_p30, List.forall_mem_cons.mpr ⟨lw_p31, fun _ h => absurd h List.not_mem_nil⟩⟩⟩⟩⟩⟩⟩⟩⟩⟩⟩⟩⟩⟩⟩⟩
theorem lw_p32 : lw_okq (⟨"SweptRoundModel", "number", "()I"⟩, 25) := ⟨⟨by decide +kernel, by decide +kernel⟩, List.mem_of_getElem? (i := 871) (by decide +kernel), List.mem_of_getElem? (i := 1026) (by decide +kernel), List.mem_of_getElem? (i := 1027) (by decide +kernel)⟩
theorem lw_p33 : lw_okq (⟨"SweptRoundModel", "named", "(I)I"⟩, 25) := ⟨⟨by decide +kernel, by decide +kernel⟩, List.mem_of_getElem? (i := 871) (by decide +kernel), List.mem_of_getElem? (i := 1030) (by decide +kernel), List.mem_of_getElem? (i := 1031) (by decide +kernel)⟩
theorem lw_p34 : lw_okq (⟨"SweptRoundModel", "fails", "()I"⟩, 25) := ⟨⟨by decide +kernel, by decide +kernel⟩, List.mem_of_getElem? (i := 871) (by decide +kernel), List.mem_of_getElem? (i := 1034) (by decide +kernel), List.mem_of_getElem? (i := 1035) (by decide +kernel)⟩
theorem lw_p35 : lw_okq (⟨"SweptRoundModel", "taken", "(I)I"⟩, 25) := ⟨⟨by decide +kernel, by decide +kernel⟩, List.mem_of_getElem? (i := 871) (by decide +kernel), List.mem_of_getElem? (i := 1041) (by decide +kernel), List.mem_of_getElem? (i := 1042) (by decide +kernel)⟩
theorem lw_p36 : lw_okq (⟨"SweptRoundModel", "becomes", "(II)I"⟩, 25) := ⟨⟨by decide +kernel, by decide +kernel⟩, List.mem_of_getElem? (i := 871) (by decide +kernel), List.mem_of_getElem? (i := 1049) (by decide +kernel), List.mem_of_getElem? (i := 1050) (by decide +kernel)⟩
theorem lw_p37 : lw_okq (⟨"SweptRoundModel", "moveAll", "([I[I)V"⟩, 25) := ⟨⟨by decide +kernel, by decide +kernel⟩, List.mem_of_getElem? (i := 871) (by decide +kernel), List.mem_of_getElem? (i := 1083) (by decide +kernel), List.mem_of_getElem? (i := 1084) (by decide +kernel)⟩
theorem lw_p38 : lw_okq (⟨"SweptRoundModel", "isSigned", "(II)Z"⟩, 25) := ⟨⟨by decide +kernel, by decide +kernel⟩, List.mem_of_getElem? (i := 871) (by decide +kernel), List.mem_of_getElem? (i := 1091) (by decide +kernel), List.mem_of_getElem? (i := 1092) (by decide +kernel)⟩
theorem lw_p39 : lw_okq (⟨"SweptRoundModel", "passes", "(I)V"⟩, 25) := ⟨⟨by decide +kernel, by decide +kernel⟩, List.mem_of_getElem? (i := 871) (by decide +kernel), List.mem_of_getElem? (i := 1100) (by decide +kernel), List.mem_of_getElem? (i := 1101) (by decide +kernel)⟩
theorem lw_p40 : lw_okq (⟨"SweptRoundModel", "oneDay", "()V"⟩, 25) := ⟨⟨by decide +kernel, by decide +kernel⟩, List.mem_of_getElem? (i := 871) (by decide +kernel), List.mem_of_getElem? (i := 1104) (by decide +kernel), List.mem_of_getElem? (i := 1105) (by decide +kernel)⟩
theorem lw_p41 : lw_okq (⟨"SweptRoundModel", "placesOn", "(I)I"⟩, 25) := ⟨⟨by decide +kernel, by decide +kernel⟩, List.mem_of_getElem? (i := 871) (by decide +kernel), List.mem_of_getElem? (i := 1108) (by decide +kernel), List.mem_of_getElem? (i := 1109) (by decide +kernel)⟩
theorem lw_p42 : lw_okq (⟨"SweptRoundModel", "sweepsSide", "(II)V"⟩, 25) := ⟨⟨by decide +kernel, by decide +kernel⟩, List.mem_of_getElem? (i := 871) (by decide +kernel), List.mem_of_getElem? (i := 1112) (by decide +kernel), List.mem_of_getElem? (i := 1113) (by decide +kernel)⟩
theorem lw_p43 : lw_okq (⟨"SweptRoundModel", "stayers", "(II)I"⟩, 25) := ⟨⟨by decide +kernel, by decide +kernel⟩, List.mem_of_getElem? (i := 871) (by decide +kernel), List.mem_of_getElem? (i := 1116) (by decide +kernel), List.mem_of_getElem? (i := 1117) (by decide +kernel)⟩
theorem lw_p44 : lw_okq (⟨"SweptRoundModel", "allDirt", "()I"⟩, 25) := ⟨⟨by decide +kernel, by decide +kernel⟩, List.mem_of_getElem? (i := 871) (by decide +kernel), List.mem_of_getElem? (i := 1120) (by decide +kernel), List.mem_of_getElem? (i := 1121) (by decide +kernel)⟩
theorem lw_p45 : lw_okq (⟨"SweptRoundModel", "drawn", "(I)I"⟩, 25) := ⟨⟨by decide +kernel, by decide +kernel⟩, List.mem_of_getElem? (i := 871) (by decide +kernel), List.mem_of_getElem? (i := 1128) (by decide +kernel), List.mem_of_getElem? (i := 1129) (by decide +kernel)⟩
theorem lw_p46 : lw_okq (⟨"SweptRoundModel", "dirtyFrom", "(I)I"⟩, 25) := ⟨⟨by decide +kernel, by decide +kernel⟩, List.mem_of_getElem? (i := 871) (by decide +kernel), List.mem_of_getElem? (i := 1141) (by decide +kernel), List.mem_of_getElem? (i := 1142) (by decide +kernel)⟩
theorem lw_p47 : lw_okq (⟨"SweptRoundModel", "dirtSwept", "(I)I"⟩, 25) := ⟨⟨by decide +kernel, by decide +kernel⟩, List.mem_of_getElem? (i := 871) (by decide +kernel), List.mem_of_getElem? (i := 1154) (by decide +kernel), List.mem_of_getElem? (i := 1155) (by decide +kernel)⟩
def lw_privs_3 : List (MethodName × Nat) := [(⟨"SweptRoundModel", "number", "()I"⟩, 25), (⟨"SweptRoundModel", "named", "(I)I"⟩, 25), (⟨"SweptRoundModel", "fails", "()I"⟩, 25), (⟨"SweptRoundModel", "taken", "(I)I"⟩, 25), (⟨"SweptRoundModel", "becomes", "(II)I"⟩, 25), (⟨"SweptRoundModel", "moveAll", "([I[I)V"⟩, 25), (⟨"SweptRoundModel", "isSigned", "(II)Z"⟩, 25), (⟨"SweptRoundModel", "passes", "(I)V"⟩, 25), (⟨"SweptRoundModel", "oneDay", "()V"⟩, 25), (⟨"SweptRoundModel", "placesOn", "(I)I"⟩, 25), (⟨"SweptRoundModel", "sweepsSide", "(II)V"⟩, 25), (⟨"SweptRoundModel", "stayers", "(II)I"⟩, 25), (⟨"SweptRoundModel", "allDirt", "()I"⟩, 25), (⟨"SweptRoundModel", "drawn", "(I)I"⟩, 25), (⟨"SweptRoundModel", "dirtyFrom", "(I)I"⟩, 25), (⟨"SweptRoundModel", "dirtSwept", "(I)I"⟩, 25)]
theorem lw_r3 : ∀ q ∈ lw_privs_3, lw_okq q := List.forall_mem_cons.mpr ⟨lw_p32, List.forall_mem_cons.mpr ⟨lw_p33, List.forall_mem_cons.mpr ⟨lw_p34, List.forall_mem_cons.mpr ⟨lw_p35, List.forall_mem_cons.mpr ⟨lw_p36, List.forall_mem_cons.mpr ⟨lw_p37, List.forall_mem_cons.mpr ⟨lw_p38, List.forall_mem_cons.mpr ⟨lw_p39, List.forall_mem_cons.mpr ⟨lw_p40, List.forall_mem_cons.mpr ⟨lw_p41, List.forall_mem_cons.mpr ⟨lw_p42, List.forall_mem_cons.mpr ⟨lw_p43, List.forall_mem_cons.mpr ⟨lw_p44, List.forall_mem_cons.mpr ⟨lw_p45, List.forall_mem_cons.mpr ⟨lw_p46, List.forall_mem_cons.mpr ⟨lw_p47, fun _ h => absurd h List.not_mem_nil⟩⟩⟩⟩⟩⟩⟩⟩⟩⟩⟩⟩⟩⟩⟩⟩
theorem lw_p48 : lw_okq (⟨"SweptRoundModel", "isClean", "(IIIII)Z"⟩, 25) := ⟨⟨by decide +kernel, by decide +kernel⟩, List.mem_of_getElem? (i := 871) (by decide +kernel), List.mem_of_getElem? (i := 1170) (by decide +kernel), List.mem_of_getElem? (i := 1171) (by decide +kernel)⟩
theorem lw_p49 : lw_okq (⟨"SweptRoundModel", "carSet", "()I"⟩, 25) := ⟨⟨by decide +kernel, by decide +kernel⟩, List.mem_of_getElem? (i := 871) (by decide +kernel), List.mem_of_getElem? (i := 1174) (by decide +kernel), List.mem_of_getElem? (i := 1175) (by decide +kernel)⟩
theorem lw_p50 : lw_okq (⟨"SweptRoundModel", "dirtiest", "()I"⟩, 25) := ⟨⟨by decide +kernel, by decide +kernel⟩, List.mem_of_getElem? (i := 871) (by decide +kernel), List.mem_of_getElem? (i := 1182) (by decide +kernel), List.mem_of_getElem? (i := 1183) (by decide +kernel)⟩
theorem lw_p51 : lw_okq (⟨"SweptRoundModel", "isDirtSo", "(I)Z"⟩, 25) := ⟨⟨by decide +kernel, by decide +kernel⟩, List.mem_of_getElem? (i := 871) (by decide +kernel), List.mem_of_getElem? (i := 1193) (by decide +kernel), List.mem_of_getElem? (i := 1194) (by decide +kernel)⟩
theorem lw_p52 : lw_okq (⟨"SweptRoundModel", "fallsIn", "(II)I"⟩, 25) := ⟨⟨by decide +kernel, by decide +kernel⟩, List.mem_of_getElem? (i := 871) (by decide +kernel), List.mem_of_getElem? (i := 1220) (by decide +kernel), List.mem_of_getElem? (i := 1221) (by decide +kernel)⟩
theorem lw_p53 : lw_okq (⟨"SweptRoundModel", "ran", "(I)V"⟩, 25) := ⟨⟨by decide +kernel, by decide +kernel⟩, List.mem_of_getElem? (i := 871) (by decide +kernel), List.mem_of_getElem? (i := 1224) (by decide +kernel), List.mem_of_getElem? (i := 1225) (by decide +kernel)⟩
theorem lw_p54 : lw_okq (⟨"SweptRoundModel", "movesIn", "(II)I"⟩, 25) := ⟨⟨by decide +kernel, by decide +kernel⟩, List.mem_of_getElem? (i := 871) (by decide +kernel), List.mem_of_getElem? (i := 1228) (by decide +kernel), List.mem_of_getElem? (i := 1229) (by decide +kernel)⟩
theorem lw_p55 : lw_okq (⟨"SweptRoundModel", "sweepsIn", "(II)I"⟩, 25) := ⟨⟨by decide +kernel, by decide +kernel⟩, List.mem_of_getElem? (i := 871) (by decide +kernel), List.mem_of_getElem? (i := 1232) (by decide +kernel), List.mem_of_getElem? (i := 1233) (by decide +kernel)⟩
theorem lw_p56 : lw_okq (⟨"SweptRoundModel", "blocksIn", "(II)I"⟩, 25) := ⟨⟨by decide +kernel, by decide +kernel⟩, List.mem_of_getElem? (i := 871) (by decide +kernel), List.mem_of_getElem? (i := 1236) (by decide +kernel), List.mem_of_getElem? (i := 1237) (by decide +kernel)⟩
def lw_privs_4 : List (MethodName × Nat) := [(⟨"SweptRoundModel", "isClean", "(IIIII)Z"⟩, 25), (⟨"SweptRoundModel", "carSet", "()I"⟩, 25), (⟨"SweptRoundModel", "dirtiest", "()I"⟩, 25), (⟨"SweptRoundModel", "isDirtSo", "(I)Z"⟩, 25), (⟨"SweptRoundModel", "fallsIn", "(II)I"⟩, 25), (⟨"SweptRoundModel", "ran", "(I)V"⟩, 25), (⟨"SweptRoundModel", "movesIn", "(II)I"⟩, 25), (⟨"SweptRoundModel", "sweepsIn", "(II)I"⟩, 25), (⟨"SweptRoundModel", "blocksIn", "(II)I"⟩, 25)]
theorem lw_r4 : ∀ q ∈ lw_privs_4, lw_okq q := List.forall_mem_cons.mpr ⟨lw_p48, List.forall_mem_cons.mpr ⟨lw_p49, List.forall_mem_cons.mpr ⟨lw_p50, List.forall_mem_cons.mpr ⟨lw_p51, List.forall_mem_cons.mpr ⟨lw_p52, List.forall_mem_cons.mpr ⟨lw_p53, List.forall_mem_cons.mpr ⟨lw_p54, List.forall_mem_cons.mpr ⟨lw_p55, List.forall_mem_cons.mpr ⟨lw_p56, fun _ h => absurd h List.not_mem_nil⟩⟩⟩⟩⟩⟩⟩⟩⟩
def lw_privs : List (MethodName × Nat) := lw_privs_1 ++ (lw_privs_2 ++ (lw_privs_3 ++ (lw_privs_4)))
def lw_tbl : List Cond := k2_sels lw_privs ++ tables_1
theorem lw_privs_ok : ∀ q ∈ lw_privs, lw_okq q := by
  show ∀ q ∈ lw_privs_1 ++ (lw_privs_2 ++ (lw_privs_3 ++ (lw_privs_4))), lw_okq q
  exact List.forall_mem_append.mpr ⟨lw_r1, List.forall_mem_append.mpr ⟨lw_r2, List.forall_mem_append.mpr ⟨lw_r3, lw_r4⟩⟩⟩
end
section
def RX0 : String := "SweptRound$BlownKind"
def TX0 : u_T := fun k => match k with
  | _ => ("", "", "", false)
def tyX0 : Nat → FieldType := fun k => match k with
  | _ => .int
theorem nmX0 : ∀ a, a < 0 → ∀ b, b < 0 → a ≠ b → (TX0 a).2.1 ≠ (TX0 b).2.1 := by decide +kernel
theorem tyX0_ok : ∀ k, k < 0 → parseFieldDescriptor (TX0 k).2.2.1 = some (tyX0 k) := by decide +kernel
abbrev cX0_init : ByteArray := prog_2_method_1_code
def yX0_init : MethodName := ⟨RX0, "<init>", "()V"⟩
abbrev cX0_fallen : ByteArray := prog_2_method_2_code
def yX0_fallen : MethodName := ⟨RX0, "fallen", "(IIIII)I"⟩
abbrev cX0_sweeps : ByteArray := prog_2_method_3_code
def yX0_sweeps : MethodName := ⟨RX0, "sweeps", "(LSweptRound$Speech;I)I"⟩
abbrev cX0_blocks : ByteArray := prog_2_method_4_code
def yX0_blocks : MethodName := ⟨RX0, "blocks", "(LSweptRound$Speech;I)I"⟩
def RX1 : String := "SweptRound$CoveredKind"
def TX1 : u_T := fun k => match k with
  | _ => ("", "", "", false)
def tyX1 : Nat → FieldType := fun k => match k with
  | _ => .int
theorem nmX1 : ∀ a, a < 0 → ∀ b, b < 0 → a ≠ b → (TX1 a).2.1 ≠ (TX1 b).2.1 := by decide +kernel
theorem tyX1_ok : ∀ k, k < 0 → parseFieldDescriptor (TX1 k).2.2.1 = some (tyX1 k) := by decide +kernel
abbrev cX1_init : ByteArray := prog_3_method_1_code
def yX1_init : MethodName := ⟨RX1, "<init>", "()V"⟩
abbrev cX1_fallen : ByteArray := prog_3_method_2_code
def yX1_fallen : MethodName := ⟨RX1, "fallen", "(IIIII)I"⟩
abbrev cX1_taken : ByteArray := prog_3_method_3_code
def yX1_taken : MethodName := ⟨RX1, "taken", "(I)I"⟩
abbrev cX1_moves : ByteArray := prog_3_method_4_code
def yX1_moves : MethodName := ⟨RX1, "moves", "(LSweptRound$Speech;I)I"⟩
def RX2 : String := "SweptRound$DoubledKind"
def TX2 : u_T := fun k => match k with
  | _ => ("", "", "", false)
def tyX2 : Nat → FieldType := fun k => match k with
  | _ => .int
theorem nmX2 : ∀ a, a < 0 → ∀ b, b < 0 → a ≠ b → (TX2 a).2.1 ≠ (TX2 b).2.1 := by decide +kernel
theorem tyX2_ok : ∀ k, k < 0 → parseFieldDescriptor (TX2 k).2.2.1 = some (tyX2 k) := by decide +kernel
abbrev cX2_init : ByteArray := prog_4_method_1_code
def yX2_init : MethodName := ⟨RX2, "<init>", "()V"⟩
abbrev cX2_fallen : ByteArray := prog_4_method_2_code
def yX2_fallen : MethodName := ⟨RX2, "fallen", "(IIIII)I"⟩
abbrev cX2_taken : ByteArray := prog_4_method_3_code
def yX2_taken : MethodName := ⟨RX2, "taken", "(I)I"⟩
abbrev cX2_blocks : ByteArray := prog_4_method_4_code
def yX2_blocks : MethodName := ⟨RX2, "blocks", "(LSweptRound$Speech;I)I"⟩
def RX3 : String := "SweptRound$EmptyKind"
def TX3 : u_T := fun k => match k with
  | _ => ("", "", "", false)
def tyX3 : Nat → FieldType := fun k => match k with
  | _ => .int
theorem nmX3 : ∀ a, a < 0 → ∀ b, b < 0 → a ≠ b → (TX3 a).2.1 ≠ (TX3 b).2.1 := by decide +kernel
theorem tyX3_ok : ∀ k, k < 0 → parseFieldDescriptor (TX3 k).2.2.1 = some (tyX3 k) := by decide +kernel
abbrev cX3_init : ByteArray := prog_5_method_1_code
def yX3_init : MethodName := ⟨RX3, "<init>", "()V"⟩
abbrev cX3_fallen : ByteArray := prog_5_method_2_code
def yX3_fallen : MethodName := ⟨RX3, "fallen", "(IIIII)I"⟩
abbrev cX3_taken : ByteArray := prog_5_method_3_code
def yX3_taken : MethodName := ⟨RX3, "taken", "(I)I"⟩
abbrev cX3_moves : ByteArray := prog_5_method_4_code
def yX3_moves : MethodName := ⟨RX3, "moves", "(LSweptRound$Speech;I)I"⟩
def RX4 : String := "SweptRound$Law"
def TX4 : u_T := fun k => match k with
  | 0 => ("SweptRound$Law", "use", "I", true)
  | 1 => ("SweptRound$Law", "steps", "[I", true)
  | _ => ("SweptRound$Law", "stack", "[I", true)
def tyX4 : Nat → FieldType := fun k => match k with
  | 0 => .int
  | 1 => .array .int
  | _ => .array .int
theorem nmX4 : ∀ a, a < 3 → ∀ b, b < 3 → a ≠ b → (TX4 a).2.1 ≠ (TX4 b).2.1 := by decide +kernel
theorem tyX4_ok : ∀ k, k < 3 → parseFieldDescriptor (TX4 k).2.2.1 = some (tyX4 k) := by decide +kernel
abbrev cX4_init : ByteArray := prog_6_method_1_code
def yX4_init : MethodName := ⟨RX4, "<init>", "(I[I)V"⟩
abbrev cX4_give : ByteArray := prog_6_method_2_code
def yX4_give : MethodName := ⟨RX4, "give", "(III)I"⟩
abbrev cX4_withoutText : ByteArray := prog_6_method_3_code
def yX4_withoutText : MethodName := ⟨RX4, "withoutText", "(II)I"⟩
abbrev cX4_joined : ByteArray := prog_6_method_4_code
def yX4_joined : MethodName := ⟨RX4, "joined", "(III)I"⟩
def RX5 : String := "SweptRound$Reader"
def TX5 : u_T := fun k => match k with
  | 0 => ("SweptRound$Reader", "bytes", "[I", true)
  | 1 => ("SweptRound$Reader", "steps", "[I", true)
  | 2 => ("SweptRound$Reader", "size", "I", false)
  | 3 => ("SweptRound$Reader", "at", "I", false)
  | 4 => ("SweptRound$Reader", "written", "I", false)
  | _ => ("SweptRound$Reader", "use", "I", false)
def tyX5 : Nat → FieldType := fun k => match k with
  | 0 => .array .int
  | 1 => .array .int
  | 2 => .int
  | 3 => .int
  | 4 => .int
  | _ => .int
theorem nmX5 : ∀ a, a < 6 → ∀ b, b < 6 → a ≠ b → (TX5 a).2.1 ≠ (TX5 b).2.1 := by decide +kernel
theorem tyX5_ok : ∀ k, k < 6 → parseFieldDescriptor (TX5 k).2.2.1 = some (tyX5 k) := by decide +kernel
abbrev cX5_init : ByteArray := prog_7_method_1_code
def yX5_init : MethodName := ⟨RX5, "<init>", "()V"⟩
abbrev cX5_faultIn : ByteArray := prog_7_method_2_code
def yX5_faultIn : MethodName := ⟨RX5, "faultIn", "([III)I"⟩
abbrev cX5_lawRead : ByteArray := prog_7_method_3_code
def yX5_lawRead : MethodName := ⟨RX5, "lawRead", "()LSweptRound$Law;"⟩
abbrev cX5_reads : ByteArray := prog_7_method_4_code
def yX5_reads : MethodName := ⟨RX5, "reads", "(II)Z"⟩
abbrev cX5_readsOne : ByteArray := prog_7_method_5_code
def yX5_readsOne : MethodName := ⟨RX5, "readsOne", "(I)Z"⟩
abbrev cX5_readsDenied : ByteArray := prog_7_method_6_code
def yX5_readsDenied : MethodName := ⟨RX5, "readsDenied", "(I)Z"⟩
abbrev cX5_readsClosed : ByteArray := prog_7_method_7_code
def yX5_readsClosed : MethodName := ⟨RX5, "readsClosed", "(I)Z"⟩
abbrev cX5_readNumber : ByteArray := prog_7_method_8_code
def yX5_readNumber : MethodName := ⟨RX5, "readNumber", "()V"⟩
abbrev cX5_next : ByteArray := prog_7_method_9_code
def yX5_next : MethodName := ⟨RX5, "next", "()I"⟩
abbrev cX5_write : ByteArray := prog_7_method_10_code
def yX5_write : MethodName := ⟨RX5, "write", "(I)V"⟩
abbrev cX5_isDigit : ByteArray := prog_7_method_11_code
def yX5_isDigit : MethodName := ⟨RX5, "isDigit", "(I)Z"⟩
abbrev cX5_nameOf : ByteArray := prog_7_method_12_code
def yX5_nameOf : MethodName := ⟨RX5, "nameOf", "(I)I"⟩
abbrev cX5_levelOf : ByteArray := prog_7_method_13_code
def yX5_levelOf : MethodName := ⟨RX5, "levelOf", "(I)I"⟩
def RX6 : String := "SweptRound$Speech"
def TX6 : u_T := fun k => match k with
  | 0 => ("SweptRound$Speech", "bodies", "[I", true)
  | 1 => ("SweptRound$Speech", "begun", "I", false)
  | 2 => ("SweptRound$Speech", "number", "I", false)
  | _ => ("SweptRound$Speech", "m", "I", false)
def tyX6 : Nat → FieldType := fun k => match k with
  | 0 => .array .int
  | 1 => .int
  | 2 => .int
  | _ => .int
theorem nmX6 : ∀ a, a < 4 → ∀ b, b < 4 → a ≠ b → (TX6 a).2.1 ≠ (TX6 b).2.1 := by decide +kernel
theorem tyX6_ok : ∀ k, k < 4 → parseFieldDescriptor (TX6 k).2.2.1 = some (tyX6 k) := by decide +kernel
abbrev cX6_init : ByteArray := prog_8_method_1_code
def yX6_init : MethodName := ⟨RX6, "<init>", "()V"⟩
abbrev cX6_open : ByteArray := prog_8_method_2_code
def yX6_open : MethodName := ⟨RX6, "open", "(II)V"⟩
abbrev cX6_begin : ByteArray := prog_8_method_3_code
def yX6_begin : MethodName := ⟨RX6, "begin", "(I)V"⟩
def RX7 : String := "SweptRound$Street"
def TX7 : u_T := fun k => match k with
  | 0 => ("SweptRound$Street", "kinds", "[LSweptRound$YardKind;", true)
  | 1 => ("SweptRound$Street", "kind", "[I", true)
  | 2 => ("SweptRound$Street", "m", "[I", true)
  | 3 => ("SweptRound$Street", "dirt", "[I", true)
  | 4 => ("SweptRound$Street", "bold", "[I", true)
  | 5 => ("SweptRound$Street", "count", "I", false)
  | 6 => ("SweptRound$Street", "cars", "I", false)
  | 7 => ("SweptRound$Street", "day", "I", false)
  | 8 => ("SweptRound$Street", "wind", "I", false)
  | 9 => ("SweptRound$Street", "fine", "I", false)
  | 10 => ("SweptRound$Street", "pence", "I", false)
  | 11 => ("SweptRound$Street", "leaves", "LSweptRound$Law;", false)
  | 12 => ("SweptRound$Street", "signs", "LSweptRound$Law;", false)
  | 13 => ("SweptRound$Street", "tape", "[I", true)
  | 14 => ("SweptRound$Street", "taped", "I", false)
  | 15 => ("SweptRound$Street", "waiting", "[I", true)
  | 16 => ("SweptRound$Street", "waits", "I", false)
  | _ => ("SweptRound$Street", "z", "I", false)
def tyX7 : Nat → FieldType := fun k => match k with
  | 0 => .array (.object "SweptRound$YardKind")
  | 1 => .array .int
  | 2 => .array .int
  | 3 => .array .int
  | 4 => .array .int
  | 5 => .int
  | 6 => .int
  | 7 => .int
  | 8 => .int
  | 9 => .int
  | 10 => .int
  | 11 => .object "SweptRound$Law"
  | 12 => .object "SweptRound$Law"
  | 13 => .array .int
  | 14 => .int
  | 15 => .array .int
  | 16 => .int
  | _ => .int
theorem nmX7 : ∀ a, a < 18 → ∀ b, b < 18 → a ≠ b → (TX7 a).2.1 ≠ (TX7 b).2.1 := by decide +kernel
theorem tyX7_ok : ∀ k, k < 18 → parseFieldDescriptor (TX7 k).2.2.1 = some (tyX7 k) := by decide +kernel
abbrev cX7_init : ByteArray := prog_9_method_1_code
def yX7_init : MethodName := ⟨RX7, "<init>", "([LSweptRound$YardKind;LSweptRound$Law;LSweptRound$Law;)V"⟩
abbrev cX7_thinkOf : ByteArray := prog_9_method_2_code
def yX7_thinkOf : MethodName := ⟨RX7, "thinkOf", "(LSweptRound$Street;)V"⟩
abbrev cX7_keepAllOf : ByteArray := prog_9_method_3_code
def yX7_keepAllOf : MethodName := ⟨RX7, "keepAllOf", "(LSweptRound$Street;)V"⟩
abbrev cX7_has : ByteArray := prog_9_method_4_code
def yX7_has : MethodName := ⟨RX7, "has", "(I)Z"⟩
abbrev cX7_shape : ByteArray := prog_9_method_5_code
def yX7_shape : MethodName := ⟨RX7, "shape", "(II)V"⟩
abbrev cX7_kindOf : ByteArray := prog_9_method_6_code
def yX7_kindOf : MethodName := ⟨RX7, "kindOf", "(I)LSweptRound$YardKind;"⟩
abbrev cX7_carOf : ByteArray := prog_9_method_7_code
def yX7_carOf : MethodName := ⟨RX7, "carOf", "(I)I"⟩
abbrev cX7_park : ByteArray := prog_9_method_8_code
def yX7_park : MethodName := ⟨RX7, "park", "(IZ)V"⟩
abbrev cX7_fallsNow : ByteArray := prog_9_method_9_code
def yX7_fallsNow : MethodName := ⟨RX7, "fallsNow", "(I)I"⟩
abbrev cX7_takesNow : ByteArray := prog_9_method_10_code
def yX7_takesNow : MethodName := ⟨RX7, "takesNow", "(I)I"⟩
abbrev cX7_signOf : ByteArray := prog_9_method_11_code
def yX7_signOf : MethodName := ⟨RX7, "signOf", "(II)I"⟩
abbrev cX7_signedNow : ByteArray := prog_9_method_12_code
def yX7_signedNow : MethodName := ⟨RX7, "signedNow", "()I"⟩
abbrev cX7_dirtOfAll : ByteArray := prog_9_method_13_code
def yX7_dirtOfAll : MethodName := ⟨RX7, "dirtOfAll", "()I"⟩
abbrev cX7_greatestDirt : ByteArray := prog_9_method_14_code
def yX7_greatestDirt : MethodName := ⟨RX7, "greatestDirt", "()I"⟩
abbrev cX7_firstWith : ByteArray := prog_9_method_15_code
def yX7_firstWith : MethodName := ⟨RX7, "firstWith", "(I)I"⟩
abbrev cX7_passAll : ByteArray := prog_9_method_16_code
def yX7_passAll : MethodName := ⟨RX7, "passAll", "(I)V"⟩
abbrev cX7_dirtBehind : ByteArray := prog_9_method_17_code
def yX7_dirtBehind : MethodName := ⟨RX7, "dirtBehind", "(II)I"⟩
abbrev cX7_passPart : ByteArray := prog_9_method_18_code
def yX7_passPart : MethodName := ⟨RX7, "passPart", "(III)V"⟩
abbrev cX7_sweep : ByteArray := prog_9_method_19_code
def yX7_sweep : MethodName := ⟨RX7, "sweep", "(III)V"⟩
abbrev cX7_goers : ByteArray := prog_9_method_20_code
def yX7_goers : MethodName := ⟨RX7, "goers", "(I)I"⟩
abbrev cX7_stayers : ByteArray := prog_9_method_21_code
def yX7_stayers : MethodName := ⟨RX7, "stayers", "(I)I"⟩
abbrev cX7_drawWindAndCar : ByteArray := prog_9_method_22_code
def yX7_drawWindAndCar : MethodName := ⟨RX7, "drawWindAndCar", "()V"⟩
abbrev cX7_drawn : ByteArray := prog_9_method_23_code
def yX7_drawn : MethodName := ⟨RX7, "drawn", "()I"⟩
def RX8 : String := "SweptRound$SweptKind"
def TX8 : u_T := fun k => match k with
  | _ => ("", "", "", false)
def tyX8 : Nat → FieldType := fun k => match k with
  | _ => .int
theorem nmX8 : ∀ a, a < 0 → ∀ b, b < 0 → a ≠ b → (TX8 a).2.1 ≠ (TX8 b).2.1 := by decide +kernel
theorem tyX8_ok : ∀ k, k < 0 → parseFieldDescriptor (TX8 k).2.2.1 = some (tyX8 k) := by decide +kernel
abbrev cX8_init : ByteArray := prog_10_method_1_code
def yX8_init : MethodName := ⟨RX8, "<init>", "()V"⟩
abbrev cX8_fallen : ByteArray := prog_10_method_2_code
def yX8_fallen : MethodName := ⟨RX8, "fallen", "(IIIII)I"⟩
abbrev cX8_taken : ByteArray := prog_10_method_3_code
def yX8_taken : MethodName := ⟨RX8, "taken", "(I)I"⟩
abbrev cX8_falls : ByteArray := prog_10_method_4_code
def yX8_falls : MethodName := ⟨RX8, "falls", "(LSweptRound$Speech;I)I"⟩
def RX9 : String := "SweptRound$WaitedKind"
def TX9 : u_T := fun k => match k with
  | _ => ("", "", "", false)
def tyX9 : Nat → FieldType := fun k => match k with
  | _ => .int
theorem nmX9 : ∀ a, a < 0 → ∀ b, b < 0 → a ≠ b → (TX9 a).2.1 ≠ (TX9 b).2.1 := by decide +kernel
theorem tyX9_ok : ∀ k, k < 0 → parseFieldDescriptor (TX9 k).2.2.1 = some (tyX9 k) := by decide +kernel
abbrev cX9_init : ByteArray := prog_11_method_1_code
def yX9_init : MethodName := ⟨RX9, "<init>", "()V"⟩
abbrev cX9_fallen : ByteArray := prog_11_method_2_code
def yX9_fallen : MethodName := ⟨RX9, "fallen", "(IIIII)I"⟩
abbrev cX9_taken : ByteArray := prog_11_method_3_code
def yX9_taken : MethodName := ⟨RX9, "taken", "(I)I"⟩
abbrev cX9_sweeps : ByteArray := prog_11_method_4_code
def yX9_sweeps : MethodName := ⟨RX9, "sweeps", "(LSweptRound$Speech;I)I"⟩
def RX10 : String := "SweptRound$YardKind"
def TX10 : u_T := fun k => match k with
  | _ => ("", "", "", false)
def tyX10 : Nat → FieldType := fun k => match k with
  | _ => .int
theorem nmX10 : ∀ a, a < 0 → ∀ b, b < 0 → a ≠ b → (TX10 a).2.1 ≠ (TX10 b).2.1 := by decide +kernel
theorem tyX10_ok : ∀ k, k < 0 → parseFieldDescriptor (TX10 k).2.2.1 = some (tyX10 k) := by decide +kernel
abbrev cX10_init : ByteArray := prog_12_method_1_code
def yX10_init : MethodName := ⟨RX10, "<init>", "()V"⟩
abbrev cX10_fallen : ByteArray := prog_12_method_2_code
def yX10_fallen : MethodName := ⟨RX10, "fallen", "(IIIII)I"⟩
abbrev cX10_taken : ByteArray := prog_12_method_3_code
def yX10_taken : MethodName := ⟨RX10, "taken", "(I)I"⟩
abbrev cX10_falls : ByteArray := prog_12_method_4_code
def yX10_falls : MethodName := ⟨RX10, "falls", "(LSweptRound$Speech;I)I"⟩
abbrev cX10_moves : ByteArray := prog_12_method_5_code
def yX10_moves : MethodName := ⟨RX10, "moves", "(LSweptRound$Speech;I)I"⟩
abbrev cX10_sweeps : ByteArray := prog_12_method_6_code
def yX10_sweeps : MethodName := ⟨RX10, "sweeps", "(LSweptRound$Speech;I)I"⟩
abbrev cX10_blocks : ByteArray := prog_12_method_7_code
def yX10_blocks : MethodName := ⟨RX10, "blocks", "(LSweptRound$Speech;I)I"⟩
def RX11 : String := "SweptRound"
def TX11 : u_T := fun k => match k with
  | 0 => ("SweptRound", "street", "LSweptRound$Street;", true)
  | 1 => ("SweptRound", "thought", "LSweptRound$Street;", true)
  | 2 => ("SweptRound", "kept", "LSweptRound$Street;", true)
  | 3 => ("SweptRound", "reader", "LSweptRound$Reader;", true)
  | 4 => ("SweptRound", "speech", "LSweptRound$Speech;", true)
  | 5 => ("SweptRound", "numbers", "[[I", true)
  | 6 => ("SweptRound", "bitsOfSheet", "[I", true)
  | 7 => ("SweptRound", "sizeOfSheet", "[I", true)
  | 8 => ("SweptRound", "errors", "[I", true)
  | _ => ("SweptRound", "images", "I", false)
def tyX11 : Nat → FieldType := fun k => match k with
  | 0 => .object "SweptRound$Street"
  | 1 => .object "SweptRound$Street"
  | 2 => .object "SweptRound$Street"
  | 3 => .object "SweptRound$Reader"
  | 4 => .object "SweptRound$Speech"
  | 5 => .array (.array .int)
  | 6 => .array .int
  | 7 => .array .int
  | 8 => .array .int
  | _ => .int
theorem nmX11 : ∀ a, a < 10 → ∀ b, b < 10 → a ≠ b → (TX11 a).2.1 ≠ (TX11 b).2.1 := by decide +kernel
theorem tyX11_ok : ∀ k, k < 10 → parseFieldDescriptor (TX11 k).2.2.1 = some (tyX11 k) := by decide +kernel
abbrev cX11_init : ByteArray := prog_1_method_1_code
def yX11_init : MethodName := ⟨RX11, "<init>", "()V"⟩
abbrev cX11_yard : ByteArray := prog_1_method_2_code
def yX11_yard : MethodName := ⟨RX11, "yard", "(III)I"⟩
abbrev cX11_ofYard : ByteArray := prog_1_method_3_code
def yX11_ofYard : MethodName := ⟨RX11, "ofYard", "(II)I"⟩
abbrev cX11_change : ByteArray := prog_1_method_4_code
def yX11_change : MethodName := ⟨RX11, "change", "(III)I"⟩
abbrev cX11_set : ByteArray := prog_1_method_5_code
def yX11_set : MethodName := ⟨RX11, "set", "(II)I"⟩
abbrev cX11_become : ByteArray := prog_1_method_6_code
def yX11_become : MethodName := ⟨RX11, "become", "(II)I"⟩
abbrev cX11_as : ByteArray := prog_1_method_7_code
def yX11_as : MethodName := ⟨RX11, "as", "(II)I"⟩
abbrev cX11_sign : ByteArray := prog_1_method_8_code
def yX11_sign : MethodName := ⟨RX11, "sign", "(II)I"⟩
abbrev cX11_feed : ByteArray := prog_1_method_9_code
def yX11_feed : MethodName := ⟨RX11, "feed", "(JI)I"⟩
abbrev cX11_text : ByteArray := prog_1_method_10_code
def yX11_text : MethodName := ⟨RX11, "text", "(I)I"⟩
abbrev cX11_law : ByteArray := prog_1_method_11_code
def yX11_law : MethodName := ⟨RX11, "law", "(IIII)I"⟩
abbrev cX11_days : ByteArray := prog_1_method_12_code
def yX11_days : MethodName := ⟨RX11, "days", "(I)I"⟩
abbrev cX11_loose : ByteArray := prog_1_method_13_code
def yX11_loose : MethodName := ⟨RX11, "loose", "(I)I"⟩
abbrev cX11_then : ByteArray := prog_1_method_14_code
def yX11_then : MethodName := ⟨RX11, "then", "(II)I"⟩
abbrev cX11_worst : ByteArray := prog_1_method_15_code
def yX11_worst : MethodName := ⟨RX11, "worst", "(II)I"⟩
abbrev cX11_stay : ByteArray := prog_1_method_16_code
def yX11_stay : MethodName := ⟨RX11, "stay", "()I"⟩
abbrev cX11_side : ByteArray := prog_1_method_17_code
def yX11_side : MethodName := ⟨RX11, "side", "(I)I"⟩
abbrev cX11_seldom : ByteArray := prog_1_method_18_code
def yX11_seldom : MethodName := ⟨RX11, "seldom", "(I)I"⟩
abbrev cX11_leastFine : ByteArray := prog_1_method_19_code
def yX11_leastFine : MethodName := ⟨RX11, "leastFine", "(I)I"⟩
abbrev cX11_tow : ByteArray := prog_1_method_20_code
def yX11_tow : MethodName := ⟨RX11, "tow", "(III)I"⟩
abbrev cX11_broom : ByteArray := prog_1_method_21_code
def yX11_broom : MethodName := ⟨RX11, "broom", "(II)I"⟩
abbrev cX11_fits : ByteArray := prog_1_method_22_code
def yX11_fits : MethodName := ⟨RX11, "fits", "(II)I"⟩
abbrev cX11_paid : ByteArray := prog_1_method_23_code
def yX11_paid : MethodName := ⟨RX11, "paid", "(I)I"⟩
abbrev cX11_bell : ByteArray := prog_1_method_24_code
def yX11_bell : MethodName := ⟨RX11, "bell", "(I)I"⟩
abbrev cX11_odds : ByteArray := prog_1_method_25_code
def yX11_odds : MethodName := ⟨RX11, "odds", "(IIII)I"⟩
abbrev cX11_seed : ByteArray := prog_1_method_26_code
def yX11_seed : MethodName := ⟨RX11, "seed", "(I)I"⟩
abbrev cX11_voice : ByteArray := prog_1_method_27_code
def yX11_voice : MethodName := ⟨RX11, "voice", "(III)I"⟩
abbrev cX11_trace : ByteArray := prog_1_method_28_code
def yX11_trace : MethodName := ⟨RX11, "trace", "(I)I"⟩
abbrev cX11_sheet : ByteArray := prog_1_method_29_code
def yX11_sheet : MethodName := ⟨RX11, "sheet", "(III)I"⟩
abbrev cX11_put : ByteArray := prog_1_method_30_code
def yX11_put : MethodName := ⟨RX11, "put", "(III)I"⟩
abbrev cX11_move : ByteArray := prog_1_method_31_code
def yX11_move : MethodName := ⟨RX11, "move", "(IIIII)I"⟩
abbrev cX11_dirts : ByteArray := prog_1_method_32_code
def yX11_dirts : MethodName := ⟨RX11, "dirts", "(I)I"⟩
abbrev cX11_judge : ByteArray := prog_1_method_33_code
def yX11_judge : MethodName := ⟨RX11, "judge", "(I)I"⟩
abbrev cX11_image : ByteArray := prog_1_method_34_code
def yX11_image : MethodName := ⟨RX11, "image", "()I"⟩
abbrev cX11_restore : ByteArray := prog_1_method_35_code
def yX11_restore : MethodName := ⟨RX11, "restore", "()I"⟩
abbrev cX11_tell : ByteArray := prog_1_method_36_code
def yX11_tell : MethodName := ⟨RX11, "tell", "(I)I"⟩
abbrev cX11_check : ByteArray := prog_1_method_37_code
def yX11_check : MethodName := ⟨RX11, "check", "()I"⟩
abbrev cX11_count : ByteArray := prog_1_method_38_code
def yX11_count : MethodName := ⟨RX11, "count", "(I)I"⟩
abbrev cX11_told : ByteArray := prog_1_method_39_code
def yX11_told : MethodName := ⟨RX11, "told", "(I)I"⟩
abbrev cX11_fail : ByteArray := prog_1_method_40_code
def yX11_fail : MethodName := ⟨RX11, "fail", "(I)I"⟩
abbrev cX11_within : ByteArray := prog_1_method_41_code
def yX11_within : MethodName := ⟨RX11, "within", "(III)Z"⟩
abbrev cX11_mostOfYard : ByteArray := prog_1_method_42_code
def yX11_mostOfYard : MethodName := ⟨RX11, "mostOfYard", "(I)I"⟩
abbrev cX11_mostOfStreet : ByteArray := prog_1_method_43_code
def yX11_mostOfStreet : MethodName := ⟨RX11, "mostOfStreet", "(I)I"⟩
abbrev cX11_isUnder : ByteArray := prog_1_method_44_code
def yX11_isUnder : MethodName := ⟨RX11, "isUnder", "(II)Z"⟩
abbrev cX11_dirtOnceSwept : ByteArray := prog_1_method_45_code
def yX11_dirtOnceSwept : MethodName := ⟨RX11, "dirtOnceSwept", "(I)I"⟩
abbrev cX11_staysBelow : ByteArray := prog_1_method_46_code
def yX11_staysBelow : MethodName := ⟨RX11, "staysBelow", "(II)Z"⟩
abbrev cX11_dirtWithout : ByteArray := prog_1_method_47_code
def yX11_dirtWithout : MethodName := ⟨RX11, "dirtWithout", "(III)I"⟩
abbrev cX11_leastPairToTow : ByteArray := prog_1_method_48_code
def yX11_leastPairToTow : MethodName := ⟨RX11, "leastPairToTow", "(III)I"⟩
abbrev cX11_liesAs : ByteArray := prog_1_method_49_code
def yX11_liesAs : MethodName := ⟨RX11, "liesAs", "(I)Z"⟩
abbrev cX11_commonPart : ByteArray := prog_1_method_50_code
def yX11_commonPart : MethodName := ⟨RX11, "commonPart", "(II)I"⟩
abbrev cX11_isSheet : ByteArray := prog_1_method_51_code
def yX11_isSheet : MethodName := ⟨RX11, "isSheet", "(I)Z"⟩
abbrev cX11_isWidth : ByteArray := prog_1_method_52_code
def yX11_isWidth : MethodName := ⟨RX11, "isWidth", "(I)Z"⟩
abbrev cX11_lowestBits : ByteArray := prog_1_method_53_code
def yX11_lowestBits : MethodName := ⟨RX11, "lowestBits", "(II)I"⟩
abbrev cX11_stand : ByteArray := prog_1_method_54_code
def yX11_stand : MethodName := ⟨RX11, "stand", "(III)Z"⟩
def RX12 : String := "SweptRoundModel"
def TX12 : u_T := fun k => match k with
  | 0 => ("SweptRoundModel", "row", "[I", true)
  | 1 => ("SweptRoundModel", "kept", "[I", true)
  | 2 => ("SweptRoundModel", "tried", "[I", true)
  | 3 => ("SweptRoundModel", "before", "[I", true)
  | 4 => ("SweptRoundModel", "isKept", "Z", false)
  | 5 => ("SweptRoundModel", "images", "I", false)
  | 6 => ("SweptRoundModel", "found", "[I", true)
  | 7 => ("SweptRoundModel", "use", "I", false)
  | 8 => ("SweptRoundModel", "at", "I", false)
  | 9 => ("SweptRoundModel", "end", "I", false)
  | 10 => ("SweptRoundModel", "open", "I", false)
  | 11 => ("SweptRoundModel", "namedA", "I", false)
  | 12 => ("SweptRoundModel", "namedB", "I", false)
  | 13 => ("SweptRoundModel", "namedC", "I", false)
  | 14 => ("SweptRoundModel", "good", "Z", false)
  | 15 => ("SweptRoundModel", "every", "I", false)
  | 16 => ("SweptRoundModel", "bitsOf", "[I", true)
  | 17 => ("SweptRoundModel", "sizeOf", "[I", true)
  | 18 => ("SweptRoundModel", "sheets", "[I", true)
  | 19 => ("SweptRoundModel", "moved", "[I", true)
  | 20 => ("SweptRoundModel", "traced", "[I", true)
  | 21 => ("SweptRoundModel", "tracedMany", "I", false)
  | 22 => ("SweptRoundModel", "voiceKind", "I", false)
  | 23 => ("SweptRoundModel", "voiceN", "I", false)
  | _ => ("SweptRoundModel", "voiceM", "I", false)
def tyX12 : Nat → FieldType := fun k => match k with
  | 0 => .array .int
  | 1 => .array .int
  | 2 => .array .int
  | 3 => .array .int
  | 4 => .boolean
  | 5 => .int
  | 6 => .array .int
  | 7 => .int
  | 8 => .int
  | 9 => .int
  | 10 => .int
  | 11 => .int
  | 12 => .int
  | 13 => .int
  | 14 => .boolean
  | 15 => .int
  | 16 => .array .int
  | 17 => .array .int
  | 18 => .array .int
  | 19 => .array .int
  | 20 => .array .int
  | 21 => .int
  | 22 => .int
  | 23 => .int
  | _ => .int
theorem nmX12 : ∀ a, a < 25 → ∀ b, b < 25 → a ≠ b → (TX12 a).2.1 ≠ (TX12 b).2.1 := by decide +kernel
theorem tyX12_ok : ∀ k, k < 25 → parseFieldDescriptor (TX12 k).2.2.1 = some (tyX12 k) := by decide +kernel
abbrev cX12_init : ByteArray := prog_14_method_1_code
def yX12_init : MethodName := ⟨RX12, "<init>", "()V"⟩
abbrev cX12_in : ByteArray := prog_14_method_2_code
def yX12_in : MethodName := ⟨RX12, "in", "(III)Z"⟩
abbrev cX12_errs : ByteArray := prog_14_method_3_code
def yX12_errs : MethodName := ⟨RX12, "errs", "(I)I"⟩
abbrev cX12_held : ByteArray := prog_14_method_4_code
def yX12_held : MethodName := ⟨RX12, "held", "(III)I"⟩
abbrev cX12_moveAll : ByteArray := prog_14_method_5_code
def yX12_moveAll : MethodName := ⟨RX12, "moveAll", "([I[I)V"⟩
abbrev cX12_its : ByteArray := prog_14_method_6_code
def yX12_its : MethodName := ⟨RX12, "its", "(II)I"⟩
abbrev cX12_gets : ByteArray := prog_14_method_7_code
def yX12_gets : MethodName := ⟨RX12, "gets", "(III)V"⟩
abbrev cX12_isYard : ByteArray := prog_14_method_8_code
def yX12_isYard : MethodName := ⟨RX12, "isYard", "(I)Z"⟩
abbrev cX12_becomes : ByteArray := prog_14_method_9_code
def yX12_becomes : MethodName := ⟨RX12, "becomes", "(II)I"⟩
abbrev cX12_yard : ByteArray := prog_14_method_10_code
def yX12_yard : MethodName := ⟨RX12, "yard", "(III)I"⟩
abbrev cX12_ofYard : ByteArray := prog_14_method_11_code
def yX12_ofYard : MethodName := ⟨RX12, "ofYard", "(II)I"⟩
abbrev cX12_change : ByteArray := prog_14_method_12_code
def yX12_change : MethodName := ⟨RX12, "change", "(III)I"⟩
abbrev cX12_set : ByteArray := prog_14_method_13_code
def yX12_set : MethodName := ⟨RX12, "set", "(II)I"⟩
abbrev cX12_become : ByteArray := prog_14_method_14_code
def yX12_become : MethodName := ⟨RX12, "become", "(II)I"⟩
abbrev cX12_above : ByteArray := prog_14_method_15_code
def yX12_above : MethodName := ⟨RX12, "above", "(I)I"⟩
abbrev cX12_as : ByteArray := prog_14_method_16_code
def yX12_as : MethodName := ⟨RX12, "as", "(II)I"⟩
abbrev cX12_byteAt : ByteArray := prog_14_method_17_code
def yX12_byteAt : MethodName := ⟨RX12, "byteAt", "(I)I"⟩
abbrev cX12_isDigit : ByteArray := prog_14_method_18_code
def yX12_isDigit : MethodName := ⟨RX12, "isDigit", "(I)Z"⟩
abbrev cX12_fails : ByteArray := prog_14_method_19_code
def yX12_fails : MethodName := ⟨RX12, "fails", "()I"⟩
abbrev cX12_number : ByteArray := prog_14_method_20_code
def yX12_number : MethodName := ⟨RX12, "number", "()I"⟩
abbrev cX12_named : ByteArray := prog_14_method_21_code
def yX12_named : MethodName := ⟨RX12, "named", "(I)I"⟩
abbrev cX12_factor : ByteArray := prog_14_method_22_code
def yX12_factor : MethodName := ⟨RX12, "factor", "()I"⟩
abbrev cX12_product : ByteArray := prog_14_method_23_code
def yX12_product : MethodName := ⟨RX12, "product", "()I"⟩
abbrev cX12_sum : ByteArray := prog_14_method_24_code
def yX12_sum : MethodName := ⟨RX12, "sum", "()I"⟩
abbrev cX12_compared : ByteArray := prog_14_method_25_code
def yX12_compared : MethodName := ⟨RX12, "compared", "()I"⟩
abbrev cX12_both : ByteArray := prog_14_method_26_code
def yX12_both : MethodName := ⟨RX12, "both", "()I"⟩
abbrev cX12_whole : ByteArray := prog_14_method_27_code
def yX12_whole : MethodName := ⟨RX12, "whole", "()I"⟩
abbrev cX12_walks : ByteArray := prog_14_method_28_code
def yX12_walks : MethodName := ⟨RX12, "walks", "(IIII)I"⟩
abbrev cX12_lawOf : ByteArray := prog_14_method_29_code
def yX12_lawOf : MethodName := ⟨RX12, "lawOf", "(IIII)I"⟩
abbrev cX12_law : ByteArray := prog_14_method_30_code
def yX12_law : MethodName := ⟨RX12, "law", "(IIII)I"⟩
abbrev cX12_feed : ByteArray := prog_14_method_31_code
def yX12_feed : MethodName := ⟨RX12, "feed", "(JI)I"⟩
abbrev cX12_text : ByteArray := prog_14_method_32_code
def yX12_text : MethodName := ⟨RX12, "text", "(I)I"⟩
abbrev cX12_falling : ByteArray := prog_14_method_33_code
def yX12_falling : MethodName := ⟨RX12, "falling", "(I)I"⟩
abbrev cX12_taken : ByteArray := prog_14_method_34_code
def yX12_taken : MethodName := ⟨RX12, "taken", "(I)I"⟩
abbrev cX12_isSigned : ByteArray := prog_14_method_35_code
def yX12_isSigned : MethodName := ⟨RX12, "isSigned", "(II)Z"⟩
abbrev cX12_sign : ByteArray := prog_14_method_36_code
def yX12_sign : MethodName := ⟨RX12, "sign", "(II)I"⟩
abbrev cX12_placesOn : ByteArray := prog_14_method_37_code
def yX12_placesOn : MethodName := ⟨RX12, "placesOn", "(I)I"⟩
abbrev cX12_stayers : ByteArray := prog_14_method_38_code
def yX12_stayers : MethodName := ⟨RX12, "stayers", "(II)I"⟩
abbrev cX12_sweepsSide : ByteArray := prog_14_method_39_code
def yX12_sweepsSide : MethodName := ⟨RX12, "sweepsSide", "(II)V"⟩
abbrev cX12_oneDay : ByteArray := prog_14_method_40_code
def yX12_oneDay : MethodName := ⟨RX12, "oneDay", "()V"⟩
abbrev cX12_passes : ByteArray := prog_14_method_41_code
def yX12_passes : MethodName := ⟨RX12, "passes", "(I)V"⟩
abbrev cX12_allDirt : ByteArray := prog_14_method_42_code
def yX12_allDirt : MethodName := ⟨RX12, "allDirt", "()I"⟩
abbrev cX12_days : ByteArray := prog_14_method_43_code
def yX12_days : MethodName := ⟨RX12, "days", "(I)I"⟩
abbrev cX12_drawn : ByteArray := prog_14_method_44_code
def yX12_drawn : MethodName := ⟨RX12, "drawn", "(I)I"⟩
abbrev cX12_loose : ByteArray := prog_14_method_45_code
def yX12_loose : MethodName := ⟨RX12, "loose", "(I)I"⟩
abbrev cX12_then : ByteArray := prog_14_method_46_code
def yX12_then : MethodName := ⟨RX12, "then", "(II)I"⟩
abbrev cX12_dirtyFrom : ByteArray := prog_14_method_47_code
def yX12_dirtyFrom : MethodName := ⟨RX12, "dirtyFrom", "(I)I"⟩
abbrev cX12_worst : ByteArray := prog_14_method_48_code
def yX12_worst : MethodName := ⟨RX12, "worst", "(II)I"⟩
abbrev cX12_stay : ByteArray := prog_14_method_49_code
def yX12_stay : MethodName := ⟨RX12, "stay", "()I"⟩
abbrev cX12_dirtSwept : ByteArray := prog_14_method_50_code
def yX12_dirtSwept : MethodName := ⟨RX12, "dirtSwept", "(I)I"⟩
abbrev cX12_side : ByteArray := prog_14_method_51_code
def yX12_side : MethodName := ⟨RX12, "side", "(I)I"⟩
abbrev cX12_seldom : ByteArray := prog_14_method_52_code
def yX12_seldom : MethodName := ⟨RX12, "seldom", "(I)I"⟩
abbrev cX12_leastFine : ByteArray := prog_14_method_53_code
def yX12_leastFine : MethodName := ⟨RX12, "leastFine", "(I)I"⟩
abbrev cX12_carSet : ByteArray := prog_14_method_54_code
def yX12_carSet : MethodName := ⟨RX12, "carSet", "()I"⟩
abbrev cX12_isClean : ByteArray := prog_14_method_55_code
def yX12_isClean : MethodName := ⟨RX12, "isClean", "(IIIII)Z"⟩
abbrev cX12_tow : ByteArray := prog_14_method_56_code
def yX12_tow : MethodName := ⟨RX12, "tow", "(III)I"⟩
abbrev cX12_dirtiest : ByteArray := prog_14_method_57_code
def yX12_dirtiest : MethodName := ⟨RX12, "dirtiest", "()I"⟩
abbrev cX12_broom : ByteArray := prog_14_method_58_code
def yX12_broom : MethodName := ⟨RX12, "broom", "(II)I"⟩
abbrev cX12_isSheet : ByteArray := prog_14_method_59_code
def yX12_isSheet : MethodName := ⟨RX12, "isSheet", "(I)Z"⟩
abbrev cX12_isDirtSo : ByteArray := prog_14_method_60_code
def yX12_isDirtSo : MethodName := ⟨RX12, "isDirtSo", "(I)Z"⟩
abbrev cX12_fits : ByteArray := prog_14_method_61_code
def yX12_fits : MethodName := ⟨RX12, "fits", "(II)I"⟩
abbrev cX12_paid : ByteArray := prog_14_method_62_code
def yX12_paid : MethodName := ⟨RX12, "paid", "(I)I"⟩
abbrev cX12_bell : ByteArray := prog_14_method_63_code
def yX12_bell : MethodName := ⟨RX12, "bell", "(I)I"⟩
abbrev cX12_divisor : ByteArray := prog_14_method_64_code
def yX12_divisor : MethodName := ⟨RX12, "divisor", "(II)I"⟩
abbrev cX12_odds : ByteArray := prog_14_method_65_code
def yX12_odds : MethodName := ⟨RX12, "odds", "(IIII)I"⟩
abbrev cX12_seed : ByteArray := prog_14_method_66_code
def yX12_seed : MethodName := ⟨RX12, "seed", "(I)I"⟩
abbrev cX12_ran : ByteArray := prog_14_method_67_code
def yX12_ran : MethodName := ⟨RX12, "ran", "(I)V"⟩
abbrev cX12_fallsIn : ByteArray := prog_14_method_68_code
def yX12_fallsIn : MethodName := ⟨RX12, "fallsIn", "(II)I"⟩
abbrev cX12_sweepsIn : ByteArray := prog_14_method_69_code
def yX12_sweepsIn : MethodName := ⟨RX12, "sweepsIn", "(II)I"⟩
abbrev cX12_movesIn : ByteArray := prog_14_method_70_code
def yX12_movesIn : MethodName := ⟨RX12, "movesIn", "(II)I"⟩
abbrev cX12_blocksIn : ByteArray := prog_14_method_71_code
def yX12_blocksIn : MethodName := ⟨RX12, "blocksIn", "(II)I"⟩
abbrev cX12_voice : ByteArray := prog_14_method_72_code
def yX12_voice : MethodName := ⟨RX12, "voice", "(III)I"⟩
abbrev cX12_trace : ByteArray := prog_14_method_73_code
def yX12_trace : MethodName := ⟨RX12, "trace", "(I)I"⟩
abbrev cX12_narrow : ByteArray := prog_14_method_74_code
def yX12_narrow : MethodName := ⟨RX12, "narrow", "(II)I"⟩
abbrev cX12_sheet : ByteArray := prog_14_method_75_code
def yX12_sheet : MethodName := ⟨RX12, "sheet", "(III)I"⟩
abbrev cX12_put : ByteArray := prog_14_method_76_code
def yX12_put : MethodName := ⟨RX12, "put", "(III)I"⟩
abbrev cX12_move : ByteArray := prog_14_method_77_code
def yX12_move : MethodName := ⟨RX12, "move", "(IIIII)I"⟩
abbrev cX12_dirts : ByteArray := prog_14_method_78_code
def yX12_dirts : MethodName := ⟨RX12, "dirts", "(I)I"⟩
abbrev cX12_judge : ByteArray := prog_14_method_79_code
def yX12_judge : MethodName := ⟨RX12, "judge", "(I)I"⟩
abbrev cX12_image : ByteArray := prog_14_method_80_code
def yX12_image : MethodName := ⟨RX12, "image", "()I"⟩
abbrev cX12_restore : ByteArray := prog_14_method_81_code
def yX12_restore : MethodName := ⟨RX12, "restore", "()I"⟩
abbrev cX12_tell : ByteArray := prog_14_method_82_code
def yX12_tell : MethodName := ⟨RX12, "tell", "(I)I"⟩
abbrev cX12_check : ByteArray := prog_14_method_83_code
def yX12_check : MethodName := ⟨RX12, "check", "()I"⟩
abbrev cX12_count : ByteArray := prog_14_method_84_code
def yX12_count : MethodName := ⟨RX12, "count", "(I)I"⟩
abbrev cX12_told : ByteArray := prog_14_method_85_code
def yX12_told : MethodName := ⟨RX12, "told", "(I)I"⟩
def RJ11 : String := "java/lang/Character"
def TJ11 : u_T := fun k => match k with
  | _ => ("", "", "", false)
def tyJ11 : Nat → FieldType := fun k => match k with
  | _ => .int
theorem nmJ11 : ∀ a, a < 0 → ∀ b, b < 0 → a ≠ b → (TJ11 a).2.1 ≠ (TJ11 b).2.1 := by decide +kernel
theorem tyJ11_ok : ∀ k, k < 0 → parseFieldDescriptor (TJ11 k).2.2.1 = some (tyJ11 k) := by decide +kernel
abbrev cJ11_isValidCodePoint_9a6ad : ByteArray := prog_15_method_11_code
def yJ11_isValidCodePoint_9a6ad : MethodName := ⟨RJ11, "isValidCodePoint", "(I)Z"⟩
abbrev cJ11_highSurrogate_5068e : ByteArray := prog_15_method_28_code
def yJ11_highSurrogate_5068e : MethodName := ⟨RJ11, "highSurrogate", "(I)C"⟩
abbrev cJ11_lowSurrogate_5068e : ByteArray := prog_15_method_29_code
def yJ11_lowSurrogate_5068e : MethodName := ⟨RJ11, "lowSurrogate", "(I)C"⟩
def RJ9 : String := "java/lang/Math"
def TJ9 : u_T := fun k => match k with
  | _ => ("", "", "", false)
def tyJ9 : Nat → FieldType := fun k => match k with
  | _ => .int
theorem nmJ9 : ∀ a, a < 0 → ∀ b, b < 0 → a ≠ b → (TJ9 a).2.1 ≠ (TJ9 b).2.1 := by decide +kernel
theorem tyJ9_ok : ∀ k, k < 0 → parseFieldDescriptor (TJ9 k).2.2.1 = some (tyJ9 k) := by decide +kernel
abbrev cJ9_max_7cf53 : ByteArray := prog_16_method_65_code
def yJ9_max_7cf53 : MethodName := ⟨RJ9, "max", "(II)I"⟩
abbrev cJ9_min_7cf53 : ByteArray := prog_16_method_69_code
def yJ9_min_7cf53 : MethodName := ⟨RJ9, "min", "(II)I"⟩
def RJ0 : String := "java/lang/String"
def TJ0 : u_T := fun k => match k with
  | _ => ("", "", "", false)
def tyJ0 : Nat → FieldType := fun k => match k with
  | _ => .int
theorem nmJ0 : ∀ a, a < 0 → ∀ b, b < 0 → a ≠ b → (TJ0 a).2.1 ≠ (TJ0 b).2.1 := by decide +kernel
theorem tyJ0_ok : ∀ k, k < 0 → parseFieldDescriptor (TJ0 k).2.2.1 = some (tyJ0 k) := by decide +kernel
abbrev cJ0_length_8abf5 : ByteArray := prog_17_method_54_code
def yJ0_length_8abf5 : MethodName := ⟨RJ0, "length", "()I"⟩
abbrev cJ0_indexOf_0f7a4 : ByteArray := prog_17_method_79_code
def yJ0_indexOf_0f7a4 : MethodName := ⟨RJ0, "indexOf", "(I)I"⟩
abbrev cJ0_indexOf_7cf53 : ByteArray := prog_17_method_80_code
def yJ0_indexOf_7cf53 : MethodName := ⟨RJ0, "indexOf", "(II)I"⟩
abbrev cJ0_coder_7d493 : ByteArray := prog_17_method_152_code
def yJ0_coder_7d493 : MethodName := ⟨RJ0, "coder", "()B"⟩
abbrev cJ0_isLatin1_aae02 : ByteArray := prog_17_method_154_code
def yJ0_isLatin1_aae02 : MethodName := ⟨RJ0, "isLatin1", "()Z"⟩
abbrev cJ0_checkBoundsBeginEnd_23922 : ByteArray := prog_17_method_158_code
def yJ0_checkBoundsBeginEnd_23922 : MethodName := ⟨RJ0, "checkBoundsBeginEnd", "(III)V"⟩
def RJ1 : String := "java/lang/StringLatin1"
def TJ1 : u_T := fun k => match k with
  | _ => ("", "", "", false)
def tyJ1 : Nat → FieldType := fun k => match k with
  | _ => .int
theorem nmJ1 : ∀ a, a < 0 → ∀ b, b < 0 → a ≠ b → (TJ1 a).2.1 ≠ (TJ1 b).2.1 := by decide +kernel
theorem tyJ1_ok : ∀ k, k < 0 → parseFieldDescriptor (TJ1 k).2.2.1 = some (tyJ1 k) := by decide +kernel
abbrev cJ1_canEncode_9a6ad : ByteArray := prog_18_method_4_code
def yJ1_canEncode_9a6ad : MethodName := ⟨RJ1, "canEncode", "(I)Z"⟩
abbrev cJ1_indexOf_4cfef : ByteArray := prog_18_method_22_code
def yJ1_indexOf_4cfef : MethodName := ⟨RJ1, "indexOf", "([BIII)I"⟩
abbrev cJ1_indexOfChar_4cfef : ByteArray := prog_18_method_23_code
def yJ1_indexOfChar_4cfef : MethodName := ⟨RJ1, "indexOfChar", "([BIII)I"⟩
def RJ2 : String := "java/lang/StringUTF16"
def TJ2 : u_T := fun k => match k with
  | _ => ("", "", "", false)
def tyJ2 : Nat → FieldType := fun k => match k with
  | _ => .int
theorem nmJ2 : ∀ a, a < 0 → ∀ b, b < 0 → a ≠ b → (TJ2 a).2.1 ≠ (TJ2 b).2.1 := by decide +kernel
theorem tyJ2_ok : ∀ k, k < 0 → parseFieldDescriptor (TJ2 k).2.2.1 = some (tyJ2 k) := by decide +kernel
abbrev cJ2_getChar_3b067 : ByteArray := prog_19_method_5_code
def yJ2_getChar_3b067 : MethodName := ⟨RJ2, "getChar", "([BI)C"⟩
abbrev cJ2_length_9d52b : ByteArray := prog_19_method_6_code
def yJ2_length_9d52b : MethodName := ⟨RJ2, "length", "([B)I"⟩
abbrev cJ2_indexOf_4cfef : ByteArray := prog_19_method_40_code
def yJ2_indexOf_4cfef : MethodName := ⟨RJ2, "indexOf", "([BIII)I"⟩
abbrev cJ2_indexOfChar_4cfef : ByteArray := prog_19_method_47_code
def yJ2_indexOfChar_4cfef : MethodName := ⟨RJ2, "indexOfChar", "([BIII)I"⟩
abbrev cJ2_indexOfCharUnsafe_4cfef : ByteArray := prog_19_method_48_code
def yJ2_indexOfCharUnsafe_4cfef : MethodName := ⟨RJ2, "indexOfCharUnsafe", "([BIII)I"⟩
abbrev cJ2_indexOfSupplementary_4cfef : ByteArray := prog_19_method_49_code
def yJ2_indexOfSupplementary_4cfef : MethodName := ⟨RJ2, "indexOfSupplementary", "([BIII)I"⟩
abbrev cJ2_checkBoundsBeginEnd_d044e : ByteArray := prog_19_method_93_code
def yJ2_checkBoundsBeginEnd_d044e : MethodName := ⟨RJ2, "checkBoundsBeginEnd", "(II[B)V"⟩
def RJ10 : String := "java/lang/System"
def TJ10 : u_T := fun k => match k with
  | _ => ("", "", "", false)
def tyJ10 : Nat → FieldType := fun k => match k with
  | _ => .int
theorem nmJ10 : ∀ a, a < 0 → ∀ b, b < 0 → a ≠ b → (TJ10 a).2.1 ≠ (TJ10 b).2.1 := by decide +kernel
theorem tyJ10_ok : ∀ k, k < 0 → parseFieldDescriptor (TJ10 k).2.2.1 = some (tyJ10 k) := by decide +kernel
def RJ3 : String := "jdk/internal/util/Preconditions"
def TJ3 : u_T := fun k => match k with
  | _ => ("", "", "", false)
def tyJ3 : Nat → FieldType := fun k => match k with
  | _ => .int
theorem nmJ3 : ∀ a, a < 0 → ∀ b, b < 0 → a ≠ b → (TJ3 a).2.1 ≠ (TJ3 b).2.1 := by decide +kernel
theorem tyJ3_ok : ∀ k, k < 0 → parseFieldDescriptor (TJ3 k).2.2.1 = some (tyJ3 k) := by decide +kernel
abbrev cJ3_checkFromToIndex_8c36e : ByteArray := prog_21_method_12_code
def yJ3_checkFromToIndex_8c36e : MethodName := ⟨RJ3, "checkFromToIndex", "(IIILjava/util/function/BiFunction;)I"⟩
def RL : String := "SweptRoundLaw"
abbrev cL_law : ByteArray := code
def yL_law : MethodName := ⟨RL, "law", "([I)Z"⟩
abbrev vwCl : List vw_C := [(RX0, TX0, 0), (RX1, TX1, 0), (RX2, TX2, 0), (RX3, TX3, 0), (RX4, TX4, 3), (RX5, TX5, 6), (RX6, TX6, 4), (RX7, TX7, 18), (RX8, TX8, 0), (RX9, TX9, 0), (RX10, TX10, 0), (RX11, TX11, 10), (RX12, TX12, 25)]
end
section
theorem dX0_init_0 : decode cX0_init 0 = .ok (.aload_n 0, 1) := by decide +kernel
theorem dX0_init_1 : decode cX0_init 1 = .ok (.invokespecial 1, 3) := by decide +kernel
theorem dX0_init_4 : decode cX0_init 4 = .ok (.return_, 1) := by decide +kernel
theorem dX0_fallen_0 : decode cX0_fallen 0 = .ok (.aload_n 0, 1) := by decide +kernel
theorem dX0_fallen_1 : decode cX0_fallen 1 = .ok (.iload_n 1, 1) := by decide +kernel
theorem dX0_fallen_2 : decode cX0_fallen 2 = .ok (.iload_n 2, 1) := by decide +kernel
theorem dX0_fallen_3 : decode cX0_fallen 3 = .ok (.iload_n 3, 1) := by decide +kernel
theorem dX0_fallen_4 : decode cX0_fallen 4 = .ok (.iload 4, 2) := by decide +kernel
theorem dX0_fallen_6 : decode cX0_fallen 6 = .ok (.iload 5, 2) := by decide +kernel
theorem dX0_fallen_8 : decode cX0_fallen 8 = .ok (.invokespecial 7, 3) := by decide +kernel
theorem dX0_fallen_11 : decode cX0_fallen 11 = .ok (.iload 5, 2) := by decide +kernel
theorem dX0_fallen_13 : decode cX0_fallen 13 = .ok (.iadd, 1) := by decide +kernel
theorem dX0_fallen_14 : decode cX0_fallen 14 = .ok (.ireturn, 1) := by decide +kernel
theorem dX0_sweeps_0 : decode cX0_sweeps 0 = .ok (.aload_n 1, 1) := by decide +kernel
theorem dX0_sweeps_1 : decode cX0_sweeps 1 = .ok (.bipush 70, 2) := by decide +kernel
theorem dX0_sweeps_3 : decode cX0_sweeps 3 = .ok (.invokevirtual 11, 3) := by decide +kernel
theorem dX0_sweeps_6 : decode cX0_sweeps 6 = .ok (.aload_n 0, 1) := by decide +kernel
theorem dX0_sweeps_7 : decode cX0_sweeps 7 = .ok (.aload_n 1, 1) := by decide +kernel
theorem dX0_sweeps_8 : decode cX0_sweeps 8 = .ok (.iload_n 2, 1) := by decide +kernel
theorem dX0_sweeps_9 : decode cX0_sweeps 9 = .ok (.invokespecial 17, 3) := by decide +kernel
theorem dX0_sweeps_12 : decode cX0_sweeps 12 = .ok (.aload_n 1, 1) := by decide +kernel
theorem dX0_sweeps_13 : decode cX0_sweeps 13 = .ok (.getfield 21, 3) := by decide +kernel
theorem dX0_sweeps_16 : decode cX0_sweeps 16 = .ok (.ixor, 1) := by decide +kernel
theorem dX0_sweeps_17 : decode cX0_sweeps 17 = .ok (.ireturn, 1) := by decide +kernel
theorem dX0_blocks_0 : decode cX0_blocks 0 = .ok (.aload_n 1, 1) := by decide +kernel
theorem dX0_blocks_1 : decode cX0_blocks 1 = .ok (.bipush 71, 2) := by decide +kernel
theorem dX0_blocks_3 : decode cX0_blocks 3 = .ok (.invokevirtual 11, 3) := by decide +kernel
theorem dX0_blocks_6 : decode cX0_blocks 6 = .ok (.aload_n 0, 1) := by decide +kernel
theorem dX0_blocks_7 : decode cX0_blocks 7 = .ok (.aload_n 1, 1) := by decide +kernel
theorem dX0_blocks_8 : decode cX0_blocks 8 = .ok (.iload_n 2, 1) := by decide +kernel
theorem dX0_blocks_9 : decode cX0_blocks 9 = .ok (.invokevirtual 25, 3) := by decide +kernel
theorem dX0_blocks_12 : decode cX0_blocks 12 = .ok (.aload_n 0, 1) := by decide +kernel
theorem dX0_blocks_13 : decode cX0_blocks 13 = .ok (.aload_n 1, 1) := by decide +kernel
theorem dX0_blocks_14 : decode cX0_blocks 14 = .ok (.iload_n 2, 1) := by decide +kernel
theorem dX0_blocks_15 : decode cX0_blocks 15 = .ok (.invokespecial 30, 3) := by decide +kernel
theorem dX0_blocks_18 : decode cX0_blocks 18 = .ok (.isub, 1) := by decide +kernel
theorem dX0_blocks_19 : decode cX0_blocks 19 = .ok (.ireturn, 1) := by decide +kernel
theorem dX1_init_0 : decode cX1_init 0 = .ok (.aload_n 0, 1) := by decide +kernel
theorem dX1_init_1 : decode cX1_init 1 = .ok (.invokespecial 1, 3) := by decide +kernel
theorem dX1_init_4 : decode cX1_init 4 = .ok (.return_, 1) := by decide +kernel
theorem dX1_fallen_0 : decode cX1_fallen 0 = .ok (.iload_n 1, 1) := by decide +kernel
theorem dX1_fallen_1 : decode cX1_fallen 1 = .ok (.iconst 2, 1) := by decide +kernel
theorem dX1_fallen_2 : decode cX1_fallen 2 = .ok (.idiv, 1) := by decide +kernel
theorem dX1_fallen_3 : decode cX1_fallen 3 = .ok (.ireturn, 1) := by decide +kernel
theorem dX1_taken_0 : decode cX1_taken 0 = .ok (.iload_n 1, 1) := by decide +kernel
theorem dX1_taken_1 : decode cX1_taken 1 = .ok (.iconst 2, 1) := by decide +kernel
theorem dX1_taken_2 : decode cX1_taken 2 = .ok (.idiv, 1) := by decide +kernel
theorem dX1_taken_3 : decode cX1_taken 3 = .ok (.ireturn, 1) := by decide +kernel
theorem dX1_moves_0 : decode cX1_moves 0 = .ok (.aload_n 1, 1) := by decide +kernel
theorem dX1_moves_1 : decode cX1_moves 1 = .ok (.bipush 30, 2) := by decide +kernel
theorem dX1_moves_3 : decode cX1_moves 3 = .ok (.invokevirtual 7, 3) := by decide +kernel
theorem dX1_moves_6 : decode cX1_moves 6 = .ok (.aload_n 0, 1) := by decide +kernel
theorem dX1_moves_7 : decode cX1_moves 7 = .ok (.aload_n 1, 1) := by decide +kernel
theorem dX1_moves_8 : decode cX1_moves 8 = .ok (.iload_n 2, 1) := by decide +kernel
theorem dX1_moves_9 : decode cX1_moves 9 = .ok (.invokespecial 13, 3) := by decide +kernel
theorem dX1_moves_12 : decode cX1_moves 12 = .ok (.aload_n 0, 1) := by decide +kernel
theorem dX1_moves_13 : decode cX1_moves 13 = .ok (.aload_n 1, 1) := by decide +kernel
theorem dX1_moves_14 : decode cX1_moves 14 = .ok (.iconst 1, 1) := by decide +kernel
theorem dX1_moves_15 : decode cX1_moves 15 = .ok (.invokevirtual 17, 3) := by decide +kernel
theorem dX1_moves_18 : decode cX1_moves 18 = .ok (.isub, 1) := by decide +kernel
theorem dX1_moves_19 : decode cX1_moves 19 = .ok (.ireturn, 1) := by decide +kernel
theorem dX2_init_0 : decode cX2_init 0 = .ok (.aload_n 0, 1) := by decide +kernel
theorem dX2_init_1 : decode cX2_init 1 = .ok (.invokespecial 1, 3) := by decide +kernel
theorem dX2_init_4 : decode cX2_init 4 = .ok (.return_, 1) := by decide +kernel
theorem dX2_fallen_0 : decode cX2_fallen 0 = .ok (.iconst 2, 1) := by decide +kernel
theorem dX2_fallen_1 : decode cX2_fallen 1 = .ok (.aload_n 0, 1) := by decide +kernel
theorem dX2_fallen_2 : decode cX2_fallen 2 = .ok (.iload_n 1, 1) := by decide +kernel
theorem dX2_fallen_3 : decode cX2_fallen 3 = .ok (.iload_n 2, 1) := by decide +kernel
theorem dX2_fallen_4 : decode cX2_fallen 4 = .ok (.iload_n 3, 1) := by decide +kernel
theorem dX2_fallen_5 : decode cX2_fallen 5 = .ok (.iload 4, 2) := by decide +kernel
theorem dX2_fallen_7 : decode cX2_fallen 7 = .ok (.iload 5, 2) := by decide +kernel
theorem dX2_fallen_9 : decode cX2_fallen 9 = .ok (.invokespecial 7, 3) := by decide +kernel
theorem dX2_fallen_12 : decode cX2_fallen 12 = .ok (.imul, 1) := by decide +kernel
theorem dX2_fallen_13 : decode cX2_fallen 13 = .ok (.ireturn, 1) := by decide +kernel
theorem dX2_taken_0 : decode cX2_taken 0 = .ok (.aload_n 0, 1) := by decide +kernel
theorem dX2_taken_1 : decode cX2_taken 1 = .ok (.iload_n 1, 1) := by decide +kernel
theorem dX2_taken_2 : decode cX2_taken 2 = .ok (.invokespecial 11, 3) := by decide +kernel
theorem dX2_taken_5 : decode cX2_taken 5 = .ok (.bipush 99, 2) := by decide +kernel
theorem dX2_taken_7 : decode cX2_taken 7 = .ok (.invokestatic 15, 3) := by decide +kernel
theorem dX2_taken_10 : decode cX2_taken 10 = .ok (.ireturn, 1) := by decide +kernel
theorem dX2_blocks_0 : decode cX2_blocks 0 = .ok (.aload_n 1, 1) := by decide +kernel
theorem dX2_blocks_1 : decode cX2_blocks 1 = .ok (.bipush 50, 2) := by decide +kernel
theorem dX2_blocks_3 : decode cX2_blocks 3 = .ok (.invokevirtual 21, 3) := by decide +kernel
theorem dX2_blocks_6 : decode cX2_blocks 6 = .ok (.aload_n 0, 1) := by decide +kernel
theorem dX2_blocks_7 : decode cX2_blocks 7 = .ok (.aload_n 1, 1) := by decide +kernel
theorem dX2_blocks_8 : decode cX2_blocks 8 = .ok (.iload_n 2, 1) := by decide +kernel
theorem dX2_blocks_9 : decode cX2_blocks 9 = .ok (.invokespecial 27, 3) := by decide +kernel
theorem dX2_blocks_12 : decode cX2_blocks 12 = .ok (.aload_n 0, 1) := by decide +kernel
theorem dX2_blocks_13 : decode cX2_blocks 13 = .ok (.aload_n 1, 1) := by decide +kernel
theorem dX2_blocks_14 : decode cX2_blocks 14 = .ok (.iconst 2, 1) := by decide +kernel
theorem dX2_blocks_15 : decode cX2_blocks 15 = .ok (.invokevirtual 31, 3) := by decide +kernel
theorem dX2_blocks_18 : decode cX2_blocks 18 = .ok (.isub, 1) := by decide +kernel
theorem dX2_blocks_19 : decode cX2_blocks 19 = .ok (.ireturn, 1) := by decide +kernel
theorem dX3_init_0 : decode cX3_init 0 = .ok (.aload_n 0, 1) := by decide +kernel
theorem dX3_init_1 : decode cX3_init 1 = .ok (.invokespecial 1, 3) := by decide +kernel
theorem dX3_init_4 : decode cX3_init 4 = .ok (.return_, 1) := by decide +kernel
theorem dX3_fallen_0 : decode cX3_fallen 0 = .ok (.aload_n 0, 1) := by decide +kernel
theorem dX3_fallen_1 : decode cX3_fallen 1 = .ok (.iload_n 1, 1) := by decide +kernel
theorem dX3_fallen_2 : decode cX3_fallen 2 = .ok (.iload_n 2, 1) := by decide +kernel
theorem dX3_fallen_3 : decode cX3_fallen 3 = .ok (.iload_n 3, 1) := by decide +kernel
theorem dX3_fallen_4 : decode cX3_fallen 4 = .ok (.iload 4, 2) := by decide +kernel
theorem dX3_fallen_6 : decode cX3_fallen 6 = .ok (.iload 5, 2) := by decide +kernel
theorem dX3_fallen_8 : decode cX3_fallen 8 = .ok (.invokespecial 7, 3) := by decide +kernel
theorem dX3_fallen_11 : decode cX3_fallen 11 = .ok (.iload 4, 2) := by decide +kernel
theorem dX3_fallen_13 : decode cX3_fallen 13 = .ok (.bipush 7, 2) := by decide +kernel
theorem dX3_fallen_15 : decode cX3_fallen 15 = .ok (.irem, 1) := by decide +kernel
theorem dX3_fallen_16 : decode cX3_fallen 16 = .ok (.ifCond .ne 7, 3) := by decide +kernel
theorem dX3_fallen_19 : decode cX3_fallen 19 = .ok (.iload_n 2, 1) := by decide +kernel
theorem dX3_fallen_20 : decode cX3_fallen 20 = .ok (.goto 4, 3) := by decide +kernel
theorem dX3_fallen_23 : decode cX3_fallen 23 = .ok (.iconst 0, 1) := by decide +kernel
theorem dX3_fallen_24 : decode cX3_fallen 24 = .ok (.iadd, 1) := by decide +kernel
theorem dX3_fallen_25 : decode cX3_fallen 25 = .ok (.ireturn, 1) := by decide +kernel
theorem dX3_taken_0 : decode cX3_taken 0 = .ok (.aload_n 0, 1) := by decide +kernel
theorem dX3_taken_1 : decode cX3_taken 1 = .ok (.iload_n 1, 1) := by decide +kernel
theorem dX3_taken_2 : decode cX3_taken 2 = .ok (.invokespecial 11, 3) := by decide +kernel
theorem dX3_taken_5 : decode cX3_taken 5 = .ok (.bipush 10, 2) := by decide +kernel
theorem dX3_taken_7 : decode cX3_taken 7 = .ok (.iadd, 1) := by decide +kernel
theorem dX3_taken_8 : decode cX3_taken 8 = .ok (.iload_n 1, 1) := by decide +kernel
theorem dX3_taken_9 : decode cX3_taken 9 = .ok (.invokestatic 15, 3) := by decide +kernel
theorem dX3_taken_12 : decode cX3_taken 12 = .ok (.ireturn, 1) := by decide +kernel
theorem dX3_moves_0 : decode cX3_moves 0 = .ok (.aload_n 1, 1) := by decide +kernel
theorem dX3_moves_1 : decode cX3_moves 1 = .ok (.bipush 60, 2) := by decide +kernel
theorem dX3_moves_3 : decode cX3_moves 3 = .ok (.invokevirtual 21, 3) := by decide +kernel
theorem dX3_moves_6 : decode cX3_moves 6 = .ok (.aload_n 0, 1) := by decide +kernel
theorem dX3_moves_7 : decode cX3_moves 7 = .ok (.aload_n 1, 1) := by decide +kernel
theorem dX3_moves_8 : decode cX3_moves 8 = .ok (.iload_n 2, 1) := by decide +kernel
theorem dX3_moves_9 : decode cX3_moves 9 = .ok (.iconst 1, 1) := by decide +kernel
theorem dX3_moves_10 : decode cX3_moves 10 = .ok (.iadd, 1) := by decide +kernel
theorem dX3_moves_11 : decode cX3_moves 11 = .ok (.invokespecial 27, 3) := by decide +kernel
theorem dX3_moves_14 : decode cX3_moves 14 = .ok (.ireturn, 1) := by decide +kernel
theorem dX4_init_0 : decode cX4_init 0 = .ok (.aload_n 0, 1) := by decide +kernel
theorem dX4_init_1 : decode cX4_init 1 = .ok (.invokespecial 3, 3) := by decide +kernel
theorem dX4_init_4 : decode cX4_init 4 = .ok (.aload_n 0, 1) := by decide +kernel
theorem dX4_init_5 : decode cX4_init 5 = .ok (.iload_n 1, 1) := by decide +kernel
theorem dX4_init_6 : decode cX4_init 6 = .ok (.putfield 9, 3) := by decide +kernel
theorem dX4_init_9 : decode cX4_init 9 = .ok (.aload_n 0, 1) := by decide +kernel
theorem dX4_init_10 : decode cX4_init 10 = .ok (.aload_n 2, 1) := by decide +kernel
theorem dX4_init_11 : decode cX4_init 11 = .ok (.putfield 15, 3) := by decide +kernel
theorem dX4_init_14 : decode cX4_init 14 = .ok (.aload_n 0, 1) := by decide +kernel
theorem dX4_init_15 : decode cX4_init 15 = .ok (.aload_n 2, 1) := by decide +kernel
theorem dX4_init_16 : decode cX4_init 16 = .ok (.arraylength, 1) := by decide +kernel
theorem dX4_init_17 : decode cX4_init 17 = .ok (.newarray .int, 2) := by decide +kernel
theorem dX4_init_19 : decode cX4_init 19 = .ok (.putfield 19, 3) := by decide +kernel
theorem dX4_init_22 : decode cX4_init 22 = .ok (.return_, 1) := by decide +kernel
theorem dX4_give_0 : decode cX4_give 0 = .ok (.aload_n 0, 1) := by decide +kernel
theorem dX4_give_1 : decode cX4_give 1 = .ok (.getfield 15, 3) := by decide +kernel
theorem dX4_give_4 : decode cX4_give 4 = .ok (.arraylength, 1) := by decide +kernel
theorem dX4_give_5 : decode cX4_give 5 = .ok (.ifCond .ne 10, 3) := by decide +kernel
theorem dX4_give_8 : decode cX4_give 8 = .ok (.aload_n 0, 1) := by decide +kernel
theorem dX4_give_9 : decode cX4_give 9 = .ok (.iload_n 1, 1) := by decide +kernel
theorem dX4_give_10 : decode cX4_give 10 = .ok (.iload_n 2, 1) := by decide +kernel
theorem dX4_give_11 : decode cX4_give 11 = .ok (.invokevirtual 22, 3) := by decide +kernel
theorem dX4_give_14 : decode cX4_give 14 = .ok (.ireturn, 1) := by decide +kernel
theorem dX4_give_15 : decode cX4_give 15 = .ok (.iconst 0, 1) := by decide +kernel
theorem dX4_give_16 : decode cX4_give 16 = .ok (.istore 4, 2) := by decide +kernel
theorem dX4_give_18 : decode cX4_give 18 = .ok (.iconst 0, 1) := by decide +kernel
theorem dX4_give_19 : decode cX4_give 19 = .ok (.istore 5, 2) := by decide +kernel
theorem dX4_give_21 : decode cX4_give 21 = .ok (.iload 5, 2) := by decide +kernel
theorem dX4_give_23 : decode cX4_give 23 = .ok (.aload_n 0, 1) := by decide +kernel
theorem dX4_give_24 : decode cX4_give 24 = .ok (.getfield 15, 3) := by decide +kernel
theorem dX4_give_27 : decode cX4_give 27 = .ok (.arraylength, 1) := by decide +kernel
theorem dX4_give_28 : decode cX4_give 28 = .ok (.if_icmp .ge 162, 3) := by decide +kernel
theorem dX4_give_31 : decode cX4_give 31 = .ok (.aload_n 0, 1) := by decide +kernel
theorem dX4_give_32 : decode cX4_give 32 = .ok (.getfield 15, 3) := by decide +kernel
theorem dX4_give_35 : decode cX4_give 35 = .ok (.iload 5, 2) := by decide +kernel
theorem dX4_give_37 : decode cX4_give 37 = .ok (.iaload, 1) := by decide +kernel
theorem dX4_give_38 : decode cX4_give 38 = .ok (.istore 6, 2) := by decide +kernel
theorem dX4_give_40 : decode cX4_give 40 = .ok (.iload 6, 2) := by decide +kernel
theorem dX4_give_42 : decode cX4_give 42 = .ok (.bipush (-3), 2) := by decide +kernel
theorem dX4_give_44 : decode cX4_give 44 = .ok (.if_icmp .lt 58, 3) := by decide +kernel
theorem dX4_give_47 : decode cX4_give 47 = .ok (.iload 4, 2) := by decide +kernel
theorem dX4_give_49 : decode cX4_give 49 = .ok (.aload_n 0, 1) := by decide +kernel
theorem dX4_give_50 : decode cX4_give 50 = .ok (.getfield 19, 3) := by decide +kernel
theorem dX4_give_53 : decode cX4_give 53 = .ok (.arraylength, 1) := by decide +kernel
theorem dX4_give_54 : decode cX4_give 54 = .ok (.if_icmp .ge 48, 3) := by decide +kernel
theorem dX4_give_57 : decode cX4_give 57 = .ok (.aload_n 0, 1) := by decide +kernel
theorem dX4_give_58 : decode cX4_give 58 = .ok (.getfield 19, 3) := by decide +kernel
theorem dX4_give_61 : decode cX4_give 61 = .ok (.iload 4, 2) := by decide +kernel
theorem dX4_give_63 : decode cX4_give 63 = .ok (.iload 6, 2) := by decide +kernel
theorem dX4_give_65 : decode cX4_give 65 = .ok (.ifCond .lt 8, 3) := by decide +kernel
theorem dX4_give_68 : decode cX4_give 68 = .ok (.iload 6, 2) := by decide +kernel
theorem dX4_give_70 : decode cX4_give 70 = .ok (.goto 25, 3) := by decide +kernel
theorem dX4_give_73 : decode cX4_give 73 = .ok (.iload 6, 2) := by decide +kernel
theorem dX4_give_75 : decode cX4_give 75 = .ok (.iconst (-1), 1) := by decide +kernel
theorem dX4_give_76 : decode cX4_give 76 = .ok (.if_icmp .ne 7, 3) := by decide +kernel
theorem dX4_give_79 : decode cX4_give 79 = .ok (.iload_n 1, 1) := by decide +kernel
theorem dX4_give_80 : decode cX4_give 80 = .ok (.goto 15, 3) := by decide +kernel
theorem dX4_give_83 : decode cX4_give 83 = .ok (.iload 6, 2) := by decide +kernel
theorem dX4_give_85 : decode cX4_give 85 = .ok (.bipush (-2), 2) := by decide +kernel
theorem dX4_give_87 : decode cX4_give 87 = .ok (.if_icmp .ne 7, 3) := by decide +kernel
theorem dX4_give_90 : decode cX4_give 90 = .ok (.iload_n 2, 1) := by decide +kernel
theorem dX4_give_91 : decode cX4_give 91 = .ok (.goto 4, 3) := by decide +kernel
theorem dX4_give_94 : decode cX4_give 94 = .ok (.iload_n 3, 1) := by decide +kernel
theorem dX4_give_95 : decode cX4_give 95 = .ok (.iastore, 1) := by decide +kernel
theorem dX4_give_96 : decode cX4_give 96 = .ok (.iinc 4 1, 3) := by decide +kernel
theorem dX4_give_99 : decode cX4_give 99 = .ok (.goto 85, 3) := by decide +kernel
theorem dX4_give_102 : decode cX4_give 102 = .ok (.iload 6, 2) := by decide +kernel
theorem dX4_give_104 : decode cX4_give 104 = .ok (.bipush (-33), 2) := by decide +kernel
theorem dX4_give_106 : decode cX4_give 106 = .ok (.if_icmp .ne 38, 3) := by decide +kernel
theorem dX4_give_109 : decode cX4_give 109 = .ok (.iload 4, 2) := by decide +kernel
theorem dX4_give_111 : decode cX4_give 111 = .ok (.iconst 1, 1) := by decide +kernel
theorem dX4_give_112 : decode cX4_give 112 = .ok (.if_icmp .lt 32, 3) := by decide +kernel
theorem dX4_give_115 : decode cX4_give 115 = .ok (.aload_n 0, 1) := by decide +kernel
theorem dX4_give_116 : decode cX4_give 116 = .ok (.getfield 19, 3) := by decide +kernel
theorem dX4_give_119 : decode cX4_give 119 = .ok (.iload 4, 2) := by decide +kernel
theorem dX4_give_121 : decode cX4_give 121 = .ok (.iconst 1, 1) := by decide +kernel
theorem dX4_give_122 : decode cX4_give 122 = .ok (.isub, 1) := by decide +kernel
theorem dX4_give_123 : decode cX4_give 123 = .ok (.aload_n 0, 1) := by decide +kernel
theorem dX4_give_124 : decode cX4_give 124 = .ok (.getfield 19, 3) := by decide +kernel
theorem dX4_give_127 : decode cX4_give 127 = .ok (.iload 4, 2) := by decide +kernel
theorem dX4_give_129 : decode cX4_give 129 = .ok (.iconst 1, 1) := by decide +kernel
theorem dX4_give_130 : decode cX4_give 130 = .ok (.isub, 1) := by decide +kernel
theorem dX4_give_131 : decode cX4_give 131 = .ok (.iaload, 1) := by decide +kernel
theorem dX4_give_132 : decode cX4_give 132 = .ok (.ifCond .ne 7, 3) := by decide +kernel
theorem dX4_give_135 : decode cX4_give 135 = .ok (.iconst 1, 1) := by decide +kernel
theorem dX4_give_136 : decode cX4_give 136 = .ok (.goto 4, 3) := by decide +kernel
theorem dX4_give_139 : decode cX4_give 139 = .ok (.iconst 0, 1) := by decide +kernel
theorem dX4_give_140 : decode cX4_give 140 = .ok (.iastore, 1) := by decide +kernel
theorem dX4_give_141 : decode cX4_give 141 = .ok (.goto 43, 3) := by decide +kernel
theorem dX4_give_144 : decode cX4_give 144 = .ok (.iload 4, 2) := by decide +kernel
theorem dX4_give_146 : decode cX4_give 146 = .ok (.iconst 2, 1) := by decide +kernel
theorem dX4_give_147 : decode cX4_give 147 = .ok (.if_icmp .lt 37, 3) := by decide +kernel
theorem dX4_give_150 : decode cX4_give 150 = .ok (.iinc 4 (-1), 3) := by decide +kernel
theorem dX4_give_153 : decode cX4_give 153 = .ok (.aload_n 0, 1) := by decide +kernel
theorem dX4_give_154 : decode cX4_give 154 = .ok (.getfield 19, 3) := by decide +kernel
theorem dX4_give_157 : decode cX4_give 157 = .ok (.iload 4, 2) := by decide +kernel
theorem dX4_give_159 : decode cX4_give 159 = .ok (.iconst 1, 1) := by decide +kernel
theorem dX4_give_160 : decode cX4_give 160 = .ok (.isub, 1) := by decide +kernel
theorem dX4_give_161 : decode cX4_give 161 = .ok (.iload 6, 2) := by decide +kernel
theorem dX4_give_163 : decode cX4_give 163 = .ok (.ineg, 1) := by decide +kernel
theorem dX4_give_164 : decode cX4_give 164 = .ok (.aload_n 0, 1) := by decide +kernel
theorem dX4_give_165 : decode cX4_give 165 = .ok (.getfield 19, 3) := by decide +kernel
theorem dX4_give_168 : decode cX4_give 168 = .ok (.iload 4, 2) := by decide +kernel
theorem dX4_give_170 : decode cX4_give 170 = .ok (.iconst 1, 1) := by decide +kernel
theorem dX4_give_171 : decode cX4_give 171 = .ok (.isub, 1) := by decide +kernel
theorem dX4_give_172 : decode cX4_give 172 = .ok (.iaload, 1) := by decide +kernel
theorem dX4_give_173 : decode cX4_give 173 = .ok (.aload_n 0, 1) := by decide +kernel
theorem dX4_give_174 : decode cX4_give 174 = .ok (.getfield 19, 3) := by decide +kernel
theorem dX4_give_177 : decode cX4_give 177 = .ok (.iload 4, 2) := by decide +kernel
theorem dX4_give_179 : decode cX4_give 179 = .ok (.iaload, 1) := by decide +kernel
theorem dX4_give_180 : decode cX4_give 180 = .ok (.invokestatic 26, 3) := by decide +kernel
theorem dX4_give_183 : decode cX4_give 183 = .ok (.iastore, 1) := by decide +kernel
theorem dX4_give_184 : decode cX4_give 184 = .ok (.iinc 5 1, 3) := by decide +kernel
theorem dX4_give_187 : decode cX4_give 187 = .ok (.goto (-166), 3) := by decide +kernel
theorem dX4_give_190 : decode cX4_give 190 = .ok (.iconst 0, 1) := by decide +kernel
theorem dX4_give_191 : decode cX4_give 191 = .ok (.aload_n 0, 1) := by decide +kernel
theorem dX4_give_192 : decode cX4_give 192 = .ok (.getfield 9, 3) := by decide +kernel
theorem dX4_give_195 : decode cX4_give 195 = .ok (.ifCond .ne 8, 3) := by decide +kernel
theorem dX4_give_198 : decode cX4_give 198 = .ok (.bipush 99, 2) := by decide +kernel
theorem dX4_give_200 : decode cX4_give 200 = .ok (.goto 4, 3) := by decide +kernel
theorem dX4_give_203 : decode cX4_give 203 = .ok (.iconst 1, 1) := by decide +kernel
theorem dX4_give_204 : decode cX4_give 204 = .ok (.aload_n 0, 1) := by decide +kernel
theorem dX4_give_205 : decode cX4_give 205 = .ok (.getfield 19, 3) := by decide +kernel
theorem dX4_give_208 : decode cX4_give 208 = .ok (.iconst 0, 1) := by decide +kernel
theorem dX4_give_209 : decode cX4_give 209 = .ok (.iaload, 1) := by decide +kernel
theorem dX4_give_210 : decode cX4_give 210 = .ok (.invokestatic 30, 3) := by decide +kernel
theorem dX4_give_213 : decode cX4_give 213 = .ok (.invokestatic 35, 3) := by decide +kernel
theorem dX4_give_216 : decode cX4_give 216 = .ok (.ireturn, 1) := by decide +kernel
theorem dX4_withoutText_0 : decode cX4_withoutText 0 = .ok (.aload_n 0, 1) := by decide +kernel
theorem dX4_withoutText_1 : decode cX4_withoutText 1 = .ok (.getfield 9, 3) := by decide +kernel
theorem dX4_withoutText_4 : decode cX4_withoutText 4 = .ok (.ifCond .ne 5, 3) := by decide +kernel
theorem dX4_withoutText_7 : decode cX4_withoutText 7 = .ok (.iconst 3, 1) := by decide +kernel
theorem dX4_withoutText_8 : decode cX4_withoutText 8 = .ok (.ireturn, 1) := by decide +kernel
theorem dX4_withoutText_9 : decode cX4_withoutText 9 = .ok (.iload_n 1, 1) := by decide +kernel
theorem dX4_withoutText_10 : decode cX4_withoutText 10 = .ok (.ifCond .ne 8, 3) := by decide +kernel
theorem dX4_withoutText_13 : decode cX4_withoutText 13 = .ok (.iload_n 2, 1) := by decide +kernel
theorem dX4_withoutText_14 : decode cX4_withoutText 14 = .ok (.iconst 1, 1) := by decide +kernel
theorem dX4_withoutText_15 : decode cX4_withoutText 15 = .ok (.if_icmp .eq 13, 3) := by decide +kernel
theorem dX4_withoutText_18 : decode cX4_withoutText 18 = .ok (.iload_n 1, 1) := by decide +kernel
theorem dX4_withoutText_19 : decode cX4_withoutText 19 = .ok (.iconst 1, 1) := by decide +kernel
theorem dX4_withoutText_20 : decode cX4_withoutText 20 = .ok (.if_icmp .ne 12, 3) := by decide +kernel
theorem dX4_withoutText_23 : decode cX4_withoutText 23 = .ok (.iload_n 2, 1) := by decide +kernel
theorem dX4_withoutText_24 : decode cX4_withoutText 24 = .ok (.iconst 4, 1) := by decide +kernel
theorem dX4_withoutText_25 : decode cX4_withoutText 25 = .ok (.if_icmp .ne 7, 3) := by decide +kernel
theorem dX4_withoutText_28 : decode cX4_withoutText 28 = .ok (.iconst 1, 1) := by decide +kernel
theorem dX4_withoutText_29 : decode cX4_withoutText 29 = .ok (.goto 4, 3) := by decide +kernel
theorem dX4_withoutText_32 : decode cX4_withoutText 32 = .ok (.iconst 0, 1) := by decide +kernel
theorem dX4_withoutText_33 : decode cX4_withoutText 33 = .ok (.ireturn, 1) := by decide +kernel
theorem dX4_joined_0 : decode cX4_joined 0 = .ok (.iload_n 0, 1) := by decide +kernel
theorem dX4_joined_1 : decode cX4_joined 1 = .ok (.tableswitch 202 37 62 #[143, 188, 202, 202, 202, 127, 119, 202, 123, 202, 131, 202, 202, 202, 202, 202, 202, 202, 202, 202, 202, 202, 202, 155, 166, 177], 119) := by decide +kernel
theorem dX4_joined_120 : decode cX4_joined 120 = .ok (.iload_n 1, 1) := by decide +kernel
theorem dX4_joined_121 : decode cX4_joined 121 = .ok (.iload_n 2, 1) := by decide +kernel
theorem dX4_joined_122 : decode cX4_joined 122 = .ok (.iadd, 1) := by decide +kernel
theorem dX4_joined_123 : decode cX4_joined 123 = .ok (.ireturn, 1) := by decide +kernel
theorem dX4_joined_124 : decode cX4_joined 124 = .ok (.iload_n 1, 1) := by decide +kernel
theorem dX4_joined_125 : decode cX4_joined 125 = .ok (.iload_n 2, 1) := by decide +kernel
theorem dX4_joined_126 : decode cX4_joined 126 = .ok (.isub, 1) := by decide +kernel
theorem dX4_joined_127 : decode cX4_joined 127 = .ok (.ireturn, 1) := by decide +kernel
theorem dX4_joined_128 : decode cX4_joined 128 = .ok (.iload_n 1, 1) := by decide +kernel
theorem dX4_joined_129 : decode cX4_joined 129 = .ok (.iload_n 2, 1) := by decide +kernel
theorem dX4_joined_130 : decode cX4_joined 130 = .ok (.imul, 1) := by decide +kernel
theorem dX4_joined_131 : decode cX4_joined 131 = .ok (.ireturn, 1) := by decide +kernel
theorem dX4_joined_132 : decode cX4_joined 132 = .ok (.iload_n 2, 1) := by decide +kernel
theorem dX4_joined_133 : decode cX4_joined 133 = .ok (.ifCond .ne 7, 3) := by decide +kernel
theorem dX4_joined_136 : decode cX4_joined 136 = .ok (.iconst 0, 1) := by decide +kernel
theorem dX4_joined_137 : decode cX4_joined 137 = .ok (.goto 6, 3) := by decide +kernel
theorem dX4_joined_140 : decode cX4_joined 140 = .ok (.iload_n 1, 1) := by decide +kernel
theorem dX4_joined_141 : decode cX4_joined 141 = .ok (.iload_n 2, 1) := by decide +kernel
theorem dX4_joined_142 : decode cX4_joined 142 = .ok (.idiv, 1) := by decide +kernel
theorem dX4_joined_143 : decode cX4_joined 143 = .ok (.ireturn, 1) := by decide +kernel
theorem dX4_joined_144 : decode cX4_joined 144 = .ok (.iload_n 2, 1) := by decide +kernel
theorem dX4_joined_145 : decode cX4_joined 145 = .ok (.ifCond .ne 7, 3) := by decide +kernel
theorem dX4_joined_148 : decode cX4_joined 148 = .ok (.iconst 0, 1) := by decide +kernel
theorem dX4_joined_149 : decode cX4_joined 149 = .ok (.goto 6, 3) := by decide +kernel
theorem dX4_joined_152 : decode cX4_joined 152 = .ok (.iload_n 1, 1) := by decide +kernel
theorem dX4_joined_153 : decode cX4_joined 153 = .ok (.iload_n 2, 1) := by decide +kernel
theorem dX4_joined_154 : decode cX4_joined 154 = .ok (.irem, 1) := by decide +kernel
theorem dX4_joined_155 : decode cX4_joined 155 = .ok (.ireturn, 1) := by decide +kernel
theorem dX4_joined_156 : decode cX4_joined 156 = .ok (.iload_n 1, 1) := by decide +kernel
theorem dX4_joined_157 : decode cX4_joined 157 = .ok (.iload_n 2, 1) := by decide +kernel
theorem dX4_joined_158 : decode cX4_joined 158 = .ok (.if_icmp .ge 7, 3) := by decide +kernel
theorem dX4_joined_161 : decode cX4_joined 161 = .ok (.iconst 1, 1) := by decide +kernel
theorem dX4_joined_162 : decode cX4_joined 162 = .ok (.goto 4, 3) := by decide +kernel
theorem dX4_joined_165 : decode cX4_joined 165 = .ok (.iconst 0, 1) := by decide +kernel
theorem dX4_joined_166 : decode cX4_joined 166 = .ok (.ireturn, 1) := by decide +kernel
theorem dX4_joined_167 : decode cX4_joined 167 = .ok (.iload_n 1, 1) := by decide +kernel
theorem dX4_joined_168 : decode cX4_joined 168 = .ok (.iload_n 2, 1) := by decide +kernel
theorem dX4_joined_169 : decode cX4_joined 169 = .ok (.if_icmp .ne 7, 3) := by decide +kernel
theorem dX4_joined_172 : decode cX4_joined 172 = .ok (.iconst 1, 1) := by decide +kernel
theorem dX4_joined_173 : decode cX4_joined 173 = .ok (.goto 4, 3) := by decide +kernel
theorem dX4_joined_176 : decode cX4_joined 176 = .ok (.iconst 0, 1) := by decide +kernel
theorem dX4_joined_177 : decode cX4_joined 177 = .ok (.ireturn, 1) := by decide +kernel
theorem dX4_joined_178 : decode cX4_joined 178 = .ok (.iload_n 1, 1) := by decide +kernel
theorem dX4_joined_179 : decode cX4_joined 179 = .ok (.iload_n 2, 1) := by decide +kernel
theorem dX4_joined_180 : decode cX4_joined 180 = .ok (.if_icmp .le 7, 3) := by decide +kernel
theorem dX4_joined_183 : decode cX4_joined 183 = .ok (.iconst 1, 1) := by decide +kernel
theorem dX4_joined_184 : decode cX4_joined 184 = .ok (.goto 4, 3) := by decide +kernel
theorem dX4_joined_187 : decode cX4_joined 187 = .ok (.iconst 0, 1) := by decide +kernel
theorem dX4_joined_188 : decode cX4_joined 188 = .ok (.ireturn, 1) := by decide +kernel
theorem dX4_joined_189 : decode cX4_joined 189 = .ok (.iload_n 1, 1) := by decide +kernel
theorem dX4_joined_190 : decode cX4_joined 190 = .ok (.ifCond .eq 11, 3) := by decide +kernel
theorem dX4_joined_193 : decode cX4_joined 193 = .ok (.iload_n 2, 1) := by decide +kernel
theorem dX4_joined_194 : decode cX4_joined 194 = .ok (.ifCond .eq 7, 3) := by decide +kernel
theorem dX4_joined_197 : decode cX4_joined 197 = .ok (.iconst 1, 1) := by decide +kernel
theorem dX4_joined_198 : decode cX4_joined 198 = .ok (.goto 4, 3) := by decide +kernel
theorem dX4_joined_201 : decode cX4_joined 201 = .ok (.iconst 0, 1) := by decide +kernel
theorem dX4_joined_202 : decode cX4_joined 202 = .ok (.ireturn, 1) := by decide +kernel
theorem dX4_joined_203 : decode cX4_joined 203 = .ok (.iload_n 1, 1) := by decide +kernel
theorem dX4_joined_204 : decode cX4_joined 204 = .ok (.ifCond .ne 7, 3) := by decide +kernel
theorem dX4_joined_207 : decode cX4_joined 207 = .ok (.iload_n 2, 1) := by decide +kernel
theorem dX4_joined_208 : decode cX4_joined 208 = .ok (.ifCond .eq 7, 3) := by decide +kernel
theorem dX4_joined_211 : decode cX4_joined 211 = .ok (.iconst 1, 1) := by decide +kernel
theorem dX4_joined_212 : decode cX4_joined 212 = .ok (.goto 4, 3) := by decide +kernel
theorem dX4_joined_215 : decode cX4_joined 215 = .ok (.iconst 0, 1) := by decide +kernel
theorem dX4_joined_216 : decode cX4_joined 216 = .ok (.ireturn, 1) := by decide +kernel
theorem dX5_init_0 : decode cX5_init 0 = .ok (.aload_n 0, 1) := by decide +kernel
theorem dX5_init_1 : decode cX5_init 1 = .ok (.invokespecial 3, 3) := by decide +kernel
theorem dX5_init_4 : decode cX5_init 4 = .ok (.aload_n 0, 1) := by decide +kernel
theorem dX5_init_5 : decode cX5_init 5 = .ok (.bipush 50, 2) := by decide +kernel
theorem dX5_init_7 : decode cX5_init 7 = .ok (.newarray .int, 2) := by decide +kernel
theorem dX5_init_9 : decode cX5_init 9 = .ok (.putfield 9, 3) := by decide +kernel
theorem dX5_init_12 : decode cX5_init 12 = .ok (.aload_n 0, 1) := by decide +kernel
theorem dX5_init_13 : decode cX5_init 13 = .ok (.bipush 50, 2) := by decide +kernel
theorem dX5_init_15 : decode cX5_init 15 = .ok (.newarray .int, 2) := by decide +kernel
theorem dX5_init_17 : decode cX5_init 17 = .ok (.putfield 15, 3) := by decide +kernel
theorem dX5_init_20 : decode cX5_init 20 = .ok (.return_, 1) := by decide +kernel
theorem dX5_faultIn_0 : decode cX5_faultIn 0 = .ok (.aload_n 1, 1) := by decide +kernel
theorem dX5_faultIn_1 : decode cX5_faultIn 1 = .ok (.iconst 0, 1) := by decide +kernel
theorem dX5_faultIn_2 : decode cX5_faultIn 2 = .ok (.aload_n 0, 1) := by decide +kernel
theorem dX5_faultIn_3 : decode cX5_faultIn 3 = .ok (.getfield 9, 3) := by decide +kernel
theorem dX5_faultIn_6 : decode cX5_faultIn 6 = .ok (.iconst 0, 1) := by decide +kernel
theorem dX5_faultIn_7 : decode cX5_faultIn 7 = .ok (.iload_n 2, 1) := by decide +kernel
theorem dX5_faultIn_8 : decode cX5_faultIn 8 = .ok (.invokestatic 18, 3) := by decide +kernel
theorem dX5_faultIn_11 : decode cX5_faultIn 11 = .ok (.aload_n 0, 1) := by decide +kernel
theorem dX5_faultIn_12 : decode cX5_faultIn 12 = .ok (.iload_n 2, 1) := by decide +kernel
theorem dX5_faultIn_13 : decode cX5_faultIn 13 = .ok (.putfield 24, 3) := by decide +kernel
theorem dX5_faultIn_16 : decode cX5_faultIn 16 = .ok (.aload_n 0, 1) := by decide +kernel
theorem dX5_faultIn_17 : decode cX5_faultIn 17 = .ok (.iload_n 3, 1) := by decide +kernel
theorem dX5_faultIn_18 : decode cX5_faultIn 18 = .ok (.putfield 28, 3) := by decide +kernel
theorem dX5_faultIn_21 : decode cX5_faultIn 21 = .ok (.aload_n 0, 1) := by decide +kernel
theorem dX5_faultIn_22 : decode cX5_faultIn 22 = .ok (.iconst 0, 1) := by decide +kernel
theorem dX5_faultIn_23 : decode cX5_faultIn 23 = .ok (.putfield 31, 3) := by decide +kernel
theorem dX5_faultIn_26 : decode cX5_faultIn 26 = .ok (.aload_n 0, 1) := by decide +kernel
theorem dX5_faultIn_27 : decode cX5_faultIn 27 = .ok (.iconst 0, 1) := by decide +kernel
theorem dX5_faultIn_28 : decode cX5_faultIn 28 = .ok (.putfield 34, 3) := by decide +kernel
theorem dX5_faultIn_31 : decode cX5_faultIn 31 = .ok (.aload_n 0, 1) := by decide +kernel
theorem dX5_faultIn_32 : decode cX5_faultIn 32 = .ok (.iconst 0, 1) := by decide +kernel
theorem dX5_faultIn_33 : decode cX5_faultIn 33 = .ok (.iconst 0, 1) := by decide +kernel
theorem dX5_faultIn_34 : decode cX5_faultIn 34 = .ok (.invokevirtual 37, 3) := by decide +kernel
theorem dX5_faultIn_37 : decode cX5_faultIn 37 = .ok (.ifCond .eq 18, 3) := by decide +kernel
theorem dX5_faultIn_40 : decode cX5_faultIn 40 = .ok (.aload_n 0, 1) := by decide +kernel
theorem dX5_faultIn_41 : decode cX5_faultIn 41 = .ok (.getfield 31, 3) := by decide +kernel
theorem dX5_faultIn_44 : decode cX5_faultIn 44 = .ok (.aload_n 0, 1) := by decide +kernel
theorem dX5_faultIn_45 : decode cX5_faultIn 45 = .ok (.getfield 24, 3) := by decide +kernel
theorem dX5_faultIn_48 : decode cX5_faultIn 48 = .ok (.if_icmp .ne 7, 3) := by decide +kernel
theorem dX5_faultIn_51 : decode cX5_faultIn 51 = .ok (.iconst (-1), 1) := by decide +kernel
theorem dX5_faultIn_52 : decode cX5_faultIn 52 = .ok (.goto 7, 3) := by decide +kernel
theorem dX5_faultIn_55 : decode cX5_faultIn 55 = .ok (.aload_n 0, 1) := by decide +kernel
theorem dX5_faultIn_56 : decode cX5_faultIn 56 = .ok (.getfield 31, 3) := by decide +kernel
theorem dX5_faultIn_59 : decode cX5_faultIn 59 = .ok (.ireturn, 1) := by decide +kernel
theorem dX5_lawRead_0 : decode cX5_lawRead 0 = .ok (.aload_n 0, 1) := by decide +kernel
theorem dX5_lawRead_1 : decode cX5_lawRead 1 = .ok (.getfield 34, 3) := by decide +kernel
theorem dX5_lawRead_4 : decode cX5_lawRead 4 = .ok (.newarray .int, 2) := by decide +kernel
theorem dX5_lawRead_6 : decode cX5_lawRead 6 = .ok (.astore_n 1, 1) := by decide +kernel
theorem dX5_lawRead_7 : decode cX5_lawRead 7 = .ok (.aload_n 0, 1) := by decide +kernel
theorem dX5_lawRead_8 : decode cX5_lawRead 8 = .ok (.getfield 15, 3) := by decide +kernel
theorem dX5_lawRead_11 : decode cX5_lawRead 11 = .ok (.iconst 0, 1) := by decide +kernel
theorem dX5_lawRead_12 : decode cX5_lawRead 12 = .ok (.aload_n 1, 1) := by decide +kernel
theorem dX5_lawRead_13 : decode cX5_lawRead 13 = .ok (.iconst 0, 1) := by decide +kernel
theorem dX5_lawRead_14 : decode cX5_lawRead 14 = .ok (.aload_n 0, 1) := by decide +kernel
theorem dX5_lawRead_15 : decode cX5_lawRead 15 = .ok (.getfield 34, 3) := by decide +kernel
theorem dX5_lawRead_18 : decode cX5_lawRead 18 = .ok (.invokestatic 18, 3) := by decide +kernel
theorem dX5_lawRead_21 : decode cX5_lawRead 21 = .ok (.new 41, 3) := by decide +kernel
theorem dX5_lawRead_24 : decode cX5_lawRead 24 = .ok (.dup, 1) := by decide +kernel
theorem dX5_lawRead_25 : decode cX5_lawRead 25 = .ok (.aload_n 0, 1) := by decide +kernel
theorem dX5_lawRead_26 : decode cX5_lawRead 26 = .ok (.getfield 28, 3) := by decide +kernel
theorem dX5_lawRead_29 : decode cX5_lawRead 29 = .ok (.aload_n 1, 1) := by decide +kernel
theorem dX5_lawRead_30 : decode cX5_lawRead 30 = .ok (.invokespecial 43, 3) := by decide +kernel
theorem dX5_lawRead_33 : decode cX5_lawRead 33 = .ok (.areturn, 1) := by decide +kernel
theorem dX5_reads_0 : decode cX5_reads 0 = .ok (.iload_n 1, 1) := by decide +kernel
theorem dX5_reads_1 : decode cX5_reads 1 = .ok (.iconst 5, 1) := by decide +kernel
theorem dX5_reads_2 : decode cX5_reads 2 = .ok (.if_icmp .lt 9, 3) := by decide +kernel
theorem dX5_reads_5 : decode cX5_reads 5 = .ok (.aload_n 0, 1) := by decide +kernel
theorem dX5_reads_6 : decode cX5_reads 6 = .ok (.iload_n 2, 1) := by decide +kernel
theorem dX5_reads_7 : decode cX5_reads 7 = .ok (.invokevirtual 46, 3) := by decide +kernel
theorem dX5_reads_10 : decode cX5_reads 10 = .ok (.ireturn, 1) := by decide +kernel
theorem dX5_reads_11 : decode cX5_reads 11 = .ok (.aload_n 0, 1) := by decide +kernel
theorem dX5_reads_12 : decode cX5_reads 12 = .ok (.iload_n 1, 1) := by decide +kernel
theorem dX5_reads_13 : decode cX5_reads 13 = .ok (.iconst 1, 1) := by decide +kernel
theorem dX5_reads_14 : decode cX5_reads 14 = .ok (.iadd, 1) := by decide +kernel
theorem dX5_reads_15 : decode cX5_reads 15 = .ok (.iload_n 2, 1) := by decide +kernel
theorem dX5_reads_16 : decode cX5_reads 16 = .ok (.invokevirtual 37, 3) := by decide +kernel
theorem dX5_reads_19 : decode cX5_reads 19 = .ok (.ifCond .ne 5, 3) := by decide +kernel
theorem dX5_reads_22 : decode cX5_reads 22 = .ok (.iconst 0, 1) := by decide +kernel
theorem dX5_reads_23 : decode cX5_reads 23 = .ok (.ireturn, 1) := by decide +kernel
theorem dX5_reads_24 : decode cX5_reads 24 = .ok (.iload_n 1, 1) := by decide +kernel
theorem dX5_reads_25 : decode cX5_reads 25 = .ok (.iconst 2, 1) := by decide +kernel
theorem dX5_reads_26 : decode cX5_reads 26 = .ok (.if_icmp .ne 7, 3) := by decide +kernel
theorem dX5_reads_29 : decode cX5_reads 29 = .ok (.iconst 1, 1) := by decide +kernel
theorem dX5_reads_30 : decode cX5_reads 30 = .ok (.goto 5, 3) := by decide +kernel
theorem dX5_reads_33 : decode cX5_reads 33 = .ok (.bipush 50, 2) := by decide +kernel
theorem dX5_reads_35 : decode cX5_reads 35 = .ok (.istore_n 3, 1) := by decide +kernel
theorem dX5_reads_36 : decode cX5_reads 36 = .ok (.iconst 0, 1) := by decide +kernel
theorem dX5_reads_37 : decode cX5_reads 37 = .ok (.istore 4, 2) := by decide +kernel
theorem dX5_reads_39 : decode cX5_reads 39 = .ok (.iload 4, 2) := by decide +kernel
theorem dX5_reads_41 : decode cX5_reads 41 = .ok (.iload_n 3, 1) := by decide +kernel
theorem dX5_reads_42 : decode cX5_reads 42 = .ok (.if_icmp .ge 56, 3) := by decide +kernel
theorem dX5_reads_45 : decode cX5_reads 45 = .ok (.aload_n 0, 1) := by decide +kernel
theorem dX5_reads_46 : decode cX5_reads 46 = .ok (.invokevirtual 50, 3) := by decide +kernel
theorem dX5_reads_49 : decode cX5_reads 49 = .ok (.invokestatic 54, 3) := by decide +kernel
theorem dX5_reads_52 : decode cX5_reads 52 = .ok (.iload_n 1, 1) := by decide +kernel
theorem dX5_reads_53 : decode cX5_reads 53 = .ok (.if_icmp .ne 45, 3) := by decide +kernel
theorem dX5_reads_56 : decode cX5_reads 56 = .ok (.aload_n 0, 1) := by decide +kernel
theorem dX5_reads_57 : decode cX5_reads 57 = .ok (.invokevirtual 50, 3) := by decide +kernel
theorem dX5_reads_60 : decode cX5_reads 60 = .ok (.istore 5, 2) := by decide +kernel
theorem dX5_reads_62 : decode cX5_reads 62 = .ok (.aload_n 0, 1) := by decide +kernel
theorem dX5_reads_63 : decode cX5_reads 63 = .ok (.dup, 1) := by decide +kernel
theorem dX5_reads_64 : decode cX5_reads 64 = .ok (.getfield 31, 3) := by decide +kernel
theorem dX5_reads_67 : decode cX5_reads 67 = .ok (.iconst 1, 1) := by decide +kernel
theorem dX5_reads_68 : decode cX5_reads 68 = .ok (.iadd, 1) := by decide +kernel
theorem dX5_reads_69 : decode cX5_reads 69 = .ok (.putfield 31, 3) := by decide +kernel
theorem dX5_reads_72 : decode cX5_reads 72 = .ok (.aload_n 0, 1) := by decide +kernel
theorem dX5_reads_73 : decode cX5_reads 73 = .ok (.iload_n 1, 1) := by decide +kernel
theorem dX5_reads_74 : decode cX5_reads 74 = .ok (.iconst 1, 1) := by decide +kernel
theorem dX5_reads_75 : decode cX5_reads 75 = .ok (.iadd, 1) := by decide +kernel
theorem dX5_reads_76 : decode cX5_reads 76 = .ok (.iload_n 2, 1) := by decide +kernel
theorem dX5_reads_77 : decode cX5_reads 77 = .ok (.invokevirtual 37, 3) := by decide +kernel
theorem dX5_reads_80 : decode cX5_reads 80 = .ok (.ifCond .ne 5, 3) := by decide +kernel
theorem dX5_reads_83 : decode cX5_reads 83 = .ok (.iconst 0, 1) := by decide +kernel
theorem dX5_reads_84 : decode cX5_reads 84 = .ok (.ireturn, 1) := by decide +kernel
theorem dX5_reads_85 : decode cX5_reads 85 = .ok (.aload_n 0, 1) := by decide +kernel
theorem dX5_reads_86 : decode cX5_reads 86 = .ok (.iload 5, 2) := by decide +kernel
theorem dX5_reads_88 : decode cX5_reads 88 = .ok (.ineg, 1) := by decide +kernel
theorem dX5_reads_89 : decode cX5_reads 89 = .ok (.invokevirtual 58, 3) := by decide +kernel
theorem dX5_reads_92 : decode cX5_reads 92 = .ok (.iinc 4 1, 3) := by decide +kernel
theorem dX5_reads_95 : decode cX5_reads 95 = .ok (.goto (-56), 3) := by decide +kernel
theorem dX5_reads_98 : decode cX5_reads 98 = .ok (.iconst 1, 1) := by decide +kernel
theorem dX5_reads_99 : decode cX5_reads 99 = .ok (.ireturn, 1) := by decide +kernel
theorem dX5_readsOne_0 : decode cX5_readsOne 0 = .ok (.aload_n 0, 1) := by decide +kernel
theorem dX5_readsOne_1 : decode cX5_readsOne 1 = .ok (.invokevirtual 50, 3) := by decide +kernel
theorem dX5_readsOne_4 : decode cX5_readsOne 4 = .ok (.istore_n 2, 1) := by decide +kernel
theorem dX5_readsOne_5 : decode cX5_readsOne 5 = .ok (.iload_n 2, 1) := by decide +kernel
theorem dX5_readsOne_6 : decode cX5_readsOne 6 = .ok (.invokestatic 62, 3) := by decide +kernel
theorem dX5_readsOne_9 : decode cX5_readsOne 9 = .ok (.ifCond .eq 9, 3) := by decide +kernel
theorem dX5_readsOne_12 : decode cX5_readsOne 12 = .ok (.aload_n 0, 1) := by decide +kernel
theorem dX5_readsOne_13 : decode cX5_readsOne 13 = .ok (.invokevirtual 65, 3) := by decide +kernel
theorem dX5_readsOne_16 : decode cX5_readsOne 16 = .ok (.iconst 1, 1) := by decide +kernel
theorem dX5_readsOne_17 : decode cX5_readsOne 17 = .ok (.ireturn, 1) := by decide +kernel
theorem dX5_readsOne_18 : decode cX5_readsOne 18 = .ok (.aload_n 0, 1) := by decide +kernel
theorem dX5_readsOne_19 : decode cX5_readsOne 19 = .ok (.iload_n 2, 1) := by decide +kernel
theorem dX5_readsOne_20 : decode cX5_readsOne 20 = .ok (.invokevirtual 68, 3) := by decide +kernel
theorem dX5_readsOne_23 : decode cX5_readsOne 23 = .ok (.istore_n 3, 1) := by decide +kernel
theorem dX5_readsOne_24 : decode cX5_readsOne 24 = .ok (.iload_n 3, 1) := by decide +kernel
theorem dX5_readsOne_25 : decode cX5_readsOne 25 = .ok (.ifCond .lt 22, 3) := by decide +kernel
theorem dX5_readsOne_28 : decode cX5_readsOne 28 = .ok (.aload_n 0, 1) := by decide +kernel
theorem dX5_readsOne_29 : decode cX5_readsOne 29 = .ok (.dup, 1) := by decide +kernel
theorem dX5_readsOne_30 : decode cX5_readsOne 30 = .ok (.getfield 31, 3) := by decide +kernel
theorem dX5_readsOne_33 : decode cX5_readsOne 33 = .ok (.iconst 1, 1) := by decide +kernel
theorem dX5_readsOne_34 : decode cX5_readsOne 34 = .ok (.iadd, 1) := by decide +kernel
theorem dX5_readsOne_35 : decode cX5_readsOne 35 = .ok (.putfield 31, 3) := by decide +kernel
theorem dX5_readsOne_38 : decode cX5_readsOne 38 = .ok (.aload_n 0, 1) := by decide +kernel
theorem dX5_readsOne_39 : decode cX5_readsOne 39 = .ok (.iconst (-1), 1) := by decide +kernel
theorem dX5_readsOne_40 : decode cX5_readsOne 40 = .ok (.iload_n 3, 1) := by decide +kernel
theorem dX5_readsOne_41 : decode cX5_readsOne 41 = .ok (.isub, 1) := by decide +kernel
theorem dX5_readsOne_42 : decode cX5_readsOne 42 = .ok (.invokevirtual 58, 3) := by decide +kernel
theorem dX5_readsOne_45 : decode cX5_readsOne 45 = .ok (.iconst 1, 1) := by decide +kernel
theorem dX5_readsOne_46 : decode cX5_readsOne 46 = .ok (.ireturn, 1) := by decide +kernel
theorem dX5_readsOne_47 : decode cX5_readsOne 47 = .ok (.iload_n 2, 1) := by decide +kernel
theorem dX5_readsOne_48 : decode cX5_readsOne 48 = .ok (.bipush 33, 2) := by decide +kernel
theorem dX5_readsOne_50 : decode cX5_readsOne 50 = .ok (.if_icmp .eq 9, 3) := by decide +kernel
theorem dX5_readsOne_53 : decode cX5_readsOne 53 = .ok (.iload_n 2, 1) := by decide +kernel
theorem dX5_readsOne_54 : decode cX5_readsOne 54 = .ok (.bipush 40, 2) := by decide +kernel
theorem dX5_readsOne_56 : decode cX5_readsOne 56 = .ok (.if_icmp .ne 8, 3) := by decide +kernel
theorem dX5_readsOne_59 : decode cX5_readsOne 59 = .ok (.iload_n 1, 1) := by decide +kernel
theorem dX5_readsOne_60 : decode cX5_readsOne 60 = .ok (.iconst 5, 1) := by decide +kernel
theorem dX5_readsOne_61 : decode cX5_readsOne 61 = .ok (.if_icmp .lt 5, 3) := by decide +kernel
theorem dX5_readsOne_64 : decode cX5_readsOne 64 = .ok (.iconst 0, 1) := by decide +kernel
theorem dX5_readsOne_65 : decode cX5_readsOne 65 = .ok (.ireturn, 1) := by decide +kernel
theorem dX5_readsOne_66 : decode cX5_readsOne 66 = .ok (.aload_n 0, 1) := by decide +kernel
theorem dX5_readsOne_67 : decode cX5_readsOne 67 = .ok (.dup, 1) := by decide +kernel
theorem dX5_readsOne_68 : decode cX5_readsOne 68 = .ok (.getfield 31, 3) := by decide +kernel
theorem dX5_readsOne_71 : decode cX5_readsOne 71 = .ok (.iconst 1, 1) := by decide +kernel
theorem dX5_readsOne_72 : decode cX5_readsOne 72 = .ok (.iadd, 1) := by decide +kernel
theorem dX5_readsOne_73 : decode cX5_readsOne 73 = .ok (.putfield 31, 3) := by decide +kernel
theorem dX5_readsOne_76 : decode cX5_readsOne 76 = .ok (.iload_n 2, 1) := by decide +kernel
theorem dX5_readsOne_77 : decode cX5_readsOne 77 = .ok (.bipush 33, 2) := by decide +kernel
theorem dX5_readsOne_79 : decode cX5_readsOne 79 = .ok (.if_icmp .ne 13, 3) := by decide +kernel
theorem dX5_readsOne_82 : decode cX5_readsOne 82 = .ok (.aload_n 0, 1) := by decide +kernel
theorem dX5_readsOne_83 : decode cX5_readsOne 83 = .ok (.iload_n 1, 1) := by decide +kernel
theorem dX5_readsOne_84 : decode cX5_readsOne 84 = .ok (.iconst 1, 1) := by decide +kernel
theorem dX5_readsOne_85 : decode cX5_readsOne 85 = .ok (.iadd, 1) := by decide +kernel
theorem dX5_readsOne_86 : decode cX5_readsOne 86 = .ok (.invokevirtual 71, 3) := by decide +kernel
theorem dX5_readsOne_89 : decode cX5_readsOne 89 = .ok (.goto 10, 3) := by decide +kernel
theorem dX5_readsOne_92 : decode cX5_readsOne 92 = .ok (.aload_n 0, 1) := by decide +kernel
theorem dX5_readsOne_93 : decode cX5_readsOne 93 = .ok (.iload_n 1, 1) := by decide +kernel
theorem dX5_readsOne_94 : decode cX5_readsOne 94 = .ok (.iconst 1, 1) := by decide +kernel
theorem dX5_readsOne_95 : decode cX5_readsOne 95 = .ok (.iadd, 1) := by decide +kernel
theorem dX5_readsOne_96 : decode cX5_readsOne 96 = .ok (.invokevirtual 74, 3) := by decide +kernel
theorem dX5_readsOne_99 : decode cX5_readsOne 99 = .ok (.ireturn, 1) := by decide +kernel
theorem dX5_readsDenied_0 : decode cX5_readsDenied 0 = .ok (.aload_n 0, 1) := by decide +kernel
theorem dX5_readsDenied_1 : decode cX5_readsDenied 1 = .ok (.iload_n 1, 1) := by decide +kernel
theorem dX5_readsDenied_2 : decode cX5_readsDenied 2 = .ok (.invokevirtual 46, 3) := by decide +kernel
theorem dX5_readsDenied_5 : decode cX5_readsDenied 5 = .ok (.ifCond .ne 5, 3) := by decide +kernel
theorem dX5_readsDenied_8 : decode cX5_readsDenied 8 = .ok (.iconst 0, 1) := by decide +kernel
theorem dX5_readsDenied_9 : decode cX5_readsDenied 9 = .ok (.ireturn, 1) := by decide +kernel
theorem dX5_readsDenied_10 : decode cX5_readsDenied 10 = .ok (.aload_n 0, 1) := by decide +kernel
theorem dX5_readsDenied_11 : decode cX5_readsDenied 11 = .ok (.bipush (-33), 2) := by decide +kernel
theorem dX5_readsDenied_13 : decode cX5_readsDenied 13 = .ok (.invokevirtual 58, 3) := by decide +kernel
theorem dX5_readsDenied_16 : decode cX5_readsDenied 16 = .ok (.iconst 1, 1) := by decide +kernel
theorem dX5_readsDenied_17 : decode cX5_readsDenied 17 = .ok (.ireturn, 1) := by decide +kernel
theorem dX5_readsClosed_0 : decode cX5_readsClosed 0 = .ok (.aload_n 0, 1) := by decide +kernel
theorem dX5_readsClosed_1 : decode cX5_readsClosed 1 = .ok (.iconst 0, 1) := by decide +kernel
theorem dX5_readsClosed_2 : decode cX5_readsClosed 2 = .ok (.iload_n 1, 1) := by decide +kernel
theorem dX5_readsClosed_3 : decode cX5_readsClosed 3 = .ok (.invokevirtual 37, 3) := by decide +kernel
theorem dX5_readsClosed_6 : decode cX5_readsClosed 6 = .ok (.ifCond .eq 12, 3) := by decide +kernel
theorem dX5_readsClosed_9 : decode cX5_readsClosed 9 = .ok (.aload_n 0, 1) := by decide +kernel
theorem dX5_readsClosed_10 : decode cX5_readsClosed 10 = .ok (.invokevirtual 50, 3) := by decide +kernel
theorem dX5_readsClosed_13 : decode cX5_readsClosed 13 = .ok (.bipush 41, 2) := by decide +kernel
theorem dX5_readsClosed_15 : decode cX5_readsClosed 15 = .ok (.if_icmp .eq 5, 3) := by decide +kernel
theorem dX5_readsClosed_18 : decode cX5_readsClosed 18 = .ok (.iconst 0, 1) := by decide +kernel
theorem dX5_readsClosed_19 : decode cX5_readsClosed 19 = .ok (.ireturn, 1) := by decide +kernel
theorem dX5_readsClosed_20 : decode cX5_readsClosed 20 = .ok (.aload_n 0, 1) := by decide +kernel
theorem dX5_readsClosed_21 : decode cX5_readsClosed 21 = .ok (.dup, 1) := by decide +kernel
theorem dX5_readsClosed_22 : decode cX5_readsClosed 22 = .ok (.getfield 31, 3) := by decide +kernel
theorem dX5_readsClosed_25 : decode cX5_readsClosed 25 = .ok (.iconst 1, 1) := by decide +kernel
theorem dX5_readsClosed_26 : decode cX5_readsClosed 26 = .ok (.iadd, 1) := by decide +kernel
theorem dX5_readsClosed_27 : decode cX5_readsClosed 27 = .ok (.putfield 31, 3) := by decide +kernel
theorem dX5_readsClosed_30 : decode cX5_readsClosed 30 = .ok (.iconst 1, 1) := by decide +kernel
theorem dX5_readsClosed_31 : decode cX5_readsClosed 31 = .ok (.ireturn, 1) := by decide +kernel
theorem dX5_readNumber_0 : decode cX5_readNumber 0 = .ok (.iconst 0, 1) := by decide +kernel
theorem dX5_readNumber_1 : decode cX5_readNumber 1 = .ok (.istore_n 1, 1) := by decide +kernel
theorem dX5_readNumber_2 : decode cX5_readNumber 2 = .ok (.iconst 0, 1) := by decide +kernel
theorem dX5_readNumber_3 : decode cX5_readNumber 3 = .ok (.istore_n 2, 1) := by decide +kernel
theorem dX5_readNumber_4 : decode cX5_readNumber 4 = .ok (.iload_n 2, 1) := by decide +kernel
theorem dX5_readNumber_5 : decode cX5_readNumber 5 = .ok (.iconst 4, 1) := by decide +kernel
theorem dX5_readNumber_6 : decode cX5_readNumber 6 = .ok (.if_icmp .ge 42, 3) := by decide +kernel
theorem dX5_readNumber_9 : decode cX5_readNumber 9 = .ok (.aload_n 0, 1) := by decide +kernel
theorem dX5_readNumber_10 : decode cX5_readNumber 10 = .ok (.invokevirtual 50, 3) := by decide +kernel
theorem dX5_readNumber_13 : decode cX5_readNumber 13 = .ok (.invokestatic 62, 3) := by decide +kernel
theorem dX5_readNumber_16 : decode cX5_readNumber 16 = .ok (.ifCond .eq 32, 3) := by decide +kernel
theorem dX5_readNumber_19 : decode cX5_readNumber 19 = .ok (.iload_n 1, 1) := by decide +kernel
theorem dX5_readNumber_20 : decode cX5_readNumber 20 = .ok (.bipush 10, 2) := by decide +kernel
theorem dX5_readNumber_22 : decode cX5_readNumber 22 = .ok (.imul, 1) := by decide +kernel
theorem dX5_readNumber_23 : decode cX5_readNumber 23 = .ok (.aload_n 0, 1) := by decide +kernel
theorem dX5_readNumber_24 : decode cX5_readNumber 24 = .ok (.invokevirtual 50, 3) := by decide +kernel
theorem dX5_readNumber_27 : decode cX5_readNumber 27 = .ok (.iadd, 1) := by decide +kernel
theorem dX5_readNumber_28 : decode cX5_readNumber 28 = .ok (.bipush 48, 2) := by decide +kernel
theorem dX5_readNumber_30 : decode cX5_readNumber 30 = .ok (.isub, 1) := by decide +kernel
theorem dX5_readNumber_31 : decode cX5_readNumber 31 = .ok (.istore_n 1, 1) := by decide +kernel
theorem dX5_readNumber_32 : decode cX5_readNumber 32 = .ok (.aload_n 0, 1) := by decide +kernel
theorem dX5_readNumber_33 : decode cX5_readNumber 33 = .ok (.dup, 1) := by decide +kernel
theorem dX5_readNumber_34 : decode cX5_readNumber 34 = .ok (.getfield 31, 3) := by decide +kernel
theorem dX5_readNumber_37 : decode cX5_readNumber 37 = .ok (.iconst 1, 1) := by decide +kernel
theorem dX5_readNumber_38 : decode cX5_readNumber 38 = .ok (.iadd, 1) := by decide +kernel
theorem dX5_readNumber_39 : decode cX5_readNumber 39 = .ok (.putfield 31, 3) := by decide +kernel
theorem dX5_readNumber_42 : decode cX5_readNumber 42 = .ok (.iinc 2 1, 3) := by decide +kernel
theorem dX5_readNumber_45 : decode cX5_readNumber 45 = .ok (.goto (-41), 3) := by decide +kernel
theorem dX5_readNumber_48 : decode cX5_readNumber 48 = .ok (.aload_n 0, 1) := by decide +kernel
theorem dX5_readNumber_49 : decode cX5_readNumber 49 = .ok (.iload_n 1, 1) := by decide +kernel
theorem dX5_readNumber_50 : decode cX5_readNumber 50 = .ok (.invokevirtual 58, 3) := by decide +kernel
theorem dX5_readNumber_53 : decode cX5_readNumber 53 = .ok (.return_, 1) := by decide +kernel
theorem dX5_next_0 : decode cX5_next 0 = .ok (.aload_n 0, 1) := by decide +kernel
theorem dX5_next_1 : decode cX5_next 1 = .ok (.getfield 31, 3) := by decide +kernel
theorem dX5_next_4 : decode cX5_next 4 = .ok (.aload_n 0, 1) := by decide +kernel
theorem dX5_next_5 : decode cX5_next 5 = .ok (.getfield 24, 3) := by decide +kernel
theorem dX5_next_8 : decode cX5_next 8 = .ok (.if_icmp .ge 15, 3) := by decide +kernel
theorem dX5_next_11 : decode cX5_next 11 = .ok (.aload_n 0, 1) := by decide +kernel
theorem dX5_next_12 : decode cX5_next 12 = .ok (.getfield 9, 3) := by decide +kernel
theorem dX5_next_15 : decode cX5_next 15 = .ok (.aload_n 0, 1) := by decide +kernel
theorem dX5_next_16 : decode cX5_next 16 = .ok (.getfield 31, 3) := by decide +kernel
theorem dX5_next_19 : decode cX5_next 19 = .ok (.iaload, 1) := by decide +kernel
theorem dX5_next_20 : decode cX5_next 20 = .ok (.goto 4, 3) := by decide +kernel
theorem dX5_next_23 : decode cX5_next 23 = .ok (.iconst (-1), 1) := by decide +kernel
theorem dX5_next_24 : decode cX5_next 24 = .ok (.ireturn, 1) := by decide +kernel
theorem dX5_write_0 : decode cX5_write 0 = .ok (.aload_n 0, 1) := by decide +kernel
theorem dX5_write_1 : decode cX5_write 1 = .ok (.getfield 34, 3) := by decide +kernel
theorem dX5_write_4 : decode cX5_write 4 = .ok (.aload_n 0, 1) := by decide +kernel
theorem dX5_write_5 : decode cX5_write 5 = .ok (.getfield 15, 3) := by decide +kernel
theorem dX5_write_8 : decode cX5_write 8 = .ok (.arraylength, 1) := by decide +kernel
theorem dX5_write_9 : decode cX5_write 9 = .ok (.if_icmp .ge 23, 3) := by decide +kernel
theorem dX5_write_12 : decode cX5_write 12 = .ok (.aload_n 0, 1) := by decide +kernel
theorem dX5_write_13 : decode cX5_write 13 = .ok (.getfield 15, 3) := by decide +kernel
theorem dX5_write_16 : decode cX5_write 16 = .ok (.aload_n 0, 1) := by decide +kernel
theorem dX5_write_17 : decode cX5_write 17 = .ok (.getfield 34, 3) := by decide +kernel
theorem dX5_write_20 : decode cX5_write 20 = .ok (.iload_n 1, 1) := by decide +kernel
theorem dX5_write_21 : decode cX5_write 21 = .ok (.iastore, 1) := by decide +kernel
theorem dX5_write_22 : decode cX5_write 22 = .ok (.aload_n 0, 1) := by decide +kernel
theorem dX5_write_23 : decode cX5_write 23 = .ok (.dup, 1) := by decide +kernel
theorem dX5_write_24 : decode cX5_write 24 = .ok (.getfield 34, 3) := by decide +kernel
theorem dX5_write_27 : decode cX5_write 27 = .ok (.iconst 1, 1) := by decide +kernel
theorem dX5_write_28 : decode cX5_write 28 = .ok (.iadd, 1) := by decide +kernel
theorem dX5_write_29 : decode cX5_write 29 = .ok (.putfield 34, 3) := by decide +kernel
theorem dX5_write_32 : decode cX5_write 32 = .ok (.return_, 1) := by decide +kernel
theorem dX5_isDigit_0 : decode cX5_isDigit 0 = .ok (.iload_n 0, 1) := by decide +kernel
theorem dX5_isDigit_1 : decode cX5_isDigit 1 = .ok (.bipush 48, 2) := by decide +kernel
theorem dX5_isDigit_3 : decode cX5_isDigit 3 = .ok (.bipush 57, 2) := by decide +kernel
theorem dX5_isDigit_5 : decode cX5_isDigit 5 = .ok (.invokestatic 77, 3) := by decide +kernel
theorem dX5_isDigit_8 : decode cX5_isDigit 8 = .ok (.ireturn, 1) := by decide +kernel
theorem dX5_nameOf_0 : decode cX5_nameOf 0 = .ok (.aload_n 0, 1) := by decide +kernel
theorem dX5_nameOf_1 : decode cX5_nameOf 1 = .ok (.getfield 28, 3) := by decide +kernel
theorem dX5_nameOf_4 : decode cX5_nameOf 4 = .ok (.ifCond .ne 8, 3) := by decide +kernel
theorem dX5_nameOf_7 : decode cX5_nameOf 7 = .ok (.ldc 81, 2) := by decide +kernel
theorem dX5_nameOf_9 : decode cX5_nameOf 9 = .ok (.goto 5, 3) := by decide +kernel
theorem dX5_nameOf_12 : decode cX5_nameOf 12 = .ok (.ldc 83, 2) := by decide +kernel
theorem dX5_nameOf_14 : decode cX5_nameOf 14 = .ok (.astore_n 2, 1) := by decide +kernel
theorem dX5_nameOf_15 : decode cX5_nameOf 15 = .ok (.iload_n 1, 1) := by decide +kernel
theorem dX5_nameOf_16 : decode cX5_nameOf 16 = .ok (.ifCond .ge 7, 3) := by decide +kernel
theorem dX5_nameOf_19 : decode cX5_nameOf 19 = .ok (.iconst (-1), 1) := by decide +kernel
theorem dX5_nameOf_20 : decode cX5_nameOf 20 = .ok (.goto 9, 3) := by decide +kernel
theorem dX5_nameOf_23 : decode cX5_nameOf 23 = .ok (.aload_n 2, 1) := by decide +kernel
theorem dX5_nameOf_24 : decode cX5_nameOf 24 = .ok (.iload_n 1, 1) := by decide +kernel
theorem dX5_nameOf_25 : decode cX5_nameOf 25 = .ok (.i2c, 1) := by decide +kernel
theorem dX5_nameOf_26 : decode cX5_nameOf 26 = .ok (.invokevirtual 85, 3) := by decide +kernel
theorem dX5_nameOf_29 : decode cX5_nameOf 29 = .ok (.ireturn, 1) := by decide +kernel
theorem dX5_levelOf_0 : decode cX5_levelOf 0 = .ok (.iload_n 0, 1) := by decide +kernel
theorem dX5_levelOf_1 : decode cX5_levelOf 1 = .ok (.lookupswitch 101 #[(37, 99), (38, 93), (42, 99), (43, 97), (45, 97), (47, 99), (60, 95), (61, 95), (62, 95), (124, 91)], 91) := by decide +kernel
theorem dX5_levelOf_92 : decode cX5_levelOf 92 = .ok (.iconst 0, 1) := by decide +kernel
theorem dX5_levelOf_93 : decode cX5_levelOf 93 = .ok (.ireturn, 1) := by decide +kernel
theorem dX5_levelOf_94 : decode cX5_levelOf 94 = .ok (.iconst 1, 1) := by decide +kernel
theorem dX5_levelOf_95 : decode cX5_levelOf 95 = .ok (.ireturn, 1) := by decide +kernel
theorem dX5_levelOf_96 : decode cX5_levelOf 96 = .ok (.iconst 2, 1) := by decide +kernel
theorem dX5_levelOf_97 : decode cX5_levelOf 97 = .ok (.ireturn, 1) := by decide +kernel
theorem dX5_levelOf_98 : decode cX5_levelOf 98 = .ok (.iconst 3, 1) := by decide +kernel
theorem dX5_levelOf_99 : decode cX5_levelOf 99 = .ok (.ireturn, 1) := by decide +kernel
theorem dX5_levelOf_100 : decode cX5_levelOf 100 = .ok (.iconst 4, 1) := by decide +kernel
theorem dX5_levelOf_101 : decode cX5_levelOf 101 = .ok (.ireturn, 1) := by decide +kernel
theorem dX5_levelOf_102 : decode cX5_levelOf 102 = .ok (.iconst (-1), 1) := by decide +kernel
theorem dX5_levelOf_103 : decode cX5_levelOf 103 = .ok (.ireturn, 1) := by decide +kernel
theorem dX6_init_0 : decode cX6_init 0 = .ok (.aload_n 0, 1) := by decide +kernel
theorem dX6_init_1 : decode cX6_init 1 = .ok (.invokespecial 3, 3) := by decide +kernel
theorem dX6_init_4 : decode cX6_init 4 = .ok (.aload_n 0, 1) := by decide +kernel
theorem dX6_init_5 : decode cX6_init 5 = .ok (.bipush 40, 2) := by decide +kernel
theorem dX6_init_7 : decode cX6_init 7 = .ok (.newarray .int, 2) := by decide +kernel
theorem dX6_init_9 : decode cX6_init 9 = .ok (.putfield 9, 3) := by decide +kernel
theorem dX6_init_12 : decode cX6_init 12 = .ok (.return_, 1) := by decide +kernel
theorem dX6_open_0 : decode cX6_open 0 = .ok (.aload_n 0, 1) := by decide +kernel
theorem dX6_open_1 : decode cX6_open 1 = .ok (.iload_n 1, 1) := by decide +kernel
theorem dX6_open_2 : decode cX6_open 2 = .ok (.putfield 15, 3) := by decide +kernel
theorem dX6_open_5 : decode cX6_open 5 = .ok (.aload_n 0, 1) := by decide +kernel
theorem dX6_open_6 : decode cX6_open 6 = .ok (.iload_n 2, 1) := by decide +kernel
theorem dX6_open_7 : decode cX6_open 7 = .ok (.putfield 19, 3) := by decide +kernel
theorem dX6_open_10 : decode cX6_open 10 = .ok (.aload_n 0, 1) := by decide +kernel
theorem dX6_open_11 : decode cX6_open 11 = .ok (.iconst 0, 1) := by decide +kernel
theorem dX6_open_12 : decode cX6_open 12 = .ok (.putfield 22, 3) := by decide +kernel
theorem dX6_open_15 : decode cX6_open 15 = .ok (.return_, 1) := by decide +kernel
theorem dX6_begin_0 : decode cX6_begin 0 = .ok (.aload_n 0, 1) := by decide +kernel
theorem dX6_begin_1 : decode cX6_begin 1 = .ok (.getfield 22, 3) := by decide +kernel
theorem dX6_begin_4 : decode cX6_begin 4 = .ok (.aload_n 0, 1) := by decide +kernel
theorem dX6_begin_5 : decode cX6_begin 5 = .ok (.getfield 9, 3) := by decide +kernel
theorem dX6_begin_8 : decode cX6_begin 8 = .ok (.arraylength, 1) := by decide +kernel
theorem dX6_begin_9 : decode cX6_begin 9 = .ok (.if_icmp .ge 23, 3) := by decide +kernel
theorem dX6_begin_12 : decode cX6_begin 12 = .ok (.aload_n 0, 1) := by decide +kernel
theorem dX6_begin_13 : decode cX6_begin 13 = .ok (.getfield 9, 3) := by decide +kernel
theorem dX6_begin_16 : decode cX6_begin 16 = .ok (.aload_n 0, 1) := by decide +kernel
theorem dX6_begin_17 : decode cX6_begin 17 = .ok (.getfield 22, 3) := by decide +kernel
theorem dX6_begin_20 : decode cX6_begin 20 = .ok (.iload_n 1, 1) := by decide +kernel
theorem dX6_begin_21 : decode cX6_begin 21 = .ok (.iastore, 1) := by decide +kernel
theorem dX6_begin_22 : decode cX6_begin 22 = .ok (.aload_n 0, 1) := by decide +kernel
theorem dX6_begin_23 : decode cX6_begin 23 = .ok (.dup, 1) := by decide +kernel
theorem dX6_begin_24 : decode cX6_begin 24 = .ok (.getfield 22, 3) := by decide +kernel
theorem dX6_begin_27 : decode cX6_begin 27 = .ok (.iconst 1, 1) := by decide +kernel
theorem dX6_begin_28 : decode cX6_begin 28 = .ok (.iadd, 1) := by decide +kernel
theorem dX6_begin_29 : decode cX6_begin 29 = .ok (.putfield 22, 3) := by decide +kernel
theorem dX6_begin_32 : decode cX6_begin 32 = .ok (.return_, 1) := by decide +kernel
theorem dX7_init_0 : decode cX7_init 0 = .ok (.aload_n 0, 1) := by decide +kernel
theorem dX7_init_1 : decode cX7_init 1 = .ok (.invokespecial 3, 3) := by decide +kernel
theorem dX7_init_4 : decode cX7_init 4 = .ok (.aload_n 0, 1) := by decide +kernel
theorem dX7_init_5 : decode cX7_init 5 = .ok (.bipush 12, 2) := by decide +kernel
theorem dX7_init_7 : decode cX7_init 7 = .ok (.newarray .int, 2) := by decide +kernel
theorem dX7_init_9 : decode cX7_init 9 = .ok (.putfield 9, 3) := by decide +kernel
theorem dX7_init_12 : decode cX7_init 12 = .ok (.aload_n 0, 1) := by decide +kernel
theorem dX7_init_13 : decode cX7_init 13 = .ok (.bipush 12, 2) := by decide +kernel
theorem dX7_init_15 : decode cX7_init 15 = .ok (.newarray .int, 2) := by decide +kernel
theorem dX7_init_17 : decode cX7_init 17 = .ok (.putfield 15, 3) := by decide +kernel
theorem dX7_init_20 : decode cX7_init 20 = .ok (.aload_n 0, 1) := by decide +kernel
theorem dX7_init_21 : decode cX7_init 21 = .ok (.bipush 12, 2) := by decide +kernel
theorem dX7_init_23 : decode cX7_init 23 = .ok (.newarray .int, 2) := by decide +kernel
theorem dX7_init_25 : decode cX7_init 25 = .ok (.putfield 18, 3) := by decide +kernel
theorem dX7_init_28 : decode cX7_init 28 = .ok (.aload_n 0, 1) := by decide +kernel
theorem dX7_init_29 : decode cX7_init 29 = .ok (.bipush 12, 2) := by decide +kernel
theorem dX7_init_31 : decode cX7_init 31 = .ok (.newarray .int, 2) := by decide +kernel
theorem dX7_init_33 : decode cX7_init 33 = .ok (.putfield 21, 3) := by decide +kernel
theorem dX7_init_36 : decode cX7_init 36 = .ok (.aload_n 0, 1) := by decide +kernel
theorem dX7_init_37 : decode cX7_init 37 = .ok (.bipush 11, 2) := by decide +kernel
theorem dX7_init_39 : decode cX7_init 39 = .ok (.putfield 24, 3) := by decide +kernel
theorem dX7_init_42 : decode cX7_init 42 = .ok (.aload_n 0, 1) := by decide +kernel
theorem dX7_init_43 : decode cX7_init 43 = .ok (.bipush 50, 2) := by decide +kernel
theorem dX7_init_45 : decode cX7_init 45 = .ok (.newarray .int, 2) := by decide +kernel
theorem dX7_init_47 : decode cX7_init 47 = .ok (.putfield 28, 3) := by decide +kernel
theorem dX7_init_50 : decode cX7_init 50 = .ok (.aload_n 0, 1) := by decide +kernel
theorem dX7_init_51 : decode cX7_init 51 = .ok (.bipush 20, 2) := by decide +kernel
theorem dX7_init_53 : decode cX7_init 53 = .ok (.newarray .int, 2) := by decide +kernel
theorem dX7_init_55 : decode cX7_init 55 = .ok (.putfield 31, 3) := by decide +kernel
theorem dX7_init_58 : decode cX7_init 58 = .ok (.aload_n 0, 1) := by decide +kernel
theorem dX7_init_59 : decode cX7_init 59 = .ok (.iconst 1, 1) := by decide +kernel
theorem dX7_init_60 : decode cX7_init 60 = .ok (.putfield 34, 3) := by decide +kernel
theorem dX7_init_63 : decode cX7_init 63 = .ok (.aload_n 0, 1) := by decide +kernel
theorem dX7_init_64 : decode cX7_init 64 = .ok (.aload_n 1, 1) := by decide +kernel
theorem dX7_init_65 : decode cX7_init 65 = .ok (.putfield 37, 3) := by decide +kernel
theorem dX7_init_68 : decode cX7_init 68 = .ok (.aload_n 0, 1) := by decide +kernel
theorem dX7_init_69 : decode cX7_init 69 = .ok (.aload_n 2, 1) := by decide +kernel
theorem dX7_init_70 : decode cX7_init 70 = .ok (.putfield 41, 3) := by decide +kernel
theorem dX7_init_73 : decode cX7_init 73 = .ok (.aload_n 0, 1) := by decide +kernel
theorem dX7_init_74 : decode cX7_init 74 = .ok (.aload_n 3, 1) := by decide +kernel
theorem dX7_init_75 : decode cX7_init 75 = .ok (.putfield 45, 3) := by decide +kernel
theorem dX7_init_78 : decode cX7_init 78 = .ok (.return_, 1) := by decide +kernel
theorem dX7_thinkOf_0 : decode cX7_thinkOf 0 = .ok (.aload_n 1, 1) := by decide +kernel
theorem dX7_thinkOf_1 : decode cX7_thinkOf 1 = .ok (.getfield 9, 3) := by decide +kernel
theorem dX7_thinkOf_4 : decode cX7_thinkOf 4 = .ok (.iconst 0, 1) := by decide +kernel
theorem dX7_thinkOf_5 : decode cX7_thinkOf 5 = .ok (.aload_n 0, 1) := by decide +kernel
theorem dX7_thinkOf_6 : decode cX7_thinkOf 6 = .ok (.getfield 9, 3) := by decide +kernel
theorem dX7_thinkOf_9 : decode cX7_thinkOf 9 = .ok (.iconst 0, 1) := by decide +kernel
theorem dX7_thinkOf_10 : decode cX7_thinkOf 10 = .ok (.bipush 12, 2) := by decide +kernel
theorem dX7_thinkOf_12 : decode cX7_thinkOf 12 = .ok (.invokestatic 48, 3) := by decide +kernel
theorem dX7_thinkOf_15 : decode cX7_thinkOf 15 = .ok (.aload_n 1, 1) := by decide +kernel
theorem dX7_thinkOf_16 : decode cX7_thinkOf 16 = .ok (.getfield 15, 3) := by decide +kernel
theorem dX7_thinkOf_19 : decode cX7_thinkOf 19 = .ok (.iconst 0, 1) := by decide +kernel
theorem dX7_thinkOf_20 : decode cX7_thinkOf 20 = .ok (.aload_n 0, 1) := by decide +kernel
theorem dX7_thinkOf_21 : decode cX7_thinkOf 21 = .ok (.getfield 15, 3) := by decide +kernel
theorem dX7_thinkOf_24 : decode cX7_thinkOf 24 = .ok (.iconst 0, 1) := by decide +kernel
theorem dX7_thinkOf_25 : decode cX7_thinkOf 25 = .ok (.bipush 12, 2) := by decide +kernel
theorem dX7_thinkOf_27 : decode cX7_thinkOf 27 = .ok (.invokestatic 48, 3) := by decide +kernel
theorem dX7_thinkOf_30 : decode cX7_thinkOf 30 = .ok (.aload_n 1, 1) := by decide +kernel
theorem dX7_thinkOf_31 : decode cX7_thinkOf 31 = .ok (.getfield 18, 3) := by decide +kernel
theorem dX7_thinkOf_34 : decode cX7_thinkOf 34 = .ok (.iconst 0, 1) := by decide +kernel
theorem dX7_thinkOf_35 : decode cX7_thinkOf 35 = .ok (.aload_n 0, 1) := by decide +kernel
theorem dX7_thinkOf_36 : decode cX7_thinkOf 36 = .ok (.getfield 18, 3) := by decide +kernel
theorem dX7_thinkOf_39 : decode cX7_thinkOf 39 = .ok (.iconst 0, 1) := by decide +kernel
theorem dX7_thinkOf_40 : decode cX7_thinkOf 40 = .ok (.bipush 12, 2) := by decide +kernel
theorem dX7_thinkOf_42 : decode cX7_thinkOf 42 = .ok (.invokestatic 48, 3) := by decide +kernel
theorem dX7_thinkOf_45 : decode cX7_thinkOf 45 = .ok (.aload_n 1, 1) := by decide +kernel
theorem dX7_thinkOf_46 : decode cX7_thinkOf 46 = .ok (.getfield 21, 3) := by decide +kernel
theorem dX7_thinkOf_49 : decode cX7_thinkOf 49 = .ok (.iconst 0, 1) := by decide +kernel
theorem dX7_thinkOf_50 : decode cX7_thinkOf 50 = .ok (.aload_n 0, 1) := by decide +kernel
theorem dX7_thinkOf_51 : decode cX7_thinkOf 51 = .ok (.getfield 21, 3) := by decide +kernel
theorem dX7_thinkOf_54 : decode cX7_thinkOf 54 = .ok (.iconst 0, 1) := by decide +kernel
theorem dX7_thinkOf_55 : decode cX7_thinkOf 55 = .ok (.bipush 12, 2) := by decide +kernel
theorem dX7_thinkOf_57 : decode cX7_thinkOf 57 = .ok (.invokestatic 48, 3) := by decide +kernel
theorem dX7_thinkOf_60 : decode cX7_thinkOf 60 = .ok (.aload_n 0, 1) := by decide +kernel
theorem dX7_thinkOf_61 : decode cX7_thinkOf 61 = .ok (.aload_n 1, 1) := by decide +kernel
theorem dX7_thinkOf_62 : decode cX7_thinkOf 62 = .ok (.getfield 54, 3) := by decide +kernel
theorem dX7_thinkOf_65 : decode cX7_thinkOf 65 = .ok (.putfield 54, 3) := by decide +kernel
theorem dX7_thinkOf_68 : decode cX7_thinkOf 68 = .ok (.aload_n 0, 1) := by decide +kernel
theorem dX7_thinkOf_69 : decode cX7_thinkOf 69 = .ok (.aload_n 1, 1) := by decide +kernel
theorem dX7_thinkOf_70 : decode cX7_thinkOf 70 = .ok (.getfield 57, 3) := by decide +kernel
theorem dX7_thinkOf_73 : decode cX7_thinkOf 73 = .ok (.putfield 57, 3) := by decide +kernel
theorem dX7_thinkOf_76 : decode cX7_thinkOf 76 = .ok (.aload_n 0, 1) := by decide +kernel
theorem dX7_thinkOf_77 : decode cX7_thinkOf 77 = .ok (.aload_n 1, 1) := by decide +kernel
theorem dX7_thinkOf_78 : decode cX7_thinkOf 78 = .ok (.getfield 60, 3) := by decide +kernel
theorem dX7_thinkOf_81 : decode cX7_thinkOf 81 = .ok (.putfield 60, 3) := by decide +kernel
theorem dX7_thinkOf_84 : decode cX7_thinkOf 84 = .ok (.aload_n 0, 1) := by decide +kernel
theorem dX7_thinkOf_85 : decode cX7_thinkOf 85 = .ok (.aload_n 1, 1) := by decide +kernel
theorem dX7_thinkOf_86 : decode cX7_thinkOf 86 = .ok (.getfield 63, 3) := by decide +kernel
theorem dX7_thinkOf_89 : decode cX7_thinkOf 89 = .ok (.putfield 63, 3) := by decide +kernel
theorem dX7_thinkOf_92 : decode cX7_thinkOf 92 = .ok (.aload_n 0, 1) := by decide +kernel
theorem dX7_thinkOf_93 : decode cX7_thinkOf 93 = .ok (.aload_n 1, 1) := by decide +kernel
theorem dX7_thinkOf_94 : decode cX7_thinkOf 94 = .ok (.getfield 24, 3) := by decide +kernel
theorem dX7_thinkOf_97 : decode cX7_thinkOf 97 = .ok (.putfield 24, 3) := by decide +kernel
theorem dX7_thinkOf_100 : decode cX7_thinkOf 100 = .ok (.aload_n 0, 1) := by decide +kernel
theorem dX7_thinkOf_101 : decode cX7_thinkOf 101 = .ok (.aload_n 1, 1) := by decide +kernel
theorem dX7_thinkOf_102 : decode cX7_thinkOf 102 = .ok (.getfield 66, 3) := by decide +kernel
theorem dX7_thinkOf_105 : decode cX7_thinkOf 105 = .ok (.putfield 66, 3) := by decide +kernel
theorem dX7_thinkOf_108 : decode cX7_thinkOf 108 = .ok (.aload_n 0, 1) := by decide +kernel
theorem dX7_thinkOf_109 : decode cX7_thinkOf 109 = .ok (.aload_n 1, 1) := by decide +kernel
theorem dX7_thinkOf_110 : decode cX7_thinkOf 110 = .ok (.getfield 41, 3) := by decide +kernel
theorem dX7_thinkOf_113 : decode cX7_thinkOf 113 = .ok (.putfield 41, 3) := by decide +kernel
theorem dX7_thinkOf_116 : decode cX7_thinkOf 116 = .ok (.aload_n 0, 1) := by decide +kernel
theorem dX7_thinkOf_117 : decode cX7_thinkOf 117 = .ok (.aload_n 1, 1) := by decide +kernel
theorem dX7_thinkOf_118 : decode cX7_thinkOf 118 = .ok (.getfield 45, 3) := by decide +kernel
theorem dX7_thinkOf_121 : decode cX7_thinkOf 121 = .ok (.putfield 45, 3) := by decide +kernel
theorem dX7_thinkOf_124 : decode cX7_thinkOf 124 = .ok (.return_, 1) := by decide +kernel
theorem dX7_keepAllOf_0 : decode cX7_keepAllOf 0 = .ok (.aload_n 0, 1) := by decide +kernel
theorem dX7_keepAllOf_1 : decode cX7_keepAllOf 1 = .ok (.aload_n 1, 1) := by decide +kernel
theorem dX7_keepAllOf_2 : decode cX7_keepAllOf 2 = .ok (.invokevirtual 69, 3) := by decide +kernel
theorem dX7_keepAllOf_5 : decode cX7_keepAllOf 5 = .ok (.aload_n 1, 1) := by decide +kernel
theorem dX7_keepAllOf_6 : decode cX7_keepAllOf 6 = .ok (.getfield 28, 3) := by decide +kernel
theorem dX7_keepAllOf_9 : decode cX7_keepAllOf 9 = .ok (.iconst 0, 1) := by decide +kernel
theorem dX7_keepAllOf_10 : decode cX7_keepAllOf 10 = .ok (.aload_n 0, 1) := by decide +kernel
theorem dX7_keepAllOf_11 : decode cX7_keepAllOf 11 = .ok (.getfield 28, 3) := by decide +kernel
theorem dX7_keepAllOf_14 : decode cX7_keepAllOf 14 = .ok (.iconst 0, 1) := by decide +kernel
theorem dX7_keepAllOf_15 : decode cX7_keepAllOf 15 = .ok (.bipush 50, 2) := by decide +kernel
theorem dX7_keepAllOf_17 : decode cX7_keepAllOf 17 = .ok (.invokestatic 48, 3) := by decide +kernel
theorem dX7_keepAllOf_20 : decode cX7_keepAllOf 20 = .ok (.aload_n 0, 1) := by decide +kernel
theorem dX7_keepAllOf_21 : decode cX7_keepAllOf 21 = .ok (.aload_n 1, 1) := by decide +kernel
theorem dX7_keepAllOf_22 : decode cX7_keepAllOf 22 = .ok (.getfield 73, 3) := by decide +kernel
theorem dX7_keepAllOf_25 : decode cX7_keepAllOf 25 = .ok (.putfield 73, 3) := by decide +kernel
theorem dX7_keepAllOf_28 : decode cX7_keepAllOf 28 = .ok (.aload_n 1, 1) := by decide +kernel
theorem dX7_keepAllOf_29 : decode cX7_keepAllOf 29 = .ok (.getfield 31, 3) := by decide +kernel
theorem dX7_keepAllOf_32 : decode cX7_keepAllOf 32 = .ok (.iconst 0, 1) := by decide +kernel
theorem dX7_keepAllOf_33 : decode cX7_keepAllOf 33 = .ok (.aload_n 0, 1) := by decide +kernel
theorem dX7_keepAllOf_34 : decode cX7_keepAllOf 34 = .ok (.getfield 31, 3) := by decide +kernel
theorem dX7_keepAllOf_37 : decode cX7_keepAllOf 37 = .ok (.iconst 0, 1) := by decide +kernel
theorem dX7_keepAllOf_38 : decode cX7_keepAllOf 38 = .ok (.bipush 20, 2) := by decide +kernel
theorem dX7_keepAllOf_40 : decode cX7_keepAllOf 40 = .ok (.invokestatic 48, 3) := by decide +kernel
theorem dX7_keepAllOf_43 : decode cX7_keepAllOf 43 = .ok (.aload_n 0, 1) := by decide +kernel
theorem dX7_keepAllOf_44 : decode cX7_keepAllOf 44 = .ok (.aload_n 1, 1) := by decide +kernel
theorem dX7_keepAllOf_45 : decode cX7_keepAllOf 45 = .ok (.getfield 76, 3) := by decide +kernel
theorem dX7_keepAllOf_48 : decode cX7_keepAllOf 48 = .ok (.putfield 76, 3) := by decide +kernel
theorem dX7_keepAllOf_51 : decode cX7_keepAllOf 51 = .ok (.aload_n 0, 1) := by decide +kernel
theorem dX7_keepAllOf_52 : decode cX7_keepAllOf 52 = .ok (.aload_n 1, 1) := by decide +kernel
theorem dX7_keepAllOf_53 : decode cX7_keepAllOf 53 = .ok (.getfield 34, 3) := by decide +kernel
theorem dX7_keepAllOf_56 : decode cX7_keepAllOf 56 = .ok (.putfield 34, 3) := by decide +kernel
theorem dX7_keepAllOf_59 : decode cX7_keepAllOf 59 = .ok (.return_, 1) := by decide +kernel
theorem dX7_has_0 : decode cX7_has 0 = .ok (.iload_n 1, 1) := by decide +kernel
theorem dX7_has_1 : decode cX7_has 1 = .ok (.iconst 0, 1) := by decide +kernel
theorem dX7_has_2 : decode cX7_has 2 = .ok (.aload_n 0, 1) := by decide +kernel
theorem dX7_has_3 : decode cX7_has 3 = .ok (.getfield 54, 3) := by decide +kernel
theorem dX7_has_6 : decode cX7_has 6 = .ok (.iconst 1, 1) := by decide +kernel
theorem dX7_has_7 : decode cX7_has 7 = .ok (.isub, 1) := by decide +kernel
theorem dX7_has_8 : decode cX7_has 8 = .ok (.invokestatic 79, 3) := by decide +kernel
theorem dX7_has_11 : decode cX7_has 11 = .ok (.ireturn, 1) := by decide +kernel
theorem dX7_shape_0 : decode cX7_shape 0 = .ok (.aload_n 0, 1) := by decide +kernel
theorem dX7_shape_1 : decode cX7_shape 1 = .ok (.getfield 9, 3) := by decide +kernel
theorem dX7_shape_4 : decode cX7_shape 4 = .ok (.iload_n 1, 1) := by decide +kernel
theorem dX7_shape_5 : decode cX7_shape 5 = .ok (.iload_n 2, 1) := by decide +kernel
theorem dX7_shape_6 : decode cX7_shape 6 = .ok (.bipush 10, 2) := by decide +kernel
theorem dX7_shape_8 : decode cX7_shape 8 = .ok (.idiv, 1) := by decide +kernel
theorem dX7_shape_9 : decode cX7_shape 9 = .ok (.iastore, 1) := by decide +kernel
theorem dX7_shape_10 : decode cX7_shape 10 = .ok (.aload_n 0, 1) := by decide +kernel
theorem dX7_shape_11 : decode cX7_shape 11 = .ok (.getfield 15, 3) := by decide +kernel
theorem dX7_shape_14 : decode cX7_shape 14 = .ok (.iload_n 1, 1) := by decide +kernel
theorem dX7_shape_15 : decode cX7_shape 15 = .ok (.iload_n 2, 1) := by decide +kernel
theorem dX7_shape_16 : decode cX7_shape 16 = .ok (.bipush 10, 2) := by decide +kernel
theorem dX7_shape_18 : decode cX7_shape 18 = .ok (.irem, 1) := by decide +kernel
theorem dX7_shape_19 : decode cX7_shape 19 = .ok (.iastore, 1) := by decide +kernel
theorem dX7_shape_20 : decode cX7_shape 20 = .ok (.return_, 1) := by decide +kernel
theorem dX7_kindOf_0 : decode cX7_kindOf 0 = .ok (.aload_n 0, 1) := by decide +kernel
theorem dX7_kindOf_1 : decode cX7_kindOf 1 = .ok (.getfield 37, 3) := by decide +kernel
theorem dX7_kindOf_4 : decode cX7_kindOf 4 = .ok (.aload_n 0, 1) := by decide +kernel
theorem dX7_kindOf_5 : decode cX7_kindOf 5 = .ok (.getfield 9, 3) := by decide +kernel
theorem dX7_kindOf_8 : decode cX7_kindOf 8 = .ok (.iload_n 1, 1) := by decide +kernel
theorem dX7_kindOf_9 : decode cX7_kindOf 9 = .ok (.iaload, 1) := by decide +kernel
theorem dX7_kindOf_10 : decode cX7_kindOf 10 = .ok (.aaload, 1) := by decide +kernel
theorem dX7_kindOf_11 : decode cX7_kindOf 11 = .ok (.areturn, 1) := by decide +kernel
theorem dX7_carOf_0 : decode cX7_carOf 0 = .ok (.aload_n 0, 1) := by decide +kernel
theorem dX7_carOf_1 : decode cX7_carOf 1 = .ok (.getfield 57, 3) := by decide +kernel
theorem dX7_carOf_4 : decode cX7_carOf 4 = .ok (.iload_n 1, 1) := by decide +kernel
theorem dX7_carOf_5 : decode cX7_carOf 5 = .ok (.ishr, 1) := by decide +kernel
theorem dX7_carOf_6 : decode cX7_carOf 6 = .ok (.iconst 1, 1) := by decide +kernel
theorem dX7_carOf_7 : decode cX7_carOf 7 = .ok (.iand, 1) := by decide +kernel
theorem dX7_carOf_8 : decode cX7_carOf 8 = .ok (.ireturn, 1) := by decide +kernel
theorem dX7_park_0 : decode cX7_park 0 = .ok (.aload_n 0, 1) := by decide +kernel
theorem dX7_park_1 : decode cX7_park 1 = .ok (.iload_n 2, 1) := by decide +kernel
theorem dX7_park_2 : decode cX7_park 2 = .ok (.ifCond .eq 14, 3) := by decide +kernel
theorem dX7_park_5 : decode cX7_park 5 = .ok (.aload_n 0, 1) := by decide +kernel
theorem dX7_park_6 : decode cX7_park 6 = .ok (.getfield 57, 3) := by decide +kernel
theorem dX7_park_9 : decode cX7_park 9 = .ok (.iconst 1, 1) := by decide +kernel
theorem dX7_park_10 : decode cX7_park 10 = .ok (.iload_n 1, 1) := by decide +kernel
theorem dX7_park_11 : decode cX7_park 11 = .ok (.ishl, 1) := by decide +kernel
theorem dX7_park_12 : decode cX7_park 12 = .ok (.ior, 1) := by decide +kernel
theorem dX7_park_13 : decode cX7_park 13 = .ok (.goto 13, 3) := by decide +kernel
theorem dX7_park_16 : decode cX7_park 16 = .ok (.aload_n 0, 1) := by decide +kernel
theorem dX7_park_17 : decode cX7_park 17 = .ok (.getfield 57, 3) := by decide +kernel
theorem dX7_park_20 : decode cX7_park 20 = .ok (.iconst 1, 1) := by decide +kernel
theorem dX7_park_21 : decode cX7_park 21 = .ok (.iload_n 1, 1) := by decide +kernel
theorem dX7_park_22 : decode cX7_park 22 = .ok (.ishl, 1) := by decide +kernel
theorem dX7_park_23 : decode cX7_park 23 = .ok (.iconst (-1), 1) := by decide +kernel
theorem dX7_park_24 : decode cX7_park 24 = .ok (.ixor, 1) := by decide +kernel
theorem dX7_park_25 : decode cX7_park 25 = .ok (.iand, 1) := by decide +kernel
theorem dX7_park_26 : decode cX7_park 26 = .ok (.putfield 57, 3) := by decide +kernel
theorem dX7_park_29 : decode cX7_park 29 = .ok (.return_, 1) := by decide +kernel
theorem dX7_fallsNow_0 : decode cX7_fallsNow 0 = .ok (.aload_n 0, 1) := by decide +kernel
theorem dX7_fallsNow_1 : decode cX7_fallsNow 1 = .ok (.getfield 41, 3) := by decide +kernel
theorem dX7_fallsNow_4 : decode cX7_fallsNow 4 = .ok (.iload_n 1, 1) := by decide +kernel
theorem dX7_fallsNow_5 : decode cX7_fallsNow 5 = .ok (.aload_n 0, 1) := by decide +kernel
theorem dX7_fallsNow_6 : decode cX7_fallsNow 6 = .ok (.getfield 60, 3) := by decide +kernel
theorem dX7_fallsNow_9 : decode cX7_fallsNow 9 = .ok (.bipush 30, 2) := by decide +kernel
theorem dX7_fallsNow_11 : decode cX7_fallsNow 11 = .ok (.irem, 1) := by decide +kernel
theorem dX7_fallsNow_12 : decode cX7_fallsNow 12 = .ok (.aload_n 0, 1) := by decide +kernel
theorem dX7_fallsNow_13 : decode cX7_fallsNow 13 = .ok (.getfield 18, 3) := by decide +kernel
theorem dX7_fallsNow_16 : decode cX7_fallsNow 16 = .ok (.iload_n 1, 1) := by decide +kernel
theorem dX7_fallsNow_17 : decode cX7_fallsNow 17 = .ok (.iaload, 1) := by decide +kernel
theorem dX7_fallsNow_18 : decode cX7_fallsNow 18 = .ok (.invokevirtual 83, 3) := by decide +kernel
theorem dX7_fallsNow_21 : decode cX7_fallsNow 21 = .ok (.istore_n 2, 1) := by decide +kernel
theorem dX7_fallsNow_22 : decode cX7_fallsNow 22 = .ok (.iconst 0, 1) := by decide +kernel
theorem dX7_fallsNow_23 : decode cX7_fallsNow 23 = .ok (.aload_n 0, 1) := by decide +kernel
theorem dX7_fallsNow_24 : decode cX7_fallsNow 24 = .ok (.iload_n 1, 1) := by decide +kernel
theorem dX7_fallsNow_25 : decode cX7_fallsNow 25 = .ok (.invokevirtual 89, 3) := by decide +kernel
theorem dX7_fallsNow_28 : decode cX7_fallsNow 28 = .ok (.iload_n 2, 1) := by decide +kernel
theorem dX7_fallsNow_29 : decode cX7_fallsNow 29 = .ok (.aload_n 0, 1) := by decide +kernel
theorem dX7_fallsNow_30 : decode cX7_fallsNow 30 = .ok (.getfield 15, 3) := by decide +kernel
theorem dX7_fallsNow_33 : decode cX7_fallsNow 33 = .ok (.iload_n 1, 1) := by decide +kernel
theorem dX7_fallsNow_34 : decode cX7_fallsNow 34 = .ok (.iaload, 1) := by decide +kernel
theorem dX7_fallsNow_35 : decode cX7_fallsNow 35 = .ok (.aload_n 0, 1) := by decide +kernel
theorem dX7_fallsNow_36 : decode cX7_fallsNow 36 = .ok (.iload_n 1, 1) := by decide +kernel
theorem dX7_fallsNow_37 : decode cX7_fallsNow 37 = .ok (.invokevirtual 93, 3) := by decide +kernel
theorem dX7_fallsNow_40 : decode cX7_fallsNow 40 = .ok (.aload_n 0, 1) := by decide +kernel
theorem dX7_fallsNow_41 : decode cX7_fallsNow 41 = .ok (.getfield 60, 3) := by decide +kernel
theorem dX7_fallsNow_44 : decode cX7_fallsNow 44 = .ok (.aload_n 0, 1) := by decide +kernel
theorem dX7_fallsNow_45 : decode cX7_fallsNow 45 = .ok (.getfield 63, 3) := by decide +kernel
theorem dX7_fallsNow_48 : decode cX7_fallsNow 48 = .ok (.invokevirtual 97, 3) := by decide +kernel
theorem dX7_fallsNow_51 : decode cX7_fallsNow 51 = .ok (.invokestatic 103, 3) := by decide +kernel
theorem dX7_fallsNow_54 : decode cX7_fallsNow 54 = .ok (.ireturn, 1) := by decide +kernel
theorem dX7_takesNow_0 : decode cX7_takesNow 0 = .ok (.aload_n 0, 1) := by decide +kernel
theorem dX7_takesNow_1 : decode cX7_takesNow 1 = .ok (.iload_n 1, 1) := by decide +kernel
theorem dX7_takesNow_2 : decode cX7_takesNow 2 = .ok (.invokevirtual 89, 3) := by decide +kernel
theorem dX7_takesNow_5 : decode cX7_takesNow 5 = .ok (.aload_n 0, 1) := by decide +kernel
theorem dX7_takesNow_6 : decode cX7_takesNow 6 = .ok (.getfield 18, 3) := by decide +kernel
theorem dX7_takesNow_9 : decode cX7_takesNow 9 = .ok (.iload_n 1, 1) := by decide +kernel
theorem dX7_takesNow_10 : decode cX7_takesNow 10 = .ok (.iaload, 1) := by decide +kernel
theorem dX7_takesNow_11 : decode cX7_takesNow 11 = .ok (.invokevirtual 109, 3) := by decide +kernel
theorem dX7_takesNow_14 : decode cX7_takesNow 14 = .ok (.ireturn, 1) := by decide +kernel
theorem dX7_signOf_0 : decode cX7_signOf 0 = .ok (.aload_n 0, 1) := by decide +kernel
theorem dX7_signOf_1 : decode cX7_signOf 1 = .ok (.getfield 45, 3) := by decide +kernel
theorem dX7_signOf_4 : decode cX7_signOf 4 = .ok (.iload_n 1, 1) := by decide +kernel
theorem dX7_signOf_5 : decode cX7_signOf 5 = .ok (.iload_n 2, 1) := by decide +kernel
theorem dX7_signOf_6 : decode cX7_signOf 6 = .ok (.bipush 7, 2) := by decide +kernel
theorem dX7_signOf_8 : decode cX7_signOf 8 = .ok (.irem, 1) := by decide +kernel
theorem dX7_signOf_9 : decode cX7_signOf 9 = .ok (.iload_n 2, 1) := by decide +kernel
theorem dX7_signOf_10 : decode cX7_signOf 10 = .ok (.bipush 30, 2) := by decide +kernel
theorem dX7_signOf_12 : decode cX7_signOf 12 = .ok (.irem, 1) := by decide +kernel
theorem dX7_signOf_13 : decode cX7_signOf 13 = .ok (.invokevirtual 83, 3) := by decide +kernel
theorem dX7_signOf_16 : decode cX7_signOf 16 = .ok (.ireturn, 1) := by decide +kernel
theorem dX7_signedNow_0 : decode cX7_signedNow 0 = .ok (.aload_n 0, 1) := by decide +kernel
theorem dX7_signedNow_1 : decode cX7_signedNow 1 = .ok (.iconst 0, 1) := by decide +kernel
theorem dX7_signedNow_2 : decode cX7_signedNow 2 = .ok (.aload_n 0, 1) := by decide +kernel
theorem dX7_signedNow_3 : decode cX7_signedNow 3 = .ok (.getfield 60, 3) := by decide +kernel
theorem dX7_signedNow_6 : decode cX7_signedNow 6 = .ok (.invokevirtual 112, 3) := by decide +kernel
theorem dX7_signedNow_9 : decode cX7_signedNow 9 = .ok (.aload_n 0, 1) := by decide +kernel
theorem dX7_signedNow_10 : decode cX7_signedNow 10 = .ok (.iconst 1, 1) := by decide +kernel
theorem dX7_signedNow_11 : decode cX7_signedNow 11 = .ok (.aload_n 0, 1) := by decide +kernel
theorem dX7_signedNow_12 : decode cX7_signedNow 12 = .ok (.getfield 60, 3) := by decide +kernel
theorem dX7_signedNow_15 : decode cX7_signedNow 15 = .ok (.invokevirtual 112, 3) := by decide +kernel
theorem dX7_signedNow_18 : decode cX7_signedNow 18 = .ok (.iconst 1, 1) := by decide +kernel
theorem dX7_signedNow_19 : decode cX7_signedNow 19 = .ok (.ishl, 1) := by decide +kernel
theorem dX7_signedNow_20 : decode cX7_signedNow 20 = .ok (.ior, 1) := by decide +kernel
theorem dX7_signedNow_21 : decode cX7_signedNow 21 = .ok (.ireturn, 1) := by decide +kernel
theorem dX7_dirtOfAll_0 : decode cX7_dirtOfAll 0 = .ok (.iconst 0, 1) := by decide +kernel
theorem dX7_dirtOfAll_1 : decode cX7_dirtOfAll 1 = .ok (.istore_n 1, 1) := by decide +kernel
theorem dX7_dirtOfAll_2 : decode cX7_dirtOfAll 2 = .ok (.iconst 0, 1) := by decide +kernel
theorem dX7_dirtOfAll_3 : decode cX7_dirtOfAll 3 = .ok (.istore_n 2, 1) := by decide +kernel
theorem dX7_dirtOfAll_4 : decode cX7_dirtOfAll 4 = .ok (.iload_n 2, 1) := by decide +kernel
theorem dX7_dirtOfAll_5 : decode cX7_dirtOfAll 5 = .ok (.aload_n 0, 1) := by decide +kernel
theorem dX7_dirtOfAll_6 : decode cX7_dirtOfAll 6 = .ok (.getfield 54, 3) := by decide +kernel
theorem dX7_dirtOfAll_9 : decode cX7_dirtOfAll 9 = .ok (.if_icmp .ge 18, 3) := by decide +kernel
theorem dX7_dirtOfAll_12 : decode cX7_dirtOfAll 12 = .ok (.iload_n 1, 1) := by decide +kernel
theorem dX7_dirtOfAll_13 : decode cX7_dirtOfAll 13 = .ok (.aload_n 0, 1) := by decide +kernel
theorem dX7_dirtOfAll_14 : decode cX7_dirtOfAll 14 = .ok (.getfield 18, 3) := by decide +kernel
theorem dX7_dirtOfAll_17 : decode cX7_dirtOfAll 17 = .ok (.iload_n 2, 1) := by decide +kernel
theorem dX7_dirtOfAll_18 : decode cX7_dirtOfAll 18 = .ok (.iaload, 1) := by decide +kernel
theorem dX7_dirtOfAll_19 : decode cX7_dirtOfAll 19 = .ok (.iadd, 1) := by decide +kernel
theorem dX7_dirtOfAll_20 : decode cX7_dirtOfAll 20 = .ok (.istore_n 1, 1) := by decide +kernel
theorem dX7_dirtOfAll_21 : decode cX7_dirtOfAll 21 = .ok (.iinc 2 1, 3) := by decide +kernel
theorem dX7_dirtOfAll_24 : decode cX7_dirtOfAll 24 = .ok (.goto (-20), 3) := by decide +kernel
theorem dX7_dirtOfAll_27 : decode cX7_dirtOfAll 27 = .ok (.iload_n 1, 1) := by decide +kernel
theorem dX7_dirtOfAll_28 : decode cX7_dirtOfAll 28 = .ok (.ireturn, 1) := by decide +kernel
theorem dX7_greatestDirt_0 : decode cX7_greatestDirt 0 = .ok (.iconst 0, 1) := by decide +kernel
theorem dX7_greatestDirt_1 : decode cX7_greatestDirt 1 = .ok (.istore_n 1, 1) := by decide +kernel
theorem dX7_greatestDirt_2 : decode cX7_greatestDirt 2 = .ok (.iconst 0, 1) := by decide +kernel
theorem dX7_greatestDirt_3 : decode cX7_greatestDirt 3 = .ok (.istore_n 2, 1) := by decide +kernel
theorem dX7_greatestDirt_4 : decode cX7_greatestDirt 4 = .ok (.iload_n 2, 1) := by decide +kernel
theorem dX7_greatestDirt_5 : decode cX7_greatestDirt 5 = .ok (.aload_n 0, 1) := by decide +kernel
theorem dX7_greatestDirt_6 : decode cX7_greatestDirt 6 = .ok (.getfield 54, 3) := by decide +kernel
theorem dX7_greatestDirt_9 : decode cX7_greatestDirt 9 = .ok (.if_icmp .ge 20, 3) := by decide +kernel
theorem dX7_greatestDirt_12 : decode cX7_greatestDirt 12 = .ok (.iload_n 1, 1) := by decide +kernel
theorem dX7_greatestDirt_13 : decode cX7_greatestDirt 13 = .ok (.aload_n 0, 1) := by decide +kernel
theorem dX7_greatestDirt_14 : decode cX7_greatestDirt 14 = .ok (.getfield 18, 3) := by decide +kernel
theorem dX7_greatestDirt_17 : decode cX7_greatestDirt 17 = .ok (.iload_n 2, 1) := by decide +kernel
theorem dX7_greatestDirt_18 : decode cX7_greatestDirt 18 = .ok (.iaload, 1) := by decide +kernel
theorem dX7_greatestDirt_19 : decode cX7_greatestDirt 19 = .ok (.invokestatic 103, 3) := by decide +kernel
theorem dX7_greatestDirt_22 : decode cX7_greatestDirt 22 = .ok (.istore_n 1, 1) := by decide +kernel
theorem dX7_greatestDirt_23 : decode cX7_greatestDirt 23 = .ok (.iinc 2 1, 3) := by decide +kernel
theorem dX7_greatestDirt_26 : decode cX7_greatestDirt 26 = .ok (.goto (-22), 3) := by decide +kernel
theorem dX7_greatestDirt_29 : decode cX7_greatestDirt 29 = .ok (.iload_n 1, 1) := by decide +kernel
theorem dX7_greatestDirt_30 : decode cX7_greatestDirt 30 = .ok (.ireturn, 1) := by decide +kernel
theorem dX7_firstWith_0 : decode cX7_firstWith 0 = .ok (.iconst 0, 1) := by decide +kernel
theorem dX7_firstWith_1 : decode cX7_firstWith 1 = .ok (.istore_n 2, 1) := by decide +kernel
theorem dX7_firstWith_2 : decode cX7_firstWith 2 = .ok (.iload_n 2, 1) := by decide +kernel
theorem dX7_firstWith_3 : decode cX7_firstWith 3 = .ok (.aload_n 0, 1) := by decide +kernel
theorem dX7_firstWith_4 : decode cX7_firstWith 4 = .ok (.getfield 54, 3) := by decide +kernel
theorem dX7_firstWith_7 : decode cX7_firstWith 7 = .ok (.if_icmp .ge 21, 3) := by decide +kernel
theorem dX7_firstWith_10 : decode cX7_firstWith 10 = .ok (.aload_n 0, 1) := by decide +kernel
theorem dX7_firstWith_11 : decode cX7_firstWith 11 = .ok (.getfield 18, 3) := by decide +kernel
theorem dX7_firstWith_14 : decode cX7_firstWith 14 = .ok (.iload_n 2, 1) := by decide +kernel
theorem dX7_firstWith_15 : decode cX7_firstWith 15 = .ok (.iaload, 1) := by decide +kernel
theorem dX7_firstWith_16 : decode cX7_firstWith 16 = .ok (.iload_n 1, 1) := by decide +kernel
theorem dX7_firstWith_17 : decode cX7_firstWith 17 = .ok (.if_icmp .lt 5, 3) := by decide +kernel
theorem dX7_firstWith_20 : decode cX7_firstWith 20 = .ok (.iload_n 2, 1) := by decide +kernel
theorem dX7_firstWith_21 : decode cX7_firstWith 21 = .ok (.ireturn, 1) := by decide +kernel
theorem dX7_firstWith_22 : decode cX7_firstWith 22 = .ok (.iinc 2 1, 3) := by decide +kernel
theorem dX7_firstWith_25 : decode cX7_firstWith 25 = .ok (.goto (-23), 3) := by decide +kernel
theorem dX7_firstWith_28 : decode cX7_firstWith 28 = .ok (.iconst (-1), 1) := by decide +kernel
theorem dX7_firstWith_29 : decode cX7_firstWith 29 = .ok (.ireturn, 1) := by decide +kernel
theorem dX7_passAll_0 : decode cX7_passAll 0 = .ok (.iconst 0, 1) := by decide +kernel
theorem dX7_passAll_1 : decode cX7_passAll 1 = .ok (.istore_n 2, 1) := by decide +kernel
theorem dX7_passAll_2 : decode cX7_passAll 2 = .ok (.iload_n 2, 1) := by decide +kernel
theorem dX7_passAll_3 : decode cX7_passAll 3 = .ok (.iload_n 1, 1) := by decide +kernel
theorem dX7_passAll_4 : decode cX7_passAll 4 = .ok (.if_icmp .ge 22, 3) := by decide +kernel
theorem dX7_passAll_7 : decode cX7_passAll 7 = .ok (.aload_n 0, 1) := by decide +kernel
theorem dX7_passAll_8 : decode cX7_passAll 8 = .ok (.iconst 0, 1) := by decide +kernel
theorem dX7_passAll_9 : decode cX7_passAll 9 = .ok (.aload_n 0, 1) := by decide +kernel
theorem dX7_passAll_10 : decode cX7_passAll 10 = .ok (.getfield 54, 3) := by decide +kernel
theorem dX7_passAll_13 : decode cX7_passAll 13 = .ok (.aload_n 0, 1) := by decide +kernel
theorem dX7_passAll_14 : decode cX7_passAll 14 = .ok (.invokevirtual 115, 3) := by decide +kernel
theorem dX7_passAll_17 : decode cX7_passAll 17 = .ok (.invokevirtual 119, 3) := by decide +kernel
theorem dX7_passAll_20 : decode cX7_passAll 20 = .ok (.iinc 2 1, 3) := by decide +kernel
theorem dX7_passAll_23 : decode cX7_passAll 23 = .ok (.goto (-21), 3) := by decide +kernel
theorem dX7_passAll_26 : decode cX7_passAll 26 = .ok (.return_, 1) := by decide +kernel
theorem dX7_dirtBehind_0 : decode cX7_dirtBehind 0 = .ok (.iload_n 2, 1) := by decide +kernel
theorem dX7_dirtBehind_1 : decode cX7_dirtBehind 1 = .ok (.iload_n 2, 1) := by decide +kernel
theorem dX7_dirtBehind_2 : decode cX7_dirtBehind 2 = .ok (.iconst 2, 1) := by decide +kernel
theorem dX7_dirtBehind_3 : decode cX7_dirtBehind 3 = .ok (.irem, 1) := by decide +kernel
theorem dX7_dirtBehind_4 : decode cX7_dirtBehind 4 = .ok (.isub, 1) := by decide +kernel
theorem dX7_dirtBehind_5 : decode cX7_dirtBehind 5 = .ok (.istore_n 3, 1) := by decide +kernel
theorem dX7_dirtBehind_6 : decode cX7_dirtBehind 6 = .ok (.iload_n 3, 1) := by decide +kernel
theorem dX7_dirtBehind_7 : decode cX7_dirtBehind 7 = .ok (.iconst 2, 1) := by decide +kernel
theorem dX7_dirtBehind_8 : decode cX7_dirtBehind 8 = .ok (.iadd, 1) := by decide +kernel
theorem dX7_dirtBehind_9 : decode cX7_dirtBehind 9 = .ok (.aload_n 0, 1) := by decide +kernel
theorem dX7_dirtBehind_10 : decode cX7_dirtBehind 10 = .ok (.getfield 54, 3) := by decide +kernel
theorem dX7_dirtBehind_13 : decode cX7_dirtBehind 13 = .ok (.invokestatic 123, 3) := by decide +kernel
theorem dX7_dirtBehind_16 : decode cX7_dirtBehind 16 = .ok (.istore 4, 2) := by decide +kernel
theorem dX7_dirtBehind_18 : decode cX7_dirtBehind 18 = .ok (.iconst 0, 1) := by decide +kernel
theorem dX7_dirtBehind_19 : decode cX7_dirtBehind 19 = .ok (.istore 5, 2) := by decide +kernel
theorem dX7_dirtBehind_21 : decode cX7_dirtBehind 21 = .ok (.iload 5, 2) := by decide +kernel
theorem dX7_dirtBehind_23 : decode cX7_dirtBehind 23 = .ok (.iload_n 1, 1) := by decide +kernel
theorem dX7_dirtBehind_24 : decode cX7_dirtBehind 24 = .ok (.if_icmp .ge 20, 3) := by decide +kernel
theorem dX7_dirtBehind_27 : decode cX7_dirtBehind 27 = .ok (.aload_n 0, 1) := by decide +kernel
theorem dX7_dirtBehind_28 : decode cX7_dirtBehind 28 = .ok (.iload_n 3, 1) := by decide +kernel
theorem dX7_dirtBehind_29 : decode cX7_dirtBehind 29 = .ok (.iload 4, 2) := by decide +kernel
theorem dX7_dirtBehind_31 : decode cX7_dirtBehind 31 = .ok (.aload_n 0, 1) := by decide +kernel
theorem dX7_dirtBehind_32 : decode cX7_dirtBehind 32 = .ok (.invokevirtual 115, 3) := by decide +kernel
theorem dX7_dirtBehind_35 : decode cX7_dirtBehind 35 = .ok (.invokevirtual 119, 3) := by decide +kernel
theorem dX7_dirtBehind_38 : decode cX7_dirtBehind 38 = .ok (.iinc 5 1, 3) := by decide +kernel
theorem dX7_dirtBehind_41 : decode cX7_dirtBehind 41 = .ok (.goto (-20), 3) := by decide +kernel
theorem dX7_dirtBehind_44 : decode cX7_dirtBehind 44 = .ok (.aload_n 0, 1) := by decide +kernel
theorem dX7_dirtBehind_45 : decode cX7_dirtBehind 45 = .ok (.getfield 18, 3) := by decide +kernel
theorem dX7_dirtBehind_48 : decode cX7_dirtBehind 48 = .ok (.iload_n 2, 1) := by decide +kernel
theorem dX7_dirtBehind_49 : decode cX7_dirtBehind 49 = .ok (.iaload, 1) := by decide +kernel
theorem dX7_dirtBehind_50 : decode cX7_dirtBehind 50 = .ok (.ireturn, 1) := by decide +kernel
theorem dX7_passPart_0 : decode cX7_passPart 0 = .ok (.iload_n 1, 1) := by decide +kernel
theorem dX7_passPart_1 : decode cX7_passPart 1 = .ok (.istore 4, 2) := by decide +kernel
theorem dX7_passPart_3 : decode cX7_passPart 3 = .ok (.iload 4, 2) := by decide +kernel
theorem dX7_passPart_5 : decode cX7_passPart 5 = .ok (.iload_n 2, 1) := by decide +kernel
theorem dX7_passPart_6 : decode cX7_passPart 6 = .ok (.if_icmp .ge 36, 3) := by decide +kernel
theorem dX7_passPart_9 : decode cX7_passPart 9 = .ok (.aload_n 0, 1) := by decide +kernel
theorem dX7_passPart_10 : decode cX7_passPart 10 = .ok (.getfield 18, 3) := by decide +kernel
theorem dX7_passPart_13 : decode cX7_passPart 13 = .ok (.iload 4, 2) := by decide +kernel
theorem dX7_passPart_15 : decode cX7_passPart 15 = .ok (.sipush 999, 3) := by decide +kernel
theorem dX7_passPart_18 : decode cX7_passPart 18 = .ok (.aload_n 0, 1) := by decide +kernel
theorem dX7_passPart_19 : decode cX7_passPart 19 = .ok (.getfield 18, 3) := by decide +kernel
theorem dX7_passPart_22 : decode cX7_passPart 22 = .ok (.iload 4, 2) := by decide +kernel
theorem dX7_passPart_24 : decode cX7_passPart 24 = .ok (.iaload, 1) := by decide +kernel
theorem dX7_passPart_25 : decode cX7_passPart 25 = .ok (.aload_n 0, 1) := by decide +kernel
theorem dX7_passPart_26 : decode cX7_passPart 26 = .ok (.iload 4, 2) := by decide +kernel
theorem dX7_passPart_28 : decode cX7_passPart 28 = .ok (.invokevirtual 126, 3) := by decide +kernel
theorem dX7_passPart_31 : decode cX7_passPart 31 = .ok (.iadd, 1) := by decide +kernel
theorem dX7_passPart_32 : decode cX7_passPart 32 = .ok (.invokestatic 123, 3) := by decide +kernel
theorem dX7_passPart_35 : decode cX7_passPart 35 = .ok (.iastore, 1) := by decide +kernel
theorem dX7_passPart_36 : decode cX7_passPart 36 = .ok (.iinc 4 1, 3) := by decide +kernel
theorem dX7_passPart_39 : decode cX7_passPart 39 = .ok (.goto (-36), 3) := by decide +kernel
theorem dX7_passPart_42 : decode cX7_passPart 42 = .ok (.iload_n 1, 1) := by decide +kernel
theorem dX7_passPart_43 : decode cX7_passPart 43 = .ok (.iconst 1, 1) := by decide +kernel
theorem dX7_passPart_44 : decode cX7_passPart 44 = .ok (.iadd, 1) := by decide +kernel
theorem dX7_passPart_45 : decode cX7_passPart 45 = .ok (.istore 4, 2) := by decide +kernel
theorem dX7_passPart_47 : decode cX7_passPart 47 = .ok (.iload 4, 2) := by decide +kernel
theorem dX7_passPart_49 : decode cX7_passPart 49 = .ok (.iload_n 2, 1) := by decide +kernel
theorem dX7_passPart_50 : decode cX7_passPart 50 = .ok (.if_icmp .ge 65, 3) := by decide +kernel
theorem dX7_passPart_53 : decode cX7_passPart 53 = .ok (.aload_n 0, 1) := by decide +kernel
theorem dX7_passPart_54 : decode cX7_passPart 54 = .ok (.getfield 18, 3) := by decide +kernel
theorem dX7_passPart_57 : decode cX7_passPart 57 = .ok (.iload 4, 2) := by decide +kernel
theorem dX7_passPart_59 : decode cX7_passPart 59 = .ok (.iaload, 1) := by decide +kernel
theorem dX7_passPart_60 : decode cX7_passPart 60 = .ok (.aload_n 0, 1) := by decide +kernel
theorem dX7_passPart_61 : decode cX7_passPart 61 = .ok (.getfield 63, 3) := by decide +kernel
theorem dX7_passPart_64 : decode cX7_passPart 64 = .ok (.imul, 1) := by decide +kernel
theorem dX7_passPart_65 : decode cX7_passPart 65 = .ok (.bipush 20, 2) := by decide +kernel
theorem dX7_passPart_67 : decode cX7_passPart 67 = .ok (.idiv, 1) := by decide +kernel
theorem dX7_passPart_68 : decode cX7_passPart 68 = .ok (.istore 5, 2) := by decide +kernel
theorem dX7_passPart_70 : decode cX7_passPart 70 = .ok (.aload_n 0, 1) := by decide +kernel
theorem dX7_passPart_71 : decode cX7_passPart 71 = .ok (.getfield 18, 3) := by decide +kernel
theorem dX7_passPart_74 : decode cX7_passPart 74 = .ok (.iload 4, 2) := by decide +kernel
theorem dX7_passPart_76 : decode cX7_passPart 76 = .ok (.dup2, 1) := by decide +kernel
theorem dX7_passPart_77 : decode cX7_passPart 77 = .ok (.iaload, 1) := by decide +kernel
theorem dX7_passPart_78 : decode cX7_passPart 78 = .ok (.iload 5, 2) := by decide +kernel
theorem dX7_passPart_80 : decode cX7_passPart 80 = .ok (.isub, 1) := by decide +kernel
theorem dX7_passPart_81 : decode cX7_passPart 81 = .ok (.iastore, 1) := by decide +kernel
theorem dX7_passPart_82 : decode cX7_passPart 82 = .ok (.aload_n 0, 1) := by decide +kernel
theorem dX7_passPart_83 : decode cX7_passPart 83 = .ok (.getfield 18, 3) := by decide +kernel
theorem dX7_passPart_86 : decode cX7_passPart 86 = .ok (.iload 4, 2) := by decide +kernel
theorem dX7_passPart_88 : decode cX7_passPart 88 = .ok (.iconst 1, 1) := by decide +kernel
theorem dX7_passPart_89 : decode cX7_passPart 89 = .ok (.isub, 1) := by decide +kernel
theorem dX7_passPart_90 : decode cX7_passPart 90 = .ok (.sipush 999, 3) := by decide +kernel
theorem dX7_passPart_93 : decode cX7_passPart 93 = .ok (.aload_n 0, 1) := by decide +kernel
theorem dX7_passPart_94 : decode cX7_passPart 94 = .ok (.getfield 18, 3) := by decide +kernel
theorem dX7_passPart_97 : decode cX7_passPart 97 = .ok (.iload 4, 2) := by decide +kernel
theorem dX7_passPart_99 : decode cX7_passPart 99 = .ok (.iconst 1, 1) := by decide +kernel
theorem dX7_passPart_100 : decode cX7_passPart 100 = .ok (.isub, 1) := by decide +kernel
theorem dX7_passPart_101 : decode cX7_passPart 101 = .ok (.iaload, 1) := by decide +kernel
theorem dX7_passPart_102 : decode cX7_passPart 102 = .ok (.iload 5, 2) := by decide +kernel
theorem dX7_passPart_104 : decode cX7_passPart 104 = .ok (.iadd, 1) := by decide +kernel
theorem dX7_passPart_105 : decode cX7_passPart 105 = .ok (.invokestatic 123, 3) := by decide +kernel
theorem dX7_passPart_108 : decode cX7_passPart 108 = .ok (.iastore, 1) := by decide +kernel
theorem dX7_passPart_109 : decode cX7_passPart 109 = .ok (.iinc 4 2, 3) := by decide +kernel
theorem dX7_passPart_112 : decode cX7_passPart 112 = .ok (.goto (-65), 3) := by decide +kernel
theorem dX7_passPart_115 : decode cX7_passPart 115 = .ok (.aload_n 0, 1) := by decide +kernel
theorem dX7_passPart_116 : decode cX7_passPart 116 = .ok (.iload_n 1, 1) := by decide +kernel
theorem dX7_passPart_117 : decode cX7_passPart 117 = .ok (.iload_n 2, 1) := by decide +kernel
theorem dX7_passPart_118 : decode cX7_passPart 118 = .ok (.iload_n 3, 1) := by decide +kernel
theorem dX7_passPart_119 : decode cX7_passPart 119 = .ok (.invokevirtual 129, 3) := by decide +kernel
theorem dX7_passPart_122 : decode cX7_passPart 122 = .ok (.aload_n 0, 1) := by decide +kernel
theorem dX7_passPart_123 : decode cX7_passPart 123 = .ok (.dup, 1) := by decide +kernel
theorem dX7_passPart_124 : decode cX7_passPart 124 = .ok (.getfield 60, 3) := by decide +kernel
theorem dX7_passPart_127 : decode cX7_passPart 127 = .ok (.iconst 1, 1) := by decide +kernel
theorem dX7_passPart_128 : decode cX7_passPart 128 = .ok (.iadd, 1) := by decide +kernel
theorem dX7_passPart_129 : decode cX7_passPart 129 = .ok (.putfield 60, 3) := by decide +kernel
theorem dX7_passPart_132 : decode cX7_passPart 132 = .ok (.return_, 1) := by decide +kernel
theorem dX7_sweep_0 : decode cX7_sweep 0 = .ok (.iconst 0, 1) := by decide +kernel
theorem dX7_sweep_1 : decode cX7_sweep 1 = .ok (.istore 4, 2) := by decide +kernel
theorem dX7_sweep_3 : decode cX7_sweep 3 = .ok (.iload 4, 2) := by decide +kernel
theorem dX7_sweep_5 : decode cX7_sweep 5 = .ok (.iconst 1, 1) := by decide +kernel
theorem dX7_sweep_6 : decode cX7_sweep 6 = .ok (.if_icmp .gt 124, 3) := by decide +kernel
theorem dX7_sweep_9 : decode cX7_sweep 9 = .ok (.iload_n 3, 1) := by decide +kernel
theorem dX7_sweep_10 : decode cX7_sweep 10 = .ok (.iload 4, 2) := by decide +kernel
theorem dX7_sweep_12 : decode cX7_sweep 12 = .ok (.ishr, 1) := by decide +kernel
theorem dX7_sweep_13 : decode cX7_sweep 13 = .ok (.iconst 1, 1) := by decide +kernel
theorem dX7_sweep_14 : decode cX7_sweep 14 = .ok (.iand, 1) := by decide +kernel
theorem dX7_sweep_15 : decode cX7_sweep 15 = .ok (.ifCond .ne 6, 3) := by decide +kernel
theorem dX7_sweep_18 : decode cX7_sweep 18 = .ok (.goto 106, 3) := by decide +kernel
theorem dX7_sweep_21 : decode cX7_sweep 21 = .ok (.iload_n 3, 1) := by decide +kernel
theorem dX7_sweep_22 : decode cX7_sweep 22 = .ok (.iconst 3, 1) := by decide +kernel
theorem dX7_sweep_23 : decode cX7_sweep 23 = .ok (.if_icmp .ne 10, 3) := by decide +kernel
theorem dX7_sweep_26 : decode cX7_sweep 26 = .ok (.aload_n 0, 1) := by decide +kernel
theorem dX7_sweep_27 : decode cX7_sweep 27 = .ok (.getfield 57, 3) := by decide +kernel
theorem dX7_sweep_30 : decode cX7_sweep 30 = .ok (.goto 16, 3) := by decide +kernel
theorem dX7_sweep_33 : decode cX7_sweep 33 = .ok (.aload_n 0, 1) := by decide +kernel
theorem dX7_sweep_34 : decode cX7_sweep 34 = .ok (.getfield 57, 3) := by decide +kernel
theorem dX7_sweep_37 : decode cX7_sweep 37 = .ok (.aload_n 0, 1) := by decide +kernel
theorem dX7_sweep_38 : decode cX7_sweep 38 = .ok (.iload 4, 2) := by decide +kernel
theorem dX7_sweep_40 : decode cX7_sweep 40 = .ok (.invokevirtual 132, 3) := by decide +kernel
theorem dX7_sweep_43 : decode cX7_sweep 43 = .ok (.iconst (-1), 1) := by decide +kernel
theorem dX7_sweep_44 : decode cX7_sweep 44 = .ok (.ixor, 1) := by decide +kernel
theorem dX7_sweep_45 : decode cX7_sweep 45 = .ok (.iand, 1) := by decide +kernel
theorem dX7_sweep_46 : decode cX7_sweep 46 = .ok (.istore 5, 2) := by decide +kernel
theorem dX7_sweep_48 : decode cX7_sweep 48 = .ok (.iload_n 1, 1) := by decide +kernel
theorem dX7_sweep_49 : decode cX7_sweep 49 = .ok (.iload 4, 2) := by decide +kernel
theorem dX7_sweep_51 : decode cX7_sweep 51 = .ok (.iadd, 1) := by decide +kernel
theorem dX7_sweep_52 : decode cX7_sweep 52 = .ok (.istore 6, 2) := by decide +kernel
theorem dX7_sweep_54 : decode cX7_sweep 54 = .ok (.iload 6, 2) := by decide +kernel
theorem dX7_sweep_56 : decode cX7_sweep 56 = .ok (.iload_n 2, 1) := by decide +kernel
theorem dX7_sweep_57 : decode cX7_sweep 57 = .ok (.if_icmp .ge 67, 3) := by decide +kernel
theorem dX7_sweep_60 : decode cX7_sweep 60 = .ok (.iload 5, 2) := by decide +kernel
theorem dX7_sweep_62 : decode cX7_sweep 62 = .ok (.iload 6, 2) := by decide +kernel
theorem dX7_sweep_64 : decode cX7_sweep 64 = .ok (.ishr, 1) := by decide +kernel
theorem dX7_sweep_65 : decode cX7_sweep 65 = .ok (.iconst 1, 1) := by decide +kernel
theorem dX7_sweep_66 : decode cX7_sweep 66 = .ok (.iand, 1) := by decide +kernel
theorem dX7_sweep_67 : decode cX7_sweep 67 = .ok (.iconst 1, 1) := by decide +kernel
theorem dX7_sweep_68 : decode cX7_sweep 68 = .ok (.if_icmp .ne 24, 3) := by decide +kernel
theorem dX7_sweep_71 : decode cX7_sweep 71 = .ok (.aload_n 0, 1) := by decide +kernel
theorem dX7_sweep_72 : decode cX7_sweep 72 = .ok (.ldc 135, 2) := by decide +kernel
theorem dX7_sweep_74 : decode cX7_sweep 74 = .ok (.aload_n 0, 1) := by decide +kernel
theorem dX7_sweep_75 : decode cX7_sweep 75 = .ok (.getfield 66, 3) := by decide +kernel
theorem dX7_sweep_78 : decode cX7_sweep 78 = .ok (.aload_n 0, 1) := by decide +kernel
theorem dX7_sweep_79 : decode cX7_sweep 79 = .ok (.getfield 24, 3) := by decide +kernel
theorem dX7_sweep_82 : decode cX7_sweep 82 = .ok (.iadd, 1) := by decide +kernel
theorem dX7_sweep_83 : decode cX7_sweep 83 = .ok (.invokestatic 123, 3) := by decide +kernel
theorem dX7_sweep_86 : decode cX7_sweep 86 = .ok (.putfield 66, 3) := by decide +kernel
theorem dX7_sweep_89 : decode cX7_sweep 89 = .ok (.goto 29, 3) := by decide +kernel
theorem dX7_sweep_92 : decode cX7_sweep 92 = .ok (.aload_n 0, 1) := by decide +kernel
theorem dX7_sweep_93 : decode cX7_sweep 93 = .ok (.getfield 18, 3) := by decide +kernel
theorem dX7_sweep_96 : decode cX7_sweep 96 = .ok (.iload 6, 2) := by decide +kernel
theorem dX7_sweep_98 : decode cX7_sweep 98 = .ok (.dup2, 1) := by decide +kernel
theorem dX7_sweep_99 : decode cX7_sweep 99 = .ok (.iaload, 1) := by decide +kernel
theorem dX7_sweep_100 : decode cX7_sweep 100 = .ok (.aload_n 0, 1) := by decide +kernel
theorem dX7_sweep_101 : decode cX7_sweep 101 = .ok (.iload 6, 2) := by decide +kernel
theorem dX7_sweep_103 : decode cX7_sweep 103 = .ok (.invokevirtual 89, 3) := by decide +kernel
theorem dX7_sweep_106 : decode cX7_sweep 106 = .ok (.aload_n 0, 1) := by decide +kernel
theorem dX7_sweep_107 : decode cX7_sweep 107 = .ok (.getfield 18, 3) := by decide +kernel
theorem dX7_sweep_110 : decode cX7_sweep 110 = .ok (.iload 6, 2) := by decide +kernel
theorem dX7_sweep_112 : decode cX7_sweep 112 = .ok (.iaload, 1) := by decide +kernel
theorem dX7_sweep_113 : decode cX7_sweep 113 = .ok (.invokevirtual 109, 3) := by decide +kernel
theorem dX7_sweep_116 : decode cX7_sweep 116 = .ok (.isub, 1) := by decide +kernel
theorem dX7_sweep_117 : decode cX7_sweep 117 = .ok (.iastore, 1) := by decide +kernel
theorem dX7_sweep_118 : decode cX7_sweep 118 = .ok (.iinc 6 2, 3) := by decide +kernel
theorem dX7_sweep_121 : decode cX7_sweep 121 = .ok (.goto (-67), 3) := by decide +kernel
theorem dX7_sweep_124 : decode cX7_sweep 124 = .ok (.iinc 4 1, 3) := by decide +kernel
theorem dX7_sweep_127 : decode cX7_sweep 127 = .ok (.goto (-124), 3) := by decide +kernel
theorem dX7_sweep_130 : decode cX7_sweep 130 = .ok (.return_, 1) := by decide +kernel
theorem dX7_goers_0 : decode cX7_goers 0 = .ok (.iconst 0, 1) := by decide +kernel
theorem dX7_goers_1 : decode cX7_goers 1 = .ok (.istore_n 2, 1) := by decide +kernel
theorem dX7_goers_2 : decode cX7_goers 2 = .ok (.iconst 1, 1) := by decide +kernel
theorem dX7_goers_3 : decode cX7_goers 3 = .ok (.iload_n 1, 1) := by decide +kernel
theorem dX7_goers_4 : decode cX7_goers 4 = .ok (.isub, 1) := by decide +kernel
theorem dX7_goers_5 : decode cX7_goers 5 = .ok (.istore_n 3, 1) := by decide +kernel
theorem dX7_goers_6 : decode cX7_goers 6 = .ok (.iload_n 3, 1) := by decide +kernel
theorem dX7_goers_7 : decode cX7_goers 7 = .ok (.aload_n 0, 1) := by decide +kernel
theorem dX7_goers_8 : decode cX7_goers 8 = .ok (.getfield 54, 3) := by decide +kernel
theorem dX7_goers_11 : decode cX7_goers 11 = .ok (.if_icmp .ge 19, 3) := by decide +kernel
theorem dX7_goers_14 : decode cX7_goers 14 = .ok (.iload_n 2, 1) := by decide +kernel
theorem dX7_goers_15 : decode cX7_goers 15 = .ok (.iconst 1, 1) := by decide +kernel
theorem dX7_goers_16 : decode cX7_goers 16 = .ok (.aload_n 0, 1) := by decide +kernel
theorem dX7_goers_17 : decode cX7_goers 17 = .ok (.iload_n 3, 1) := by decide +kernel
theorem dX7_goers_18 : decode cX7_goers 18 = .ok (.invokevirtual 93, 3) := by decide +kernel
theorem dX7_goers_21 : decode cX7_goers 21 = .ok (.isub, 1) := by decide +kernel
theorem dX7_goers_22 : decode cX7_goers 22 = .ok (.iadd, 1) := by decide +kernel
theorem dX7_goers_23 : decode cX7_goers 23 = .ok (.istore_n 2, 1) := by decide +kernel
theorem dX7_goers_24 : decode cX7_goers 24 = .ok (.iinc 3 2, 3) := by decide +kernel
theorem dX7_goers_27 : decode cX7_goers 27 = .ok (.goto (-21), 3) := by decide +kernel
theorem dX7_goers_30 : decode cX7_goers 30 = .ok (.iconst 0, 1) := by decide +kernel
theorem dX7_goers_31 : decode cX7_goers 31 = .ok (.istore_n 3, 1) := by decide +kernel
theorem dX7_goers_32 : decode cX7_goers 32 = .ok (.iload_n 1, 1) := by decide +kernel
theorem dX7_goers_33 : decode cX7_goers 33 = .ok (.istore 4, 2) := by decide +kernel
theorem dX7_goers_35 : decode cX7_goers 35 = .ok (.iload 4, 2) := by decide +kernel
theorem dX7_goers_37 : decode cX7_goers 37 = .ok (.aload_n 0, 1) := by decide +kernel
theorem dX7_goers_38 : decode cX7_goers 38 = .ok (.getfield 54, 3) := by decide +kernel
theorem dX7_goers_41 : decode cX7_goers 41 = .ok (.if_icmp .ge 47, 3) := by decide +kernel
theorem dX7_goers_44 : decode cX7_goers 44 = .ok (.aload_n 0, 1) := by decide +kernel
theorem dX7_goers_45 : decode cX7_goers 45 = .ok (.iload 4, 2) := by decide +kernel
theorem dX7_goers_47 : decode cX7_goers 47 = .ok (.invokevirtual 93, 3) := by decide +kernel
theorem dX7_goers_50 : decode cX7_goers 50 = .ok (.iconst 1, 1) := by decide +kernel
theorem dX7_goers_51 : decode cX7_goers 51 = .ok (.if_icmp .ne 31, 3) := by decide +kernel
theorem dX7_goers_54 : decode cX7_goers 54 = .ok (.aload_n 0, 1) := by decide +kernel
theorem dX7_goers_55 : decode cX7_goers 55 = .ok (.getfield 21, 3) := by decide +kernel
theorem dX7_goers_58 : decode cX7_goers 58 = .ok (.iload 4, 2) := by decide +kernel
theorem dX7_goers_60 : decode cX7_goers 60 = .ok (.iaload, 1) := by decide +kernel
theorem dX7_goers_61 : decode cX7_goers 61 = .ok (.aload_n 0, 1) := by decide +kernel
theorem dX7_goers_62 : decode cX7_goers 62 = .ok (.getfield 24, 3) := by decide +kernel
theorem dX7_goers_65 : decode cX7_goers 65 = .ok (.if_icmp .ge 17, 3) := by decide +kernel
theorem dX7_goers_68 : decode cX7_goers 68 = .ok (.iload_n 2, 1) := by decide +kernel
theorem dX7_goers_69 : decode cX7_goers 69 = .ok (.ifCond .le 13, 3) := by decide +kernel
theorem dX7_goers_72 : decode cX7_goers 72 = .ok (.iload_n 3, 1) := by decide +kernel
theorem dX7_goers_73 : decode cX7_goers 73 = .ok (.iconst 1, 1) := by decide +kernel
theorem dX7_goers_74 : decode cX7_goers 74 = .ok (.iload 4, 2) := by decide +kernel
theorem dX7_goers_76 : decode cX7_goers 76 = .ok (.ishl, 1) := by decide +kernel
theorem dX7_goers_77 : decode cX7_goers 77 = .ok (.ior, 1) := by decide +kernel
theorem dX7_goers_78 : decode cX7_goers 78 = .ok (.istore_n 3, 1) := by decide +kernel
theorem dX7_goers_79 : decode cX7_goers 79 = .ok (.iinc 2 (-1), 3) := by decide +kernel
theorem dX7_goers_82 : decode cX7_goers 82 = .ok (.iinc 4 2, 3) := by decide +kernel
theorem dX7_goers_85 : decode cX7_goers 85 = .ok (.goto (-50), 3) := by decide +kernel
theorem dX7_goers_88 : decode cX7_goers 88 = .ok (.iload_n 3, 1) := by decide +kernel
theorem dX7_goers_89 : decode cX7_goers 89 = .ok (.ireturn, 1) := by decide +kernel
theorem dX7_stayers_0 : decode cX7_stayers 0 = .ok (.iconst 0, 1) := by decide +kernel
theorem dX7_stayers_1 : decode cX7_stayers 1 = .ok (.istore_n 2, 1) := by decide +kernel
theorem dX7_stayers_2 : decode cX7_stayers 2 = .ok (.iload_n 1, 1) := by decide +kernel
theorem dX7_stayers_3 : decode cX7_stayers 3 = .ok (.istore_n 3, 1) := by decide +kernel
theorem dX7_stayers_4 : decode cX7_stayers 4 = .ok (.iload_n 3, 1) := by decide +kernel
theorem dX7_stayers_5 : decode cX7_stayers 5 = .ok (.aload_n 0, 1) := by decide +kernel
theorem dX7_stayers_6 : decode cX7_stayers 6 = .ok (.getfield 54, 3) := by decide +kernel
theorem dX7_stayers_9 : decode cX7_stayers 9 = .ok (.if_icmp .ge 15, 3) := by decide +kernel
theorem dX7_stayers_12 : decode cX7_stayers 12 = .ok (.iload_n 2, 1) := by decide +kernel
theorem dX7_stayers_13 : decode cX7_stayers 13 = .ok (.iconst 1, 1) := by decide +kernel
theorem dX7_stayers_14 : decode cX7_stayers 14 = .ok (.iload_n 3, 1) := by decide +kernel
theorem dX7_stayers_15 : decode cX7_stayers 15 = .ok (.ishl, 1) := by decide +kernel
theorem dX7_stayers_16 : decode cX7_stayers 16 = .ok (.ior, 1) := by decide +kernel
theorem dX7_stayers_17 : decode cX7_stayers 17 = .ok (.istore_n 2, 1) := by decide +kernel
theorem dX7_stayers_18 : decode cX7_stayers 18 = .ok (.iinc 3 2, 3) := by decide +kernel
theorem dX7_stayers_21 : decode cX7_stayers 21 = .ok (.goto (-17), 3) := by decide +kernel
theorem dX7_stayers_24 : decode cX7_stayers 24 = .ok (.aload_n 0, 1) := by decide +kernel
theorem dX7_stayers_25 : decode cX7_stayers 25 = .ok (.getfield 57, 3) := by decide +kernel
theorem dX7_stayers_28 : decode cX7_stayers 28 = .ok (.iload_n 2, 1) := by decide +kernel
theorem dX7_stayers_29 : decode cX7_stayers 29 = .ok (.iand, 1) := by decide +kernel
theorem dX7_stayers_30 : decode cX7_stayers 30 = .ok (.aload_n 0, 1) := by decide +kernel
theorem dX7_stayers_31 : decode cX7_stayers 31 = .ok (.iload_n 1, 1) := by decide +kernel
theorem dX7_stayers_32 : decode cX7_stayers 32 = .ok (.invokevirtual 132, 3) := by decide +kernel
theorem dX7_stayers_35 : decode cX7_stayers 35 = .ok (.iconst (-1), 1) := by decide +kernel
theorem dX7_stayers_36 : decode cX7_stayers 36 = .ok (.ixor, 1) := by decide +kernel
theorem dX7_stayers_37 : decode cX7_stayers 37 = .ok (.iand, 1) := by decide +kernel
theorem dX7_stayers_38 : decode cX7_stayers 38 = .ok (.ireturn, 1) := by decide +kernel
theorem dX7_drawWindAndCar_0 : decode cX7_drawWindAndCar 0 = .ok (.aload_n 0, 1) := by decide +kernel
theorem dX7_drawWindAndCar_1 : decode cX7_drawWindAndCar 1 = .ok (.aload_n 0, 1) := by decide +kernel
theorem dX7_drawWindAndCar_2 : decode cX7_drawWindAndCar 2 = .ok (.invokevirtual 136, 3) := by decide +kernel
theorem dX7_drawWindAndCar_5 : decode cX7_drawWindAndCar 5 = .ok (.bipush 10, 2) := by decide +kernel
theorem dX7_drawWindAndCar_7 : decode cX7_drawWindAndCar 7 = .ok (.irem, 1) := by decide +kernel
theorem dX7_drawWindAndCar_8 : decode cX7_drawWindAndCar 8 = .ok (.putfield 63, 3) := by decide +kernel
theorem dX7_drawWindAndCar_11 : decode cX7_drawWindAndCar 11 = .ok (.aload_n 0, 1) := by decide +kernel
theorem dX7_drawWindAndCar_12 : decode cX7_drawWindAndCar 12 = .ok (.invokevirtual 136, 3) := by decide +kernel
theorem dX7_drawWindAndCar_15 : decode cX7_drawWindAndCar 15 = .ok (.istore_n 1, 1) := by decide +kernel
theorem dX7_drawWindAndCar_16 : decode cX7_drawWindAndCar 16 = .ok (.aload_n 0, 1) := by decide +kernel
theorem dX7_drawWindAndCar_17 : decode cX7_drawWindAndCar 17 = .ok (.getfield 54, 3) := by decide +kernel
theorem dX7_drawWindAndCar_20 : decode cX7_drawWindAndCar 20 = .ok (.ifCond .le 20, 3) := by decide +kernel
theorem dX7_drawWindAndCar_23 : decode cX7_drawWindAndCar 23 = .ok (.aload_n 0, 1) := by decide +kernel
theorem dX7_drawWindAndCar_24 : decode cX7_drawWindAndCar 24 = .ok (.dup, 1) := by decide +kernel
theorem dX7_drawWindAndCar_25 : decode cX7_drawWindAndCar 25 = .ok (.getfield 57, 3) := by decide +kernel
theorem dX7_drawWindAndCar_28 : decode cX7_drawWindAndCar 28 = .ok (.iconst 1, 1) := by decide +kernel
theorem dX7_drawWindAndCar_29 : decode cX7_drawWindAndCar 29 = .ok (.iload_n 1, 1) := by decide +kernel
theorem dX7_drawWindAndCar_30 : decode cX7_drawWindAndCar 30 = .ok (.aload_n 0, 1) := by decide +kernel
theorem dX7_drawWindAndCar_31 : decode cX7_drawWindAndCar 31 = .ok (.getfield 54, 3) := by decide +kernel
theorem dX7_drawWindAndCar_34 : decode cX7_drawWindAndCar 34 = .ok (.irem, 1) := by decide +kernel
theorem dX7_drawWindAndCar_35 : decode cX7_drawWindAndCar 35 = .ok (.ishl, 1) := by decide +kernel
theorem dX7_drawWindAndCar_36 : decode cX7_drawWindAndCar 36 = .ok (.ixor, 1) := by decide +kernel
theorem dX7_drawWindAndCar_37 : decode cX7_drawWindAndCar 37 = .ok (.putfield 57, 3) := by decide +kernel
theorem dX7_drawWindAndCar_40 : decode cX7_drawWindAndCar 40 = .ok (.return_, 1) := by decide +kernel
theorem dX7_drawn_0 : decode cX7_drawn 0 = .ok (.aload_n 0, 1) := by decide +kernel
theorem dX7_drawn_1 : decode cX7_drawn 1 = .ok (.aload_n 0, 1) := by decide +kernel
theorem dX7_drawn_2 : decode cX7_drawn 2 = .ok (.getfield 34, 3) := by decide +kernel
theorem dX7_drawn_5 : decode cX7_drawn 5 = .ok (.ldc 139, 2) := by decide +kernel
theorem dX7_drawn_7 : decode cX7_drawn 7 = .ok (.imul, 1) := by decide +kernel
theorem dX7_drawn_8 : decode cX7_drawn 8 = .ok (.sipush 12345, 3) := by decide +kernel
theorem dX7_drawn_11 : decode cX7_drawn 11 = .ok (.iadd, 1) := by decide +kernel
theorem dX7_drawn_12 : decode cX7_drawn 12 = .ok (.putfield 34, 3) := by decide +kernel
theorem dX7_drawn_15 : decode cX7_drawn 15 = .ok (.aload_n 0, 1) := by decide +kernel
theorem dX7_drawn_16 : decode cX7_drawn 16 = .ok (.getfield 34, 3) := by decide +kernel
theorem dX7_drawn_19 : decode cX7_drawn 19 = .ok (.bipush 8, 2) := by decide +kernel
theorem dX7_drawn_21 : decode cX7_drawn 21 = .ok (.iushr, 1) := by decide +kernel
theorem dX7_drawn_22 : decode cX7_drawn 22 = .ok (.ireturn, 1) := by decide +kernel
theorem dX8_init_0 : decode cX8_init 0 = .ok (.aload_n 0, 1) := by decide +kernel
theorem dX8_init_1 : decode cX8_init 1 = .ok (.invokespecial 1, 3) := by decide +kernel
theorem dX8_init_4 : decode cX8_init 4 = .ok (.return_, 1) := by decide +kernel
theorem dX8_fallen_0 : decode cX8_fallen 0 = .ok (.iload_n 1, 1) := by decide +kernel
theorem dX8_fallen_1 : decode cX8_fallen 1 = .ok (.iload_n 2, 1) := by decide +kernel
theorem dX8_fallen_2 : decode cX8_fallen 2 = .ok (.iconst 3, 1) := by decide +kernel
theorem dX8_fallen_3 : decode cX8_fallen 3 = .ok (.irem, 1) := by decide +kernel
theorem dX8_fallen_4 : decode cX8_fallen 4 = .ok (.isub, 1) := by decide +kernel
theorem dX8_fallen_5 : decode cX8_fallen 5 = .ok (.ireturn, 1) := by decide +kernel
theorem dX8_taken_0 : decode cX8_taken 0 = .ok (.iload_n 1, 1) := by decide +kernel
theorem dX8_taken_1 : decode cX8_taken 1 = .ok (.iload_n 1, 1) := by decide +kernel
theorem dX8_taken_2 : decode cX8_taken 2 = .ok (.iconst 2, 1) := by decide +kernel
theorem dX8_taken_3 : decode cX8_taken 3 = .ok (.irem, 1) := by decide +kernel
theorem dX8_taken_4 : decode cX8_taken 4 = .ok (.isub, 1) := by decide +kernel
theorem dX8_taken_5 : decode cX8_taken 5 = .ok (.ireturn, 1) := by decide +kernel
theorem dX8_falls_0 : decode cX8_falls 0 = .ok (.aload_n 1, 1) := by decide +kernel
theorem dX8_falls_1 : decode cX8_falls 1 = .ok (.bipush 20, 2) := by decide +kernel
theorem dX8_falls_3 : decode cX8_falls 3 = .ok (.invokevirtual 7, 3) := by decide +kernel
theorem dX8_falls_6 : decode cX8_falls 6 = .ok (.aload_n 0, 1) := by decide +kernel
theorem dX8_falls_7 : decode cX8_falls 7 = .ok (.aload_n 1, 1) := by decide +kernel
theorem dX8_falls_8 : decode cX8_falls 8 = .ok (.iload_n 2, 1) := by decide +kernel
theorem dX8_falls_9 : decode cX8_falls 9 = .ok (.invokespecial 13, 3) := by decide +kernel
theorem dX8_falls_12 : decode cX8_falls 12 = .ok (.iconst 3, 1) := by decide +kernel
theorem dX8_falls_13 : decode cX8_falls 13 = .ok (.imul, 1) := by decide +kernel
theorem dX8_falls_14 : decode cX8_falls 14 = .ok (.ireturn, 1) := by decide +kernel
theorem dX9_init_0 : decode cX9_init 0 = .ok (.aload_n 0, 1) := by decide +kernel
theorem dX9_init_1 : decode cX9_init 1 = .ok (.invokespecial 1, 3) := by decide +kernel
theorem dX9_init_4 : decode cX9_init 4 = .ok (.return_, 1) := by decide +kernel
theorem dX9_fallen_0 : decode cX9_fallen 0 = .ok (.iload_n 1, 1) := by decide +kernel
theorem dX9_fallen_1 : decode cX9_fallen 1 = .ok (.iload_n 3, 1) := by decide +kernel
theorem dX9_fallen_2 : decode cX9_fallen 2 = .ok (.iadd, 1) := by decide +kernel
theorem dX9_fallen_3 : decode cX9_fallen 3 = .ok (.ireturn, 1) := by decide +kernel
theorem dX9_taken_0 : decode cX9_taken 0 = .ok (.iload_n 1, 1) := by decide +kernel
theorem dX9_taken_1 : decode cX9_taken 1 = .ok (.bipush 50, 2) := by decide +kernel
theorem dX9_taken_3 : decode cX9_taken 3 = .ok (.invokestatic 7, 3) := by decide +kernel
theorem dX9_taken_6 : decode cX9_taken 6 = .ok (.ireturn, 1) := by decide +kernel
theorem dX9_sweeps_0 : decode cX9_sweeps 0 = .ok (.aload_n 1, 1) := by decide +kernel
theorem dX9_sweeps_1 : decode cX9_sweeps 1 = .ok (.bipush 40, 2) := by decide +kernel
theorem dX9_sweeps_3 : decode cX9_sweeps 3 = .ok (.invokevirtual 13, 3) := by decide +kernel
theorem dX9_sweeps_6 : decode cX9_sweeps 6 = .ok (.aload_n 0, 1) := by decide +kernel
theorem dX9_sweeps_7 : decode cX9_sweeps 7 = .ok (.aload_n 1, 1) := by decide +kernel
theorem dX9_sweeps_8 : decode cX9_sweeps 8 = .ok (.iload_n 2, 1) := by decide +kernel
theorem dX9_sweeps_9 : decode cX9_sweeps 9 = .ok (.invokespecial 19, 3) := by decide +kernel
theorem dX9_sweeps_12 : decode cX9_sweeps 12 = .ok (.ineg, 1) := by decide +kernel
theorem dX9_sweeps_13 : decode cX9_sweeps 13 = .ok (.ireturn, 1) := by decide +kernel
theorem dX10_init_0 : decode cX10_init 0 = .ok (.aload_n 0, 1) := by decide +kernel
theorem dX10_init_1 : decode cX10_init 1 = .ok (.invokespecial 1, 3) := by decide +kernel
theorem dX10_init_4 : decode cX10_init 4 = .ok (.return_, 1) := by decide +kernel
theorem dX10_fallen_0 : decode cX10_fallen 0 = .ok (.iload_n 1, 1) := by decide +kernel
theorem dX10_fallen_1 : decode cX10_fallen 1 = .ok (.ireturn, 1) := by decide +kernel
theorem dX10_taken_0 : decode cX10_taken 0 = .ok (.iload_n 1, 1) := by decide +kernel
theorem dX10_taken_1 : decode cX10_taken 1 = .ok (.ireturn, 1) := by decide +kernel
theorem dX10_falls_0 : decode cX10_falls 0 = .ok (.aload_n 1, 1) := by decide +kernel
theorem dX10_falls_1 : decode cX10_falls 1 = .ok (.bipush 10, 2) := by decide +kernel
theorem dX10_falls_3 : decode cX10_falls 3 = .ok (.invokevirtual 7, 3) := by decide +kernel
theorem dX10_falls_6 : decode cX10_falls 6 = .ok (.iload_n 2, 1) := by decide +kernel
theorem dX10_falls_7 : decode cX10_falls 7 = .ok (.aload_n 1, 1) := by decide +kernel
theorem dX10_falls_8 : decode cX10_falls 8 = .ok (.getfield 13, 3) := by decide +kernel
theorem dX10_falls_11 : decode cX10_falls 11 = .ok (.iadd, 1) := by decide +kernel
theorem dX10_falls_12 : decode cX10_falls 12 = .ok (.ireturn, 1) := by decide +kernel
theorem dX10_moves_0 : decode cX10_moves 0 = .ok (.aload_n 1, 1) := by decide +kernel
theorem dX10_moves_1 : decode cX10_moves 1 = .ok (.bipush 11, 2) := by decide +kernel
theorem dX10_moves_3 : decode cX10_moves 3 = .ok (.invokevirtual 7, 3) := by decide +kernel
theorem dX10_moves_6 : decode cX10_moves 6 = .ok (.aload_n 0, 1) := by decide +kernel
theorem dX10_moves_7 : decode cX10_moves 7 = .ok (.aload_n 1, 1) := by decide +kernel
theorem dX10_moves_8 : decode cX10_moves 8 = .ok (.iload_n 2, 1) := by decide +kernel
theorem dX10_moves_9 : decode cX10_moves 9 = .ok (.invokevirtual 17, 3) := by decide +kernel
theorem dX10_moves_12 : decode cX10_moves 12 = .ok (.iconst 2, 1) := by decide +kernel
theorem dX10_moves_13 : decode cX10_moves 13 = .ok (.imul, 1) := by decide +kernel
theorem dX10_moves_14 : decode cX10_moves 14 = .ok (.ireturn, 1) := by decide +kernel
theorem dX10_sweeps_0 : decode cX10_sweeps 0 = .ok (.aload_n 1, 1) := by decide +kernel
theorem dX10_sweeps_1 : decode cX10_sweeps 1 = .ok (.bipush 12, 2) := by decide +kernel
theorem dX10_sweeps_3 : decode cX10_sweeps 3 = .ok (.invokevirtual 7, 3) := by decide +kernel
theorem dX10_sweeps_6 : decode cX10_sweeps 6 = .ok (.iload_n 2, 1) := by decide +kernel
theorem dX10_sweeps_7 : decode cX10_sweeps 7 = .ok (.aload_n 1, 1) := by decide +kernel
theorem dX10_sweeps_8 : decode cX10_sweeps 8 = .ok (.getfield 23, 3) := by decide +kernel
theorem dX10_sweeps_11 : decode cX10_sweeps 11 = .ok (.isub, 1) := by decide +kernel
end
section
theorem dX10_sweeps_12 : decode cX10_sweeps 12 = .ok (.ireturn, 1) := by decide +kernel
theorem dX10_blocks_0 : decode cX10_blocks 0 = .ok (.aload_n 1, 1) := by decide +kernel
theorem dX10_blocks_1 : decode cX10_blocks 1 = .ok (.bipush 13, 2) := by decide +kernel
theorem dX10_blocks_3 : decode cX10_blocks 3 = .ok (.invokevirtual 7, 3) := by decide +kernel
theorem dX10_blocks_6 : decode cX10_blocks 6 = .ok (.aload_n 0, 1) := by decide +kernel
theorem dX10_blocks_7 : decode cX10_blocks 7 = .ok (.aload_n 1, 1) := by decide +kernel
theorem dX10_blocks_8 : decode cX10_blocks 8 = .ok (.iload_n 2, 1) := by decide +kernel
theorem dX10_blocks_9 : decode cX10_blocks 9 = .ok (.invokevirtual 26, 3) := by decide +kernel
theorem dX10_blocks_12 : decode cX10_blocks 12 = .ok (.aload_n 0, 1) := by decide +kernel
theorem dX10_blocks_13 : decode cX10_blocks 13 = .ok (.aload_n 1, 1) := by decide +kernel
theorem dX10_blocks_14 : decode cX10_blocks 14 = .ok (.iload_n 2, 1) := by decide +kernel
theorem dX10_blocks_15 : decode cX10_blocks 15 = .ok (.invokevirtual 29, 3) := by decide +kernel
theorem dX10_blocks_18 : decode cX10_blocks 18 = .ok (.ixor, 1) := by decide +kernel
theorem dX10_blocks_19 : decode cX10_blocks 19 = .ok (.ireturn, 1) := by decide +kernel
theorem dX11_init_0 : decode cX11_init 0 = .ok (.aload_n 0, 1) := by decide +kernel
theorem dX11_init_1 : decode cX11_init 1 = .ok (.invokespecial 3, 3) := by decide +kernel
theorem dX11_init_4 : decode cX11_init 4 = .ok (.bipush 7, 2) := by decide +kernel
theorem dX11_init_6 : decode cX11_init 6 = .ok (.anewarray 9, 3) := by decide +kernel
theorem dX11_init_9 : decode cX11_init 9 = .ok (.dup, 1) := by decide +kernel
theorem dX11_init_10 : decode cX11_init 10 = .ok (.iconst 0, 1) := by decide +kernel
theorem dX11_init_11 : decode cX11_init 11 = .ok (.new 9, 3) := by decide +kernel
theorem dX11_init_14 : decode cX11_init 14 = .ok (.dup, 1) := by decide +kernel
theorem dX11_init_15 : decode cX11_init 15 = .ok (.invokespecial 11, 3) := by decide +kernel
theorem dX11_init_18 : decode cX11_init 18 = .ok (.aastore, 1) := by decide +kernel
theorem dX11_init_19 : decode cX11_init 19 = .ok (.dup, 1) := by decide +kernel
theorem dX11_init_20 : decode cX11_init 20 = .ok (.iconst 1, 1) := by decide +kernel
theorem dX11_init_21 : decode cX11_init 21 = .ok (.new 12, 3) := by decide +kernel
theorem dX11_init_24 : decode cX11_init 24 = .ok (.dup, 1) := by decide +kernel
theorem dX11_init_25 : decode cX11_init 25 = .ok (.invokespecial 14, 3) := by decide +kernel
theorem dX11_init_28 : decode cX11_init 28 = .ok (.aastore, 1) := by decide +kernel
theorem dX11_init_29 : decode cX11_init 29 = .ok (.dup, 1) := by decide +kernel
theorem dX11_init_30 : decode cX11_init 30 = .ok (.iconst 2, 1) := by decide +kernel
theorem dX11_init_31 : decode cX11_init 31 = .ok (.new 15, 3) := by decide +kernel
theorem dX11_init_34 : decode cX11_init 34 = .ok (.dup, 1) := by decide +kernel
theorem dX11_init_35 : decode cX11_init 35 = .ok (.invokespecial 17, 3) := by decide +kernel
theorem dX11_init_38 : decode cX11_init 38 = .ok (.aastore, 1) := by decide +kernel
theorem dX11_init_39 : decode cX11_init 39 = .ok (.dup, 1) := by decide +kernel
theorem dX11_init_40 : decode cX11_init 40 = .ok (.iconst 3, 1) := by decide +kernel
theorem dX11_init_41 : decode cX11_init 41 = .ok (.new 18, 3) := by decide +kernel
theorem dX11_init_44 : decode cX11_init 44 = .ok (.dup, 1) := by decide +kernel
theorem dX11_init_45 : decode cX11_init 45 = .ok (.invokespecial 20, 3) := by decide +kernel
theorem dX11_init_48 : decode cX11_init 48 = .ok (.aastore, 1) := by decide +kernel
theorem dX11_init_49 : decode cX11_init 49 = .ok (.dup, 1) := by decide +kernel
theorem dX11_init_50 : decode cX11_init 50 = .ok (.iconst 4, 1) := by decide +kernel
theorem dX11_init_51 : decode cX11_init 51 = .ok (.new 21, 3) := by decide +kernel
theorem dX11_init_54 : decode cX11_init 54 = .ok (.dup, 1) := by decide +kernel
theorem dX11_init_55 : decode cX11_init 55 = .ok (.invokespecial 23, 3) := by decide +kernel
theorem dX11_init_58 : decode cX11_init 58 = .ok (.aastore, 1) := by decide +kernel
theorem dX11_init_59 : decode cX11_init 59 = .ok (.dup, 1) := by decide +kernel
theorem dX11_init_60 : decode cX11_init 60 = .ok (.iconst 5, 1) := by decide +kernel
theorem dX11_init_61 : decode cX11_init 61 = .ok (.new 24, 3) := by decide +kernel
theorem dX11_init_64 : decode cX11_init 64 = .ok (.dup, 1) := by decide +kernel
theorem dX11_init_65 : decode cX11_init 65 = .ok (.invokespecial 26, 3) := by decide +kernel
theorem dX11_init_68 : decode cX11_init 68 = .ok (.aastore, 1) := by decide +kernel
theorem dX11_init_69 : decode cX11_init 69 = .ok (.dup, 1) := by decide +kernel
theorem dX11_init_70 : decode cX11_init 70 = .ok (.bipush 6, 2) := by decide +kernel
theorem dX11_init_72 : decode cX11_init 72 = .ok (.new 27, 3) := by decide +kernel
theorem dX11_init_75 : decode cX11_init 75 = .ok (.dup, 1) := by decide +kernel
theorem dX11_init_76 : decode cX11_init 76 = .ok (.invokespecial 29, 3) := by decide +kernel
theorem dX11_init_79 : decode cX11_init 79 = .ok (.aastore, 1) := by decide +kernel
theorem dX11_init_80 : decode cX11_init 80 = .ok (.astore_n 1, 1) := by decide +kernel
theorem dX11_init_81 : decode cX11_init 81 = .ok (.new 30, 3) := by decide +kernel
theorem dX11_init_84 : decode cX11_init 84 = .ok (.dup, 1) := by decide +kernel
theorem dX11_init_85 : decode cX11_init 85 = .ok (.iconst 0, 1) := by decide +kernel
theorem dX11_init_86 : decode cX11_init 86 = .ok (.iconst 0, 1) := by decide +kernel
theorem dX11_init_87 : decode cX11_init 87 = .ok (.newarray .int, 2) := by decide +kernel
theorem dX11_init_89 : decode cX11_init 89 = .ok (.invokespecial 32, 3) := by decide +kernel
theorem dX11_init_92 : decode cX11_init 92 = .ok (.astore_n 2, 1) := by decide +kernel
theorem dX11_init_93 : decode cX11_init 93 = .ok (.new 30, 3) := by decide +kernel
theorem dX11_init_96 : decode cX11_init 96 = .ok (.dup, 1) := by decide +kernel
theorem dX11_init_97 : decode cX11_init 97 = .ok (.iconst 1, 1) := by decide +kernel
theorem dX11_init_98 : decode cX11_init 98 = .ok (.iconst 0, 1) := by decide +kernel
theorem dX11_init_99 : decode cX11_init 99 = .ok (.newarray .int, 2) := by decide +kernel
theorem dX11_init_101 : decode cX11_init 101 = .ok (.invokespecial 32, 3) := by decide +kernel
theorem dX11_init_104 : decode cX11_init 104 = .ok (.astore_n 3, 1) := by decide +kernel
theorem dX11_init_105 : decode cX11_init 105 = .ok (.aload_n 0, 1) := by decide +kernel
theorem dX11_init_106 : decode cX11_init 106 = .ok (.new 35, 3) := by decide +kernel
theorem dX11_init_109 : decode cX11_init 109 = .ok (.dup, 1) := by decide +kernel
theorem dX11_init_110 : decode cX11_init 110 = .ok (.aload_n 1, 1) := by decide +kernel
theorem dX11_init_111 : decode cX11_init 111 = .ok (.aload_n 2, 1) := by decide +kernel
theorem dX11_init_112 : decode cX11_init 112 = .ok (.aload_n 3, 1) := by decide +kernel
theorem dX11_init_113 : decode cX11_init 113 = .ok (.invokespecial 37, 3) := by decide +kernel
theorem dX11_init_116 : decode cX11_init 116 = .ok (.putfield 40, 3) := by decide +kernel
theorem dX11_init_119 : decode cX11_init 119 = .ok (.aload_n 0, 1) := by decide +kernel
theorem dX11_init_120 : decode cX11_init 120 = .ok (.new 35, 3) := by decide +kernel
theorem dX11_init_123 : decode cX11_init 123 = .ok (.dup, 1) := by decide +kernel
theorem dX11_init_124 : decode cX11_init 124 = .ok (.aload_n 1, 1) := by decide +kernel
theorem dX11_init_125 : decode cX11_init 125 = .ok (.aload_n 2, 1) := by decide +kernel
theorem dX11_init_126 : decode cX11_init 126 = .ok (.aload_n 3, 1) := by decide +kernel
theorem dX11_init_127 : decode cX11_init 127 = .ok (.invokespecial 37, 3) := by decide +kernel
theorem dX11_init_130 : decode cX11_init 130 = .ok (.putfield 44, 3) := by decide +kernel
theorem dX11_init_133 : decode cX11_init 133 = .ok (.aload_n 0, 1) := by decide +kernel
theorem dX11_init_134 : decode cX11_init 134 = .ok (.new 35, 3) := by decide +kernel
theorem dX11_init_137 : decode cX11_init 137 = .ok (.dup, 1) := by decide +kernel
theorem dX11_init_138 : decode cX11_init 138 = .ok (.aload_n 1, 1) := by decide +kernel
theorem dX11_init_139 : decode cX11_init 139 = .ok (.aload_n 2, 1) := by decide +kernel
theorem dX11_init_140 : decode cX11_init 140 = .ok (.aload_n 3, 1) := by decide +kernel
theorem dX11_init_141 : decode cX11_init 141 = .ok (.invokespecial 37, 3) := by decide +kernel
theorem dX11_init_144 : decode cX11_init 144 = .ok (.putfield 47, 3) := by decide +kernel
theorem dX11_init_147 : decode cX11_init 147 = .ok (.aload_n 0, 1) := by decide +kernel
theorem dX11_init_148 : decode cX11_init 148 = .ok (.new 50, 3) := by decide +kernel
theorem dX11_init_151 : decode cX11_init 151 = .ok (.dup, 1) := by decide +kernel
theorem dX11_init_152 : decode cX11_init 152 = .ok (.invokespecial 52, 3) := by decide +kernel
theorem dX11_init_155 : decode cX11_init 155 = .ok (.putfield 53, 3) := by decide +kernel
theorem dX11_init_158 : decode cX11_init 158 = .ok (.aload_n 0, 1) := by decide +kernel
theorem dX11_init_159 : decode cX11_init 159 = .ok (.new 57, 3) := by decide +kernel
theorem dX11_init_162 : decode cX11_init 162 = .ok (.dup, 1) := by decide +kernel
theorem dX11_init_163 : decode cX11_init 163 = .ok (.invokespecial 59, 3) := by decide +kernel
theorem dX11_init_166 : decode cX11_init 166 = .ok (.putfield 60, 3) := by decide +kernel
theorem dX11_init_169 : decode cX11_init 169 = .ok (.aload_n 0, 1) := by decide +kernel
theorem dX11_init_170 : decode cX11_init 170 = .ok (.iconst 4, 1) := by decide +kernel
theorem dX11_init_171 : decode cX11_init 171 = .ok (.bipush 40, 2) := by decide +kernel
theorem dX11_init_173 : decode cX11_init 173 = .ok (.multianewarray 64 2, 4) := by decide +kernel
theorem dX11_init_177 : decode cX11_init 177 = .ok (.putfield 66, 3) := by decide +kernel
theorem dX11_init_180 : decode cX11_init 180 = .ok (.aload_n 0, 1) := by decide +kernel
theorem dX11_init_181 : decode cX11_init 181 = .ok (.iconst 4, 1) := by decide +kernel
theorem dX11_init_182 : decode cX11_init 182 = .ok (.newarray .int, 2) := by decide +kernel
theorem dX11_init_184 : decode cX11_init 184 = .ok (.putfield 69, 3) := by decide +kernel
theorem dX11_init_187 : decode cX11_init 187 = .ok (.aload_n 0, 1) := by decide +kernel
theorem dX11_init_188 : decode cX11_init 188 = .ok (.iconst 4, 1) := by decide +kernel
theorem dX11_init_189 : decode cX11_init 189 = .ok (.newarray .int, 2) := by decide +kernel
theorem dX11_init_191 : decode cX11_init 191 = .ok (.putfield 73, 3) := by decide +kernel
theorem dX11_init_194 : decode cX11_init 194 = .ok (.aload_n 0, 1) := by decide +kernel
theorem dX11_init_195 : decode cX11_init 195 = .ok (.bipush 6, 2) := by decide +kernel
theorem dX11_init_197 : decode cX11_init 197 = .ok (.newarray .int, 2) := by decide +kernel
theorem dX11_init_199 : decode cX11_init 199 = .ok (.putfield 76, 3) := by decide +kernel
theorem dX11_init_202 : decode cX11_init 202 = .ok (.return_, 1) := by decide +kernel
theorem dX11_yard_0 : decode cX11_yard 0 = .ok (.iload_n 1, 1) := by decide +kernel
theorem dX11_yard_1 : decode cX11_yard 1 = .ok (.iconst 0, 1) := by decide +kernel
theorem dX11_yard_2 : decode cX11_yard 2 = .ok (.bipush 69, 2) := by decide +kernel
theorem dX11_yard_4 : decode cX11_yard 4 = .ok (.invokestatic 79, 3) := by decide +kernel
theorem dX11_yard_7 : decode cX11_yard 7 = .ok (.ifCond .eq 24, 3) := by decide +kernel
theorem dX11_yard_10 : decode cX11_yard 10 = .ok (.iload_n 2, 1) := by decide +kernel
theorem dX11_yard_11 : decode cX11_yard 11 = .ok (.iconst 0, 1) := by decide +kernel
theorem dX11_yard_12 : decode cX11_yard 12 = .ok (.sipush 999, 3) := by decide +kernel
theorem dX11_yard_15 : decode cX11_yard 15 = .ok (.invokestatic 79, 3) := by decide +kernel
theorem dX11_yard_18 : decode cX11_yard 18 = .ok (.ifCond .eq 13, 3) := by decide +kernel
theorem dX11_yard_21 : decode cX11_yard 21 = .ok (.iload_n 3, 1) := by decide +kernel
theorem dX11_yard_22 : decode cX11_yard 22 = .ok (.iconst (-1), 1) := by decide +kernel
theorem dX11_yard_23 : decode cX11_yard 23 = .ok (.bipush 99, 2) := by decide +kernel
theorem dX11_yard_25 : decode cX11_yard 25 = .ok (.invokestatic 79, 3) := by decide +kernel
theorem dX11_yard_28 : decode cX11_yard 28 = .ok (.ifCond .ne 10, 3) := by decide +kernel
theorem dX11_yard_31 : decode cX11_yard 31 = .ok (.aload_n 0, 1) := by decide +kernel
theorem dX11_yard_32 : decode cX11_yard 32 = .ok (.ldc 83, 2) := by decide +kernel
theorem dX11_yard_34 : decode cX11_yard 34 = .ok (.invokevirtual 84, 3) := by decide +kernel
theorem dX11_yard_37 : decode cX11_yard 37 = .ok (.ireturn, 1) := by decide +kernel
theorem dX11_yard_38 : decode cX11_yard 38 = .ok (.aload_n 0, 1) := by decide +kernel
theorem dX11_yard_39 : decode cX11_yard 39 = .ok (.getfield 40, 3) := by decide +kernel
theorem dX11_yard_42 : decode cX11_yard 42 = .ok (.getfield 88, 3) := by decide +kernel
theorem dX11_yard_45 : decode cX11_yard 45 = .ok (.bipush 12, 2) := by decide +kernel
theorem dX11_yard_47 : decode cX11_yard 47 = .ok (.if_icmp .lt 10, 3) := by decide +kernel
theorem dX11_yard_50 : decode cX11_yard 50 = .ok (.aload_n 0, 1) := by decide +kernel
theorem dX11_yard_51 : decode cX11_yard 51 = .ok (.ldc 92, 2) := by decide +kernel
theorem dX11_yard_53 : decode cX11_yard 53 = .ok (.invokevirtual 84, 3) := by decide +kernel
theorem dX11_yard_56 : decode cX11_yard 56 = .ok (.ireturn, 1) := by decide +kernel
theorem dX11_yard_57 : decode cX11_yard 57 = .ok (.aload_n 0, 1) := by decide +kernel
theorem dX11_yard_58 : decode cX11_yard 58 = .ok (.getfield 40, 3) := by decide +kernel
theorem dX11_yard_61 : decode cX11_yard 61 = .ok (.getfield 88, 3) := by decide +kernel
theorem dX11_yard_64 : decode cX11_yard 64 = .ok (.istore 4, 2) := by decide +kernel
theorem dX11_yard_66 : decode cX11_yard 66 = .ok (.aload_n 0, 1) := by decide +kernel
theorem dX11_yard_67 : decode cX11_yard 67 = .ok (.getfield 40, 3) := by decide +kernel
theorem dX11_yard_70 : decode cX11_yard 70 = .ok (.dup, 1) := by decide +kernel
theorem dX11_yard_71 : decode cX11_yard 71 = .ok (.getfield 88, 3) := by decide +kernel
theorem dX11_yard_74 : decode cX11_yard 74 = .ok (.iconst 1, 1) := by decide +kernel
theorem dX11_yard_75 : decode cX11_yard 75 = .ok (.iadd, 1) := by decide +kernel
theorem dX11_yard_76 : decode cX11_yard 76 = .ok (.putfield 88, 3) := by decide +kernel
theorem dX11_yard_79 : decode cX11_yard 79 = .ok (.aload_n 0, 1) := by decide +kernel
theorem dX11_yard_80 : decode cX11_yard 80 = .ok (.getfield 40, 3) := by decide +kernel
theorem dX11_yard_83 : decode cX11_yard 83 = .ok (.iload 4, 2) := by decide +kernel
theorem dX11_yard_85 : decode cX11_yard 85 = .ok (.iload_n 1, 1) := by decide +kernel
theorem dX11_yard_86 : decode cX11_yard 86 = .ok (.invokevirtual 93, 3) := by decide +kernel
theorem dX11_yard_89 : decode cX11_yard 89 = .ok (.aload_n 0, 1) := by decide +kernel
theorem dX11_yard_90 : decode cX11_yard 90 = .ok (.getfield 40, 3) := by decide +kernel
theorem dX11_yard_93 : decode cX11_yard 93 = .ok (.getfield 97, 3) := by decide +kernel
theorem dX11_yard_96 : decode cX11_yard 96 = .ok (.iload 4, 2) := by decide +kernel
theorem dX11_yard_98 : decode cX11_yard 98 = .ok (.iload_n 2, 1) := by decide +kernel
theorem dX11_yard_99 : decode cX11_yard 99 = .ok (.iastore, 1) := by decide +kernel
theorem dX11_yard_100 : decode cX11_yard 100 = .ok (.aload_n 0, 1) := by decide +kernel
theorem dX11_yard_101 : decode cX11_yard 101 = .ok (.getfield 40, 3) := by decide +kernel
theorem dX11_yard_104 : decode cX11_yard 104 = .ok (.getfield 100, 3) := by decide +kernel
theorem dX11_yard_107 : decode cX11_yard 107 = .ok (.iload 4, 2) := by decide +kernel
theorem dX11_yard_109 : decode cX11_yard 109 = .ok (.iload_n 3, 1) := by decide +kernel
theorem dX11_yard_110 : decode cX11_yard 110 = .ok (.iconst 0, 1) := by decide +kernel
theorem dX11_yard_111 : decode cX11_yard 111 = .ok (.invokestatic 103, 3) := by decide +kernel
theorem dX11_yard_114 : decode cX11_yard 114 = .ok (.iastore, 1) := by decide +kernel
theorem dX11_yard_115 : decode cX11_yard 115 = .ok (.aload_n 0, 1) := by decide +kernel
theorem dX11_yard_116 : decode cX11_yard 116 = .ok (.getfield 40, 3) := by decide +kernel
theorem dX11_yard_119 : decode cX11_yard 119 = .ok (.iload 4, 2) := by decide +kernel
theorem dX11_yard_121 : decode cX11_yard 121 = .ok (.iload_n 3, 1) := by decide +kernel
theorem dX11_yard_122 : decode cX11_yard 122 = .ok (.ifCond .lt 7, 3) := by decide +kernel
theorem dX11_yard_125 : decode cX11_yard 125 = .ok (.iconst 1, 1) := by decide +kernel
theorem dX11_yard_126 : decode cX11_yard 126 = .ok (.goto 4, 3) := by decide +kernel
theorem dX11_yard_129 : decode cX11_yard 129 = .ok (.iconst 0, 1) := by decide +kernel
theorem dX11_yard_130 : decode cX11_yard 130 = .ok (.invokevirtual 109, 3) := by decide +kernel
theorem dX11_yard_133 : decode cX11_yard 133 = .ok (.iload 4, 2) := by decide +kernel
theorem dX11_yard_135 : decode cX11_yard 135 = .ok (.ireturn, 1) := by decide +kernel
theorem dX11_ofYard_0 : decode cX11_ofYard 0 = .ok (.aload_n 0, 1) := by decide +kernel
theorem dX11_ofYard_1 : decode cX11_ofYard 1 = .ok (.getfield 40, 3) := by decide +kernel
theorem dX11_ofYard_4 : decode cX11_ofYard 4 = .ok (.iload_n 1, 1) := by decide +kernel
theorem dX11_ofYard_5 : decode cX11_ofYard 5 = .ok (.invokevirtual 113, 3) := by decide +kernel
theorem dX11_ofYard_8 : decode cX11_ofYard 8 = .ok (.ifCond .ne 10, 3) := by decide +kernel
theorem dX11_ofYard_11 : decode cX11_ofYard 11 = .ok (.aload_n 0, 1) := by decide +kernel
theorem dX11_ofYard_12 : decode cX11_ofYard 12 = .ok (.ldc 83, 2) := by decide +kernel
theorem dX11_ofYard_14 : decode cX11_ofYard 14 = .ok (.invokevirtual 84, 3) := by decide +kernel
theorem dX11_ofYard_17 : decode cX11_ofYard 17 = .ok (.ireturn, 1) := by decide +kernel
theorem dX11_ofYard_18 : decode cX11_ofYard 18 = .ok (.iload_n 2, 1) := by decide +kernel
theorem dX11_ofYard_19 : decode cX11_ofYard 19 = .ok (.tableswitch 108 0 6 #[41, 51, 61, 71, 80, 90, 99], 41) := by decide +kernel
theorem dX11_ofYard_60 : decode cX11_ofYard 60 = .ok (.aload_n 0, 1) := by decide +kernel
theorem dX11_ofYard_61 : decode cX11_ofYard 61 = .ok (.getfield 40, 3) := by decide +kernel
theorem dX11_ofYard_64 : decode cX11_ofYard 64 = .ok (.getfield 117, 3) := by decide +kernel
theorem dX11_ofYard_67 : decode cX11_ofYard 67 = .ok (.iload_n 1, 1) := by decide +kernel
theorem dX11_ofYard_68 : decode cX11_ofYard 68 = .ok (.iaload, 1) := by decide +kernel
theorem dX11_ofYard_69 : decode cX11_ofYard 69 = .ok (.ireturn, 1) := by decide +kernel
theorem dX11_ofYard_70 : decode cX11_ofYard 70 = .ok (.aload_n 0, 1) := by decide +kernel
theorem dX11_ofYard_71 : decode cX11_ofYard 71 = .ok (.getfield 40, 3) := by decide +kernel
theorem dX11_ofYard_74 : decode cX11_ofYard 74 = .ok (.getfield 120, 3) := by decide +kernel
theorem dX11_ofYard_77 : decode cX11_ofYard 77 = .ok (.iload_n 1, 1) := by decide +kernel
theorem dX11_ofYard_78 : decode cX11_ofYard 78 = .ok (.iaload, 1) := by decide +kernel
theorem dX11_ofYard_79 : decode cX11_ofYard 79 = .ok (.ireturn, 1) := by decide +kernel
theorem dX11_ofYard_80 : decode cX11_ofYard 80 = .ok (.aload_n 0, 1) := by decide +kernel
theorem dX11_ofYard_81 : decode cX11_ofYard 81 = .ok (.getfield 40, 3) := by decide +kernel
theorem dX11_ofYard_84 : decode cX11_ofYard 84 = .ok (.getfield 97, 3) := by decide +kernel
theorem dX11_ofYard_87 : decode cX11_ofYard 87 = .ok (.iload_n 1, 1) := by decide +kernel
theorem dX11_ofYard_88 : decode cX11_ofYard 88 = .ok (.iaload, 1) := by decide +kernel
theorem dX11_ofYard_89 : decode cX11_ofYard 89 = .ok (.ireturn, 1) := by decide +kernel
theorem dX11_ofYard_90 : decode cX11_ofYard 90 = .ok (.aload_n 0, 1) := by decide +kernel
theorem dX11_ofYard_91 : decode cX11_ofYard 91 = .ok (.getfield 40, 3) := by decide +kernel
theorem dX11_ofYard_94 : decode cX11_ofYard 94 = .ok (.iload_n 1, 1) := by decide +kernel
theorem dX11_ofYard_95 : decode cX11_ofYard 95 = .ok (.invokevirtual 123, 3) := by decide +kernel
theorem dX11_ofYard_98 : decode cX11_ofYard 98 = .ok (.ireturn, 1) := by decide +kernel
theorem dX11_ofYard_99 : decode cX11_ofYard 99 = .ok (.aload_n 0, 1) := by decide +kernel
theorem dX11_ofYard_100 : decode cX11_ofYard 100 = .ok (.getfield 40, 3) := by decide +kernel
theorem dX11_ofYard_103 : decode cX11_ofYard 103 = .ok (.getfield 100, 3) := by decide +kernel
theorem dX11_ofYard_106 : decode cX11_ofYard 106 = .ok (.iload_n 1, 1) := by decide +kernel
theorem dX11_ofYard_107 : decode cX11_ofYard 107 = .ok (.iaload, 1) := by decide +kernel
theorem dX11_ofYard_108 : decode cX11_ofYard 108 = .ok (.ireturn, 1) := by decide +kernel
theorem dX11_ofYard_109 : decode cX11_ofYard 109 = .ok (.aload_n 0, 1) := by decide +kernel
theorem dX11_ofYard_110 : decode cX11_ofYard 110 = .ok (.getfield 40, 3) := by decide +kernel
theorem dX11_ofYard_113 : decode cX11_ofYard 113 = .ok (.iload_n 1, 1) := by decide +kernel
theorem dX11_ofYard_114 : decode cX11_ofYard 114 = .ok (.invokevirtual 126, 3) := by decide +kernel
theorem dX11_ofYard_117 : decode cX11_ofYard 117 = .ok (.ireturn, 1) := by decide +kernel
theorem dX11_ofYard_118 : decode cX11_ofYard 118 = .ok (.aload_n 0, 1) := by decide +kernel
theorem dX11_ofYard_119 : decode cX11_ofYard 119 = .ok (.getfield 40, 3) := by decide +kernel
theorem dX11_ofYard_122 : decode cX11_ofYard 122 = .ok (.iload_n 1, 1) := by decide +kernel
theorem dX11_ofYard_123 : decode cX11_ofYard 123 = .ok (.invokevirtual 129, 3) := by decide +kernel
theorem dX11_ofYard_126 : decode cX11_ofYard 126 = .ok (.ireturn, 1) := by decide +kernel
theorem dX11_ofYard_127 : decode cX11_ofYard 127 = .ok (.aload_n 0, 1) := by decide +kernel
theorem dX11_ofYard_128 : decode cX11_ofYard 128 = .ok (.ldc 83, 2) := by decide +kernel
theorem dX11_ofYard_130 : decode cX11_ofYard 130 = .ok (.invokevirtual 84, 3) := by decide +kernel
theorem dX11_ofYard_133 : decode cX11_ofYard 133 = .ok (.ireturn, 1) := by decide +kernel
theorem dX11_change_0 : decode cX11_change 0 = .ok (.aload_n 0, 1) := by decide +kernel
theorem dX11_change_1 : decode cX11_change 1 = .ok (.getfield 40, 3) := by decide +kernel
theorem dX11_change_4 : decode cX11_change 4 = .ok (.iload_n 1, 1) := by decide +kernel
theorem dX11_change_5 : decode cX11_change 5 = .ok (.invokevirtual 113, 3) := by decide +kernel
theorem dX11_change_8 : decode cX11_change 8 = .ok (.ifCond .eq 24, 3) := by decide +kernel
theorem dX11_change_11 : decode cX11_change 11 = .ok (.iload_n 2, 1) := by decide +kernel
theorem dX11_change_12 : decode cX11_change 12 = .ok (.iconst 0, 1) := by decide +kernel
theorem dX11_change_13 : decode cX11_change 13 = .ok (.iconst 2, 1) := by decide +kernel
theorem dX11_change_14 : decode cX11_change 14 = .ok (.invokestatic 79, 3) := by decide +kernel
theorem dX11_change_17 : decode cX11_change 17 = .ok (.ifCond .eq 15, 3) := by decide +kernel
theorem dX11_change_20 : decode cX11_change 20 = .ok (.iload_n 3, 1) := by decide +kernel
theorem dX11_change_21 : decode cX11_change 21 = .ok (.iconst 0, 1) := by decide +kernel
theorem dX11_change_22 : decode cX11_change 22 = .ok (.iload_n 2, 1) := by decide +kernel
theorem dX11_change_23 : decode cX11_change 23 = .ok (.invokestatic 132, 3) := by decide +kernel
theorem dX11_change_26 : decode cX11_change 26 = .ok (.invokestatic 79, 3) := by decide +kernel
theorem dX11_change_29 : decode cX11_change 29 = .ok (.ifCond .ne 10, 3) := by decide +kernel
theorem dX11_change_32 : decode cX11_change 32 = .ok (.aload_n 0, 1) := by decide +kernel
theorem dX11_change_33 : decode cX11_change 33 = .ok (.ldc 83, 2) := by decide +kernel
theorem dX11_change_35 : decode cX11_change 35 = .ok (.invokevirtual 84, 3) := by decide +kernel
theorem dX11_change_38 : decode cX11_change 38 = .ok (.ireturn, 1) := by decide +kernel
theorem dX11_change_39 : decode cX11_change 39 = .ok (.iload_n 2, 1) := by decide +kernel
theorem dX11_change_40 : decode cX11_change 40 = .ok (.ifCond .ne 27, 3) := by decide +kernel
theorem dX11_change_43 : decode cX11_change 43 = .ok (.aload_n 0, 1) := by decide +kernel
theorem dX11_change_44 : decode cX11_change 44 = .ok (.getfield 40, 3) := by decide +kernel
theorem dX11_change_47 : decode cX11_change 47 = .ok (.getfield 97, 3) := by decide +kernel
theorem dX11_change_50 : decode cX11_change 50 = .ok (.iload_n 1, 1) := by decide +kernel
theorem dX11_change_51 : decode cX11_change 51 = .ok (.iaload, 1) := by decide +kernel
theorem dX11_change_52 : decode cX11_change 52 = .ok (.istore 4, 2) := by decide +kernel
theorem dX11_change_54 : decode cX11_change 54 = .ok (.aload_n 0, 1) := by decide +kernel
theorem dX11_change_55 : decode cX11_change 55 = .ok (.getfield 40, 3) := by decide +kernel
theorem dX11_change_58 : decode cX11_change 58 = .ok (.getfield 97, 3) := by decide +kernel
theorem dX11_change_61 : decode cX11_change 61 = .ok (.iload_n 1, 1) := by decide +kernel
theorem dX11_change_62 : decode cX11_change 62 = .ok (.iload_n 3, 1) := by decide +kernel
theorem dX11_change_63 : decode cX11_change 63 = .ok (.iastore, 1) := by decide +kernel
theorem dX11_change_64 : decode cX11_change 64 = .ok (.goto 60, 3) := by decide +kernel
theorem dX11_change_67 : decode cX11_change 67 = .ok (.iload_n 2, 1) := by decide +kernel
theorem dX11_change_68 : decode cX11_change 68 = .ok (.iconst 1, 1) := by decide +kernel
theorem dX11_change_69 : decode cX11_change 69 = .ok (.if_icmp .ne 34, 3) := by decide +kernel
theorem dX11_change_72 : decode cX11_change 72 = .ok (.aload_n 0, 1) := by decide +kernel
theorem dX11_change_73 : decode cX11_change 73 = .ok (.getfield 40, 3) := by decide +kernel
theorem dX11_change_76 : decode cX11_change 76 = .ok (.iload_n 1, 1) := by decide +kernel
theorem dX11_change_77 : decode cX11_change 77 = .ok (.invokevirtual 123, 3) := by decide +kernel
theorem dX11_change_80 : decode cX11_change 80 = .ok (.istore 4, 2) := by decide +kernel
theorem dX11_change_82 : decode cX11_change 82 = .ok (.aload_n 0, 1) := by decide +kernel
theorem dX11_change_83 : decode cX11_change 83 = .ok (.getfield 40, 3) := by decide +kernel
theorem dX11_change_86 : decode cX11_change 86 = .ok (.iload_n 1, 1) := by decide +kernel
theorem dX11_change_87 : decode cX11_change 87 = .ok (.iload_n 3, 1) := by decide +kernel
theorem dX11_change_88 : decode cX11_change 88 = .ok (.iconst 1, 1) := by decide +kernel
theorem dX11_change_89 : decode cX11_change 89 = .ok (.if_icmp .ne 7, 3) := by decide +kernel
theorem dX11_change_92 : decode cX11_change 92 = .ok (.iconst 1, 1) := by decide +kernel
theorem dX11_change_93 : decode cX11_change 93 = .ok (.goto 4, 3) := by decide +kernel
theorem dX11_change_96 : decode cX11_change 96 = .ok (.iconst 0, 1) := by decide +kernel
theorem dX11_change_97 : decode cX11_change 97 = .ok (.invokevirtual 109, 3) := by decide +kernel
theorem dX11_change_100 : decode cX11_change 100 = .ok (.goto 24, 3) := by decide +kernel
theorem dX11_change_103 : decode cX11_change 103 = .ok (.aload_n 0, 1) := by decide +kernel
theorem dX11_change_104 : decode cX11_change 104 = .ok (.getfield 40, 3) := by decide +kernel
theorem dX11_change_107 : decode cX11_change 107 = .ok (.getfield 100, 3) := by decide +kernel
theorem dX11_change_110 : decode cX11_change 110 = .ok (.iload_n 1, 1) := by decide +kernel
theorem dX11_change_111 : decode cX11_change 111 = .ok (.iaload, 1) := by decide +kernel
theorem dX11_change_112 : decode cX11_change 112 = .ok (.istore 4, 2) := by decide +kernel
theorem dX11_change_114 : decode cX11_change 114 = .ok (.aload_n 0, 1) := by decide +kernel
theorem dX11_change_115 : decode cX11_change 115 = .ok (.getfield 40, 3) := by decide +kernel
theorem dX11_change_118 : decode cX11_change 118 = .ok (.getfield 100, 3) := by decide +kernel
theorem dX11_change_121 : decode cX11_change 121 = .ok (.iload_n 1, 1) := by decide +kernel
theorem dX11_change_122 : decode cX11_change 122 = .ok (.iload_n 3, 1) := by decide +kernel
theorem dX11_change_123 : decode cX11_change 123 = .ok (.iastore, 1) := by decide +kernel
theorem dX11_change_124 : decode cX11_change 124 = .ok (.iload 4, 2) := by decide +kernel
theorem dX11_change_126 : decode cX11_change 126 = .ok (.ireturn, 1) := by decide +kernel
theorem dX11_set_0 : decode cX11_set 0 = .ok (.iload_n 1, 1) := by decide +kernel
theorem dX11_set_1 : decode cX11_set 1 = .ok (.iconst 0, 1) := by decide +kernel
theorem dX11_set_2 : decode cX11_set 2 = .ok (.iconst 2, 1) := by decide +kernel
theorem dX11_set_3 : decode cX11_set 3 = .ok (.invokestatic 79, 3) := by decide +kernel
theorem dX11_set_6 : decode cX11_set 6 = .ok (.ifCond .eq 15, 3) := by decide +kernel
theorem dX11_set_9 : decode cX11_set 9 = .ok (.iload_n 2, 1) := by decide +kernel
theorem dX11_set_10 : decode cX11_set 10 = .ok (.iconst 0, 1) := by decide +kernel
theorem dX11_set_11 : decode cX11_set 11 = .ok (.iload_n 1, 1) := by decide +kernel
theorem dX11_set_12 : decode cX11_set 12 = .ok (.invokestatic 135, 3) := by decide +kernel
theorem dX11_set_15 : decode cX11_set 15 = .ok (.invokestatic 79, 3) := by decide +kernel
theorem dX11_set_18 : decode cX11_set 18 = .ok (.ifCond .ne 10, 3) := by decide +kernel
theorem dX11_set_21 : decode cX11_set 21 = .ok (.aload_n 0, 1) := by decide +kernel
theorem dX11_set_22 : decode cX11_set 22 = .ok (.ldc 83, 2) := by decide +kernel
theorem dX11_set_24 : decode cX11_set 24 = .ok (.invokevirtual 84, 3) := by decide +kernel
theorem dX11_set_27 : decode cX11_set 27 = .ok (.ireturn, 1) := by decide +kernel
theorem dX11_set_28 : decode cX11_set 28 = .ok (.iload_n 1, 1) := by decide +kernel
theorem dX11_set_29 : decode cX11_set 29 = .ok (.ifCond .ne 22, 3) := by decide +kernel
theorem dX11_set_32 : decode cX11_set 32 = .ok (.aload_n 0, 1) := by decide +kernel
theorem dX11_set_33 : decode cX11_set 33 = .ok (.getfield 40, 3) := by decide +kernel
theorem dX11_set_36 : decode cX11_set 36 = .ok (.getfield 138, 3) := by decide +kernel
theorem dX11_set_39 : decode cX11_set 39 = .ok (.istore_n 3, 1) := by decide +kernel
theorem dX11_set_40 : decode cX11_set 40 = .ok (.aload_n 0, 1) := by decide +kernel
theorem dX11_set_41 : decode cX11_set 41 = .ok (.getfield 40, 3) := by decide +kernel
theorem dX11_set_44 : decode cX11_set 44 = .ok (.iload_n 2, 1) := by decide +kernel
theorem dX11_set_45 : decode cX11_set 45 = .ok (.putfield 138, 3) := by decide +kernel
theorem dX11_set_48 : decode cX11_set 48 = .ok (.goto 43, 3) := by decide +kernel
theorem dX11_set_51 : decode cX11_set 51 = .ok (.iload_n 1, 1) := by decide +kernel
theorem dX11_set_52 : decode cX11_set 52 = .ok (.iconst 1, 1) := by decide +kernel
theorem dX11_set_53 : decode cX11_set 53 = .ok (.if_icmp .ne 22, 3) := by decide +kernel
theorem dX11_set_56 : decode cX11_set 56 = .ok (.aload_n 0, 1) := by decide +kernel
theorem dX11_set_57 : decode cX11_set 57 = .ok (.getfield 40, 3) := by decide +kernel
theorem dX11_set_60 : decode cX11_set 60 = .ok (.getfield 141, 3) := by decide +kernel
theorem dX11_set_63 : decode cX11_set 63 = .ok (.istore_n 3, 1) := by decide +kernel
theorem dX11_set_64 : decode cX11_set 64 = .ok (.aload_n 0, 1) := by decide +kernel
theorem dX11_set_65 : decode cX11_set 65 = .ok (.getfield 40, 3) := by decide +kernel
theorem dX11_set_68 : decode cX11_set 68 = .ok (.iload_n 2, 1) := by decide +kernel
theorem dX11_set_69 : decode cX11_set 69 = .ok (.putfield 141, 3) := by decide +kernel
theorem dX11_set_72 : decode cX11_set 72 = .ok (.goto 19, 3) := by decide +kernel
theorem dX11_set_75 : decode cX11_set 75 = .ok (.aload_n 0, 1) := by decide +kernel
theorem dX11_set_76 : decode cX11_set 76 = .ok (.getfield 40, 3) := by decide +kernel
theorem dX11_set_79 : decode cX11_set 79 = .ok (.getfield 144, 3) := by decide +kernel
theorem dX11_set_82 : decode cX11_set 82 = .ok (.istore_n 3, 1) := by decide +kernel
theorem dX11_set_83 : decode cX11_set 83 = .ok (.aload_n 0, 1) := by decide +kernel
theorem dX11_set_84 : decode cX11_set 84 = .ok (.getfield 40, 3) := by decide +kernel
theorem dX11_set_87 : decode cX11_set 87 = .ok (.iload_n 2, 1) := by decide +kernel
theorem dX11_set_88 : decode cX11_set 88 = .ok (.putfield 144, 3) := by decide +kernel
theorem dX11_set_91 : decode cX11_set 91 = .ok (.iload_n 3, 1) := by decide +kernel
theorem dX11_set_92 : decode cX11_set 92 = .ok (.ireturn, 1) := by decide +kernel
theorem dX11_become_0 : decode cX11_become 0 = .ok (.aload_n 0, 1) := by decide +kernel
theorem dX11_become_1 : decode cX11_become 1 = .ok (.getfield 40, 3) := by decide +kernel
theorem dX11_become_4 : decode cX11_become 4 = .ok (.iload_n 1, 1) := by decide +kernel
theorem dX11_become_5 : decode cX11_become 5 = .ok (.invokevirtual 113, 3) := by decide +kernel
theorem dX11_become_8 : decode cX11_become 8 = .ok (.ifCond .eq 13, 3) := by decide +kernel
theorem dX11_become_11 : decode cX11_become 11 = .ok (.iload_n 2, 1) := by decide +kernel
theorem dX11_become_12 : decode cX11_become 12 = .ok (.iconst 0, 1) := by decide +kernel
theorem dX11_become_13 : decode cX11_become 13 = .ok (.bipush 69, 2) := by decide +kernel
theorem dX11_become_15 : decode cX11_become 15 = .ok (.invokestatic 79, 3) := by decide +kernel
theorem dX11_become_18 : decode cX11_become 18 = .ok (.ifCond .ne 10, 3) := by decide +kernel
theorem dX11_become_21 : decode cX11_become 21 = .ok (.aload_n 0, 1) := by decide +kernel
theorem dX11_become_22 : decode cX11_become 22 = .ok (.ldc 83, 2) := by decide +kernel
theorem dX11_become_24 : decode cX11_become 24 = .ok (.invokevirtual 84, 3) := by decide +kernel
theorem dX11_become_27 : decode cX11_become 27 = .ok (.ireturn, 1) := by decide +kernel
theorem dX11_become_28 : decode cX11_become 28 = .ok (.aload_n 0, 1) := by decide +kernel
theorem dX11_become_29 : decode cX11_become 29 = .ok (.getfield 40, 3) := by decide +kernel
theorem dX11_become_32 : decode cX11_become 32 = .ok (.getfield 117, 3) := by decide +kernel
theorem dX11_become_35 : decode cX11_become 35 = .ok (.iload_n 1, 1) := by decide +kernel
theorem dX11_become_36 : decode cX11_become 36 = .ok (.iaload, 1) := by decide +kernel
theorem dX11_become_37 : decode cX11_become 37 = .ok (.istore_n 3, 1) := by decide +kernel
theorem dX11_become_38 : decode cX11_become 38 = .ok (.aload_n 0, 1) := by decide +kernel
theorem dX11_become_39 : decode cX11_become 39 = .ok (.getfield 40, 3) := by decide +kernel
theorem dX11_become_42 : decode cX11_become 42 = .ok (.iload_n 1, 1) := by decide +kernel
theorem dX11_become_43 : decode cX11_become 43 = .ok (.iload_n 2, 1) := by decide +kernel
theorem dX11_become_44 : decode cX11_become 44 = .ok (.invokevirtual 93, 3) := by decide +kernel
theorem dX11_become_47 : decode cX11_become 47 = .ok (.iload_n 3, 1) := by decide +kernel
theorem dX11_become_48 : decode cX11_become 48 = .ok (.ireturn, 1) := by decide +kernel
theorem dX11_as_0 : decode cX11_as 0 = .ok (.aload_n 0, 1) := by decide +kernel
theorem dX11_as_1 : decode cX11_as 1 = .ok (.getfield 40, 3) := by decide +kernel
theorem dX11_as_4 : decode cX11_as 4 = .ok (.iload_n 1, 1) := by decide +kernel
theorem dX11_as_5 : decode cX11_as 5 = .ok (.invokevirtual 113, 3) := by decide +kernel
theorem dX11_as_8 : decode cX11_as 8 = .ok (.ifCond .eq 17, 3) := by decide +kernel
theorem dX11_as_11 : decode cX11_as 11 = .ok (.iload_n 2, 1) := by decide +kernel
theorem dX11_as_12 : decode cX11_as 12 = .ok (.iconst 0, 1) := by decide +kernel
theorem dX11_as_13 : decode cX11_as 13 = .ok (.getstatic 147, 3) := by decide +kernel
theorem dX11_as_16 : decode cX11_as 16 = .ok (.arraylength, 1) := by decide +kernel
theorem dX11_as_17 : decode cX11_as 17 = .ok (.iconst 1, 1) := by decide +kernel
theorem dX11_as_18 : decode cX11_as 18 = .ok (.isub, 1) := by decide +kernel
theorem dX11_as_19 : decode cX11_as 19 = .ok (.invokestatic 79, 3) := by decide +kernel
theorem dX11_as_22 : decode cX11_as 22 = .ok (.ifCond .ne 10, 3) := by decide +kernel
theorem dX11_as_25 : decode cX11_as 25 = .ok (.aload_n 0, 1) := by decide +kernel
theorem dX11_as_26 : decode cX11_as 26 = .ok (.ldc 83, 2) := by decide +kernel
theorem dX11_as_28 : decode cX11_as 28 = .ok (.invokevirtual 84, 3) := by decide +kernel
theorem dX11_as_31 : decode cX11_as 31 = .ok (.ireturn, 1) := by decide +kernel
theorem dX11_as_32 : decode cX11_as 32 = .ok (.aload_n 0, 1) := by decide +kernel
theorem dX11_as_33 : decode cX11_as 33 = .ok (.getfield 40, 3) := by decide +kernel
theorem dX11_as_36 : decode cX11_as 36 = .ok (.getfield 117, 3) := by decide +kernel
theorem dX11_as_39 : decode cX11_as 39 = .ok (.iload_n 1, 1) := by decide +kernel
theorem dX11_as_40 : decode cX11_as 40 = .ok (.iaload, 1) := by decide +kernel
theorem dX11_as_41 : decode cX11_as 41 = .ok (.iload_n 2, 1) := by decide +kernel
theorem dX11_as_42 : decode cX11_as 42 = .ok (.invokestatic 150, 3) := by decide +kernel
theorem dX11_as_45 : decode cX11_as 45 = .ok (.ifCond .ne 10, 3) := by decide +kernel
theorem dX11_as_48 : decode cX11_as 48 = .ok (.aload_n 0, 1) := by decide +kernel
theorem dX11_as_49 : decode cX11_as 49 = .ok (.ldc 154, 2) := by decide +kernel
theorem dX11_as_51 : decode cX11_as 51 = .ok (.invokevirtual 84, 3) := by decide +kernel
theorem dX11_as_54 : decode cX11_as 54 = .ok (.ireturn, 1) := by decide +kernel
theorem dX11_as_55 : decode cX11_as 55 = .ok (.aload_n 0, 1) := by decide +kernel
theorem dX11_as_56 : decode cX11_as 56 = .ok (.getfield 40, 3) := by decide +kernel
theorem dX11_as_59 : decode cX11_as 59 = .ok (.getfield 120, 3) := by decide +kernel
theorem dX11_as_62 : decode cX11_as 62 = .ok (.iload_n 1, 1) := by decide +kernel
theorem dX11_as_63 : decode cX11_as 63 = .ok (.iaload, 1) := by decide +kernel
theorem dX11_as_64 : decode cX11_as 64 = .ok (.ireturn, 1) := by decide +kernel
theorem dX11_sign_0 : decode cX11_sign 0 = .ok (.iload_n 1, 1) := by decide +kernel
theorem dX11_sign_1 : decode cX11_sign 1 = .ok (.iconst 0, 1) := by decide +kernel
theorem dX11_sign_2 : decode cX11_sign 2 = .ok (.iconst 1, 1) := by decide +kernel
theorem dX11_sign_3 : decode cX11_sign 3 = .ok (.invokestatic 79, 3) := by decide +kernel
theorem dX11_sign_6 : decode cX11_sign 6 = .ok (.ifCond .eq 13, 3) := by decide +kernel
theorem dX11_sign_9 : decode cX11_sign 9 = .ok (.iload_n 2, 1) := by decide +kernel
theorem dX11_sign_10 : decode cX11_sign 10 = .ok (.iconst 0, 1) := by decide +kernel
theorem dX11_sign_11 : decode cX11_sign 11 = .ok (.bipush 99, 2) := by decide +kernel
theorem dX11_sign_13 : decode cX11_sign 13 = .ok (.invokestatic 79, 3) := by decide +kernel
theorem dX11_sign_16 : decode cX11_sign 16 = .ok (.ifCond .ne 10, 3) := by decide +kernel
theorem dX11_sign_19 : decode cX11_sign 19 = .ok (.aload_n 0, 1) := by decide +kernel
theorem dX11_sign_20 : decode cX11_sign 20 = .ok (.ldc 83, 2) := by decide +kernel
theorem dX11_sign_22 : decode cX11_sign 22 = .ok (.invokevirtual 84, 3) := by decide +kernel
theorem dX11_sign_25 : decode cX11_sign 25 = .ok (.ireturn, 1) := by decide +kernel
theorem dX11_sign_26 : decode cX11_sign 26 = .ok (.aload_n 0, 1) := by decide +kernel
theorem dX11_sign_27 : decode cX11_sign 27 = .ok (.getfield 40, 3) := by decide +kernel
theorem dX11_sign_30 : decode cX11_sign 30 = .ok (.iload_n 1, 1) := by decide +kernel
theorem dX11_sign_31 : decode cX11_sign 31 = .ok (.aload_n 0, 1) := by decide +kernel
theorem dX11_sign_32 : decode cX11_sign 32 = .ok (.getfield 40, 3) := by decide +kernel
theorem dX11_sign_35 : decode cX11_sign 35 = .ok (.getfield 155, 3) := by decide +kernel
theorem dX11_sign_38 : decode cX11_sign 38 = .ok (.iload_n 2, 1) := by decide +kernel
theorem dX11_sign_39 : decode cX11_sign 39 = .ok (.iadd, 1) := by decide +kernel
theorem dX11_sign_40 : decode cX11_sign 40 = .ok (.invokevirtual 158, 3) := by decide +kernel
theorem dX11_sign_43 : decode cX11_sign 43 = .ok (.ireturn, 1) := by decide +kernel
theorem dX11_feed_0 : decode cX11_feed 0 = .ok (.iload_n 3, 1) := by decide +kernel
theorem dX11_feed_1 : decode cX11_feed 1 = .ok (.iconst 1, 1) := by decide +kernel
theorem dX11_feed_2 : decode cX11_feed 2 = .ok (.bipush 8, 2) := by decide +kernel
theorem dX11_feed_4 : decode cX11_feed 4 = .ok (.invokestatic 79, 3) := by decide +kernel
theorem dX11_feed_7 : decode cX11_feed 7 = .ok (.ifCond .ne 10, 3) := by decide +kernel
theorem dX11_feed_10 : decode cX11_feed 10 = .ok (.aload_n 0, 1) := by decide +kernel
theorem dX11_feed_11 : decode cX11_feed 11 = .ok (.ldc 83, 2) := by decide +kernel
theorem dX11_feed_13 : decode cX11_feed 13 = .ok (.invokevirtual 84, 3) := by decide +kernel
theorem dX11_feed_16 : decode cX11_feed 16 = .ok (.ireturn, 1) := by decide +kernel
theorem dX11_feed_17 : decode cX11_feed 17 = .ok (.aload_n 0, 1) := by decide +kernel
theorem dX11_feed_18 : decode cX11_feed 18 = .ok (.getfield 40, 3) := by decide +kernel
theorem dX11_feed_21 : decode cX11_feed 21 = .ok (.getfield 161, 3) := by decide +kernel
theorem dX11_feed_24 : decode cX11_feed 24 = .ok (.iload_n 3, 1) := by decide +kernel
theorem dX11_feed_25 : decode cX11_feed 25 = .ok (.iadd, 1) := by decide +kernel
theorem dX11_feed_26 : decode cX11_feed 26 = .ok (.bipush 50, 2) := by decide +kernel
theorem dX11_feed_28 : decode cX11_feed 28 = .ok (.if_icmp .le 10, 3) := by decide +kernel
theorem dX11_feed_31 : decode cX11_feed 31 = .ok (.aload_n 0, 1) := by decide +kernel
theorem dX11_feed_32 : decode cX11_feed 32 = .ok (.ldc 92, 2) := by decide +kernel
theorem dX11_feed_34 : decode cX11_feed 34 = .ok (.invokevirtual 84, 3) := by decide +kernel
theorem dX11_feed_37 : decode cX11_feed 37 = .ok (.ireturn, 1) := by decide +kernel
theorem dX11_feed_38 : decode cX11_feed 38 = .ok (.iconst 0, 1) := by decide +kernel
theorem dX11_feed_39 : decode cX11_feed 39 = .ok (.istore 4, 2) := by decide +kernel
theorem dX11_feed_41 : decode cX11_feed 41 = .ok (.iload 4, 2) := by decide +kernel
theorem dX11_feed_43 : decode cX11_feed 43 = .ok (.iload_n 3, 1) := by decide +kernel
theorem dX11_feed_44 : decode cX11_feed 44 = .ok (.if_icmp .ge 49, 3) := by decide +kernel
theorem dX11_feed_47 : decode cX11_feed 47 = .ok (.aload_n 0, 1) := by decide +kernel
theorem dX11_feed_48 : decode cX11_feed 48 = .ok (.getfield 40, 3) := by decide +kernel
theorem dX11_feed_51 : decode cX11_feed 51 = .ok (.getfield 164, 3) := by decide +kernel
theorem dX11_feed_54 : decode cX11_feed 54 = .ok (.aload_n 0, 1) := by decide +kernel
theorem dX11_feed_55 : decode cX11_feed 55 = .ok (.getfield 40, 3) := by decide +kernel
theorem dX11_feed_58 : decode cX11_feed 58 = .ok (.getfield 161, 3) := by decide +kernel
theorem dX11_feed_61 : decode cX11_feed 61 = .ok (.lload_n 1, 1) := by decide +kernel
theorem dX11_feed_62 : decode cX11_feed 62 = .ok (.bipush 8, 2) := by decide +kernel
theorem dX11_feed_64 : decode cX11_feed 64 = .ok (.iload 4, 2) := by decide +kernel
theorem dX11_feed_66 : decode cX11_feed 66 = .ok (.imul, 1) := by decide +kernel
theorem dX11_feed_67 : decode cX11_feed 67 = .ok (.lushr, 1) := by decide +kernel
theorem dX11_feed_68 : decode cX11_feed 68 = .ok (.l2i, 1) := by decide +kernel
theorem dX11_feed_69 : decode cX11_feed 69 = .ok (.sipush 255, 3) := by decide +kernel
theorem dX11_feed_72 : decode cX11_feed 72 = .ok (.iand, 1) := by decide +kernel
theorem dX11_feed_73 : decode cX11_feed 73 = .ok (.iastore, 1) := by decide +kernel
theorem dX11_feed_74 : decode cX11_feed 74 = .ok (.aload_n 0, 1) := by decide +kernel
theorem dX11_feed_75 : decode cX11_feed 75 = .ok (.getfield 40, 3) := by decide +kernel
theorem dX11_feed_78 : decode cX11_feed 78 = .ok (.dup, 1) := by decide +kernel
theorem dX11_feed_79 : decode cX11_feed 79 = .ok (.getfield 161, 3) := by decide +kernel
theorem dX11_feed_82 : decode cX11_feed 82 = .ok (.iconst 1, 1) := by decide +kernel
theorem dX11_feed_83 : decode cX11_feed 83 = .ok (.iadd, 1) := by decide +kernel
theorem dX11_feed_84 : decode cX11_feed 84 = .ok (.putfield 161, 3) := by decide +kernel
theorem dX11_feed_87 : decode cX11_feed 87 = .ok (.iinc 4 1, 3) := by decide +kernel
theorem dX11_feed_90 : decode cX11_feed 90 = .ok (.goto (-49), 3) := by decide +kernel
theorem dX11_feed_93 : decode cX11_feed 93 = .ok (.aload_n 0, 1) := by decide +kernel
theorem dX11_feed_94 : decode cX11_feed 94 = .ok (.getfield 40, 3) := by decide +kernel
theorem dX11_feed_97 : decode cX11_feed 97 = .ok (.getfield 161, 3) := by decide +kernel
theorem dX11_feed_100 : decode cX11_feed 100 = .ok (.ireturn, 1) := by decide +kernel
theorem dX11_text_0 : decode cX11_text 0 = .ok (.iload_n 1, 1) := by decide +kernel
theorem dX11_text_1 : decode cX11_text 1 = .ok (.iconst 0, 1) := by decide +kernel
theorem dX11_text_2 : decode cX11_text 2 = .ok (.iconst 1, 1) := by decide +kernel
theorem dX11_text_3 : decode cX11_text 3 = .ok (.invokestatic 79, 3) := by decide +kernel
theorem dX11_text_6 : decode cX11_text 6 = .ok (.ifCond .ne 10, 3) := by decide +kernel
theorem dX11_text_9 : decode cX11_text 9 = .ok (.aload_n 0, 1) := by decide +kernel
theorem dX11_text_10 : decode cX11_text 10 = .ok (.ldc 83, 2) := by decide +kernel
theorem dX11_text_12 : decode cX11_text 12 = .ok (.invokevirtual 84, 3) := by decide +kernel
theorem dX11_text_15 : decode cX11_text 15 = .ok (.ireturn, 1) := by decide +kernel
theorem dX11_text_16 : decode cX11_text 16 = .ok (.aload_n 0, 1) := by decide +kernel
theorem dX11_text_17 : decode cX11_text 17 = .ok (.getfield 53, 3) := by decide +kernel
theorem dX11_text_20 : decode cX11_text 20 = .ok (.aload_n 0, 1) := by decide +kernel
theorem dX11_text_21 : decode cX11_text 21 = .ok (.getfield 40, 3) := by decide +kernel
theorem dX11_text_24 : decode cX11_text 24 = .ok (.getfield 164, 3) := by decide +kernel
theorem dX11_text_27 : decode cX11_text 27 = .ok (.aload_n 0, 1) := by decide +kernel
theorem dX11_text_28 : decode cX11_text 28 = .ok (.getfield 40, 3) := by decide +kernel
theorem dX11_text_31 : decode cX11_text 31 = .ok (.getfield 161, 3) := by decide +kernel
theorem dX11_text_34 : decode cX11_text 34 = .ok (.iload_n 1, 1) := by decide +kernel
theorem dX11_text_35 : decode cX11_text 35 = .ok (.invokevirtual 167, 3) := by decide +kernel
theorem dX11_text_38 : decode cX11_text 38 = .ok (.istore_n 2, 1) := by decide +kernel
theorem dX11_text_39 : decode cX11_text 39 = .ok (.aload_n 0, 1) := by decide +kernel
theorem dX11_text_40 : decode cX11_text 40 = .ok (.getfield 40, 3) := by decide +kernel
theorem dX11_text_43 : decode cX11_text 43 = .ok (.iconst 0, 1) := by decide +kernel
theorem dX11_text_44 : decode cX11_text 44 = .ok (.putfield 161, 3) := by decide +kernel
theorem dX11_text_47 : decode cX11_text 47 = .ok (.iload_n 2, 1) := by decide +kernel
theorem dX11_text_48 : decode cX11_text 48 = .ok (.ifCond .lt 8, 3) := by decide +kernel
theorem dX11_text_51 : decode cX11_text 51 = .ok (.bipush (-10), 2) := by decide +kernel
theorem dX11_text_53 : decode cX11_text 53 = .ok (.iload_n 2, 1) := by decide +kernel
theorem dX11_text_54 : decode cX11_text 54 = .ok (.isub, 1) := by decide +kernel
theorem dX11_text_55 : decode cX11_text 55 = .ok (.ireturn, 1) := by decide +kernel
theorem dX11_text_56 : decode cX11_text 56 = .ok (.iload_n 1, 1) := by decide +kernel
theorem dX11_text_57 : decode cX11_text 57 = .ok (.ifCond .ne 20, 3) := by decide +kernel
theorem dX11_text_60 : decode cX11_text 60 = .ok (.aload_n 0, 1) := by decide +kernel
theorem dX11_text_61 : decode cX11_text 61 = .ok (.getfield 40, 3) := by decide +kernel
theorem dX11_text_64 : decode cX11_text 64 = .ok (.aload_n 0, 1) := by decide +kernel
theorem dX11_text_65 : decode cX11_text 65 = .ok (.getfield 53, 3) := by decide +kernel
theorem dX11_text_68 : decode cX11_text 68 = .ok (.invokevirtual 171, 3) := by decide +kernel
theorem dX11_text_71 : decode cX11_text 71 = .ok (.putfield 175, 3) := by decide +kernel
theorem dX11_text_74 : decode cX11_text 74 = .ok (.goto 17, 3) := by decide +kernel
theorem dX11_text_77 : decode cX11_text 77 = .ok (.aload_n 0, 1) := by decide +kernel
theorem dX11_text_78 : decode cX11_text 78 = .ok (.getfield 40, 3) := by decide +kernel
theorem dX11_text_81 : decode cX11_text 81 = .ok (.aload_n 0, 1) := by decide +kernel
theorem dX11_text_82 : decode cX11_text 82 = .ok (.getfield 53, 3) := by decide +kernel
theorem dX11_text_85 : decode cX11_text 85 = .ok (.invokevirtual 171, 3) := by decide +kernel
theorem dX11_text_88 : decode cX11_text 88 = .ok (.putfield 179, 3) := by decide +kernel
theorem dX11_text_91 : decode cX11_text 91 = .ok (.iconst 1, 1) := by decide +kernel
theorem dX11_text_92 : decode cX11_text 92 = .ok (.ireturn, 1) := by decide +kernel
theorem dX11_law_0 : decode cX11_law 0 = .ok (.iload_n 1, 1) := by decide +kernel
theorem dX11_law_1 : decode cX11_law 1 = .ok (.iconst 0, 1) := by decide +kernel
theorem dX11_law_2 : decode cX11_law 2 = .ok (.iconst 1, 1) := by decide +kernel
theorem dX11_law_3 : decode cX11_law 3 = .ok (.invokestatic 79, 3) := by decide +kernel
theorem dX11_law_6 : decode cX11_law 6 = .ok (.ifCond .ne 10, 3) := by decide +kernel
theorem dX11_law_9 : decode cX11_law 9 = .ok (.aload_n 0, 1) := by decide +kernel
theorem dX11_law_10 : decode cX11_law 10 = .ok (.ldc 83, 2) := by decide +kernel
theorem dX11_law_12 : decode cX11_law 12 = .ok (.invokevirtual 84, 3) := by decide +kernel
theorem dX11_law_15 : decode cX11_law 15 = .ok (.ireturn, 1) := by decide +kernel
theorem dX11_law_16 : decode cX11_law 16 = .ok (.iload_n 1, 1) := by decide +kernel
theorem dX11_law_17 : decode cX11_law 17 = .ok (.ifCond .ne 20, 3) := by decide +kernel
theorem dX11_law_20 : decode cX11_law 20 = .ok (.aload_n 0, 1) := by decide +kernel
theorem dX11_law_21 : decode cX11_law 21 = .ok (.getfield 40, 3) := by decide +kernel
theorem dX11_law_24 : decode cX11_law 24 = .ok (.getfield 175, 3) := by decide +kernel
theorem dX11_law_27 : decode cX11_law 27 = .ok (.iload_n 2, 1) := by decide +kernel
theorem dX11_law_28 : decode cX11_law 28 = .ok (.iload_n 3, 1) := by decide +kernel
theorem dX11_law_29 : decode cX11_law 29 = .ok (.iload 4, 2) := by decide +kernel
theorem dX11_law_31 : decode cX11_law 31 = .ok (.invokevirtual 182, 3) := by decide +kernel
theorem dX11_law_34 : decode cX11_law 34 = .ok (.goto 17, 3) := by decide +kernel
theorem dX11_law_37 : decode cX11_law 37 = .ok (.aload_n 0, 1) := by decide +kernel
theorem dX11_law_38 : decode cX11_law 38 = .ok (.getfield 40, 3) := by decide +kernel
theorem dX11_law_41 : decode cX11_law 41 = .ok (.getfield 179, 3) := by decide +kernel
theorem dX11_law_44 : decode cX11_law 44 = .ok (.iload_n 2, 1) := by decide +kernel
theorem dX11_law_45 : decode cX11_law 45 = .ok (.iload_n 3, 1) := by decide +kernel
theorem dX11_law_46 : decode cX11_law 46 = .ok (.iload 4, 2) := by decide +kernel
theorem dX11_law_48 : decode cX11_law 48 = .ok (.invokevirtual 182, 3) := by decide +kernel
theorem dX11_law_51 : decode cX11_law 51 = .ok (.ireturn, 1) := by decide +kernel
theorem dX11_days_0 : decode cX11_days 0 = .ok (.iload_n 1, 1) := by decide +kernel
theorem dX11_days_1 : decode cX11_days 1 = .ok (.iconst 1, 1) := by decide +kernel
theorem dX11_days_2 : decode cX11_days 2 = .ok (.bipush 60, 2) := by decide +kernel
theorem dX11_days_4 : decode cX11_days 4 = .ok (.invokestatic 79, 3) := by decide +kernel
theorem dX11_days_7 : decode cX11_days 7 = .ok (.ifCond .ne 10, 3) := by decide +kernel
theorem dX11_days_10 : decode cX11_days 10 = .ok (.aload_n 0, 1) := by decide +kernel
theorem dX11_days_11 : decode cX11_days 11 = .ok (.ldc 83, 2) := by decide +kernel
theorem dX11_days_13 : decode cX11_days 13 = .ok (.invokevirtual 84, 3) := by decide +kernel
theorem dX11_days_16 : decode cX11_days 16 = .ok (.ireturn, 1) := by decide +kernel
theorem dX11_days_17 : decode cX11_days 17 = .ok (.aload_n 0, 1) := by decide +kernel
theorem dX11_days_18 : decode cX11_days 18 = .ok (.getfield 40, 3) := by decide +kernel
theorem dX11_days_21 : decode cX11_days 21 = .ok (.getfield 155, 3) := by decide +kernel
theorem dX11_days_24 : decode cX11_days 24 = .ok (.iload_n 1, 1) := by decide +kernel
theorem dX11_days_25 : decode cX11_days 25 = .ok (.iadd, 1) := by decide +kernel
theorem dX11_days_26 : decode cX11_days 26 = .ok (.sipush 9999, 3) := by decide +kernel
theorem dX11_days_29 : decode cX11_days 29 = .ok (.if_icmp .le 10, 3) := by decide +kernel
theorem dX11_days_32 : decode cX11_days 32 = .ok (.aload_n 0, 1) := by decide +kernel
theorem dX11_days_33 : decode cX11_days 33 = .ok (.ldc 186, 2) := by decide +kernel
theorem dX11_days_35 : decode cX11_days 35 = .ok (.invokevirtual 84, 3) := by decide +kernel
theorem dX11_days_38 : decode cX11_days 38 = .ok (.ireturn, 1) := by decide +kernel
theorem dX11_days_39 : decode cX11_days 39 = .ok (.aload_n 0, 1) := by decide +kernel
theorem dX11_days_40 : decode cX11_days 40 = .ok (.getfield 40, 3) := by decide +kernel
theorem dX11_days_43 : decode cX11_days 43 = .ok (.iload_n 1, 1) := by decide +kernel
theorem dX11_days_44 : decode cX11_days 44 = .ok (.invokevirtual 187, 3) := by decide +kernel
theorem dX11_days_47 : decode cX11_days 47 = .ok (.aload_n 0, 1) := by decide +kernel
theorem dX11_days_48 : decode cX11_days 48 = .ok (.getfield 40, 3) := by decide +kernel
theorem dX11_days_51 : decode cX11_days 51 = .ok (.invokevirtual 191, 3) := by decide +kernel
theorem dX11_days_54 : decode cX11_days 54 = .ok (.ireturn, 1) := by decide +kernel
theorem dX11_loose_0 : decode cX11_loose 0 = .ok (.iload_n 1, 1) := by decide +kernel
theorem dX11_loose_1 : decode cX11_loose 1 = .ok (.iconst 1, 1) := by decide +kernel
theorem dX11_loose_2 : decode cX11_loose 2 = .ok (.bipush 40, 2) := by decide +kernel
theorem dX11_loose_4 : decode cX11_loose 4 = .ok (.invokestatic 79, 3) := by decide +kernel
theorem dX11_loose_7 : decode cX11_loose 7 = .ok (.ifCond .ne 10, 3) := by decide +kernel
theorem dX11_loose_10 : decode cX11_loose 10 = .ok (.aload_n 0, 1) := by decide +kernel
theorem dX11_loose_11 : decode cX11_loose 11 = .ok (.ldc 83, 2) := by decide +kernel
theorem dX11_loose_13 : decode cX11_loose 13 = .ok (.invokevirtual 84, 3) := by decide +kernel
theorem dX11_loose_16 : decode cX11_loose 16 = .ok (.ireturn, 1) := by decide +kernel
theorem dX11_loose_17 : decode cX11_loose 17 = .ok (.aload_n 0, 1) := by decide +kernel
theorem dX11_loose_18 : decode cX11_loose 18 = .ok (.getfield 40, 3) := by decide +kernel
theorem dX11_loose_21 : decode cX11_loose 21 = .ok (.getfield 155, 3) := by decide +kernel
theorem dX11_loose_24 : decode cX11_loose 24 = .ok (.iload_n 1, 1) := by decide +kernel
theorem dX11_loose_25 : decode cX11_loose 25 = .ok (.iadd, 1) := by decide +kernel
theorem dX11_loose_26 : decode cX11_loose 26 = .ok (.sipush 9999, 3) := by decide +kernel
theorem dX11_loose_29 : decode cX11_loose 29 = .ok (.if_icmp .le 10, 3) := by decide +kernel
theorem dX11_loose_32 : decode cX11_loose 32 = .ok (.aload_n 0, 1) := by decide +kernel
theorem dX11_loose_33 : decode cX11_loose 33 = .ok (.ldc 186, 2) := by decide +kernel
theorem dX11_loose_35 : decode cX11_loose 35 = .ok (.invokevirtual 84, 3) := by decide +kernel
theorem dX11_loose_38 : decode cX11_loose 38 = .ok (.ireturn, 1) := by decide +kernel
theorem dX11_loose_39 : decode cX11_loose 39 = .ok (.iconst 0, 1) := by decide +kernel
theorem dX11_loose_40 : decode cX11_loose 40 = .ok (.istore_n 2, 1) := by decide +kernel
theorem dX11_loose_41 : decode cX11_loose 41 = .ok (.iload_n 2, 1) := by decide +kernel
theorem dX11_loose_42 : decode cX11_loose 42 = .ok (.iload_n 1, 1) := by decide +kernel
theorem dX11_loose_43 : decode cX11_loose 43 = .ok (.if_icmp .ge 24, 3) := by decide +kernel
theorem dX11_loose_46 : decode cX11_loose 46 = .ok (.aload_n 0, 1) := by decide +kernel
theorem dX11_loose_47 : decode cX11_loose 47 = .ok (.getfield 40, 3) := by decide +kernel
theorem dX11_loose_50 : decode cX11_loose 50 = .ok (.invokevirtual 195, 3) := by decide +kernel
theorem dX11_loose_53 : decode cX11_loose 53 = .ok (.aload_n 0, 1) := by decide +kernel
theorem dX11_loose_54 : decode cX11_loose 54 = .ok (.getfield 40, 3) := by decide +kernel
theorem dX11_loose_57 : decode cX11_loose 57 = .ok (.iconst 1, 1) := by decide +kernel
theorem dX11_loose_58 : decode cX11_loose 58 = .ok (.invokevirtual 187, 3) := by decide +kernel
theorem dX11_loose_61 : decode cX11_loose 61 = .ok (.iinc 2 1, 3) := by decide +kernel
theorem dX11_loose_64 : decode cX11_loose 64 = .ok (.goto (-23), 3) := by decide +kernel
theorem dX11_loose_67 : decode cX11_loose 67 = .ok (.aload_n 0, 1) := by decide +kernel
theorem dX11_loose_68 : decode cX11_loose 68 = .ok (.getfield 40, 3) := by decide +kernel
theorem dX11_loose_71 : decode cX11_loose 71 = .ok (.invokevirtual 191, 3) := by decide +kernel
theorem dX11_loose_74 : decode cX11_loose 74 = .ok (.ireturn, 1) := by decide +kernel
theorem dX11_then_0 : decode cX11_then 0 = .ok (.iload_n 1, 1) := by decide +kernel
theorem dX11_then_1 : decode cX11_then 1 = .ok (.iconst 0, 1) := by decide +kernel
theorem dX11_then_2 : decode cX11_then 2 = .ok (.bipush 60, 2) := by decide +kernel
theorem dX11_then_4 : decode cX11_then 4 = .ok (.invokestatic 79, 3) := by decide +kernel
theorem dX11_then_7 : decode cX11_then 7 = .ok (.ifCond .eq 14, 3) := by decide +kernel
theorem dX11_then_10 : decode cX11_then 10 = .ok (.aload_n 0, 1) := by decide +kernel
theorem dX11_then_11 : decode cX11_then 11 = .ok (.getfield 40, 3) := by decide +kernel
theorem dX11_then_14 : decode cX11_then 14 = .ok (.iload_n 2, 1) := by decide +kernel
theorem dX11_then_15 : decode cX11_then 15 = .ok (.invokevirtual 113, 3) := by decide +kernel
theorem dX11_then_18 : decode cX11_then 18 = .ok (.ifCond .ne 10, 3) := by decide +kernel
theorem dX11_then_21 : decode cX11_then 21 = .ok (.aload_n 0, 1) := by decide +kernel
theorem dX11_then_22 : decode cX11_then 22 = .ok (.ldc 83, 2) := by decide +kernel
theorem dX11_then_24 : decode cX11_then 24 = .ok (.invokevirtual 84, 3) := by decide +kernel
theorem dX11_then_27 : decode cX11_then 27 = .ok (.ireturn, 1) := by decide +kernel
theorem dX11_then_28 : decode cX11_then 28 = .ok (.aload_n 0, 1) := by decide +kernel
theorem dX11_then_29 : decode cX11_then 29 = .ok (.getfield 44, 3) := by decide +kernel
theorem dX11_then_32 : decode cX11_then 32 = .ok (.aload_n 0, 1) := by decide +kernel
theorem dX11_then_33 : decode cX11_then 33 = .ok (.getfield 40, 3) := by decide +kernel
theorem dX11_then_36 : decode cX11_then 36 = .ok (.invokevirtual 198, 3) := by decide +kernel
theorem dX11_then_39 : decode cX11_then 39 = .ok (.aload_n 0, 1) := by decide +kernel
theorem dX11_then_40 : decode cX11_then 40 = .ok (.getfield 44, 3) := by decide +kernel
theorem dX11_then_43 : decode cX11_then 43 = .ok (.iload_n 1, 1) := by decide +kernel
theorem dX11_then_44 : decode cX11_then 44 = .ok (.iload_n 2, 1) := by decide +kernel
theorem dX11_then_45 : decode cX11_then 45 = .ok (.invokevirtual 202, 3) := by decide +kernel
theorem dX11_then_48 : decode cX11_then 48 = .ok (.ireturn, 1) := by decide +kernel
theorem dX11_worst_0 : decode cX11_worst 0 = .ok (.iload_n 1, 1) := by decide +kernel
theorem dX11_worst_1 : decode cX11_worst 1 = .ok (.iconst 1, 1) := by decide +kernel
theorem dX11_worst_2 : decode cX11_worst 2 = .ok (.sipush 999, 3) := by decide +kernel
theorem dX11_worst_5 : decode cX11_worst 5 = .ok (.invokestatic 79, 3) := by decide +kernel
theorem dX11_worst_8 : decode cX11_worst 8 = .ok (.ifCond .eq 12, 3) := by decide +kernel
theorem dX11_worst_11 : decode cX11_worst 11 = .ok (.iload_n 2, 1) := by decide +kernel
theorem dX11_worst_12 : decode cX11_worst 12 = .ok (.iconst 0, 1) := by decide +kernel
theorem dX11_worst_13 : decode cX11_worst 13 = .ok (.iconst 1, 1) := by decide +kernel
theorem dX11_worst_14 : decode cX11_worst 14 = .ok (.invokestatic 79, 3) := by decide +kernel
theorem dX11_worst_17 : decode cX11_worst 17 = .ok (.ifCond .ne 10, 3) := by decide +kernel
theorem dX11_worst_20 : decode cX11_worst 20 = .ok (.aload_n 0, 1) := by decide +kernel
theorem dX11_worst_21 : decode cX11_worst 21 = .ok (.ldc 83, 2) := by decide +kernel
theorem dX11_worst_23 : decode cX11_worst 23 = .ok (.invokevirtual 84, 3) := by decide +kernel
theorem dX11_worst_26 : decode cX11_worst 26 = .ok (.ireturn, 1) := by decide +kernel
theorem dX11_worst_27 : decode cX11_worst 27 = .ok (.aload_n 0, 1) := by decide +kernel
theorem dX11_worst_28 : decode cX11_worst 28 = .ok (.getfield 44, 3) := by decide +kernel
theorem dX11_worst_31 : decode cX11_worst 31 = .ok (.aload_n 0, 1) := by decide +kernel
theorem dX11_worst_32 : decode cX11_worst 32 = .ok (.getfield 40, 3) := by decide +kernel
theorem dX11_worst_35 : decode cX11_worst 35 = .ok (.invokevirtual 198, 3) := by decide +kernel
theorem dX11_worst_38 : decode cX11_worst 38 = .ok (.iconst 0, 1) := by decide +kernel
theorem dX11_worst_39 : decode cX11_worst 39 = .ok (.istore_n 3, 1) := by decide +kernel
theorem dX11_worst_40 : decode cX11_worst 40 = .ok (.iload_n 3, 1) := by decide +kernel
theorem dX11_worst_41 : decode cX11_worst 41 = .ok (.bipush 60, 2) := by decide +kernel
theorem dX11_worst_43 : decode cX11_worst 43 = .ok (.if_icmp .gt 43, 3) := by decide +kernel
theorem dX11_worst_46 : decode cX11_worst 46 = .ok (.aload_n 0, 1) := by decide +kernel
theorem dX11_worst_47 : decode cX11_worst 47 = .ok (.getfield 44, 3) := by decide +kernel
theorem dX11_worst_50 : decode cX11_worst 50 = .ok (.iload_n 1, 1) := by decide +kernel
theorem dX11_worst_51 : decode cX11_worst 51 = .ok (.invokevirtual 205, 3) := by decide +kernel
theorem dX11_worst_54 : decode cX11_worst 54 = .ok (.istore 4, 2) := by decide +kernel
theorem dX11_worst_56 : decode cX11_worst 56 = .ok (.iload 4, 2) := by decide +kernel
theorem dX11_worst_58 : decode cX11_worst 58 = .ok (.ifCond .lt 14, 3) := by decide +kernel
theorem dX11_worst_61 : decode cX11_worst 61 = .ok (.iload_n 2, 1) := by decide +kernel
theorem dX11_worst_62 : decode cX11_worst 62 = .ok (.ifCond .ne 7, 3) := by decide +kernel
theorem dX11_worst_65 : decode cX11_worst 65 = .ok (.iload_n 3, 1) := by decide +kernel
theorem dX11_worst_66 : decode cX11_worst 66 = .ok (.goto 5, 3) := by decide +kernel
theorem dX11_worst_69 : decode cX11_worst 69 = .ok (.iload 4, 2) := by decide +kernel
theorem dX11_worst_71 : decode cX11_worst 71 = .ok (.ireturn, 1) := by decide +kernel
theorem dX11_worst_72 : decode cX11_worst 72 = .ok (.aload_n 0, 1) := by decide +kernel
theorem dX11_worst_73 : decode cX11_worst 73 = .ok (.getfield 44, 3) := by decide +kernel
theorem dX11_worst_76 : decode cX11_worst 76 = .ok (.iconst 1, 1) := by decide +kernel
theorem dX11_worst_77 : decode cX11_worst 77 = .ok (.invokevirtual 187, 3) := by decide +kernel
theorem dX11_worst_80 : decode cX11_worst 80 = .ok (.iinc 3 1, 3) := by decide +kernel
theorem dX11_worst_83 : decode cX11_worst 83 = .ok (.goto (-43), 3) := by decide +kernel
theorem dX11_worst_86 : decode cX11_worst 86 = .ok (.aload_n 0, 1) := by decide +kernel
theorem dX11_worst_87 : decode cX11_worst 87 = .ok (.ldc 208, 2) := by decide +kernel
theorem dX11_worst_89 : decode cX11_worst 89 = .ok (.invokevirtual 84, 3) := by decide +kernel
theorem dX11_worst_92 : decode cX11_worst 92 = .ok (.ireturn, 1) := by decide +kernel
theorem dX11_stay_0 : decode cX11_stay 0 = .ok (.aload_n 0, 1) := by decide +kernel
theorem dX11_stay_1 : decode cX11_stay 1 = .ok (.getfield 40, 3) := by decide +kernel
theorem dX11_stay_4 : decode cX11_stay 4 = .ok (.iconst 0, 1) := by decide +kernel
theorem dX11_stay_5 : decode cX11_stay 5 = .ok (.invokevirtual 209, 3) := by decide +kernel
theorem dX11_stay_8 : decode cX11_stay 8 = .ok (.aload_n 0, 1) := by decide +kernel
theorem dX11_stay_9 : decode cX11_stay 9 = .ok (.getfield 40, 3) := by decide +kernel
theorem dX11_stay_12 : decode cX11_stay 12 = .ok (.iconst 1, 1) := by decide +kernel
theorem dX11_stay_13 : decode cX11_stay 13 = .ok (.invokevirtual 209, 3) := by decide +kernel
theorem dX11_stay_16 : decode cX11_stay 16 = .ok (.ior, 1) := by decide +kernel
theorem dX11_stay_17 : decode cX11_stay 17 = .ok (.ireturn, 1) := by decide +kernel
theorem dX11_side_0 : decode cX11_side 0 = .ok (.iload_n 1, 1) := by decide +kernel
theorem dX11_side_1 : decode cX11_side 1 = .ok (.iconst 0, 1) := by decide +kernel
theorem dX11_side_2 : decode cX11_side 2 = .ok (.iconst 1, 1) := by decide +kernel
theorem dX11_side_3 : decode cX11_side 3 = .ok (.invokestatic 79, 3) := by decide +kernel
theorem dX11_side_6 : decode cX11_side 6 = .ok (.ifCond .ne 10, 3) := by decide +kernel
theorem dX11_side_9 : decode cX11_side 9 = .ok (.aload_n 0, 1) := by decide +kernel
theorem dX11_side_10 : decode cX11_side 10 = .ok (.ldc 83, 2) := by decide +kernel
theorem dX11_side_12 : decode cX11_side 12 = .ok (.invokevirtual 84, 3) := by decide +kernel
theorem dX11_side_15 : decode cX11_side 15 = .ok (.ireturn, 1) := by decide +kernel
theorem dX11_side_16 : decode cX11_side 16 = .ok (.aload_n 0, 1) := by decide +kernel
theorem dX11_side_17 : decode cX11_side 17 = .ok (.iconst 0, 1) := by decide +kernel
theorem dX11_side_18 : decode cX11_side 18 = .ok (.invokevirtual 212, 3) := by decide +kernel
theorem dX11_side_21 : decode cX11_side 21 = .ok (.istore_n 2, 1) := by decide +kernel
theorem dX11_side_22 : decode cX11_side 22 = .ok (.aload_n 0, 1) := by decide +kernel
theorem dX11_side_23 : decode cX11_side 23 = .ok (.iconst 1, 1) := by decide +kernel
theorem dX11_side_24 : decode cX11_side 24 = .ok (.invokevirtual 212, 3) := by decide +kernel
theorem dX11_side_27 : decode cX11_side 27 = .ok (.istore_n 3, 1) := by decide +kernel
theorem dX11_side_28 : decode cX11_side 28 = .ok (.iload_n 1, 1) := by decide +kernel
theorem dX11_side_29 : decode cX11_side 29 = .ok (.iconst 1, 1) := by decide +kernel
theorem dX11_side_30 : decode cX11_side 30 = .ok (.if_icmp .ne 9, 3) := by decide +kernel
theorem dX11_side_33 : decode cX11_side 33 = .ok (.iload_n 2, 1) := by decide +kernel
theorem dX11_side_34 : decode cX11_side 34 = .ok (.iload_n 3, 1) := by decide +kernel
theorem dX11_side_35 : decode cX11_side 35 = .ok (.invokestatic 215, 3) := by decide +kernel
theorem dX11_side_38 : decode cX11_side 38 = .ok (.ireturn, 1) := by decide +kernel
theorem dX11_side_39 : decode cX11_side 39 = .ok (.iload_n 3, 1) := by decide +kernel
theorem dX11_side_40 : decode cX11_side 40 = .ok (.iload_n 2, 1) := by decide +kernel
theorem dX11_side_41 : decode cX11_side 41 = .ok (.if_icmp .ge 7, 3) := by decide +kernel
theorem dX11_side_44 : decode cX11_side 44 = .ok (.iconst 1, 1) := by decide +kernel
theorem dX11_side_45 : decode cX11_side 45 = .ok (.goto 4, 3) := by decide +kernel
theorem dX11_side_48 : decode cX11_side 48 = .ok (.iconst 0, 1) := by decide +kernel
theorem dX11_side_49 : decode cX11_side 49 = .ok (.ireturn, 1) := by decide +kernel
theorem dX11_seldom_0 : decode cX11_seldom 0 = .ok (.iload_n 1, 1) := by decide +kernel
theorem dX11_seldom_1 : decode cX11_seldom 1 = .ok (.iconst 1, 1) := by decide +kernel
theorem dX11_seldom_2 : decode cX11_seldom 2 = .ok (.sipush 999, 3) := by decide +kernel
theorem dX11_seldom_5 : decode cX11_seldom 5 = .ok (.invokestatic 79, 3) := by decide +kernel
theorem dX11_seldom_8 : decode cX11_seldom 8 = .ok (.ifCond .ne 10, 3) := by decide +kernel
theorem dX11_seldom_11 : decode cX11_seldom 11 = .ok (.aload_n 0, 1) := by decide +kernel
theorem dX11_seldom_12 : decode cX11_seldom 12 = .ok (.ldc 83, 2) := by decide +kernel
theorem dX11_seldom_14 : decode cX11_seldom 14 = .ok (.invokevirtual 84, 3) := by decide +kernel
theorem dX11_seldom_17 : decode cX11_seldom 17 = .ok (.ireturn, 1) := by decide +kernel
theorem dX11_seldom_18 : decode cX11_seldom 18 = .ok (.bipush 14, 2) := by decide +kernel
theorem dX11_seldom_20 : decode cX11_seldom 20 = .ok (.istore_n 2, 1) := by decide +kernel
theorem dX11_seldom_21 : decode cX11_seldom 21 = .ok (.iload_n 2, 1) := by decide +kernel
theorem dX11_seldom_22 : decode cX11_seldom 22 = .ok (.iconst 1, 1) := by decide +kernel
theorem dX11_seldom_23 : decode cX11_seldom 23 = .ok (.if_icmp .lt 20, 3) := by decide +kernel
theorem dX11_seldom_26 : decode cX11_seldom 26 = .ok (.aload_n 0, 1) := by decide +kernel
theorem dX11_seldom_27 : decode cX11_seldom 27 = .ok (.iload_n 1, 1) := by decide +kernel
theorem dX11_seldom_28 : decode cX11_seldom 28 = .ok (.iload_n 2, 1) := by decide +kernel
theorem dX11_seldom_29 : decode cX11_seldom 29 = .ok (.invokevirtual 218, 3) := by decide +kernel
theorem dX11_seldom_32 : decode cX11_seldom 32 = .ok (.ifCond .eq 5, 3) := by decide +kernel
theorem dX11_seldom_35 : decode cX11_seldom 35 = .ok (.iload_n 2, 1) := by decide +kernel
theorem dX11_seldom_36 : decode cX11_seldom 36 = .ok (.ireturn, 1) := by decide +kernel
theorem dX11_seldom_37 : decode cX11_seldom 37 = .ok (.iinc 2 (-1), 3) := by decide +kernel
theorem dX11_seldom_40 : decode cX11_seldom 40 = .ok (.goto (-19), 3) := by decide +kernel
theorem dX11_seldom_43 : decode cX11_seldom 43 = .ok (.aload_n 0, 1) := by decide +kernel
theorem dX11_seldom_44 : decode cX11_seldom 44 = .ok (.ldc 208, 2) := by decide +kernel
theorem dX11_seldom_46 : decode cX11_seldom 46 = .ok (.invokevirtual 84, 3) := by decide +kernel
theorem dX11_seldom_49 : decode cX11_seldom 49 = .ok (.ireturn, 1) := by decide +kernel
theorem dX11_leastFine_0 : decode cX11_leastFine 0 = .ok (.iload_n 1, 1) := by decide +kernel
theorem dX11_leastFine_1 : decode cX11_leastFine 1 = .ok (.iconst 0, 1) := by decide +kernel
theorem dX11_leastFine_2 : decode cX11_leastFine 2 = .ok (.iconst 1, 1) := by decide +kernel
theorem dX11_leastFine_3 : decode cX11_leastFine 3 = .ok (.invokestatic 79, 3) := by decide +kernel
theorem dX11_leastFine_6 : decode cX11_leastFine 6 = .ok (.ifCond .ne 10, 3) := by decide +kernel
theorem dX11_leastFine_9 : decode cX11_leastFine 9 = .ok (.aload_n 0, 1) := by decide +kernel
theorem dX11_leastFine_10 : decode cX11_leastFine 10 = .ok (.ldc 83, 2) := by decide +kernel
theorem dX11_leastFine_12 : decode cX11_leastFine 12 = .ok (.invokevirtual 84, 3) := by decide +kernel
theorem dX11_leastFine_15 : decode cX11_leastFine 15 = .ok (.ireturn, 1) := by decide +kernel
theorem dX11_leastFine_16 : decode cX11_leastFine 16 = .ok (.aload_n 0, 1) := by decide +kernel
theorem dX11_leastFine_17 : decode cX11_leastFine 17 = .ok (.getfield 44, 3) := by decide +kernel
theorem dX11_leastFine_20 : decode cX11_leastFine 20 = .ok (.aload_n 0, 1) := by decide +kernel
theorem dX11_leastFine_21 : decode cX11_leastFine 21 = .ok (.getfield 40, 3) := by decide +kernel
theorem dX11_leastFine_24 : decode cX11_leastFine 24 = .ok (.invokevirtual 198, 3) := by decide +kernel
theorem dX11_leastFine_27 : decode cX11_leastFine 27 = .ok (.iconst 0, 1) := by decide +kernel
theorem dX11_leastFine_28 : decode cX11_leastFine 28 = .ok (.istore_n 2, 1) := by decide +kernel
theorem dX11_leastFine_29 : decode cX11_leastFine 29 = .ok (.iload_n 2, 1) := by decide +kernel
theorem dX11_leastFine_30 : decode cX11_leastFine 30 = .ok (.bipush 99, 2) := by decide +kernel
theorem dX11_leastFine_32 : decode cX11_leastFine 32 = .ok (.if_icmp .gt 30, 3) := by decide +kernel
theorem dX11_leastFine_35 : decode cX11_leastFine 35 = .ok (.aload_n 0, 1) := by decide +kernel
theorem dX11_leastFine_36 : decode cX11_leastFine 36 = .ok (.getfield 44, 3) := by decide +kernel
theorem dX11_leastFine_39 : decode cX11_leastFine 39 = .ok (.iload_n 2, 1) := by decide +kernel
theorem dX11_leastFine_40 : decode cX11_leastFine 40 = .ok (.putfield 141, 3) := by decide +kernel
theorem dX11_leastFine_43 : decode cX11_leastFine 43 = .ok (.aload_n 0, 1) := by decide +kernel
theorem dX11_leastFine_44 : decode cX11_leastFine 44 = .ok (.getfield 44, 3) := by decide +kernel
theorem dX11_leastFine_47 : decode cX11_leastFine 47 = .ok (.iload_n 1, 1) := by decide +kernel
theorem dX11_leastFine_48 : decode cX11_leastFine 48 = .ok (.invokevirtual 209, 3) := by decide +kernel
theorem dX11_leastFine_51 : decode cX11_leastFine 51 = .ok (.ifCond .ne 5, 3) := by decide +kernel
theorem dX11_leastFine_54 : decode cX11_leastFine 54 = .ok (.iload_n 2, 1) := by decide +kernel
theorem dX11_leastFine_55 : decode cX11_leastFine 55 = .ok (.ireturn, 1) := by decide +kernel
theorem dX11_leastFine_56 : decode cX11_leastFine 56 = .ok (.iinc 2 1, 3) := by decide +kernel
theorem dX11_leastFine_59 : decode cX11_leastFine 59 = .ok (.goto (-30), 3) := by decide +kernel
theorem dX11_leastFine_62 : decode cX11_leastFine 62 = .ok (.aload_n 0, 1) := by decide +kernel
theorem dX11_leastFine_63 : decode cX11_leastFine 63 = .ok (.ldc 208, 2) := by decide +kernel
theorem dX11_leastFine_65 : decode cX11_leastFine 65 = .ok (.invokevirtual 84, 3) := by decide +kernel
theorem dX11_leastFine_68 : decode cX11_leastFine 68 = .ok (.ireturn, 1) := by decide +kernel
theorem dX11_tow_0 : decode cX11_tow 0 = .ok (.aload_n 0, 1) := by decide +kernel
theorem dX11_tow_1 : decode cX11_tow 1 = .ok (.getfield 40, 3) := by decide +kernel
theorem dX11_tow_4 : decode cX11_tow 4 = .ok (.iload_n 1, 1) := by decide +kernel
theorem dX11_tow_5 : decode cX11_tow 5 = .ok (.invokevirtual 113, 3) := by decide +kernel
theorem dX11_tow_8 : decode cX11_tow 8 = .ok (.ifCond .eq 24, 3) := by decide +kernel
theorem dX11_tow_11 : decode cX11_tow 11 = .ok (.iload_n 2, 1) := by decide +kernel
theorem dX11_tow_12 : decode cX11_tow 12 = .ok (.iconst 1, 1) := by decide +kernel
theorem dX11_tow_13 : decode cX11_tow 13 = .ok (.sipush 999, 3) := by decide +kernel
theorem dX11_tow_16 : decode cX11_tow 16 = .ok (.invokestatic 79, 3) := by decide +kernel
theorem dX11_tow_19 : decode cX11_tow 19 = .ok (.ifCond .eq 13, 3) := by decide +kernel
theorem dX11_tow_22 : decode cX11_tow 22 = .ok (.iload_n 3, 1) := by decide +kernel
theorem dX11_tow_23 : decode cX11_tow 23 = .ok (.iconst 0, 1) := by decide +kernel
theorem dX11_tow_24 : decode cX11_tow 24 = .ok (.bipush 20, 2) := by decide +kernel
theorem dX11_tow_26 : decode cX11_tow 26 = .ok (.invokestatic 79, 3) := by decide +kernel
theorem dX11_tow_29 : decode cX11_tow 29 = .ok (.ifCond .ne 10, 3) := by decide +kernel
theorem dX11_tow_32 : decode cX11_tow 32 = .ok (.aload_n 0, 1) := by decide +kernel
theorem dX11_tow_33 : decode cX11_tow 33 = .ok (.ldc 83, 2) := by decide +kernel
theorem dX11_tow_35 : decode cX11_tow 35 = .ok (.invokevirtual 84, 3) := by decide +kernel
theorem dX11_tow_38 : decode cX11_tow 38 = .ok (.ireturn, 1) := by decide +kernel
theorem dX11_tow_39 : decode cX11_tow 39 = .ok (.aload_n 0, 1) := by decide +kernel
theorem dX11_tow_40 : decode cX11_tow 40 = .ok (.iconst 0, 1) := by decide +kernel
theorem dX11_tow_41 : decode cX11_tow 41 = .ok (.iload_n 1, 1) := by decide +kernel
theorem dX11_tow_42 : decode cX11_tow 42 = .ok (.iload_n 3, 1) := by decide +kernel
theorem dX11_tow_43 : decode cX11_tow 43 = .ok (.invokevirtual 221, 3) := by decide +kernel
theorem dX11_tow_46 : decode cX11_tow 46 = .ok (.iload_n 2, 1) := by decide +kernel
theorem dX11_tow_47 : decode cX11_tow 47 = .ok (.if_icmp .ge 5, 3) := by decide +kernel
theorem dX11_tow_50 : decode cX11_tow 50 = .ok (.iconst 0, 1) := by decide +kernel
theorem dX11_tow_51 : decode cX11_tow 51 = .ok (.ireturn, 1) := by decide +kernel
theorem dX11_tow_52 : decode cX11_tow 52 = .ok (.iconst 0, 1) := by decide +kernel
theorem dX11_tow_53 : decode cX11_tow 53 = .ok (.istore 4, 2) := by decide +kernel
theorem dX11_tow_55 : decode cX11_tow 55 = .ok (.iload 4, 2) := by decide +kernel
theorem dX11_tow_57 : decode cX11_tow 57 = .ok (.aload_n 0, 1) := by decide +kernel
theorem dX11_tow_58 : decode cX11_tow 58 = .ok (.getfield 40, 3) := by decide +kernel
theorem dX11_tow_61 : decode cX11_tow 61 = .ok (.getfield 88, 3) := by decide +kernel
theorem dX11_tow_64 : decode cX11_tow 64 = .ok (.if_icmp .ge 41, 3) := by decide +kernel
theorem dX11_tow_67 : decode cX11_tow 67 = .ok (.aload_n 0, 1) := by decide +kernel
theorem dX11_tow_68 : decode cX11_tow 68 = .ok (.getfield 40, 3) := by decide +kernel
theorem dX11_tow_71 : decode cX11_tow 71 = .ok (.iload 4, 2) := by decide +kernel
theorem dX11_tow_73 : decode cX11_tow 73 = .ok (.invokevirtual 123, 3) := by decide +kernel
theorem dX11_tow_76 : decode cX11_tow 76 = .ok (.iconst 1, 1) := by decide +kernel
theorem dX11_tow_77 : decode cX11_tow 77 = .ok (.if_icmp .ne 22, 3) := by decide +kernel
theorem dX11_tow_80 : decode cX11_tow 80 = .ok (.aload_n 0, 1) := by decide +kernel
theorem dX11_tow_81 : decode cX11_tow 81 = .ok (.iconst 1, 1) := by decide +kernel
theorem dX11_tow_82 : decode cX11_tow 82 = .ok (.iload 4, 2) := by decide +kernel
theorem dX11_tow_84 : decode cX11_tow 84 = .ok (.ishl, 1) := by decide +kernel
theorem dX11_tow_85 : decode cX11_tow 85 = .ok (.iload_n 1, 1) := by decide +kernel
theorem dX11_tow_86 : decode cX11_tow 86 = .ok (.iload_n 3, 1) := by decide +kernel
theorem dX11_tow_87 : decode cX11_tow 87 = .ok (.invokevirtual 221, 3) := by decide +kernel
theorem dX11_tow_90 : decode cX11_tow 90 = .ok (.iload_n 2, 1) := by decide +kernel
theorem dX11_tow_91 : decode cX11_tow 91 = .ok (.if_icmp .ge 8, 3) := by decide +kernel
theorem dX11_tow_94 : decode cX11_tow 94 = .ok (.iconst 1, 1) := by decide +kernel
theorem dX11_tow_95 : decode cX11_tow 95 = .ok (.iload 4, 2) := by decide +kernel
theorem dX11_tow_97 : decode cX11_tow 97 = .ok (.ishl, 1) := by decide +kernel
theorem dX11_tow_98 : decode cX11_tow 98 = .ok (.ireturn, 1) := by decide +kernel
theorem dX11_tow_99 : decode cX11_tow 99 = .ok (.iinc 4 1, 3) := by decide +kernel
theorem dX11_tow_102 : decode cX11_tow 102 = .ok (.goto (-47), 3) := by decide +kernel
theorem dX11_tow_105 : decode cX11_tow 105 = .ok (.aload_n 0, 1) := by decide +kernel
theorem dX11_tow_106 : decode cX11_tow 106 = .ok (.iload_n 1, 1) := by decide +kernel
theorem dX11_tow_107 : decode cX11_tow 107 = .ok (.iload_n 2, 1) := by decide +kernel
theorem dX11_tow_108 : decode cX11_tow 108 = .ok (.iload_n 3, 1) := by decide +kernel
theorem dX11_tow_109 : decode cX11_tow 109 = .ok (.invokevirtual 224, 3) := by decide +kernel
theorem dX11_tow_112 : decode cX11_tow 112 = .ok (.istore 4, 2) := by decide +kernel
theorem dX11_tow_114 : decode cX11_tow 114 = .ok (.iload 4, 2) := by decide +kernel
theorem dX11_tow_116 : decode cX11_tow 116 = .ok (.ifCond .ne 12, 3) := by decide +kernel
theorem dX11_tow_119 : decode cX11_tow 119 = .ok (.aload_n 0, 1) := by decide +kernel
theorem dX11_tow_120 : decode cX11_tow 120 = .ok (.ldc 208, 2) := by decide +kernel
theorem dX11_tow_122 : decode cX11_tow 122 = .ok (.invokevirtual 84, 3) := by decide +kernel
theorem dX11_tow_125 : decode cX11_tow 125 = .ok (.goto 5, 3) := by decide +kernel
theorem dX11_tow_128 : decode cX11_tow 128 = .ok (.iload 4, 2) := by decide +kernel
theorem dX11_tow_130 : decode cX11_tow 130 = .ok (.ireturn, 1) := by decide +kernel
theorem dX11_broom_0 : decode cX11_broom 0 = .ok (.iload_n 1, 1) := by decide +kernel
theorem dX11_broom_1 : decode cX11_broom 1 = .ok (.iconst 0, 1) := by decide +kernel
theorem dX11_broom_2 : decode cX11_broom 2 = .ok (.bipush 30, 2) := by decide +kernel
theorem dX11_broom_4 : decode cX11_broom 4 = .ok (.invokestatic 79, 3) := by decide +kernel
theorem dX11_broom_7 : decode cX11_broom 7 = .ok (.ifCond .eq 12, 3) := by decide +kernel
theorem dX11_broom_10 : decode cX11_broom 10 = .ok (.iload_n 2, 1) := by decide +kernel
theorem dX11_broom_11 : decode cX11_broom 11 = .ok (.iconst 0, 1) := by decide +kernel
theorem dX11_broom_12 : decode cX11_broom 12 = .ok (.iconst 1, 1) := by decide +kernel
theorem dX11_broom_13 : decode cX11_broom 13 = .ok (.invokestatic 79, 3) := by decide +kernel
theorem dX11_broom_16 : decode cX11_broom 16 = .ok (.ifCond .ne 10, 3) := by decide +kernel
theorem dX11_broom_19 : decode cX11_broom 19 = .ok (.aload_n 0, 1) := by decide +kernel
theorem dX11_broom_20 : decode cX11_broom 20 = .ok (.ldc 83, 2) := by decide +kernel
theorem dX11_broom_22 : decode cX11_broom 22 = .ok (.invokevirtual 84, 3) := by decide +kernel
theorem dX11_broom_25 : decode cX11_broom 25 = .ok (.ireturn, 1) := by decide +kernel
theorem dX11_broom_26 : decode cX11_broom 26 = .ok (.aload_n 0, 1) := by decide +kernel
theorem dX11_broom_27 : decode cX11_broom 27 = .ok (.getfield 40, 3) := by decide +kernel
theorem dX11_broom_30 : decode cX11_broom 30 = .ok (.getfield 88, 3) := by decide +kernel
theorem dX11_broom_33 : decode cX11_broom 33 = .ok (.ifCond .ne 10, 3) := by decide +kernel
theorem dX11_broom_36 : decode cX11_broom 36 = .ok (.aload_n 0, 1) := by decide +kernel
theorem dX11_broom_37 : decode cX11_broom 37 = .ok (.ldc 208, 2) := by decide +kernel
theorem dX11_broom_39 : decode cX11_broom 39 = .ok (.invokevirtual 84, 3) := by decide +kernel
theorem dX11_broom_42 : decode cX11_broom 42 = .ok (.ireturn, 1) := by decide +kernel
theorem dX11_broom_43 : decode cX11_broom 43 = .ok (.iconst 0, 1) := by decide +kernel
theorem dX11_broom_44 : decode cX11_broom 44 = .ok (.istore_n 3, 1) := by decide +kernel
theorem dX11_broom_45 : decode cX11_broom 45 = .ok (.sipush 1000, 3) := by decide +kernel
theorem dX11_broom_48 : decode cX11_broom 48 = .ok (.istore 4, 2) := by decide +kernel
theorem dX11_broom_50 : decode cX11_broom 50 = .ok (.iconst 0, 1) := by decide +kernel
theorem dX11_broom_51 : decode cX11_broom 51 = .ok (.istore 5, 2) := by decide +kernel
theorem dX11_broom_53 : decode cX11_broom 53 = .ok (.iload 5, 2) := by decide +kernel
theorem dX11_broom_55 : decode cX11_broom 55 = .ok (.aload_n 0, 1) := by decide +kernel
theorem dX11_broom_56 : decode cX11_broom 56 = .ok (.getfield 40, 3) := by decide +kernel
theorem dX11_broom_59 : decode cX11_broom 59 = .ok (.getfield 88, 3) := by decide +kernel
theorem dX11_broom_62 : decode cX11_broom 62 = .ok (.if_icmp .ge 62, 3) := by decide +kernel
theorem dX11_broom_65 : decode cX11_broom 65 = .ok (.aload_n 0, 1) := by decide +kernel
theorem dX11_broom_66 : decode cX11_broom 66 = .ok (.getfield 44, 3) := by decide +kernel
theorem dX11_broom_69 : decode cX11_broom 69 = .ok (.aload_n 0, 1) := by decide +kernel
theorem dX11_broom_70 : decode cX11_broom 70 = .ok (.getfield 40, 3) := by decide +kernel
theorem dX11_broom_73 : decode cX11_broom 73 = .ok (.invokevirtual 198, 3) := by decide +kernel
theorem dX11_broom_76 : decode cX11_broom 76 = .ok (.aload_n 0, 1) := by decide +kernel
theorem dX11_broom_77 : decode cX11_broom 77 = .ok (.getfield 44, 3) := by decide +kernel
theorem dX11_broom_80 : decode cX11_broom 80 = .ok (.getfield 97, 3) := by decide +kernel
theorem dX11_broom_83 : decode cX11_broom 83 = .ok (.iload 5, 2) := by decide +kernel
theorem dX11_broom_85 : decode cX11_broom 85 = .ok (.iconst 0, 1) := by decide +kernel
theorem dX11_broom_86 : decode cX11_broom 86 = .ok (.iastore, 1) := by decide +kernel
theorem dX11_broom_87 : decode cX11_broom 87 = .ok (.aload_n 0, 1) := by decide +kernel
theorem dX11_broom_88 : decode cX11_broom 88 = .ok (.getfield 44, 3) := by decide +kernel
theorem dX11_broom_91 : decode cX11_broom 91 = .ok (.iload_n 1, 1) := by decide +kernel
theorem dX11_broom_92 : decode cX11_broom 92 = .ok (.invokevirtual 187, 3) := by decide +kernel
theorem dX11_broom_95 : decode cX11_broom 95 = .ok (.aload_n 0, 1) := by decide +kernel
theorem dX11_broom_96 : decode cX11_broom 96 = .ok (.getfield 44, 3) := by decide +kernel
theorem dX11_broom_99 : decode cX11_broom 99 = .ok (.invokevirtual 227, 3) := by decide +kernel
theorem dX11_broom_102 : decode cX11_broom 102 = .ok (.istore 6, 2) := by decide +kernel
theorem dX11_broom_104 : decode cX11_broom 104 = .ok (.iload 6, 2) := by decide +kernel
theorem dX11_broom_106 : decode cX11_broom 106 = .ok (.iload 4, 2) := by decide +kernel
theorem dX11_broom_108 : decode cX11_broom 108 = .ok (.if_icmp .ge 10, 3) := by decide +kernel
theorem dX11_broom_111 : decode cX11_broom 111 = .ok (.iload 6, 2) := by decide +kernel
theorem dX11_broom_113 : decode cX11_broom 113 = .ok (.istore 4, 2) := by decide +kernel
theorem dX11_broom_115 : decode cX11_broom 115 = .ok (.iload 5, 2) := by decide +kernel
theorem dX11_broom_117 : decode cX11_broom 117 = .ok (.istore_n 3, 1) := by decide +kernel
theorem dX11_broom_118 : decode cX11_broom 118 = .ok (.iinc 5 1, 3) := by decide +kernel
theorem dX11_broom_121 : decode cX11_broom 121 = .ok (.goto (-68), 3) := by decide +kernel
theorem dX11_broom_124 : decode cX11_broom 124 = .ok (.iload_n 2, 1) := by decide +kernel
theorem dX11_broom_125 : decode cX11_broom 125 = .ok (.ifCond .ne 7, 3) := by decide +kernel
theorem dX11_broom_128 : decode cX11_broom 128 = .ok (.iload_n 3, 1) := by decide +kernel
theorem dX11_broom_129 : decode cX11_broom 129 = .ok (.goto 5, 3) := by decide +kernel
theorem dX11_broom_132 : decode cX11_broom 132 = .ok (.iload 4, 2) := by decide +kernel
theorem dX11_broom_134 : decode cX11_broom 134 = .ok (.ireturn, 1) := by decide +kernel
theorem dX11_fits_0 : decode cX11_fits 0 = .ok (.iload_n 1, 1) := by decide +kernel
theorem dX11_fits_1 : decode cX11_fits 1 = .ok (.invokestatic 230, 3) := by decide +kernel
theorem dX11_fits_4 : decode cX11_fits 4 = .ok (.ifCond .eq 12, 3) := by decide +kernel
theorem dX11_fits_7 : decode cX11_fits 7 = .ok (.iload_n 2, 1) := by decide +kernel
theorem dX11_fits_8 : decode cX11_fits 8 = .ok (.iconst 0, 1) := by decide +kernel
theorem dX11_fits_9 : decode cX11_fits 9 = .ok (.iconst 1, 1) := by decide +kernel
theorem dX11_fits_10 : decode cX11_fits 10 = .ok (.invokestatic 79, 3) := by decide +kernel
theorem dX11_fits_13 : decode cX11_fits 13 = .ok (.ifCond .ne 10, 3) := by decide +kernel
theorem dX11_fits_16 : decode cX11_fits 16 = .ok (.aload_n 0, 1) := by decide +kernel
theorem dX11_fits_17 : decode cX11_fits 17 = .ok (.ldc 83, 2) := by decide +kernel
theorem dX11_fits_19 : decode cX11_fits 19 = .ok (.invokevirtual 84, 3) := by decide +kernel
theorem dX11_fits_22 : decode cX11_fits 22 = .ok (.ireturn, 1) := by decide +kernel
theorem dX11_fits_23 : decode cX11_fits 23 = .ok (.aload_n 0, 1) := by decide +kernel
theorem dX11_fits_24 : decode cX11_fits 24 = .ok (.getfield 69, 3) := by decide +kernel
theorem dX11_fits_27 : decode cX11_fits 27 = .ok (.iload_n 1, 1) := by decide +kernel
theorem dX11_fits_28 : decode cX11_fits 28 = .ok (.iaload, 1) := by decide +kernel
theorem dX11_fits_29 : decode cX11_fits 29 = .ok (.ifCond .eq 19, 3) := by decide +kernel
theorem dX11_fits_32 : decode cX11_fits 32 = .ok (.aload_n 0, 1) := by decide +kernel
theorem dX11_fits_33 : decode cX11_fits 33 = .ok (.getfield 73, 3) := by decide +kernel
theorem dX11_fits_36 : decode cX11_fits 36 = .ok (.iload_n 1, 1) := by decide +kernel
theorem dX11_fits_37 : decode cX11_fits 37 = .ok (.iaload, 1) := by decide +kernel
theorem dX11_fits_38 : decode cX11_fits 38 = .ok (.aload_n 0, 1) := by decide +kernel
theorem dX11_fits_39 : decode cX11_fits 39 = .ok (.getfield 40, 3) := by decide +kernel
theorem dX11_fits_42 : decode cX11_fits 42 = .ok (.getfield 88, 3) := by decide +kernel
theorem dX11_fits_45 : decode cX11_fits 45 = .ok (.if_icmp .eq 10, 3) := by decide +kernel
theorem dX11_fits_48 : decode cX11_fits 48 = .ok (.aload_n 0, 1) := by decide +kernel
theorem dX11_fits_49 : decode cX11_fits 49 = .ok (.ldc 208, 2) := by decide +kernel
theorem dX11_fits_51 : decode cX11_fits 51 = .ok (.invokevirtual 84, 3) := by decide +kernel
theorem dX11_fits_54 : decode cX11_fits 54 = .ok (.ireturn, 1) := by decide +kernel
theorem dX11_fits_55 : decode cX11_fits 55 = .ok (.iconst 0, 1) := by decide +kernel
theorem dX11_fits_56 : decode cX11_fits 56 = .ok (.istore_n 3, 1) := by decide +kernel
theorem dX11_fits_57 : decode cX11_fits 57 = .ok (.iconst (-1), 1) := by decide +kernel
theorem dX11_fits_58 : decode cX11_fits 58 = .ok (.istore 4, 2) := by decide +kernel
theorem dX11_fits_60 : decode cX11_fits 60 = .ok (.iconst 0, 1) := by decide +kernel
theorem dX11_fits_61 : decode cX11_fits 61 = .ok (.istore 5, 2) := by decide +kernel
theorem dX11_fits_63 : decode cX11_fits 63 = .ok (.iload 5, 2) := by decide +kernel
theorem dX11_fits_65 : decode cX11_fits 65 = .ok (.bipush 99, 2) := by decide +kernel
theorem dX11_fits_67 : decode cX11_fits 67 = .ok (.if_icmp .gt 62, 3) := by decide +kernel
theorem dX11_fits_70 : decode cX11_fits 70 = .ok (.aload_n 0, 1) := by decide +kernel
theorem dX11_fits_71 : decode cX11_fits 71 = .ok (.getfield 44, 3) := by decide +kernel
theorem dX11_fits_74 : decode cX11_fits 74 = .ok (.aload_n 0, 1) := by decide +kernel
theorem dX11_fits_75 : decode cX11_fits 75 = .ok (.getfield 40, 3) := by decide +kernel
theorem dX11_fits_78 : decode cX11_fits 78 = .ok (.invokevirtual 198, 3) := by decide +kernel
theorem dX11_fits_81 : decode cX11_fits 81 = .ok (.aload_n 0, 1) := by decide +kernel
theorem dX11_fits_82 : decode cX11_fits 82 = .ok (.getfield 44, 3) := by decide +kernel
theorem dX11_fits_85 : decode cX11_fits 85 = .ok (.iload 5, 2) := by decide +kernel
theorem dX11_fits_87 : decode cX11_fits 87 = .ok (.putfield 141, 3) := by decide +kernel
theorem dX11_fits_90 : decode cX11_fits 90 = .ok (.aload_n 0, 1) := by decide +kernel
theorem dX11_fits_91 : decode cX11_fits 91 = .ok (.getfield 44, 3) := by decide +kernel
theorem dX11_fits_94 : decode cX11_fits 94 = .ok (.iconst 1, 1) := by decide +kernel
theorem dX11_fits_95 : decode cX11_fits 95 = .ok (.invokevirtual 187, 3) := by decide +kernel
theorem dX11_fits_98 : decode cX11_fits 98 = .ok (.aload_n 0, 1) := by decide +kernel
theorem dX11_fits_99 : decode cX11_fits 99 = .ok (.iload_n 1, 1) := by decide +kernel
theorem dX11_fits_100 : decode cX11_fits 100 = .ok (.invokevirtual 233, 3) := by decide +kernel
theorem dX11_fits_103 : decode cX11_fits 103 = .ok (.ifCond .eq 20, 3) := by decide +kernel
theorem dX11_fits_106 : decode cX11_fits 106 = .ok (.iinc 3 1, 3) := by decide +kernel
theorem dX11_fits_109 : decode cX11_fits 109 = .ok (.iload 4, 2) := by decide +kernel
theorem dX11_fits_111 : decode cX11_fits 111 = .ok (.ifCond .ge 8, 3) := by decide +kernel
theorem dX11_fits_114 : decode cX11_fits 114 = .ok (.iload 5, 2) := by decide +kernel
theorem dX11_fits_116 : decode cX11_fits 116 = .ok (.goto 5, 3) := by decide +kernel
theorem dX11_fits_119 : decode cX11_fits 119 = .ok (.iload 4, 2) := by decide +kernel
theorem dX11_fits_121 : decode cX11_fits 121 = .ok (.istore 4, 2) := by decide +kernel
theorem dX11_fits_123 : decode cX11_fits 123 = .ok (.iinc 5 1, 3) := by decide +kernel
theorem dX11_fits_126 : decode cX11_fits 126 = .ok (.goto (-63), 3) := by decide +kernel
theorem dX11_fits_129 : decode cX11_fits 129 = .ok (.iload_n 2, 1) := by decide +kernel
theorem dX11_fits_130 : decode cX11_fits 130 = .ok (.ifCond .ne 5, 3) := by decide +kernel
theorem dX11_fits_133 : decode cX11_fits 133 = .ok (.iload_n 3, 1) := by decide +kernel
theorem dX11_fits_134 : decode cX11_fits 134 = .ok (.ireturn, 1) := by decide +kernel
theorem dX11_fits_135 : decode cX11_fits 135 = .ok (.iload_n 3, 1) := by decide +kernel
theorem dX11_fits_136 : decode cX11_fits 136 = .ok (.ifCond .ne 12, 3) := by decide +kernel
theorem dX11_fits_139 : decode cX11_fits 139 = .ok (.aload_n 0, 1) := by decide +kernel
theorem dX11_fits_140 : decode cX11_fits 140 = .ok (.ldc 208, 2) := by decide +kernel
theorem dX11_fits_142 : decode cX11_fits 142 = .ok (.invokevirtual 84, 3) := by decide +kernel
theorem dX11_fits_145 : decode cX11_fits 145 = .ok (.goto 5, 3) := by decide +kernel
theorem dX11_fits_148 : decode cX11_fits 148 = .ok (.iload 4, 2) := by decide +kernel
theorem dX11_fits_150 : decode cX11_fits 150 = .ok (.ireturn, 1) := by decide +kernel
theorem dX11_paid_0 : decode cX11_paid 0 = .ok (.iload_n 1, 1) := by decide +kernel
theorem dX11_paid_1 : decode cX11_paid 1 = .ok (.iconst 0, 1) := by decide +kernel
theorem dX11_paid_2 : decode cX11_paid 2 = .ok (.bipush 60, 2) := by decide +kernel
theorem dX11_paid_4 : decode cX11_paid 4 = .ok (.invokestatic 79, 3) := by decide +kernel
theorem dX11_paid_7 : decode cX11_paid 7 = .ok (.ifCond .ne 10, 3) := by decide +kernel
theorem dX11_paid_10 : decode cX11_paid 10 = .ok (.aload_n 0, 1) := by decide +kernel
theorem dX11_paid_11 : decode cX11_paid 11 = .ok (.ldc 83, 2) := by decide +kernel
theorem dX11_paid_13 : decode cX11_paid 13 = .ok (.invokevirtual 84, 3) := by decide +kernel
theorem dX11_paid_16 : decode cX11_paid 16 = .ok (.ireturn, 1) := by decide +kernel
theorem dX11_paid_17 : decode cX11_paid 17 = .ok (.aload_n 0, 1) := by decide +kernel
theorem dX11_paid_18 : decode cX11_paid 18 = .ok (.getfield 44, 3) := by decide +kernel
theorem dX11_paid_21 : decode cX11_paid 21 = .ok (.aload_n 0, 1) := by decide +kernel
theorem dX11_paid_22 : decode cX11_paid 22 = .ok (.getfield 40, 3) := by decide +kernel
theorem dX11_paid_25 : decode cX11_paid 25 = .ok (.invokevirtual 198, 3) := by decide +kernel
theorem dX11_paid_28 : decode cX11_paid 28 = .ok (.aload_n 0, 1) := by decide +kernel
theorem dX11_paid_29 : decode cX11_paid 29 = .ok (.getfield 44, 3) := by decide +kernel
theorem dX11_paid_32 : decode cX11_paid 32 = .ok (.iload_n 1, 1) := by decide +kernel
theorem dX11_paid_33 : decode cX11_paid 33 = .ok (.invokevirtual 187, 3) := by decide +kernel
theorem dX11_paid_36 : decode cX11_paid 36 = .ok (.aload_n 0, 1) := by decide +kernel
theorem dX11_paid_37 : decode cX11_paid 37 = .ok (.getfield 44, 3) := by decide +kernel
theorem dX11_paid_40 : decode cX11_paid 40 = .ok (.getfield 144, 3) := by decide +kernel
theorem dX11_paid_43 : decode cX11_paid 43 = .ok (.aload_n 0, 1) := by decide +kernel
theorem dX11_paid_44 : decode cX11_paid 44 = .ok (.getfield 40, 3) := by decide +kernel
theorem dX11_paid_47 : decode cX11_paid 47 = .ok (.getfield 144, 3) := by decide +kernel
theorem dX11_paid_50 : decode cX11_paid 50 = .ok (.isub, 1) := by decide +kernel
theorem dX11_paid_51 : decode cX11_paid 51 = .ok (.ireturn, 1) := by decide +kernel
theorem dX11_bell_0 : decode cX11_bell 0 = .ok (.iload_n 1, 1) := by decide +kernel
theorem dX11_bell_1 : decode cX11_bell 1 = .ok (.iconst 0, 1) := by decide +kernel
theorem dX11_bell_2 : decode cX11_bell 2 = .ok (.bipush 60, 2) := by decide +kernel
theorem dX11_bell_4 : decode cX11_bell 4 = .ok (.invokestatic 79, 3) := by decide +kernel
theorem dX11_bell_7 : decode cX11_bell 7 = .ok (.ifCond .ne 10, 3) := by decide +kernel
theorem dX11_bell_10 : decode cX11_bell 10 = .ok (.aload_n 0, 1) := by decide +kernel
theorem dX11_bell_11 : decode cX11_bell 11 = .ok (.ldc 83, 2) := by decide +kernel
theorem dX11_bell_13 : decode cX11_bell 13 = .ok (.invokevirtual 84, 3) := by decide +kernel
theorem dX11_bell_16 : decode cX11_bell 16 = .ok (.ireturn, 1) := by decide +kernel
theorem dX11_bell_17 : decode cX11_bell 17 = .ok (.aload_n 0, 1) := by decide +kernel
theorem dX11_bell_18 : decode cX11_bell 18 = .ok (.getfield 44, 3) := by decide +kernel
theorem dX11_bell_21 : decode cX11_bell 21 = .ok (.aload_n 0, 1) := by decide +kernel
theorem dX11_bell_22 : decode cX11_bell 22 = .ok (.getfield 40, 3) := by decide +kernel
theorem dX11_bell_25 : decode cX11_bell 25 = .ok (.invokevirtual 198, 3) := by decide +kernel
theorem dX11_bell_28 : decode cX11_bell 28 = .ok (.aload_n 0, 1) := by decide +kernel
theorem dX11_bell_29 : decode cX11_bell 29 = .ok (.getfield 44, 3) := by decide +kernel
theorem dX11_bell_32 : decode cX11_bell 32 = .ok (.iload_n 1, 1) := by decide +kernel
theorem dX11_bell_33 : decode cX11_bell 33 = .ok (.invokevirtual 187, 3) := by decide +kernel
theorem dX11_bell_36 : decode cX11_bell 36 = .ok (.aload_n 0, 1) := by decide +kernel
theorem dX11_bell_37 : decode cX11_bell 37 = .ok (.getfield 44, 3) := by decide +kernel
theorem dX11_bell_40 : decode cX11_bell 40 = .ok (.invokevirtual 191, 3) := by decide +kernel
theorem dX11_bell_43 : decode cX11_bell 43 = .ok (.istore_n 2, 1) := by decide +kernel
theorem dX11_bell_44 : decode cX11_bell 44 = .ok (.aload_n 0, 1) := by decide +kernel
theorem dX11_bell_45 : decode cX11_bell 45 = .ok (.getfield 44, 3) := by decide +kernel
theorem dX11_bell_48 : decode cX11_bell 48 = .ok (.aload_n 0, 1) := by decide +kernel
theorem dX11_bell_49 : decode cX11_bell 49 = .ok (.getfield 40, 3) := by decide +kernel
theorem dX11_bell_52 : decode cX11_bell 52 = .ok (.invokevirtual 198, 3) := by decide +kernel
theorem dX11_bell_55 : decode cX11_bell 55 = .ok (.aload_n 0, 1) := by decide +kernel
theorem dX11_bell_56 : decode cX11_bell 56 = .ok (.getfield 44, 3) := by decide +kernel
theorem dX11_bell_59 : decode cX11_bell 59 = .ok (.iconst 0, 1) := by decide +kernel
theorem dX11_bell_60 : decode cX11_bell 60 = .ok (.putfield 236, 3) := by decide +kernel
theorem dX11_bell_63 : decode cX11_bell 63 = .ok (.aload_n 0, 1) := by decide +kernel
theorem dX11_bell_64 : decode cX11_bell 64 = .ok (.getfield 44, 3) := by decide +kernel
theorem dX11_bell_67 : decode cX11_bell 67 = .ok (.iload_n 1, 1) := by decide +kernel
theorem dX11_bell_68 : decode cX11_bell 68 = .ok (.invokevirtual 187, 3) := by decide +kernel
theorem dX11_bell_71 : decode cX11_bell 71 = .ok (.iload_n 2, 1) := by decide +kernel
theorem dX11_bell_72 : decode cX11_bell 72 = .ok (.aload_n 0, 1) := by decide +kernel
theorem dX11_bell_73 : decode cX11_bell 73 = .ok (.getfield 44, 3) := by decide +kernel
theorem dX11_bell_76 : decode cX11_bell 76 = .ok (.invokevirtual 191, 3) := by decide +kernel
theorem dX11_bell_79 : decode cX11_bell 79 = .ok (.isub, 1) := by decide +kernel
theorem dX11_bell_80 : decode cX11_bell 80 = .ok (.ireturn, 1) := by decide +kernel
theorem dX11_odds_0 : decode cX11_odds 0 = .ok (.iload_n 3, 1) := by decide +kernel
theorem dX11_odds_1 : decode cX11_odds 1 = .ok (.iconst 0, 1) := by decide +kernel
theorem dX11_odds_2 : decode cX11_odds 2 = .ok (.bipush 60, 2) := by decide +kernel
theorem dX11_odds_4 : decode cX11_odds 4 = .ok (.invokestatic 79, 3) := by decide +kernel
theorem dX11_odds_7 : decode cX11_odds 7 = .ok (.ifCond .eq 17, 3) := by decide +kernel
theorem dX11_odds_10 : decode cX11_odds 10 = .ok (.iload 4, 2) := by decide +kernel
theorem dX11_odds_12 : decode cX11_odds 12 = .ok (.iconst 0, 1) := by decide +kernel
theorem dX11_odds_13 : decode cX11_odds 13 = .ok (.iconst 1, 1) := by decide +kernel
theorem dX11_odds_14 : decode cX11_odds 14 = .ok (.invokestatic 79, 3) := by decide +kernel
theorem dX11_odds_17 : decode cX11_odds 17 = .ok (.ifCond .eq 7, 3) := by decide +kernel
theorem dX11_odds_20 : decode cX11_odds 20 = .ok (.iconst 1, 1) := by decide +kernel
theorem dX11_odds_21 : decode cX11_odds 21 = .ok (.goto 4, 3) := by decide +kernel
theorem dX11_odds_24 : decode cX11_odds 24 = .ok (.iconst 0, 1) := by decide +kernel
theorem dX11_odds_25 : decode cX11_odds 25 = .ok (.istore 5, 2) := by decide +kernel
theorem dX11_odds_27 : decode cX11_odds 27 = .ok (.aload_n 0, 1) := by decide +kernel
theorem dX11_odds_28 : decode cX11_odds 28 = .ok (.getfield 40, 3) := by decide +kernel
theorem dX11_odds_31 : decode cX11_odds 31 = .ok (.iload_n 1, 1) := by decide +kernel
theorem dX11_odds_32 : decode cX11_odds 32 = .ok (.invokevirtual 113, 3) := by decide +kernel
theorem dX11_odds_35 : decode cX11_odds 35 = .ok (.ifCond .eq 19, 3) := by decide +kernel
theorem dX11_odds_38 : decode cX11_odds 38 = .ok (.iload_n 2, 1) := by decide +kernel
theorem dX11_odds_39 : decode cX11_odds 39 = .ok (.iconst 1, 1) := by decide +kernel
theorem dX11_odds_40 : decode cX11_odds 40 = .ok (.sipush 999, 3) := by decide +kernel
theorem dX11_odds_43 : decode cX11_odds 43 = .ok (.invokestatic 79, 3) := by decide +kernel
theorem dX11_odds_46 : decode cX11_odds 46 = .ok (.ifCond .eq 8, 3) := by decide +kernel
theorem dX11_odds_49 : decode cX11_odds 49 = .ok (.iload 5, 2) := by decide +kernel
theorem dX11_odds_51 : decode cX11_odds 51 = .ok (.ifCond .ne 10, 3) := by decide +kernel
theorem dX11_odds_54 : decode cX11_odds 54 = .ok (.aload_n 0, 1) := by decide +kernel
theorem dX11_odds_55 : decode cX11_odds 55 = .ok (.ldc 83, 2) := by decide +kernel
theorem dX11_odds_57 : decode cX11_odds 57 = .ok (.invokevirtual 84, 3) := by decide +kernel
theorem dX11_odds_60 : decode cX11_odds 60 = .ok (.ireturn, 1) := by decide +kernel
theorem dX11_odds_61 : decode cX11_odds 61 = .ok (.bipush 10, 2) := by decide +kernel
theorem dX11_odds_63 : decode cX11_odds 63 = .ok (.istore 6, 2) := by decide +kernel
theorem dX11_odds_65 : decode cX11_odds 65 = .ok (.iconst 0, 1) := by decide +kernel
theorem dX11_odds_66 : decode cX11_odds 66 = .ok (.istore 7, 2) := by decide +kernel
theorem dX11_odds_68 : decode cX11_odds 68 = .ok (.iconst 0, 1) := by decide +kernel
theorem dX11_odds_69 : decode cX11_odds 69 = .ok (.istore 8, 2) := by decide +kernel
theorem dX11_odds_71 : decode cX11_odds 71 = .ok (.iload 8, 2) := by decide +kernel
theorem dX11_odds_73 : decode cX11_odds 73 = .ok (.iload 6, 2) := by decide +kernel
theorem dX11_odds_75 : decode cX11_odds 75 = .ok (.if_icmp .ge 45, 3) := by decide +kernel
theorem dX11_odds_78 : decode cX11_odds 78 = .ok (.aload_n 0, 1) := by decide +kernel
theorem dX11_odds_79 : decode cX11_odds 79 = .ok (.getfield 44, 3) := by decide +kernel
theorem dX11_odds_82 : decode cX11_odds 82 = .ok (.aload_n 0, 1) := by decide +kernel
theorem dX11_odds_83 : decode cX11_odds 83 = .ok (.getfield 40, 3) := by decide +kernel
theorem dX11_odds_86 : decode cX11_odds 86 = .ok (.invokevirtual 198, 3) := by decide +kernel
theorem dX11_odds_89 : decode cX11_odds 89 = .ok (.aload_n 0, 1) := by decide +kernel
theorem dX11_odds_90 : decode cX11_odds 90 = .ok (.getfield 44, 3) := by decide +kernel
theorem dX11_odds_93 : decode cX11_odds 93 = .ok (.iload 8, 2) := by decide +kernel
theorem dX11_odds_95 : decode cX11_odds 95 = .ok (.putfield 138, 3) := by decide +kernel
theorem dX11_odds_98 : decode cX11_odds 98 = .ok (.aload_n 0, 1) := by decide +kernel
theorem dX11_odds_99 : decode cX11_odds 99 = .ok (.getfield 44, 3) := by decide +kernel
theorem dX11_odds_102 : decode cX11_odds 102 = .ok (.iload_n 3, 1) := by decide +kernel
theorem dX11_odds_103 : decode cX11_odds 103 = .ok (.iload_n 1, 1) := by decide +kernel
theorem dX11_odds_104 : decode cX11_odds 104 = .ok (.invokevirtual 202, 3) := by decide +kernel
theorem dX11_odds_107 : decode cX11_odds 107 = .ok (.iload_n 2, 1) := by decide +kernel
theorem dX11_odds_108 : decode cX11_odds 108 = .ok (.if_icmp .ge 6, 3) := by decide +kernel
theorem dX11_odds_111 : decode cX11_odds 111 = .ok (.iinc 7 1, 3) := by decide +kernel
theorem dX11_odds_114 : decode cX11_odds 114 = .ok (.iinc 8 1, 3) := by decide +kernel
theorem dX11_odds_117 : decode cX11_odds 117 = .ok (.goto (-46), 3) := by decide +kernel
theorem dX11_odds_120 : decode cX11_odds 120 = .ok (.iload 4, 2) := by decide +kernel
theorem dX11_odds_122 : decode cX11_odds 122 = .ok (.ifCond .ne 8, 3) := by decide +kernel
theorem dX11_odds_125 : decode cX11_odds 125 = .ok (.iload 7, 2) := by decide +kernel
theorem dX11_odds_127 : decode cX11_odds 127 = .ok (.goto 5, 3) := by decide +kernel
theorem dX11_odds_130 : decode cX11_odds 130 = .ok (.iload 6, 2) := by decide +kernel
theorem dX11_odds_132 : decode cX11_odds 132 = .ok (.iload 7, 2) := by decide +kernel
theorem dX11_odds_134 : decode cX11_odds 134 = .ok (.iload 6, 2) := by decide +kernel
theorem dX11_odds_136 : decode cX11_odds 136 = .ok (.invokestatic 239, 3) := by decide +kernel
theorem dX11_odds_139 : decode cX11_odds 139 = .ok (.idiv, 1) := by decide +kernel
theorem dX11_odds_140 : decode cX11_odds 140 = .ok (.ireturn, 1) := by decide +kernel
theorem dX11_seed_0 : decode cX11_seed 0 = .ok (.aload_n 0, 1) := by decide +kernel
theorem dX11_seed_1 : decode cX11_seed 1 = .ok (.getfield 40, 3) := by decide +kernel
theorem dX11_seed_4 : decode cX11_seed 4 = .ok (.getfield 242, 3) := by decide +kernel
theorem dX11_seed_7 : decode cX11_seed 7 = .ok (.istore_n 2, 1) := by decide +kernel
theorem dX11_seed_8 : decode cX11_seed 8 = .ok (.aload_n 0, 1) := by decide +kernel
theorem dX11_seed_9 : decode cX11_seed 9 = .ok (.getfield 40, 3) := by decide +kernel
theorem dX11_seed_12 : decode cX11_seed 12 = .ok (.iload_n 1, 1) := by decide +kernel
theorem dX11_seed_13 : decode cX11_seed 13 = .ok (.putfield 242, 3) := by decide +kernel
theorem dX11_seed_16 : decode cX11_seed 16 = .ok (.iload_n 2, 1) := by decide +kernel
theorem dX11_seed_17 : decode cX11_seed 17 = .ok (.ireturn, 1) := by decide +kernel
theorem dX11_voice_0 : decode cX11_voice 0 = .ok (.aload_n 0, 1) := by decide +kernel
theorem dX11_voice_1 : decode cX11_voice 1 = .ok (.getfield 40, 3) := by decide +kernel
theorem dX11_voice_4 : decode cX11_voice 4 = .ok (.iload_n 1, 1) := by decide +kernel
theorem dX11_voice_5 : decode cX11_voice 5 = .ok (.invokevirtual 113, 3) := by decide +kernel
theorem dX11_voice_8 : decode cX11_voice 8 = .ok (.ifCond .eq 12, 3) := by decide +kernel
theorem dX11_voice_11 : decode cX11_voice 11 = .ok (.iload_n 2, 1) := by decide +kernel
theorem dX11_voice_12 : decode cX11_voice 12 = .ok (.iconst 0, 1) := by decide +kernel
theorem dX11_voice_13 : decode cX11_voice 13 = .ok (.iconst 3, 1) := by decide +kernel
theorem dX11_voice_14 : decode cX11_voice 14 = .ok (.invokestatic 79, 3) := by decide +kernel
theorem dX11_voice_17 : decode cX11_voice 17 = .ok (.ifCond .ne 10, 3) := by decide +kernel
theorem dX11_voice_20 : decode cX11_voice 20 = .ok (.aload_n 0, 1) := by decide +kernel
theorem dX11_voice_21 : decode cX11_voice 21 = .ok (.ldc 83, 2) := by decide +kernel
theorem dX11_voice_23 : decode cX11_voice 23 = .ok (.invokevirtual 84, 3) := by decide +kernel
theorem dX11_voice_26 : decode cX11_voice 26 = .ok (.ireturn, 1) := by decide +kernel
theorem dX11_voice_27 : decode cX11_voice 27 = .ok (.aload_n 0, 1) := by decide +kernel
theorem dX11_voice_28 : decode cX11_voice 28 = .ok (.getfield 60, 3) := by decide +kernel
theorem dX11_voice_31 : decode cX11_voice 31 = .ok (.iload_n 1, 1) := by decide +kernel
theorem dX11_voice_32 : decode cX11_voice 32 = .ok (.aload_n 0, 1) := by decide +kernel
theorem dX11_voice_33 : decode cX11_voice 33 = .ok (.getfield 40, 3) := by decide +kernel
theorem dX11_voice_36 : decode cX11_voice 36 = .ok (.getfield 120, 3) := by decide +kernel
theorem dX11_voice_39 : decode cX11_voice 39 = .ok (.iload_n 1, 1) := by decide +kernel
theorem dX11_voice_40 : decode cX11_voice 40 = .ok (.iaload, 1) := by decide +kernel
theorem dX11_voice_41 : decode cX11_voice 41 = .ok (.invokevirtual 245, 3) := by decide +kernel
theorem dX11_voice_44 : decode cX11_voice 44 = .ok (.aload_n 0, 1) := by decide +kernel
theorem dX11_voice_45 : decode cX11_voice 45 = .ok (.getfield 40, 3) := by decide +kernel
theorem dX11_voice_48 : decode cX11_voice 48 = .ok (.iload_n 1, 1) := by decide +kernel
theorem dX11_voice_49 : decode cX11_voice 49 = .ok (.invokevirtual 248, 3) := by decide +kernel
theorem dX11_voice_52 : decode cX11_voice 52 = .ok (.astore 4, 2) := by decide +kernel
theorem dX11_voice_54 : decode cX11_voice 54 = .ok (.iload_n 2, 1) := by decide +kernel
theorem dX11_voice_55 : decode cX11_voice 55 = .ok (.tableswitch 58 0 2 #[25, 36, 47], 25) := by decide +kernel
theorem dX11_voice_80 : decode cX11_voice 80 = .ok (.aload 4, 2) := by decide +kernel
theorem dX11_voice_82 : decode cX11_voice 82 = .ok (.aload_n 0, 1) := by decide +kernel
theorem dX11_voice_83 : decode cX11_voice 83 = .ok (.getfield 60, 3) := by decide +kernel
theorem dX11_voice_86 : decode cX11_voice 86 = .ok (.iload_n 3, 1) := by decide +kernel
theorem dX11_voice_87 : decode cX11_voice 87 = .ok (.invokevirtual 252, 3) := by decide +kernel
theorem dX11_voice_90 : decode cX11_voice 90 = .ok (.ireturn, 1) := by decide +kernel
theorem dX11_voice_91 : decode cX11_voice 91 = .ok (.aload 4, 2) := by decide +kernel
theorem dX11_voice_93 : decode cX11_voice 93 = .ok (.aload_n 0, 1) := by decide +kernel
theorem dX11_voice_94 : decode cX11_voice 94 = .ok (.getfield 60, 3) := by decide +kernel
theorem dX11_voice_97 : decode cX11_voice 97 = .ok (.iload_n 3, 1) := by decide +kernel
theorem dX11_voice_98 : decode cX11_voice 98 = .ok (.invokevirtual 256, 3) := by decide +kernel
theorem dX11_voice_101 : decode cX11_voice 101 = .ok (.ireturn, 1) := by decide +kernel
theorem dX11_voice_102 : decode cX11_voice 102 = .ok (.aload 4, 2) := by decide +kernel
theorem dX11_voice_104 : decode cX11_voice 104 = .ok (.aload_n 0, 1) := by decide +kernel
theorem dX11_voice_105 : decode cX11_voice 105 = .ok (.getfield 60, 3) := by decide +kernel
theorem dX11_voice_108 : decode cX11_voice 108 = .ok (.iload_n 3, 1) := by decide +kernel
theorem dX11_voice_109 : decode cX11_voice 109 = .ok (.invokevirtual 259, 3) := by decide +kernel
theorem dX11_voice_112 : decode cX11_voice 112 = .ok (.ireturn, 1) := by decide +kernel
theorem dX11_voice_113 : decode cX11_voice 113 = .ok (.aload 4, 2) := by decide +kernel
theorem dX11_voice_115 : decode cX11_voice 115 = .ok (.aload_n 0, 1) := by decide +kernel
theorem dX11_voice_116 : decode cX11_voice 116 = .ok (.getfield 60, 3) := by decide +kernel
theorem dX11_voice_119 : decode cX11_voice 119 = .ok (.iload_n 3, 1) := by decide +kernel
theorem dX11_voice_120 : decode cX11_voice 120 = .ok (.invokevirtual 262, 3) := by decide +kernel
theorem dX11_voice_123 : decode cX11_voice 123 = .ok (.ireturn, 1) := by decide +kernel
theorem dX11_trace_0 : decode cX11_trace 0 = .ok (.iload_n 1, 1) := by decide +kernel
theorem dX11_trace_1 : decode cX11_trace 1 = .ok (.iconst 0, 1) := by decide +kernel
theorem dX11_trace_2 : decode cX11_trace 2 = .ok (.aload_n 0, 1) := by decide +kernel
theorem dX11_trace_3 : decode cX11_trace 3 = .ok (.getfield 60, 3) := by decide +kernel
theorem dX11_trace_6 : decode cX11_trace 6 = .ok (.getfield 265, 3) := by decide +kernel
theorem dX11_trace_9 : decode cX11_trace 9 = .ok (.iconst 1, 1) := by decide +kernel
theorem dX11_trace_10 : decode cX11_trace 10 = .ok (.isub, 1) := by decide +kernel
theorem dX11_trace_11 : decode cX11_trace 11 = .ok (.invokestatic 79, 3) := by decide +kernel
theorem dX11_trace_14 : decode cX11_trace 14 = .ok (.ifCond .ne 10, 3) := by decide +kernel
theorem dX11_trace_17 : decode cX11_trace 17 = .ok (.aload_n 0, 1) := by decide +kernel
theorem dX11_trace_18 : decode cX11_trace 18 = .ok (.ldc 208, 2) := by decide +kernel
theorem dX11_trace_20 : decode cX11_trace 20 = .ok (.invokevirtual 84, 3) := by decide +kernel
theorem dX11_trace_23 : decode cX11_trace 23 = .ok (.ireturn, 1) := by decide +kernel
theorem dX11_trace_24 : decode cX11_trace 24 = .ok (.aload_n 0, 1) := by decide +kernel
theorem dX11_trace_25 : decode cX11_trace 25 = .ok (.getfield 60, 3) := by decide +kernel
theorem dX11_trace_28 : decode cX11_trace 28 = .ok (.getfield 268, 3) := by decide +kernel
theorem dX11_trace_31 : decode cX11_trace 31 = .ok (.iload_n 1, 1) := by decide +kernel
theorem dX11_trace_32 : decode cX11_trace 32 = .ok (.iaload, 1) := by decide +kernel
theorem dX11_trace_33 : decode cX11_trace 33 = .ok (.ireturn, 1) := by decide +kernel
theorem dX11_sheet_0 : decode cX11_sheet 0 = .ok (.iload_n 1, 1) := by decide +kernel
theorem dX11_sheet_1 : decode cX11_sheet 1 = .ok (.invokestatic 230, 3) := by decide +kernel
theorem dX11_sheet_4 : decode cX11_sheet 4 = .ok (.ifCond .eq 10, 3) := by decide +kernel
theorem dX11_sheet_7 : decode cX11_sheet 7 = .ok (.iload_n 2, 1) := by decide +kernel
theorem dX11_sheet_8 : decode cX11_sheet 8 = .ok (.invokestatic 271, 3) := by decide +kernel
theorem dX11_sheet_11 : decode cX11_sheet 11 = .ok (.ifCond .ne 10, 3) := by decide +kernel
theorem dX11_sheet_14 : decode cX11_sheet 14 = .ok (.aload_n 0, 1) := by decide +kernel
theorem dX11_sheet_15 : decode cX11_sheet 15 = .ok (.ldc 83, 2) := by decide +kernel
theorem dX11_sheet_17 : decode cX11_sheet 17 = .ok (.invokevirtual 84, 3) := by decide +kernel
theorem dX11_sheet_20 : decode cX11_sheet 20 = .ok (.ireturn, 1) := by decide +kernel
theorem dX11_sheet_21 : decode cX11_sheet 21 = .ok (.iload_n 2, 1) := by decide +kernel
theorem dX11_sheet_22 : decode cX11_sheet 22 = .ok (.ifCond .eq 14, 3) := by decide +kernel
theorem dX11_sheet_25 : decode cX11_sheet 25 = .ok (.iload_n 3, 1) := by decide +kernel
theorem dX11_sheet_26 : decode cX11_sheet 26 = .ok (.ifCond .ge 10, 3) := by decide +kernel
theorem dX11_sheet_29 : decode cX11_sheet 29 = .ok (.aload_n 0, 1) := by decide +kernel
theorem dX11_sheet_30 : decode cX11_sheet 30 = .ok (.ldc 186, 2) := by decide +kernel
theorem dX11_sheet_32 : decode cX11_sheet 32 = .ok (.invokevirtual 84, 3) := by decide +kernel
theorem dX11_sheet_35 : decode cX11_sheet 35 = .ok (.ireturn, 1) := by decide +kernel
theorem dX11_sheet_36 : decode cX11_sheet 36 = .ok (.iload_n 2, 1) := by decide +kernel
theorem dX11_sheet_37 : decode cX11_sheet 37 = .ok (.ifCond .eq 16, 3) := by decide +kernel
theorem dX11_sheet_40 : decode cX11_sheet 40 = .ok (.iload_n 3, 1) := by decide +kernel
theorem dX11_sheet_41 : decode cX11_sheet 41 = .ok (.bipush 40, 2) := by decide +kernel
theorem dX11_sheet_43 : decode cX11_sheet 43 = .ok (.if_icmp .le 10, 3) := by decide +kernel
theorem dX11_sheet_46 : decode cX11_sheet 46 = .ok (.aload_n 0, 1) := by decide +kernel
theorem dX11_sheet_47 : decode cX11_sheet 47 = .ok (.ldc 83, 2) := by decide +kernel
theorem dX11_sheet_49 : decode cX11_sheet 49 = .ok (.invokevirtual 84, 3) := by decide +kernel
theorem dX11_sheet_52 : decode cX11_sheet 52 = .ok (.ireturn, 1) := by decide +kernel
theorem dX11_sheet_53 : decode cX11_sheet 53 = .ok (.aload_n 0, 1) := by decide +kernel
theorem dX11_sheet_54 : decode cX11_sheet 54 = .ok (.getfield 69, 3) := by decide +kernel
theorem dX11_sheet_57 : decode cX11_sheet 57 = .ok (.iload_n 1, 1) := by decide +kernel
theorem dX11_sheet_58 : decode cX11_sheet 58 = .ok (.iload_n 2, 1) := by decide +kernel
theorem dX11_sheet_59 : decode cX11_sheet 59 = .ok (.iastore, 1) := by decide +kernel
theorem dX11_sheet_60 : decode cX11_sheet 60 = .ok (.aload_n 0, 1) := by decide +kernel
theorem dX11_sheet_61 : decode cX11_sheet 61 = .ok (.getfield 73, 3) := by decide +kernel
theorem dX11_sheet_64 : decode cX11_sheet 64 = .ok (.iload_n 1, 1) := by decide +kernel
theorem dX11_sheet_65 : decode cX11_sheet 65 = .ok (.iload_n 2, 1) := by decide +kernel
theorem dX11_sheet_66 : decode cX11_sheet 66 = .ok (.ifCond .ne 7, 3) := by decide +kernel
theorem dX11_sheet_69 : decode cX11_sheet 69 = .ok (.iconst 0, 1) := by decide +kernel
theorem dX11_sheet_70 : decode cX11_sheet 70 = .ok (.goto 4, 3) := by decide +kernel
theorem dX11_sheet_73 : decode cX11_sheet 73 = .ok (.iload_n 3, 1) := by decide +kernel
theorem dX11_sheet_74 : decode cX11_sheet 74 = .ok (.iastore, 1) := by decide +kernel
theorem dX11_sheet_75 : decode cX11_sheet 75 = .ok (.iconst 0, 1) := by decide +kernel
theorem dX11_sheet_76 : decode cX11_sheet 76 = .ok (.istore 4, 2) := by decide +kernel
theorem dX11_sheet_78 : decode cX11_sheet 78 = .ok (.iload 4, 2) := by decide +kernel
theorem dX11_sheet_80 : decode cX11_sheet 80 = .ok (.bipush 40, 2) := by decide +kernel
theorem dX11_sheet_82 : decode cX11_sheet 82 = .ok (.if_icmp .ge 19, 3) := by decide +kernel
theorem dX11_sheet_85 : decode cX11_sheet 85 = .ok (.aload_n 0, 1) := by decide +kernel
theorem dX11_sheet_86 : decode cX11_sheet 86 = .ok (.getfield 66, 3) := by decide +kernel
theorem dX11_sheet_89 : decode cX11_sheet 89 = .ok (.iload_n 1, 1) := by decide +kernel
theorem dX11_sheet_90 : decode cX11_sheet 90 = .ok (.aaload, 1) := by decide +kernel
theorem dX11_sheet_91 : decode cX11_sheet 91 = .ok (.iload 4, 2) := by decide +kernel
theorem dX11_sheet_93 : decode cX11_sheet 93 = .ok (.iconst 0, 1) := by decide +kernel
theorem dX11_sheet_94 : decode cX11_sheet 94 = .ok (.iastore, 1) := by decide +kernel
theorem dX11_sheet_95 : decode cX11_sheet 95 = .ok (.iinc 4 1, 3) := by decide +kernel
theorem dX11_sheet_98 : decode cX11_sheet 98 = .ok (.goto (-20), 3) := by decide +kernel
theorem dX11_sheet_101 : decode cX11_sheet 101 = .ok (.iconst 1, 1) := by decide +kernel
theorem dX11_sheet_102 : decode cX11_sheet 102 = .ok (.ireturn, 1) := by decide +kernel
theorem dX11_put_0 : decode cX11_put 0 = .ok (.iload_n 1, 1) := by decide +kernel
theorem dX11_put_1 : decode cX11_put 1 = .ok (.invokestatic 230, 3) := by decide +kernel
theorem dX11_put_4 : decode cX11_put 4 = .ok (.ifCond .ne 10, 3) := by decide +kernel
theorem dX11_put_7 : decode cX11_put 7 = .ok (.aload_n 0, 1) := by decide +kernel
theorem dX11_put_8 : decode cX11_put 8 = .ok (.ldc 83, 2) := by decide +kernel
theorem dX11_put_10 : decode cX11_put 10 = .ok (.invokevirtual 84, 3) := by decide +kernel
theorem dX11_put_13 : decode cX11_put 13 = .ok (.ireturn, 1) := by decide +kernel
theorem dX11_put_14 : decode cX11_put 14 = .ok (.aload_n 0, 1) := by decide +kernel
theorem dX11_put_15 : decode cX11_put 15 = .ok (.getfield 69, 3) := by decide +kernel
theorem dX11_put_18 : decode cX11_put 18 = .ok (.iload_n 1, 1) := by decide +kernel
theorem dX11_put_19 : decode cX11_put 19 = .ok (.iaload, 1) := by decide +kernel
theorem dX11_put_20 : decode cX11_put 20 = .ok (.ifCond .ne 10, 3) := by decide +kernel
theorem dX11_put_23 : decode cX11_put 23 = .ok (.aload_n 0, 1) := by decide +kernel
theorem dX11_put_24 : decode cX11_put 24 = .ok (.ldc 208, 2) := by decide +kernel
theorem dX11_put_26 : decode cX11_put 26 = .ok (.invokevirtual 84, 3) := by decide +kernel
theorem dX11_put_29 : decode cX11_put 29 = .ok (.ireturn, 1) := by decide +kernel
theorem dX11_put_30 : decode cX11_put 30 = .ok (.iload_n 2, 1) := by decide +kernel
theorem dX11_put_31 : decode cX11_put 31 = .ok (.iconst 0, 1) := by decide +kernel
theorem dX11_put_32 : decode cX11_put 32 = .ok (.aload_n 0, 1) := by decide +kernel
theorem dX11_put_33 : decode cX11_put 33 = .ok (.getfield 73, 3) := by decide +kernel
theorem dX11_put_36 : decode cX11_put 36 = .ok (.iload_n 1, 1) := by decide +kernel
theorem dX11_put_37 : decode cX11_put 37 = .ok (.iaload, 1) := by decide +kernel
theorem dX11_put_38 : decode cX11_put 38 = .ok (.iconst 1, 1) := by decide +kernel
theorem dX11_put_39 : decode cX11_put 39 = .ok (.isub, 1) := by decide +kernel
theorem dX11_put_40 : decode cX11_put 40 = .ok (.invokestatic 79, 3) := by decide +kernel
theorem dX11_put_43 : decode cX11_put 43 = .ok (.ifCond .ne 10, 3) := by decide +kernel
theorem dX11_put_46 : decode cX11_put 46 = .ok (.aload_n 0, 1) := by decide +kernel
theorem dX11_put_47 : decode cX11_put 47 = .ok (.ldc 83, 2) := by decide +kernel
theorem dX11_put_49 : decode cX11_put 49 = .ok (.invokevirtual 84, 3) := by decide +kernel
theorem dX11_put_52 : decode cX11_put 52 = .ok (.ireturn, 1) := by decide +kernel
theorem dX11_put_53 : decode cX11_put 53 = .ok (.aload_n 0, 1) := by decide +kernel
theorem dX11_put_54 : decode cX11_put 54 = .ok (.getfield 66, 3) := by decide +kernel
theorem dX11_put_57 : decode cX11_put 57 = .ok (.iload_n 1, 1) := by decide +kernel
theorem dX11_put_58 : decode cX11_put 58 = .ok (.aaload, 1) := by decide +kernel
theorem dX11_put_59 : decode cX11_put 59 = .ok (.iload_n 2, 1) := by decide +kernel
theorem dX11_put_60 : decode cX11_put 60 = .ok (.aload_n 0, 1) := by decide +kernel
theorem dX11_put_61 : decode cX11_put 61 = .ok (.getfield 69, 3) := by decide +kernel
theorem dX11_put_64 : decode cX11_put 64 = .ok (.iload_n 1, 1) := by decide +kernel
theorem dX11_put_65 : decode cX11_put 65 = .ok (.iaload, 1) := by decide +kernel
theorem dX11_put_66 : decode cX11_put 66 = .ok (.iload_n 3, 1) := by decide +kernel
theorem dX11_put_67 : decode cX11_put 67 = .ok (.invokestatic 274, 3) := by decide +kernel
theorem dX11_put_70 : decode cX11_put 70 = .ok (.iastore, 1) := by decide +kernel
theorem dX11_put_71 : decode cX11_put 71 = .ok (.iconst 1, 1) := by decide +kernel
theorem dX11_put_72 : decode cX11_put 72 = .ok (.ireturn, 1) := by decide +kernel
theorem dX11_move_0 : decode cX11_move 0 = .ok (.iload_n 1, 1) := by decide +kernel
theorem dX11_move_1 : decode cX11_move 1 = .ok (.invokestatic 230, 3) := by decide +kernel
theorem dX11_move_4 : decode cX11_move 4 = .ok (.ifCond .eq 10, 3) := by decide +kernel
theorem dX11_move_7 : decode cX11_move 7 = .ok (.iload_n 3, 1) := by decide +kernel
theorem dX11_move_8 : decode cX11_move 8 = .ok (.invokestatic 230, 3) := by decide +kernel
theorem dX11_move_11 : decode cX11_move 11 = .ok (.ifCond .ne 10, 3) := by decide +kernel
theorem dX11_move_14 : decode cX11_move 14 = .ok (.aload_n 0, 1) := by decide +kernel
theorem dX11_move_15 : decode cX11_move 15 = .ok (.ldc 83, 2) := by decide +kernel
theorem dX11_move_17 : decode cX11_move 17 = .ok (.invokevirtual 84, 3) := by decide +kernel
theorem dX11_move_20 : decode cX11_move 20 = .ok (.ireturn, 1) := by decide +kernel
theorem dX11_move_21 : decode cX11_move 21 = .ok (.aload_n 0, 1) := by decide +kernel
theorem dX11_move_22 : decode cX11_move 22 = .ok (.getfield 69, 3) := by decide +kernel
theorem dX11_move_25 : decode cX11_move 25 = .ok (.iload_n 1, 1) := by decide +kernel
theorem dX11_move_26 : decode cX11_move 26 = .ok (.iaload, 1) := by decide +kernel
theorem dX11_move_27 : decode cX11_move 27 = .ok (.ifCond .eq 12, 3) := by decide +kernel
theorem dX11_move_30 : decode cX11_move 30 = .ok (.aload_n 0, 1) := by decide +kernel
theorem dX11_move_31 : decode cX11_move 31 = .ok (.getfield 69, 3) := by decide +kernel
theorem dX11_move_34 : decode cX11_move 34 = .ok (.iload_n 3, 1) := by decide +kernel
theorem dX11_move_35 : decode cX11_move 35 = .ok (.iaload, 1) := by decide +kernel
theorem dX11_move_36 : decode cX11_move 36 = .ok (.ifCond .ne 10, 3) := by decide +kernel
theorem dX11_move_39 : decode cX11_move 39 = .ok (.aload_n 0, 1) := by decide +kernel
theorem dX11_move_40 : decode cX11_move 40 = .ok (.ldc 208, 2) := by decide +kernel
theorem dX11_move_42 : decode cX11_move 42 = .ok (.invokevirtual 84, 3) := by decide +kernel
theorem dX11_move_45 : decode cX11_move 45 = .ok (.ireturn, 1) := by decide +kernel
theorem dX11_move_46 : decode cX11_move 46 = .ok (.aload_n 0, 1) := by decide +kernel
theorem dX11_move_47 : decode cX11_move 47 = .ok (.getfield 69, 3) := by decide +kernel
theorem dX11_move_50 : decode cX11_move 50 = .ok (.iload_n 1, 1) := by decide +kernel
theorem dX11_move_51 : decode cX11_move 51 = .ok (.iaload, 1) := by decide +kernel
theorem dX11_move_52 : decode cX11_move 52 = .ok (.aload_n 0, 1) := by decide +kernel
theorem dX11_move_53 : decode cX11_move 53 = .ok (.getfield 69, 3) := by decide +kernel
theorem dX11_move_56 : decode cX11_move 56 = .ok (.iload_n 3, 1) := by decide +kernel
theorem dX11_move_57 : decode cX11_move 57 = .ok (.iaload, 1) := by decide +kernel
theorem dX11_move_58 : decode cX11_move 58 = .ok (.if_icmp .eq 10, 3) := by decide +kernel
theorem dX11_move_61 : decode cX11_move 61 = .ok (.aload_n 0, 1) := by decide +kernel
theorem dX11_move_62 : decode cX11_move 62 = .ok (.ldc 154, 2) := by decide +kernel
theorem dX11_move_64 : decode cX11_move 64 = .ok (.invokevirtual 84, 3) := by decide +kernel
theorem dX11_move_67 : decode cX11_move 67 = .ok (.ireturn, 1) := by decide +kernel
theorem dX11_move_68 : decode cX11_move 68 = .ok (.aload_n 0, 1) := by decide +kernel
theorem dX11_move_69 : decode cX11_move 69 = .ok (.iload_n 1, 1) := by decide +kernel
theorem dX11_move_70 : decode cX11_move 70 = .ok (.iload_n 2, 1) := by decide +kernel
theorem dX11_move_71 : decode cX11_move 71 = .ok (.iload 5, 2) := by decide +kernel
theorem dX11_move_73 : decode cX11_move 73 = .ok (.invokevirtual 277, 3) := by decide +kernel
theorem dX11_move_76 : decode cX11_move 76 = .ok (.ifCond .eq 15, 3) := by decide +kernel
theorem dX11_move_79 : decode cX11_move 79 = .ok (.aload_n 0, 1) := by decide +kernel
theorem dX11_move_80 : decode cX11_move 80 = .ok (.iload_n 3, 1) := by decide +kernel
theorem dX11_move_81 : decode cX11_move 81 = .ok (.iload 4, 2) := by decide +kernel
theorem dX11_move_83 : decode cX11_move 83 = .ok (.iload 5, 2) := by decide +kernel
end
section
theorem dX11_move_85 : decode cX11_move 85 = .ok (.invokevirtual 277, 3) := by decide +kernel
theorem dX11_move_88 : decode cX11_move 88 = .ok (.ifCond .ne 10, 3) := by decide +kernel
theorem dX11_move_91 : decode cX11_move 91 = .ok (.aload_n 0, 1) := by decide +kernel
theorem dX11_move_92 : decode cX11_move 92 = .ok (.ldc 83, 2) := by decide +kernel
theorem dX11_move_94 : decode cX11_move 94 = .ok (.invokevirtual 84, 3) := by decide +kernel
theorem dX11_move_97 : decode cX11_move 97 = .ok (.ireturn, 1) := by decide +kernel
theorem dX11_move_98 : decode cX11_move 98 = .ok (.aload_n 0, 1) := by decide +kernel
theorem dX11_move_99 : decode cX11_move 99 = .ok (.getfield 66, 3) := by decide +kernel
theorem dX11_move_102 : decode cX11_move 102 = .ok (.iload_n 1, 1) := by decide +kernel
theorem dX11_move_103 : decode cX11_move 103 = .ok (.aaload, 1) := by decide +kernel
theorem dX11_move_104 : decode cX11_move 104 = .ok (.iload_n 2, 1) := by decide +kernel
theorem dX11_move_105 : decode cX11_move 105 = .ok (.aload_n 0, 1) := by decide +kernel
theorem dX11_move_106 : decode cX11_move 106 = .ok (.getfield 66, 3) := by decide +kernel
theorem dX11_move_109 : decode cX11_move 109 = .ok (.iload_n 3, 1) := by decide +kernel
theorem dX11_move_110 : decode cX11_move 110 = .ok (.aaload, 1) := by decide +kernel
theorem dX11_move_111 : decode cX11_move 111 = .ok (.iload 4, 2) := by decide +kernel
theorem dX11_move_113 : decode cX11_move 113 = .ok (.iload 5, 2) := by decide +kernel
theorem dX11_move_115 : decode cX11_move 115 = .ok (.invokestatic 280, 3) := by decide +kernel
theorem dX11_move_118 : decode cX11_move 118 = .ok (.iload 5, 2) := by decide +kernel
theorem dX11_move_120 : decode cX11_move 120 = .ok (.ireturn, 1) := by decide +kernel
theorem dX11_dirts_0 : decode cX11_dirts 0 = .ok (.iload_n 1, 1) := by decide +kernel
theorem dX11_dirts_1 : decode cX11_dirts 1 = .ok (.invokestatic 230, 3) := by decide +kernel
theorem dX11_dirts_4 : decode cX11_dirts 4 = .ok (.ifCond .ne 10, 3) := by decide +kernel
theorem dX11_dirts_7 : decode cX11_dirts 7 = .ok (.aload_n 0, 1) := by decide +kernel
theorem dX11_dirts_8 : decode cX11_dirts 8 = .ok (.ldc 83, 2) := by decide +kernel
theorem dX11_dirts_10 : decode cX11_dirts 10 = .ok (.invokevirtual 84, 3) := by decide +kernel
theorem dX11_dirts_13 : decode cX11_dirts 13 = .ok (.ireturn, 1) := by decide +kernel
theorem dX11_dirts_14 : decode cX11_dirts 14 = .ok (.aload_n 0, 1) := by decide +kernel
theorem dX11_dirts_15 : decode cX11_dirts 15 = .ok (.getfield 69, 3) := by decide +kernel
theorem dX11_dirts_18 : decode cX11_dirts 18 = .ok (.iload_n 1, 1) := by decide +kernel
theorem dX11_dirts_19 : decode cX11_dirts 19 = .ok (.iaload, 1) := by decide +kernel
theorem dX11_dirts_20 : decode cX11_dirts 20 = .ok (.ifCond .ne 10, 3) := by decide +kernel
theorem dX11_dirts_23 : decode cX11_dirts 23 = .ok (.aload_n 0, 1) := by decide +kernel
theorem dX11_dirts_24 : decode cX11_dirts 24 = .ok (.ldc 208, 2) := by decide +kernel
theorem dX11_dirts_26 : decode cX11_dirts 26 = .ok (.invokevirtual 84, 3) := by decide +kernel
theorem dX11_dirts_29 : decode cX11_dirts 29 = .ok (.ireturn, 1) := by decide +kernel
theorem dX11_dirts_30 : decode cX11_dirts 30 = .ok (.aload_n 0, 1) := by decide +kernel
theorem dX11_dirts_31 : decode cX11_dirts 31 = .ok (.getfield 73, 3) := by decide +kernel
theorem dX11_dirts_34 : decode cX11_dirts 34 = .ok (.iload_n 1, 1) := by decide +kernel
theorem dX11_dirts_35 : decode cX11_dirts 35 = .ok (.iaload, 1) := by decide +kernel
theorem dX11_dirts_36 : decode cX11_dirts 36 = .ok (.aload_n 0, 1) := by decide +kernel
theorem dX11_dirts_37 : decode cX11_dirts 37 = .ok (.getfield 40, 3) := by decide +kernel
theorem dX11_dirts_40 : decode cX11_dirts 40 = .ok (.getfield 88, 3) := by decide +kernel
theorem dX11_dirts_43 : decode cX11_dirts 43 = .ok (.invokestatic 215, 3) := by decide +kernel
theorem dX11_dirts_46 : decode cX11_dirts 46 = .ok (.istore_n 2, 1) := by decide +kernel
theorem dX11_dirts_47 : decode cX11_dirts 47 = .ok (.iconst 0, 1) := by decide +kernel
theorem dX11_dirts_48 : decode cX11_dirts 48 = .ok (.istore_n 3, 1) := by decide +kernel
theorem dX11_dirts_49 : decode cX11_dirts 49 = .ok (.iload_n 3, 1) := by decide +kernel
theorem dX11_dirts_50 : decode cX11_dirts 50 = .ok (.iload_n 2, 1) := by decide +kernel
theorem dX11_dirts_51 : decode cX11_dirts 51 = .ok (.if_icmp .ge 44, 3) := by decide +kernel
theorem dX11_dirts_54 : decode cX11_dirts 54 = .ok (.aload_n 0, 1) := by decide +kernel
theorem dX11_dirts_55 : decode cX11_dirts 55 = .ok (.getfield 66, 3) := by decide +kernel
theorem dX11_dirts_58 : decode cX11_dirts 58 = .ok (.iload_n 1, 1) := by decide +kernel
theorem dX11_dirts_59 : decode cX11_dirts 59 = .ok (.aaload, 1) := by decide +kernel
theorem dX11_dirts_60 : decode cX11_dirts 60 = .ok (.iload_n 3, 1) := by decide +kernel
theorem dX11_dirts_61 : decode cX11_dirts 61 = .ok (.iaload, 1) := by decide +kernel
theorem dX11_dirts_62 : decode cX11_dirts 62 = .ok (.istore 4, 2) := by decide +kernel
theorem dX11_dirts_64 : decode cX11_dirts 64 = .ok (.iload 4, 2) := by decide +kernel
theorem dX11_dirts_66 : decode cX11_dirts 66 = .ok (.iconst 0, 1) := by decide +kernel
theorem dX11_dirts_67 : decode cX11_dirts 67 = .ok (.sipush 999, 3) := by decide +kernel
theorem dX11_dirts_70 : decode cX11_dirts 70 = .ok (.invokestatic 79, 3) := by decide +kernel
theorem dX11_dirts_73 : decode cX11_dirts 73 = .ok (.ifCond .ne 5, 3) := by decide +kernel
theorem dX11_dirts_76 : decode cX11_dirts 76 = .ok (.iload_n 3, 1) := by decide +kernel
theorem dX11_dirts_77 : decode cX11_dirts 77 = .ok (.ireturn, 1) := by decide +kernel
theorem dX11_dirts_78 : decode cX11_dirts 78 = .ok (.aload_n 0, 1) := by decide +kernel
theorem dX11_dirts_79 : decode cX11_dirts 79 = .ok (.getfield 40, 3) := by decide +kernel
theorem dX11_dirts_82 : decode cX11_dirts 82 = .ok (.getfield 97, 3) := by decide +kernel
theorem dX11_dirts_85 : decode cX11_dirts 85 = .ok (.iload_n 3, 1) := by decide +kernel
theorem dX11_dirts_86 : decode cX11_dirts 86 = .ok (.iload 4, 2) := by decide +kernel
theorem dX11_dirts_88 : decode cX11_dirts 88 = .ok (.iastore, 1) := by decide +kernel
theorem dX11_dirts_89 : decode cX11_dirts 89 = .ok (.iinc 3 1, 3) := by decide +kernel
theorem dX11_dirts_92 : decode cX11_dirts 92 = .ok (.goto (-43), 3) := by decide +kernel
theorem dX11_dirts_95 : decode cX11_dirts 95 = .ok (.iload_n 2, 1) := by decide +kernel
theorem dX11_dirts_96 : decode cX11_dirts 96 = .ok (.ireturn, 1) := by decide +kernel
theorem dX11_judge_0 : decode cX11_judge 0 = .ok (.iload_n 1, 1) := by decide +kernel
theorem dX11_judge_1 : decode cX11_judge 1 = .ok (.invokestatic 230, 3) := by decide +kernel
theorem dX11_judge_4 : decode cX11_judge 4 = .ok (.ifCond .ne 10, 3) := by decide +kernel
theorem dX11_judge_7 : decode cX11_judge 7 = .ok (.aload_n 0, 1) := by decide +kernel
theorem dX11_judge_8 : decode cX11_judge 8 = .ok (.ldc 83, 2) := by decide +kernel
theorem dX11_judge_10 : decode cX11_judge 10 = .ok (.invokevirtual 84, 3) := by decide +kernel
theorem dX11_judge_13 : decode cX11_judge 13 = .ok (.ireturn, 1) := by decide +kernel
theorem dX11_judge_14 : decode cX11_judge 14 = .ok (.aload_n 0, 1) := by decide +kernel
theorem dX11_judge_15 : decode cX11_judge 15 = .ok (.getfield 69, 3) := by decide +kernel
theorem dX11_judge_18 : decode cX11_judge 18 = .ok (.iload_n 1, 1) := by decide +kernel
theorem dX11_judge_19 : decode cX11_judge 19 = .ok (.iaload, 1) := by decide +kernel
theorem dX11_judge_20 : decode cX11_judge 20 = .ok (.ifCond .ne 10, 3) := by decide +kernel
theorem dX11_judge_23 : decode cX11_judge 23 = .ok (.aload_n 0, 1) := by decide +kernel
theorem dX11_judge_24 : decode cX11_judge 24 = .ok (.ldc 208, 2) := by decide +kernel
theorem dX11_judge_26 : decode cX11_judge 26 = .ok (.invokevirtual 84, 3) := by decide +kernel
theorem dX11_judge_29 : decode cX11_judge 29 = .ok (.ireturn, 1) := by decide +kernel
theorem dX11_judge_30 : decode cX11_judge 30 = .ok (.aload_n 0, 1) := by decide +kernel
theorem dX11_judge_31 : decode cX11_judge 31 = .ok (.getfield 73, 3) := by decide +kernel
theorem dX11_judge_34 : decode cX11_judge 34 = .ok (.iload_n 1, 1) := by decide +kernel
theorem dX11_judge_35 : decode cX11_judge 35 = .ok (.iaload, 1) := by decide +kernel
theorem dX11_judge_36 : decode cX11_judge 36 = .ok (.aload_n 0, 1) := by decide +kernel
theorem dX11_judge_37 : decode cX11_judge 37 = .ok (.getfield 40, 3) := by decide +kernel
theorem dX11_judge_40 : decode cX11_judge 40 = .ok (.getfield 88, 3) := by decide +kernel
theorem dX11_judge_43 : decode cX11_judge 43 = .ok (.invokestatic 215, 3) := by decide +kernel
theorem dX11_judge_46 : decode cX11_judge 46 = .ok (.istore_n 2, 1) := by decide +kernel
theorem dX11_judge_47 : decode cX11_judge 47 = .ok (.iconst 0, 1) := by decide +kernel
theorem dX11_judge_48 : decode cX11_judge 48 = .ok (.istore_n 3, 1) := by decide +kernel
theorem dX11_judge_49 : decode cX11_judge 49 = .ok (.iload_n 3, 1) := by decide +kernel
theorem dX11_judge_50 : decode cX11_judge 50 = .ok (.iload_n 2, 1) := by decide +kernel
theorem dX11_judge_51 : decode cX11_judge 51 = .ok (.if_icmp .ge 30, 3) := by decide +kernel
theorem dX11_judge_54 : decode cX11_judge 54 = .ok (.aload_n 0, 1) := by decide +kernel
theorem dX11_judge_55 : decode cX11_judge 55 = .ok (.getfield 66, 3) := by decide +kernel
theorem dX11_judge_58 : decode cX11_judge 58 = .ok (.iload_n 1, 1) := by decide +kernel
theorem dX11_judge_59 : decode cX11_judge 59 = .ok (.aaload, 1) := by decide +kernel
theorem dX11_judge_60 : decode cX11_judge 60 = .ok (.iload_n 3, 1) := by decide +kernel
theorem dX11_judge_61 : decode cX11_judge 61 = .ok (.iaload, 1) := by decide +kernel
theorem dX11_judge_62 : decode cX11_judge 62 = .ok (.aload_n 0, 1) := by decide +kernel
theorem dX11_judge_63 : decode cX11_judge 63 = .ok (.getfield 40, 3) := by decide +kernel
theorem dX11_judge_66 : decode cX11_judge 66 = .ok (.iload_n 3, 1) := by decide +kernel
theorem dX11_judge_67 : decode cX11_judge 67 = .ok (.invokevirtual 123, 3) := by decide +kernel
theorem dX11_judge_70 : decode cX11_judge 70 = .ok (.if_icmp .eq 5, 3) := by decide +kernel
theorem dX11_judge_73 : decode cX11_judge 73 = .ok (.iload_n 3, 1) := by decide +kernel
theorem dX11_judge_74 : decode cX11_judge 74 = .ok (.ireturn, 1) := by decide +kernel
theorem dX11_judge_75 : decode cX11_judge 75 = .ok (.iinc 3 1, 3) := by decide +kernel
theorem dX11_judge_78 : decode cX11_judge 78 = .ok (.goto (-29), 3) := by decide +kernel
theorem dX11_judge_81 : decode cX11_judge 81 = .ok (.aload_n 0, 1) := by decide +kernel
theorem dX11_judge_82 : decode cX11_judge 82 = .ok (.getfield 73, 3) := by decide +kernel
theorem dX11_judge_85 : decode cX11_judge 85 = .ok (.iload_n 1, 1) := by decide +kernel
theorem dX11_judge_86 : decode cX11_judge 86 = .ok (.iaload, 1) := by decide +kernel
theorem dX11_judge_87 : decode cX11_judge 87 = .ok (.aload_n 0, 1) := by decide +kernel
theorem dX11_judge_88 : decode cX11_judge 88 = .ok (.getfield 40, 3) := by decide +kernel
theorem dX11_judge_91 : decode cX11_judge 91 = .ok (.getfield 88, 3) := by decide +kernel
theorem dX11_judge_94 : decode cX11_judge 94 = .ok (.if_icmp .ne 7, 3) := by decide +kernel
theorem dX11_judge_97 : decode cX11_judge 97 = .ok (.iconst (-1), 1) := by decide +kernel
theorem dX11_judge_98 : decode cX11_judge 98 = .ok (.goto 4, 3) := by decide +kernel
theorem dX11_judge_101 : decode cX11_judge 101 = .ok (.iload_n 2, 1) := by decide +kernel
theorem dX11_judge_102 : decode cX11_judge 102 = .ok (.ireturn, 1) := by decide +kernel
theorem dX11_image_0 : decode cX11_image 0 = .ok (.aload_n 0, 1) := by decide +kernel
theorem dX11_image_1 : decode cX11_image 1 = .ok (.getfield 47, 3) := by decide +kernel
theorem dX11_image_4 : decode cX11_image 4 = .ok (.aload_n 0, 1) := by decide +kernel
theorem dX11_image_5 : decode cX11_image 5 = .ok (.getfield 40, 3) := by decide +kernel
theorem dX11_image_8 : decode cX11_image 8 = .ok (.invokevirtual 286, 3) := by decide +kernel
theorem dX11_image_11 : decode cX11_image 11 = .ok (.aload_n 0, 1) := by decide +kernel
theorem dX11_image_12 : decode cX11_image 12 = .ok (.dup, 1) := by decide +kernel
theorem dX11_image_13 : decode cX11_image 13 = .ok (.getfield 289, 3) := by decide +kernel
theorem dX11_image_16 : decode cX11_image 16 = .ok (.iconst 1, 1) := by decide +kernel
theorem dX11_image_17 : decode cX11_image 17 = .ok (.iadd, 1) := by decide +kernel
theorem dX11_image_18 : decode cX11_image 18 = .ok (.putfield 289, 3) := by decide +kernel
theorem dX11_image_21 : decode cX11_image 21 = .ok (.aload_n 0, 1) := by decide +kernel
theorem dX11_image_22 : decode cX11_image 22 = .ok (.getfield 289, 3) := by decide +kernel
theorem dX11_image_25 : decode cX11_image 25 = .ok (.ireturn, 1) := by decide +kernel
theorem dX11_restore_0 : decode cX11_restore 0 = .ok (.aload_n 0, 1) := by decide +kernel
theorem dX11_restore_1 : decode cX11_restore 1 = .ok (.getfield 289, 3) := by decide +kernel
theorem dX11_restore_4 : decode cX11_restore 4 = .ok (.ifCond .ne 10, 3) := by decide +kernel
theorem dX11_restore_7 : decode cX11_restore 7 = .ok (.aload_n 0, 1) := by decide +kernel
theorem dX11_restore_8 : decode cX11_restore 8 = .ok (.ldc 208, 2) := by decide +kernel
theorem dX11_restore_10 : decode cX11_restore 10 = .ok (.invokevirtual 84, 3) := by decide +kernel
theorem dX11_restore_13 : decode cX11_restore 13 = .ok (.ireturn, 1) := by decide +kernel
theorem dX11_restore_14 : decode cX11_restore 14 = .ok (.aload_n 0, 1) := by decide +kernel
theorem dX11_restore_15 : decode cX11_restore 15 = .ok (.getfield 40, 3) := by decide +kernel
theorem dX11_restore_18 : decode cX11_restore 18 = .ok (.aload_n 0, 1) := by decide +kernel
theorem dX11_restore_19 : decode cX11_restore 19 = .ok (.getfield 47, 3) := by decide +kernel
theorem dX11_restore_22 : decode cX11_restore 22 = .ok (.invokevirtual 286, 3) := by decide +kernel
theorem dX11_restore_25 : decode cX11_restore 25 = .ok (.aload_n 0, 1) := by decide +kernel
theorem dX11_restore_26 : decode cX11_restore 26 = .ok (.getfield 40, 3) := by decide +kernel
theorem dX11_restore_29 : decode cX11_restore 29 = .ok (.getfield 155, 3) := by decide +kernel
theorem dX11_restore_32 : decode cX11_restore 32 = .ok (.ireturn, 1) := by decide +kernel
theorem dX11_tell_0 : decode cX11_tell 0 = .ok (.aload_n 0, 1) := by decide +kernel
theorem dX11_tell_1 : decode cX11_tell 1 = .ok (.getfield 40, 3) := by decide +kernel
theorem dX11_tell_4 : decode cX11_tell 4 = .ok (.getfield 292, 3) := by decide +kernel
theorem dX11_tell_7 : decode cX11_tell 7 = .ok (.bipush 20, 2) := by decide +kernel
theorem dX11_tell_9 : decode cX11_tell 9 = .ok (.if_icmp .lt 10, 3) := by decide +kernel
theorem dX11_tell_12 : decode cX11_tell 12 = .ok (.aload_n 0, 1) := by decide +kernel
theorem dX11_tell_13 : decode cX11_tell 13 = .ok (.ldc 92, 2) := by decide +kernel
theorem dX11_tell_15 : decode cX11_tell 15 = .ok (.invokevirtual 84, 3) := by decide +kernel
theorem dX11_tell_18 : decode cX11_tell 18 = .ok (.ireturn, 1) := by decide +kernel
theorem dX11_tell_19 : decode cX11_tell 19 = .ok (.aload_n 0, 1) := by decide +kernel
theorem dX11_tell_20 : decode cX11_tell 20 = .ok (.getfield 40, 3) := by decide +kernel
theorem dX11_tell_23 : decode cX11_tell 23 = .ok (.getfield 295, 3) := by decide +kernel
theorem dX11_tell_26 : decode cX11_tell 26 = .ok (.aload_n 0, 1) := by decide +kernel
theorem dX11_tell_27 : decode cX11_tell 27 = .ok (.getfield 40, 3) := by decide +kernel
theorem dX11_tell_30 : decode cX11_tell 30 = .ok (.getfield 292, 3) := by decide +kernel
theorem dX11_tell_33 : decode cX11_tell 33 = .ok (.iload_n 1, 1) := by decide +kernel
theorem dX11_tell_34 : decode cX11_tell 34 = .ok (.iastore, 1) := by decide +kernel
theorem dX11_tell_35 : decode cX11_tell 35 = .ok (.aload_n 0, 1) := by decide +kernel
theorem dX11_tell_36 : decode cX11_tell 36 = .ok (.getfield 40, 3) := by decide +kernel
theorem dX11_tell_39 : decode cX11_tell 39 = .ok (.dup, 1) := by decide +kernel
theorem dX11_tell_40 : decode cX11_tell 40 = .ok (.getfield 292, 3) := by decide +kernel
theorem dX11_tell_43 : decode cX11_tell 43 = .ok (.iconst 1, 1) := by decide +kernel
theorem dX11_tell_44 : decode cX11_tell 44 = .ok (.iadd, 1) := by decide +kernel
theorem dX11_tell_45 : decode cX11_tell 45 = .ok (.putfield 292, 3) := by decide +kernel
theorem dX11_tell_48 : decode cX11_tell 48 = .ok (.aload_n 0, 1) := by decide +kernel
theorem dX11_tell_49 : decode cX11_tell 49 = .ok (.getfield 40, 3) := by decide +kernel
theorem dX11_tell_52 : decode cX11_tell 52 = .ok (.getfield 292, 3) := by decide +kernel
theorem dX11_tell_55 : decode cX11_tell 55 = .ok (.ireturn, 1) := by decide +kernel
theorem dX11_check_0 : decode cX11_check 0 = .ok (.aload_n 0, 1) := by decide +kernel
theorem dX11_check_1 : decode cX11_check 1 = .ok (.getfield 40, 3) := by decide +kernel
theorem dX11_check_4 : decode cX11_check 4 = .ok (.getfield 292, 3) := by decide +kernel
theorem dX11_check_7 : decode cX11_check 7 = .ok (.istore_n 1, 1) := by decide +kernel
theorem dX11_check_8 : decode cX11_check 8 = .ok (.aload_n 0, 1) := by decide +kernel
theorem dX11_check_9 : decode cX11_check 9 = .ok (.getfield 40, 3) := by decide +kernel
theorem dX11_check_12 : decode cX11_check 12 = .ok (.iconst 0, 1) := by decide +kernel
theorem dX11_check_13 : decode cX11_check 13 = .ok (.putfield 292, 3) := by decide +kernel
theorem dX11_check_16 : decode cX11_check 16 = .ok (.aload_n 0, 1) := by decide +kernel
theorem dX11_check_17 : decode cX11_check 17 = .ok (.getfield 44, 3) := by decide +kernel
theorem dX11_check_20 : decode cX11_check 20 = .ok (.aload_n 0, 1) := by decide +kernel
theorem dX11_check_21 : decode cX11_check 21 = .ok (.getfield 40, 3) := by decide +kernel
theorem dX11_check_24 : decode cX11_check 24 = .ok (.invokevirtual 198, 3) := by decide +kernel
theorem dX11_check_27 : decode cX11_check 27 = .ok (.iconst 0, 1) := by decide +kernel
theorem dX11_check_28 : decode cX11_check 28 = .ok (.istore_n 2, 1) := by decide +kernel
theorem dX11_check_29 : decode cX11_check 29 = .ok (.iload_n 2, 1) := by decide +kernel
theorem dX11_check_30 : decode cX11_check 30 = .ok (.iload_n 1, 1) := by decide +kernel
theorem dX11_check_31 : decode cX11_check 31 = .ok (.if_icmp .ge 40, 3) := by decide +kernel
theorem dX11_check_34 : decode cX11_check 34 = .ok (.aload_n 0, 1) := by decide +kernel
theorem dX11_check_35 : decode cX11_check 35 = .ok (.getfield 44, 3) := by decide +kernel
theorem dX11_check_38 : decode cX11_check 38 = .ok (.iconst 1, 1) := by decide +kernel
theorem dX11_check_39 : decode cX11_check 39 = .ok (.invokevirtual 187, 3) := by decide +kernel
theorem dX11_check_42 : decode cX11_check 42 = .ok (.aload_n 0, 1) := by decide +kernel
theorem dX11_check_43 : decode cX11_check 43 = .ok (.getfield 44, 3) := by decide +kernel
theorem dX11_check_46 : decode cX11_check 46 = .ok (.invokevirtual 191, 3) := by decide +kernel
theorem dX11_check_49 : decode cX11_check 49 = .ok (.aload_n 0, 1) := by decide +kernel
theorem dX11_check_50 : decode cX11_check 50 = .ok (.getfield 40, 3) := by decide +kernel
theorem dX11_check_53 : decode cX11_check 53 = .ok (.getfield 295, 3) := by decide +kernel
theorem dX11_check_56 : decode cX11_check 56 = .ok (.iload_n 2, 1) := by decide +kernel
theorem dX11_check_57 : decode cX11_check 57 = .ok (.iaload, 1) := by decide +kernel
theorem dX11_check_58 : decode cX11_check 58 = .ok (.if_icmp .eq 7, 3) := by decide +kernel
theorem dX11_check_61 : decode cX11_check 61 = .ok (.iconst 1, 1) := by decide +kernel
theorem dX11_check_62 : decode cX11_check 62 = .ok (.iload_n 2, 1) := by decide +kernel
theorem dX11_check_63 : decode cX11_check 63 = .ok (.iadd, 1) := by decide +kernel
theorem dX11_check_64 : decode cX11_check 64 = .ok (.ireturn, 1) := by decide +kernel
theorem dX11_check_65 : decode cX11_check 65 = .ok (.iinc 2 1, 3) := by decide +kernel
theorem dX11_check_68 : decode cX11_check 68 = .ok (.goto (-39), 3) := by decide +kernel
theorem dX11_check_71 : decode cX11_check 71 = .ok (.iconst 0, 1) := by decide +kernel
theorem dX11_check_72 : decode cX11_check 72 = .ok (.ireturn, 1) := by decide +kernel
theorem dX11_count_0 : decode cX11_count 0 = .ok (.iload_n 1, 1) := by decide +kernel
theorem dX11_count_1 : decode cX11_count 1 = .ok (.tableswitch 147 0 10 #[59, 67, 75, 83, 91, 99, 107, 115, 123, 131, 139], 59) := by decide +kernel
theorem dX11_count_60 : decode cX11_count 60 = .ok (.aload_n 0, 1) := by decide +kernel
theorem dX11_count_61 : decode cX11_count 61 = .ok (.getfield 40, 3) := by decide +kernel
theorem dX11_count_64 : decode cX11_count 64 = .ok (.getfield 88, 3) := by decide +kernel
theorem dX11_count_67 : decode cX11_count 67 = .ok (.ireturn, 1) := by decide +kernel
theorem dX11_count_68 : decode cX11_count 68 = .ok (.aload_n 0, 1) := by decide +kernel
theorem dX11_count_69 : decode cX11_count 69 = .ok (.getfield 40, 3) := by decide +kernel
theorem dX11_count_72 : decode cX11_count 72 = .ok (.getfield 155, 3) := by decide +kernel
theorem dX11_count_75 : decode cX11_count 75 = .ok (.ireturn, 1) := by decide +kernel
theorem dX11_count_76 : decode cX11_count 76 = .ok (.aload_n 0, 1) := by decide +kernel
theorem dX11_count_77 : decode cX11_count 77 = .ok (.getfield 40, 3) := by decide +kernel
theorem dX11_count_80 : decode cX11_count 80 = .ok (.getfield 138, 3) := by decide +kernel
theorem dX11_count_83 : decode cX11_count 83 = .ok (.ireturn, 1) := by decide +kernel
theorem dX11_count_84 : decode cX11_count 84 = .ok (.aload_n 0, 1) := by decide +kernel
theorem dX11_count_85 : decode cX11_count 85 = .ok (.getfield 40, 3) := by decide +kernel
theorem dX11_count_88 : decode cX11_count 88 = .ok (.getfield 141, 3) := by decide +kernel
theorem dX11_count_91 : decode cX11_count 91 = .ok (.ireturn, 1) := by decide +kernel
theorem dX11_count_92 : decode cX11_count 92 = .ok (.aload_n 0, 1) := by decide +kernel
theorem dX11_count_93 : decode cX11_count 93 = .ok (.getfield 40, 3) := by decide +kernel
theorem dX11_count_96 : decode cX11_count 96 = .ok (.getfield 144, 3) := by decide +kernel
theorem dX11_count_99 : decode cX11_count 99 = .ok (.ireturn, 1) := by decide +kernel
theorem dX11_count_100 : decode cX11_count 100 = .ok (.aload_n 0, 1) := by decide +kernel
theorem dX11_count_101 : decode cX11_count 101 = .ok (.getfield 40, 3) := by decide +kernel
theorem dX11_count_104 : decode cX11_count 104 = .ok (.invokevirtual 191, 3) := by decide +kernel
theorem dX11_count_107 : decode cX11_count 107 = .ok (.ireturn, 1) := by decide +kernel
theorem dX11_count_108 : decode cX11_count 108 = .ok (.aload_n 0, 1) := by decide +kernel
theorem dX11_count_109 : decode cX11_count 109 = .ok (.getfield 40, 3) := by decide +kernel
theorem dX11_count_112 : decode cX11_count 112 = .ok (.getfield 236, 3) := by decide +kernel
theorem dX11_count_115 : decode cX11_count 115 = .ok (.ireturn, 1) := by decide +kernel
theorem dX11_count_116 : decode cX11_count 116 = .ok (.aload_n 0, 1) := by decide +kernel
theorem dX11_count_117 : decode cX11_count 117 = .ok (.getfield 40, 3) := by decide +kernel
theorem dX11_count_120 : decode cX11_count 120 = .ok (.getfield 161, 3) := by decide +kernel
theorem dX11_count_123 : decode cX11_count 123 = .ok (.ireturn, 1) := by decide +kernel
theorem dX11_count_124 : decode cX11_count 124 = .ok (.aload_n 0, 1) := by decide +kernel
theorem dX11_count_125 : decode cX11_count 125 = .ok (.getfield 40, 3) := by decide +kernel
theorem dX11_count_128 : decode cX11_count 128 = .ok (.getfield 292, 3) := by decide +kernel
theorem dX11_count_131 : decode cX11_count 131 = .ok (.ireturn, 1) := by decide +kernel
theorem dX11_count_132 : decode cX11_count 132 = .ok (.aload_n 0, 1) := by decide +kernel
theorem dX11_count_133 : decode cX11_count 133 = .ok (.getfield 60, 3) := by decide +kernel
theorem dX11_count_136 : decode cX11_count 136 = .ok (.getfield 265, 3) := by decide +kernel
theorem dX11_count_139 : decode cX11_count 139 = .ok (.ireturn, 1) := by decide +kernel
theorem dX11_count_140 : decode cX11_count 140 = .ok (.aload_n 0, 1) := by decide +kernel
theorem dX11_count_141 : decode cX11_count 141 = .ok (.getfield 40, 3) := by decide +kernel
theorem dX11_count_144 : decode cX11_count 144 = .ok (.getfield 242, 3) := by decide +kernel
theorem dX11_count_147 : decode cX11_count 147 = .ok (.ireturn, 1) := by decide +kernel
theorem dX11_count_148 : decode cX11_count 148 = .ok (.aload_n 0, 1) := by decide +kernel
theorem dX11_count_149 : decode cX11_count 149 = .ok (.ldc 83, 2) := by decide +kernel
theorem dX11_count_151 : decode cX11_count 151 = .ok (.invokevirtual 84, 3) := by decide +kernel
theorem dX11_count_154 : decode cX11_count 154 = .ok (.ireturn, 1) := by decide +kernel
theorem dX11_told_0 : decode cX11_told 0 = .ok (.iload_n 1, 1) := by decide +kernel
theorem dX11_told_1 : decode cX11_told 1 = .ok (.iconst 1, 1) := by decide +kernel
theorem dX11_told_2 : decode cX11_told 2 = .ok (.iconst 5, 1) := by decide +kernel
theorem dX11_told_3 : decode cX11_told 3 = .ok (.invokestatic 79, 3) := by decide +kernel
theorem dX11_told_6 : decode cX11_told 6 = .ok (.ifCond .ne 10, 3) := by decide +kernel
theorem dX11_told_9 : decode cX11_told 9 = .ok (.aload_n 0, 1) := by decide +kernel
theorem dX11_told_10 : decode cX11_told 10 = .ok (.ldc 83, 2) := by decide +kernel
theorem dX11_told_12 : decode cX11_told 12 = .ok (.invokevirtual 84, 3) := by decide +kernel
theorem dX11_told_15 : decode cX11_told 15 = .ok (.ireturn, 1) := by decide +kernel
theorem dX11_told_16 : decode cX11_told 16 = .ok (.aload_n 0, 1) := by decide +kernel
theorem dX11_told_17 : decode cX11_told 17 = .ok (.getfield 76, 3) := by decide +kernel
theorem dX11_told_20 : decode cX11_told 20 = .ok (.iload_n 1, 1) := by decide +kernel
theorem dX11_told_21 : decode cX11_told 21 = .ok (.iaload, 1) := by decide +kernel
theorem dX11_told_22 : decode cX11_told 22 = .ok (.ireturn, 1) := by decide +kernel
theorem dX11_fail_0 : decode cX11_fail 0 = .ok (.aload_n 0, 1) := by decide +kernel
theorem dX11_fail_1 : decode cX11_fail 1 = .ok (.getfield 76, 3) := by decide +kernel
theorem dX11_fail_4 : decode cX11_fail 4 = .ok (.ldc_w 298, 3) := by decide +kernel
theorem dX11_fail_7 : decode cX11_fail 7 = .ok (.iload_n 1, 1) := by decide +kernel
theorem dX11_fail_8 : decode cX11_fail 8 = .ok (.isub, 1) := by decide +kernel
theorem dX11_fail_9 : decode cX11_fail 9 = .ok (.dup2, 1) := by decide +kernel
theorem dX11_fail_10 : decode cX11_fail 10 = .ok (.iaload, 1) := by decide +kernel
theorem dX11_fail_11 : decode cX11_fail 11 = .ok (.iconst 1, 1) := by decide +kernel
theorem dX11_fail_12 : decode cX11_fail 12 = .ok (.iadd, 1) := by decide +kernel
theorem dX11_fail_13 : decode cX11_fail 13 = .ok (.iastore, 1) := by decide +kernel
theorem dX11_fail_14 : decode cX11_fail 14 = .ok (.iload_n 1, 1) := by decide +kernel
theorem dX11_fail_15 : decode cX11_fail 15 = .ok (.ireturn, 1) := by decide +kernel
theorem dX11_within_0 : decode cX11_within 0 = .ok (.iload_n 1, 1) := by decide +kernel
theorem dX11_within_1 : decode cX11_within 1 = .ok (.iload_n 0, 1) := by decide +kernel
theorem dX11_within_2 : decode cX11_within 2 = .ok (.if_icmp .gt 12, 3) := by decide +kernel
theorem dX11_within_5 : decode cX11_within 5 = .ok (.iload_n 0, 1) := by decide +kernel
theorem dX11_within_6 : decode cX11_within 6 = .ok (.iload_n 2, 1) := by decide +kernel
theorem dX11_within_7 : decode cX11_within 7 = .ok (.if_icmp .gt 7, 3) := by decide +kernel
theorem dX11_within_10 : decode cX11_within 10 = .ok (.iconst 1, 1) := by decide +kernel
theorem dX11_within_11 : decode cX11_within 11 = .ok (.goto 4, 3) := by decide +kernel
theorem dX11_within_14 : decode cX11_within 14 = .ok (.iconst 0, 1) := by decide +kernel
theorem dX11_within_15 : decode cX11_within 15 = .ok (.ireturn, 1) := by decide +kernel
theorem dX11_mostOfYard_0 : decode cX11_mostOfYard 0 = .ok (.iload_n 0, 1) := by decide +kernel
theorem dX11_mostOfYard_1 : decode cX11_mostOfYard 1 = .ok (.ifCond .ne 7, 3) := by decide +kernel
theorem dX11_mostOfYard_4 : decode cX11_mostOfYard 4 = .ok (.sipush 999, 3) := by decide +kernel
theorem dX11_mostOfYard_7 : decode cX11_mostOfYard 7 = .ok (.ireturn, 1) := by decide +kernel
theorem dX11_mostOfYard_8 : decode cX11_mostOfYard 8 = .ok (.iload_n 0, 1) := by decide +kernel
theorem dX11_mostOfYard_9 : decode cX11_mostOfYard 9 = .ok (.iconst 1, 1) := by decide +kernel
theorem dX11_mostOfYard_10 : decode cX11_mostOfYard 10 = .ok (.if_icmp .ne 7, 3) := by decide +kernel
theorem dX11_mostOfYard_13 : decode cX11_mostOfYard 13 = .ok (.iconst 1, 1) := by decide +kernel
theorem dX11_mostOfYard_14 : decode cX11_mostOfYard 14 = .ok (.goto 5, 3) := by decide +kernel
theorem dX11_mostOfYard_17 : decode cX11_mostOfYard 17 = .ok (.bipush 99, 2) := by decide +kernel
theorem dX11_mostOfYard_19 : decode cX11_mostOfYard 19 = .ok (.ireturn, 1) := by decide +kernel
theorem dX11_mostOfStreet_0 : decode cX11_mostOfStreet 0 = .ok (.iload_n 0, 1) := by decide +kernel
theorem dX11_mostOfStreet_1 : decode cX11_mostOfStreet 1 = .ok (.ifCond .ne 6, 3) := by decide +kernel
theorem dX11_mostOfStreet_4 : decode cX11_mostOfStreet 4 = .ok (.bipush 9, 2) := by decide +kernel
theorem dX11_mostOfStreet_6 : decode cX11_mostOfStreet 6 = .ok (.ireturn, 1) := by decide +kernel
theorem dX11_mostOfStreet_7 : decode cX11_mostOfStreet 7 = .ok (.iload_n 0, 1) := by decide +kernel
theorem dX11_mostOfStreet_8 : decode cX11_mostOfStreet 8 = .ok (.iconst 1, 1) := by decide +kernel
theorem dX11_mostOfStreet_9 : decode cX11_mostOfStreet 9 = .ok (.if_icmp .ne 8, 3) := by decide +kernel
theorem dX11_mostOfStreet_12 : decode cX11_mostOfStreet 12 = .ok (.bipush 99, 2) := by decide +kernel
theorem dX11_mostOfStreet_14 : decode cX11_mostOfStreet 14 = .ok (.goto 6, 3) := by decide +kernel
theorem dX11_mostOfStreet_17 : decode cX11_mostOfStreet 17 = .ok (.ldc_w 299, 3) := by decide +kernel
theorem dX11_mostOfStreet_20 : decode cX11_mostOfStreet 20 = .ok (.ireturn, 1) := by decide +kernel
theorem dX11_isUnder_0 : decode cX11_isUnder 0 = .ok (.iload_n 0, 1) := by decide +kernel
theorem dX11_isUnder_1 : decode cX11_isUnder 1 = .ok (.istore_n 2, 1) := by decide +kernel
theorem dX11_isUnder_2 : decode cX11_isUnder 2 = .ok (.iconst 0, 1) := by decide +kernel
theorem dX11_isUnder_3 : decode cX11_isUnder 3 = .ok (.istore_n 3, 1) := by decide +kernel
theorem dX11_isUnder_4 : decode cX11_isUnder 4 = .ok (.iload_n 3, 1) := by decide +kernel
theorem dX11_isUnder_5 : decode cX11_isUnder 5 = .ok (.getstatic 147, 3) := by decide +kernel
theorem dX11_isUnder_8 : decode cX11_isUnder 8 = .ok (.arraylength, 1) := by decide +kernel
theorem dX11_isUnder_9 : decode cX11_isUnder 9 = .ok (.if_icmp .ge 26, 3) := by decide +kernel
theorem dX11_isUnder_12 : decode cX11_isUnder 12 = .ok (.iload_n 2, 1) := by decide +kernel
theorem dX11_isUnder_13 : decode cX11_isUnder 13 = .ok (.ifCond .lt 22, 3) := by decide +kernel
theorem dX11_isUnder_16 : decode cX11_isUnder 16 = .ok (.iload_n 2, 1) := by decide +kernel
theorem dX11_isUnder_17 : decode cX11_isUnder 17 = .ok (.iload_n 1, 1) := by decide +kernel
theorem dX11_isUnder_18 : decode cX11_isUnder 18 = .ok (.if_icmp .ne 5, 3) := by decide +kernel
theorem dX11_isUnder_21 : decode cX11_isUnder 21 = .ok (.iconst 1, 1) := by decide +kernel
theorem dX11_isUnder_22 : decode cX11_isUnder 22 = .ok (.ireturn, 1) := by decide +kernel
theorem dX11_isUnder_23 : decode cX11_isUnder 23 = .ok (.getstatic 147, 3) := by decide +kernel
theorem dX11_isUnder_26 : decode cX11_isUnder 26 = .ok (.iload_n 2, 1) := by decide +kernel
theorem dX11_isUnder_27 : decode cX11_isUnder 27 = .ok (.iaload, 1) := by decide +kernel
theorem dX11_isUnder_28 : decode cX11_isUnder 28 = .ok (.istore_n 2, 1) := by decide +kernel
theorem dX11_isUnder_29 : decode cX11_isUnder 29 = .ok (.iinc 3 1, 3) := by decide +kernel
theorem dX11_isUnder_32 : decode cX11_isUnder 32 = .ok (.goto (-28), 3) := by decide +kernel
theorem dX11_isUnder_35 : decode cX11_isUnder 35 = .ok (.iconst 0, 1) := by decide +kernel
theorem dX11_isUnder_36 : decode cX11_isUnder 36 = .ok (.ireturn, 1) := by decide +kernel
theorem dX11_dirtOnceSwept_0 : decode cX11_dirtOnceSwept 0 = .ok (.aload_n 0, 1) := by decide +kernel
theorem dX11_dirtOnceSwept_1 : decode cX11_dirtOnceSwept 1 = .ok (.getfield 44, 3) := by decide +kernel
theorem dX11_dirtOnceSwept_4 : decode cX11_dirtOnceSwept 4 = .ok (.aload_n 0, 1) := by decide +kernel
theorem dX11_dirtOnceSwept_5 : decode cX11_dirtOnceSwept 5 = .ok (.getfield 40, 3) := by decide +kernel
theorem dX11_dirtOnceSwept_8 : decode cX11_dirtOnceSwept 8 = .ok (.invokevirtual 198, 3) := by decide +kernel
theorem dX11_dirtOnceSwept_11 : decode cX11_dirtOnceSwept 11 = .ok (.aload_n 0, 1) := by decide +kernel
theorem dX11_dirtOnceSwept_12 : decode cX11_dirtOnceSwept 12 = .ok (.getfield 44, 3) := by decide +kernel
theorem dX11_dirtOnceSwept_15 : decode cX11_dirtOnceSwept 15 = .ok (.iconst 0, 1) := by decide +kernel
theorem dX11_dirtOnceSwept_16 : decode cX11_dirtOnceSwept 16 = .ok (.aload_n 0, 1) := by decide +kernel
theorem dX11_dirtOnceSwept_17 : decode cX11_dirtOnceSwept 17 = .ok (.getfield 44, 3) := by decide +kernel
theorem dX11_dirtOnceSwept_20 : decode cX11_dirtOnceSwept 20 = .ok (.getfield 88, 3) := by decide +kernel
theorem dX11_dirtOnceSwept_23 : decode cX11_dirtOnceSwept 23 = .ok (.iconst 1, 1) := by decide +kernel
theorem dX11_dirtOnceSwept_24 : decode cX11_dirtOnceSwept 24 = .ok (.iload_n 1, 1) := by decide +kernel
theorem dX11_dirtOnceSwept_25 : decode cX11_dirtOnceSwept 25 = .ok (.ishl, 1) := by decide +kernel
theorem dX11_dirtOnceSwept_26 : decode cX11_dirtOnceSwept 26 = .ok (.invokevirtual 300, 3) := by decide +kernel
theorem dX11_dirtOnceSwept_29 : decode cX11_dirtOnceSwept 29 = .ok (.aload_n 0, 1) := by decide +kernel
theorem dX11_dirtOnceSwept_30 : decode cX11_dirtOnceSwept 30 = .ok (.getfield 44, 3) := by decide +kernel
theorem dX11_dirtOnceSwept_33 : decode cX11_dirtOnceSwept 33 = .ok (.invokevirtual 191, 3) := by decide +kernel
theorem dX11_dirtOnceSwept_36 : decode cX11_dirtOnceSwept 36 = .ok (.ireturn, 1) := by decide +kernel
theorem dX11_staysBelow_0 : decode cX11_staysBelow 0 = .ok (.aload_n 0, 1) := by decide +kernel
theorem dX11_staysBelow_1 : decode cX11_staysBelow 1 = .ok (.getfield 44, 3) := by decide +kernel
theorem dX11_staysBelow_4 : decode cX11_staysBelow 4 = .ok (.aload_n 0, 1) := by decide +kernel
theorem dX11_staysBelow_5 : decode cX11_staysBelow 5 = .ok (.getfield 40, 3) := by decide +kernel
theorem dX11_staysBelow_8 : decode cX11_staysBelow 8 = .ok (.invokevirtual 198, 3) := by decide +kernel
theorem dX11_staysBelow_11 : decode cX11_staysBelow 11 = .ok (.iconst 1, 1) := by decide +kernel
theorem dX11_staysBelow_12 : decode cX11_staysBelow 12 = .ok (.istore_n 3, 1) := by decide +kernel
theorem dX11_staysBelow_13 : decode cX11_staysBelow 13 = .ok (.iload_n 3, 1) := by decide +kernel
theorem dX11_staysBelow_14 : decode cX11_staysBelow 14 = .ok (.bipush 28, 2) := by decide +kernel
theorem dX11_staysBelow_16 : decode cX11_staysBelow 16 = .ok (.if_icmp .gt 58, 3) := by decide +kernel
theorem dX11_staysBelow_19 : decode cX11_staysBelow 19 = .ok (.aload_n 0, 1) := by decide +kernel
theorem dX11_staysBelow_20 : decode cX11_staysBelow 20 = .ok (.getfield 44, 3) := by decide +kernel
theorem dX11_staysBelow_23 : decode cX11_staysBelow 23 = .ok (.getfield 155, 3) := by decide +kernel
theorem dX11_staysBelow_26 : decode cX11_staysBelow 26 = .ok (.iload_n 2, 1) := by decide +kernel
theorem dX11_staysBelow_27 : decode cX11_staysBelow 27 = .ok (.irem, 1) := by decide +kernel
theorem dX11_staysBelow_28 : decode cX11_staysBelow 28 = .ok (.ifCond .ne 7, 3) := by decide +kernel
theorem dX11_staysBelow_31 : decode cX11_staysBelow 31 = .ok (.iconst 3, 1) := by decide +kernel
theorem dX11_staysBelow_32 : decode cX11_staysBelow 32 = .ok (.goto 4, 3) := by decide +kernel
theorem dX11_staysBelow_35 : decode cX11_staysBelow 35 = .ok (.iconst 0, 1) := by decide +kernel
theorem dX11_staysBelow_36 : decode cX11_staysBelow 36 = .ok (.istore 4, 2) := by decide +kernel
theorem dX11_staysBelow_38 : decode cX11_staysBelow 38 = .ok (.aload_n 0, 1) := by decide +kernel
theorem dX11_staysBelow_39 : decode cX11_staysBelow 39 = .ok (.getfield 44, 3) := by decide +kernel
theorem dX11_staysBelow_42 : decode cX11_staysBelow 42 = .ok (.iconst 0, 1) := by decide +kernel
theorem dX11_staysBelow_43 : decode cX11_staysBelow 43 = .ok (.aload_n 0, 1) := by decide +kernel
theorem dX11_staysBelow_44 : decode cX11_staysBelow 44 = .ok (.getfield 44, 3) := by decide +kernel
theorem dX11_staysBelow_47 : decode cX11_staysBelow 47 = .ok (.getfield 88, 3) := by decide +kernel
theorem dX11_staysBelow_50 : decode cX11_staysBelow 50 = .ok (.iload 4, 2) := by decide +kernel
theorem dX11_staysBelow_52 : decode cX11_staysBelow 52 = .ok (.invokevirtual 304, 3) := by decide +kernel
theorem dX11_staysBelow_55 : decode cX11_staysBelow 55 = .ok (.aload_n 0, 1) := by decide +kernel
theorem dX11_staysBelow_56 : decode cX11_staysBelow 56 = .ok (.getfield 44, 3) := by decide +kernel
theorem dX11_staysBelow_59 : decode cX11_staysBelow 59 = .ok (.iload_n 1, 1) := by decide +kernel
theorem dX11_staysBelow_60 : decode cX11_staysBelow 60 = .ok (.invokevirtual 205, 3) := by decide +kernel
theorem dX11_staysBelow_63 : decode cX11_staysBelow 63 = .ok (.ifCond .lt 5, 3) := by decide +kernel
theorem dX11_staysBelow_66 : decode cX11_staysBelow 66 = .ok (.iconst 0, 1) := by decide +kernel
theorem dX11_staysBelow_67 : decode cX11_staysBelow 67 = .ok (.ireturn, 1) := by decide +kernel
theorem dX11_staysBelow_68 : decode cX11_staysBelow 68 = .ok (.iinc 3 1, 3) := by decide +kernel
theorem dX11_staysBelow_71 : decode cX11_staysBelow 71 = .ok (.goto (-58), 3) := by decide +kernel
theorem dX11_staysBelow_74 : decode cX11_staysBelow 74 = .ok (.iconst 1, 1) := by decide +kernel
theorem dX11_staysBelow_75 : decode cX11_staysBelow 75 = .ok (.ireturn, 1) := by decide +kernel
theorem dX11_dirtWithout_0 : decode cX11_dirtWithout 0 = .ok (.aload_n 0, 1) := by decide +kernel
theorem dX11_dirtWithout_1 : decode cX11_dirtWithout 1 = .ok (.getfield 44, 3) := by decide +kernel
theorem dX11_dirtWithout_4 : decode cX11_dirtWithout 4 = .ok (.aload_n 0, 1) := by decide +kernel
theorem dX11_dirtWithout_5 : decode cX11_dirtWithout 5 = .ok (.getfield 40, 3) := by decide +kernel
theorem dX11_dirtWithout_8 : decode cX11_dirtWithout 8 = .ok (.invokevirtual 198, 3) := by decide +kernel
theorem dX11_dirtWithout_11 : decode cX11_dirtWithout 11 = .ok (.aload_n 0, 1) := by decide +kernel
theorem dX11_dirtWithout_12 : decode cX11_dirtWithout 12 = .ok (.getfield 44, 3) := by decide +kernel
theorem dX11_dirtWithout_15 : decode cX11_dirtWithout 15 = .ok (.dup, 1) := by decide +kernel
theorem dX11_dirtWithout_16 : decode cX11_dirtWithout 16 = .ok (.getfield 236, 3) := by decide +kernel
theorem dX11_dirtWithout_19 : decode cX11_dirtWithout 19 = .ok (.iload_n 1, 1) := by decide +kernel
theorem dX11_dirtWithout_20 : decode cX11_dirtWithout 20 = .ok (.iconst (-1), 1) := by decide +kernel
theorem dX11_dirtWithout_21 : decode cX11_dirtWithout 21 = .ok (.ixor, 1) := by decide +kernel
theorem dX11_dirtWithout_22 : decode cX11_dirtWithout 22 = .ok (.iand, 1) := by decide +kernel
theorem dX11_dirtWithout_23 : decode cX11_dirtWithout 23 = .ok (.putfield 236, 3) := by decide +kernel
theorem dX11_dirtWithout_26 : decode cX11_dirtWithout 26 = .ok (.aload_n 0, 1) := by decide +kernel
theorem dX11_dirtWithout_27 : decode cX11_dirtWithout 27 = .ok (.getfield 44, 3) := by decide +kernel
theorem dX11_dirtWithout_30 : decode cX11_dirtWithout 30 = .ok (.iload_n 3, 1) := by decide +kernel
theorem dX11_dirtWithout_31 : decode cX11_dirtWithout 31 = .ok (.iload_n 2, 1) := by decide +kernel
theorem dX11_dirtWithout_32 : decode cX11_dirtWithout 32 = .ok (.invokevirtual 202, 3) := by decide +kernel
theorem dX11_dirtWithout_35 : decode cX11_dirtWithout 35 = .ok (.ireturn, 1) := by decide +kernel
theorem dX11_leastPairToTow_0 : decode cX11_leastPairToTow 0 = .ok (.iconst 1, 1) := by decide +kernel
theorem dX11_leastPairToTow_1 : decode cX11_leastPairToTow 1 = .ok (.istore 4, 2) := by decide +kernel
theorem dX11_leastPairToTow_3 : decode cX11_leastPairToTow 3 = .ok (.iload 4, 2) := by decide +kernel
theorem dX11_leastPairToTow_5 : decode cX11_leastPairToTow 5 = .ok (.aload_n 0, 1) := by decide +kernel
theorem dX11_leastPairToTow_6 : decode cX11_leastPairToTow 6 = .ok (.getfield 40, 3) := by decide +kernel
theorem dX11_leastPairToTow_9 : decode cX11_leastPairToTow 9 = .ok (.getfield 88, 3) := by decide +kernel
theorem dX11_leastPairToTow_12 : decode cX11_leastPairToTow 12 = .ok (.if_icmp .ge 66, 3) := by decide +kernel
theorem dX11_leastPairToTow_15 : decode cX11_leastPairToTow 15 = .ok (.iconst 0, 1) := by decide +kernel
theorem dX11_leastPairToTow_16 : decode cX11_leastPairToTow 16 = .ok (.istore 5, 2) := by decide +kernel
theorem dX11_leastPairToTow_18 : decode cX11_leastPairToTow 18 = .ok (.iload 5, 2) := by decide +kernel
theorem dX11_leastPairToTow_20 : decode cX11_leastPairToTow 20 = .ok (.iload 4, 2) := by decide +kernel
theorem dX11_leastPairToTow_22 : decode cX11_leastPairToTow 22 = .ok (.if_icmp .ge 50, 3) := by decide +kernel
theorem dX11_leastPairToTow_25 : decode cX11_leastPairToTow 25 = .ok (.iconst 1, 1) := by decide +kernel
theorem dX11_leastPairToTow_26 : decode cX11_leastPairToTow 26 = .ok (.iload 4, 2) := by decide +kernel
theorem dX11_leastPairToTow_28 : decode cX11_leastPairToTow 28 = .ok (.ishl, 1) := by decide +kernel
theorem dX11_leastPairToTow_29 : decode cX11_leastPairToTow 29 = .ok (.iconst 1, 1) := by decide +kernel
theorem dX11_leastPairToTow_30 : decode cX11_leastPairToTow 30 = .ok (.iload 5, 2) := by decide +kernel
theorem dX11_leastPairToTow_32 : decode cX11_leastPairToTow 32 = .ok (.ishl, 1) := by decide +kernel
theorem dX11_leastPairToTow_33 : decode cX11_leastPairToTow 33 = .ok (.ior, 1) := by decide +kernel
theorem dX11_leastPairToTow_34 : decode cX11_leastPairToTow 34 = .ok (.istore 6, 2) := by decide +kernel
theorem dX11_leastPairToTow_36 : decode cX11_leastPairToTow 36 = .ok (.aload_n 0, 1) := by decide +kernel
theorem dX11_leastPairToTow_37 : decode cX11_leastPairToTow 37 = .ok (.getfield 40, 3) := by decide +kernel
theorem dX11_leastPairToTow_40 : decode cX11_leastPairToTow 40 = .ok (.getfield 236, 3) := by decide +kernel
theorem dX11_leastPairToTow_43 : decode cX11_leastPairToTow 43 = .ok (.iload 6, 2) := by decide +kernel
theorem dX11_leastPairToTow_45 : decode cX11_leastPairToTow 45 = .ok (.iand, 1) := by decide +kernel
theorem dX11_leastPairToTow_46 : decode cX11_leastPairToTow 46 = .ok (.iload 6, 2) := by decide +kernel
theorem dX11_leastPairToTow_48 : decode cX11_leastPairToTow 48 = .ok (.if_icmp .ne 18, 3) := by decide +kernel
theorem dX11_leastPairToTow_51 : decode cX11_leastPairToTow 51 = .ok (.aload_n 0, 1) := by decide +kernel
theorem dX11_leastPairToTow_52 : decode cX11_leastPairToTow 52 = .ok (.iload 6, 2) := by decide +kernel
theorem dX11_leastPairToTow_54 : decode cX11_leastPairToTow 54 = .ok (.iload_n 1, 1) := by decide +kernel
theorem dX11_leastPairToTow_55 : decode cX11_leastPairToTow 55 = .ok (.iload_n 3, 1) := by decide +kernel
theorem dX11_leastPairToTow_56 : decode cX11_leastPairToTow 56 = .ok (.invokevirtual 221, 3) := by decide +kernel
theorem dX11_leastPairToTow_59 : decode cX11_leastPairToTow 59 = .ok (.iload_n 2, 1) := by decide +kernel
theorem dX11_leastPairToTow_60 : decode cX11_leastPairToTow 60 = .ok (.if_icmp .ge 6, 3) := by decide +kernel
theorem dX11_leastPairToTow_63 : decode cX11_leastPairToTow 63 = .ok (.iload 6, 2) := by decide +kernel
theorem dX11_leastPairToTow_65 : decode cX11_leastPairToTow 65 = .ok (.ireturn, 1) := by decide +kernel
theorem dX11_leastPairToTow_66 : decode cX11_leastPairToTow 66 = .ok (.iinc 5 1, 3) := by decide +kernel
theorem dX11_leastPairToTow_69 : decode cX11_leastPairToTow 69 = .ok (.goto (-51), 3) := by decide +kernel
theorem dX11_leastPairToTow_72 : decode cX11_leastPairToTow 72 = .ok (.iinc 4 1, 3) := by decide +kernel
theorem dX11_leastPairToTow_75 : decode cX11_leastPairToTow 75 = .ok (.goto (-72), 3) := by decide +kernel
theorem dX11_leastPairToTow_78 : decode cX11_leastPairToTow 78 = .ok (.iconst 0, 1) := by decide +kernel
theorem dX11_leastPairToTow_79 : decode cX11_leastPairToTow 79 = .ok (.ireturn, 1) := by decide +kernel
theorem dX11_liesAs_0 : decode cX11_liesAs 0 = .ok (.iconst 0, 1) := by decide +kernel
theorem dX11_liesAs_1 : decode cX11_liesAs 1 = .ok (.istore_n 2, 1) := by decide +kernel
theorem dX11_liesAs_2 : decode cX11_liesAs 2 = .ok (.iload_n 2, 1) := by decide +kernel
theorem dX11_liesAs_3 : decode cX11_liesAs 3 = .ok (.aload_n 0, 1) := by decide +kernel
theorem dX11_liesAs_4 : decode cX11_liesAs 4 = .ok (.getfield 44, 3) := by decide +kernel
theorem dX11_liesAs_7 : decode cX11_liesAs 7 = .ok (.getfield 88, 3) := by decide +kernel
theorem dX11_liesAs_10 : decode cX11_liesAs 10 = .ok (.if_icmp .ge 31, 3) := by decide +kernel
theorem dX11_liesAs_13 : decode cX11_liesAs 13 = .ok (.aload_n 0, 1) := by decide +kernel
theorem dX11_liesAs_14 : decode cX11_liesAs 14 = .ok (.getfield 66, 3) := by decide +kernel
theorem dX11_liesAs_17 : decode cX11_liesAs 17 = .ok (.iload_n 1, 1) := by decide +kernel
theorem dX11_liesAs_18 : decode cX11_liesAs 18 = .ok (.aaload, 1) := by decide +kernel
theorem dX11_liesAs_19 : decode cX11_liesAs 19 = .ok (.iload_n 2, 1) := by decide +kernel
theorem dX11_liesAs_20 : decode cX11_liesAs 20 = .ok (.iaload, 1) := by decide +kernel
theorem dX11_liesAs_21 : decode cX11_liesAs 21 = .ok (.aload_n 0, 1) := by decide +kernel
theorem dX11_liesAs_22 : decode cX11_liesAs 22 = .ok (.getfield 44, 3) := by decide +kernel
theorem dX11_liesAs_25 : decode cX11_liesAs 25 = .ok (.getfield 97, 3) := by decide +kernel
theorem dX11_liesAs_28 : decode cX11_liesAs 28 = .ok (.iload_n 2, 1) := by decide +kernel
theorem dX11_liesAs_29 : decode cX11_liesAs 29 = .ok (.iaload, 1) := by decide +kernel
theorem dX11_liesAs_30 : decode cX11_liesAs 30 = .ok (.if_icmp .eq 5, 3) := by decide +kernel
theorem dX11_liesAs_33 : decode cX11_liesAs 33 = .ok (.iconst 0, 1) := by decide +kernel
theorem dX11_liesAs_34 : decode cX11_liesAs 34 = .ok (.ireturn, 1) := by decide +kernel
theorem dX11_liesAs_35 : decode cX11_liesAs 35 = .ok (.iinc 2 1, 3) := by decide +kernel
theorem dX11_liesAs_38 : decode cX11_liesAs 38 = .ok (.goto (-36), 3) := by decide +kernel
theorem dX11_liesAs_41 : decode cX11_liesAs 41 = .ok (.iconst 1, 1) := by decide +kernel
theorem dX11_liesAs_42 : decode cX11_liesAs 42 = .ok (.ireturn, 1) := by decide +kernel
theorem dX11_commonPart_0 : decode cX11_commonPart 0 = .ok (.iload_n 1, 1) := by decide +kernel
theorem dX11_commonPart_1 : decode cX11_commonPart 1 = .ok (.istore_n 2, 1) := by decide +kernel
theorem dX11_commonPart_2 : decode cX11_commonPart 2 = .ok (.iload_n 2, 1) := by decide +kernel
theorem dX11_commonPart_3 : decode cX11_commonPart 3 = .ok (.iconst 1, 1) := by decide +kernel
theorem dX11_commonPart_4 : decode cX11_commonPart 4 = .ok (.if_icmp .le 23, 3) := by decide +kernel
theorem dX11_commonPart_7 : decode cX11_commonPart 7 = .ok (.iload_n 0, 1) := by decide +kernel
theorem dX11_commonPart_8 : decode cX11_commonPart 8 = .ok (.iload_n 2, 1) := by decide +kernel
theorem dX11_commonPart_9 : decode cX11_commonPart 9 = .ok (.irem, 1) := by decide +kernel
theorem dX11_commonPart_10 : decode cX11_commonPart 10 = .ok (.ifCond .ne 11, 3) := by decide +kernel
theorem dX11_commonPart_13 : decode cX11_commonPart 13 = .ok (.iload_n 1, 1) := by decide +kernel
theorem dX11_commonPart_14 : decode cX11_commonPart 14 = .ok (.iload_n 2, 1) := by decide +kernel
theorem dX11_commonPart_15 : decode cX11_commonPart 15 = .ok (.irem, 1) := by decide +kernel
theorem dX11_commonPart_16 : decode cX11_commonPart 16 = .ok (.ifCond .ne 5, 3) := by decide +kernel
theorem dX11_commonPart_19 : decode cX11_commonPart 19 = .ok (.iload_n 2, 1) := by decide +kernel
theorem dX11_commonPart_20 : decode cX11_commonPart 20 = .ok (.ireturn, 1) := by decide +kernel
theorem dX11_commonPart_21 : decode cX11_commonPart 21 = .ok (.iinc 2 (-1), 3) := by decide +kernel
theorem dX11_commonPart_24 : decode cX11_commonPart 24 = .ok (.goto (-22), 3) := by decide +kernel
theorem dX11_commonPart_27 : decode cX11_commonPart 27 = .ok (.iconst 1, 1) := by decide +kernel
theorem dX11_commonPart_28 : decode cX11_commonPart 28 = .ok (.ireturn, 1) := by decide +kernel
theorem dX11_isSheet_0 : decode cX11_isSheet 0 = .ok (.iload_n 0, 1) := by decide +kernel
theorem dX11_isSheet_1 : decode cX11_isSheet 1 = .ok (.iconst 0, 1) := by decide +kernel
theorem dX11_isSheet_2 : decode cX11_isSheet 2 = .ok (.iconst 3, 1) := by decide +kernel
theorem dX11_isSheet_3 : decode cX11_isSheet 3 = .ok (.invokestatic 79, 3) := by decide +kernel
theorem dX11_isSheet_6 : decode cX11_isSheet 6 = .ok (.ireturn, 1) := by decide +kernel
theorem dX11_isWidth_0 : decode cX11_isWidth 0 = .ok (.iload_n 0, 1) := by decide +kernel
theorem dX11_isWidth_1 : decode cX11_isWidth 1 = .ok (.ifCond .eq 21, 3) := by decide +kernel
theorem dX11_isWidth_4 : decode cX11_isWidth 4 = .ok (.iload_n 0, 1) := by decide +kernel
theorem dX11_isWidth_5 : decode cX11_isWidth 5 = .ok (.bipush 8, 2) := by decide +kernel
theorem dX11_isWidth_7 : decode cX11_isWidth 7 = .ok (.if_icmp .eq 15, 3) := by decide +kernel
theorem dX11_isWidth_10 : decode cX11_isWidth 10 = .ok (.iload_n 0, 1) := by decide +kernel
theorem dX11_isWidth_11 : decode cX11_isWidth 11 = .ok (.bipush 16, 2) := by decide +kernel
theorem dX11_isWidth_13 : decode cX11_isWidth 13 = .ok (.if_icmp .eq 9, 3) := by decide +kernel
theorem dX11_isWidth_16 : decode cX11_isWidth 16 = .ok (.iload_n 0, 1) := by decide +kernel
theorem dX11_isWidth_17 : decode cX11_isWidth 17 = .ok (.bipush 32, 2) := by decide +kernel
theorem dX11_isWidth_19 : decode cX11_isWidth 19 = .ok (.if_icmp .ne 7, 3) := by decide +kernel
theorem dX11_isWidth_22 : decode cX11_isWidth 22 = .ok (.iconst 1, 1) := by decide +kernel
theorem dX11_isWidth_23 : decode cX11_isWidth 23 = .ok (.goto 4, 3) := by decide +kernel
theorem dX11_isWidth_26 : decode cX11_isWidth 26 = .ok (.iconst 0, 1) := by decide +kernel
theorem dX11_isWidth_27 : decode cX11_isWidth 27 = .ok (.ireturn, 1) := by decide +kernel
theorem dX11_lowestBits_0 : decode cX11_lowestBits 0 = .ok (.iload_n 0, 1) := by decide +kernel
theorem dX11_lowestBits_1 : decode cX11_lowestBits 1 = .ok (.bipush 8, 2) := by decide +kernel
theorem dX11_lowestBits_3 : decode cX11_lowestBits 3 = .ok (.if_icmp .ne 6, 3) := by decide +kernel
theorem dX11_lowestBits_6 : decode cX11_lowestBits 6 = .ok (.iload_n 1, 1) := by decide +kernel
theorem dX11_lowestBits_7 : decode cX11_lowestBits 7 = .ok (.i2b, 1) := by decide +kernel
theorem dX11_lowestBits_8 : decode cX11_lowestBits 8 = .ok (.ireturn, 1) := by decide +kernel
theorem dX11_lowestBits_9 : decode cX11_lowestBits 9 = .ok (.iload_n 0, 1) := by decide +kernel
theorem dX11_lowestBits_10 : decode cX11_lowestBits 10 = .ok (.bipush 16, 2) := by decide +kernel
theorem dX11_lowestBits_12 : decode cX11_lowestBits 12 = .ok (.if_icmp .ne 8, 3) := by decide +kernel
theorem dX11_lowestBits_15 : decode cX11_lowestBits 15 = .ok (.iload_n 1, 1) := by decide +kernel
theorem dX11_lowestBits_16 : decode cX11_lowestBits 16 = .ok (.i2s, 1) := by decide +kernel
theorem dX11_lowestBits_17 : decode cX11_lowestBits 17 = .ok (.goto 4, 3) := by decide +kernel
theorem dX11_lowestBits_20 : decode cX11_lowestBits 20 = .ok (.iload_n 1, 1) := by decide +kernel
theorem dX11_lowestBits_21 : decode cX11_lowestBits 21 = .ok (.ireturn, 1) := by decide +kernel
theorem dX11_stand_0 : decode cX11_stand 0 = .ok (.iload_n 3, 1) := by decide +kernel
theorem dX11_stand_1 : decode cX11_stand 1 = .ok (.ifCond .lt 23, 3) := by decide +kernel
theorem dX11_stand_4 : decode cX11_stand 4 = .ok (.iload_n 2, 1) := by decide +kernel
theorem dX11_stand_5 : decode cX11_stand 5 = .ok (.ifCond .lt 19, 3) := by decide +kernel
theorem dX11_stand_8 : decode cX11_stand 8 = .ok (.iload_n 3, 1) := by decide +kernel
theorem dX11_stand_9 : decode cX11_stand 9 = .ok (.aload_n 0, 1) := by decide +kernel
theorem dX11_stand_10 : decode cX11_stand 10 = .ok (.getfield 73, 3) := by decide +kernel
theorem dX11_stand_13 : decode cX11_stand 13 = .ok (.iload_n 1, 1) := by decide +kernel
theorem dX11_stand_14 : decode cX11_stand 14 = .ok (.iaload, 1) := by decide +kernel
theorem dX11_stand_15 : decode cX11_stand 15 = .ok (.iload_n 2, 1) := by decide +kernel
theorem dX11_stand_16 : decode cX11_stand 16 = .ok (.isub, 1) := by decide +kernel
theorem dX11_stand_17 : decode cX11_stand 17 = .ok (.if_icmp .gt 7, 3) := by decide +kernel
theorem dX11_stand_20 : decode cX11_stand 20 = .ok (.iconst 1, 1) := by decide +kernel
theorem dX11_stand_21 : decode cX11_stand 21 = .ok (.goto 4, 3) := by decide +kernel
theorem dX11_stand_24 : decode cX11_stand 24 = .ok (.iconst 0, 1) := by decide +kernel
theorem dX11_stand_25 : decode cX11_stand 25 = .ok (.ireturn, 1) := by decide +kernel
theorem dX12_init_0 : decode cX12_init 0 = .ok (.aload_n 0, 1) := by decide +kernel
theorem dX12_init_1 : decode cX12_init 1 = .ok (.invokespecial 1, 3) := by decide +kernel
theorem dX12_init_4 : decode cX12_init 4 = .ok (.aload_n 0, 1) := by decide +kernel
theorem dX12_init_5 : decode cX12_init 5 = .ok (.sipush 240, 3) := by decide +kernel
theorem dX12_init_8 : decode cX12_init 8 = .ok (.newarray .int, 2) := by decide +kernel
theorem dX12_init_10 : decode cX12_init 10 = .ok (.putfield 7, 3) := by decide +kernel
theorem dX12_init_13 : decode cX12_init 13 = .ok (.aload_n 0, 1) := by decide +kernel
theorem dX12_init_14 : decode cX12_init 14 = .ok (.sipush 240, 3) := by decide +kernel
theorem dX12_init_17 : decode cX12_init 17 = .ok (.newarray .int, 2) := by decide +kernel
theorem dX12_init_19 : decode cX12_init 19 = .ok (.putfield 13, 3) := by decide +kernel
theorem dX12_init_22 : decode cX12_init 22 = .ok (.aload_n 0, 1) := by decide +kernel
theorem dX12_init_23 : decode cX12_init 23 = .ok (.sipush 240, 3) := by decide +kernel
theorem dX12_init_26 : decode cX12_init 26 = .ok (.newarray .int, 2) := by decide +kernel
theorem dX12_init_28 : decode cX12_init 28 = .ok (.putfield 16, 3) := by decide +kernel
theorem dX12_init_31 : decode cX12_init 31 = .ok (.aload_n 0, 1) := by decide +kernel
theorem dX12_init_32 : decode cX12_init 32 = .ok (.sipush 240, 3) := by decide +kernel
theorem dX12_init_35 : decode cX12_init 35 = .ok (.newarray .int, 2) := by decide +kernel
theorem dX12_init_37 : decode cX12_init 37 = .ok (.putfield 19, 3) := by decide +kernel
theorem dX12_init_40 : decode cX12_init 40 = .ok (.aload_n 0, 1) := by decide +kernel
theorem dX12_init_41 : decode cX12_init 41 = .ok (.bipush 6, 2) := by decide +kernel
theorem dX12_init_43 : decode cX12_init 43 = .ok (.newarray .int, 2) := by decide +kernel
theorem dX12_init_45 : decode cX12_init 45 = .ok (.putfield 22, 3) := by decide +kernel
theorem dX12_init_48 : decode cX12_init 48 = .ok (.aload_n 0, 1) := by decide +kernel
theorem dX12_init_49 : decode cX12_init 49 = .ok (.iconst 4, 1) := by decide +kernel
theorem dX12_init_50 : decode cX12_init 50 = .ok (.newarray .int, 2) := by decide +kernel
theorem dX12_init_52 : decode cX12_init 52 = .ok (.putfield 25, 3) := by decide +kernel
theorem dX12_init_55 : decode cX12_init 55 = .ok (.aload_n 0, 1) := by decide +kernel
theorem dX12_init_56 : decode cX12_init 56 = .ok (.iconst 4, 1) := by decide +kernel
theorem dX12_init_57 : decode cX12_init 57 = .ok (.newarray .int, 2) := by decide +kernel
theorem dX12_init_59 : decode cX12_init 59 = .ok (.putfield 28, 3) := by decide +kernel
theorem dX12_init_62 : decode cX12_init 62 = .ok (.aload_n 0, 1) := by decide +kernel
theorem dX12_init_63 : decode cX12_init 63 = .ok (.sipush 160, 3) := by decide +kernel
theorem dX12_init_66 : decode cX12_init 66 = .ok (.newarray .int, 2) := by decide +kernel
theorem dX12_init_68 : decode cX12_init 68 = .ok (.putfield 31, 3) := by decide +kernel
theorem dX12_init_71 : decode cX12_init 71 = .ok (.aload_n 0, 1) := by decide +kernel
theorem dX12_init_72 : decode cX12_init 72 = .ok (.bipush 40, 2) := by decide +kernel
theorem dX12_init_74 : decode cX12_init 74 = .ok (.newarray .int, 2) := by decide +kernel
theorem dX12_init_76 : decode cX12_init 76 = .ok (.putfield 34, 3) := by decide +kernel
theorem dX12_init_79 : decode cX12_init 79 = .ok (.aload_n 0, 1) := by decide +kernel
theorem dX12_init_80 : decode cX12_init 80 = .ok (.bipush 40, 2) := by decide +kernel
theorem dX12_init_82 : decode cX12_init 82 = .ok (.newarray .int, 2) := by decide +kernel
theorem dX12_init_84 : decode cX12_init 84 = .ok (.putfield 37, 3) := by decide +kernel
theorem dX12_init_87 : decode cX12_init 87 = .ok (.aload_n 0, 1) := by decide +kernel
theorem dX12_init_88 : decode cX12_init 88 = .ok (.getfield 7, 3) := by decide +kernel
theorem dX12_init_91 : decode cX12_init 91 = .ok (.iconst 1, 1) := by decide +kernel
theorem dX12_init_92 : decode cX12_init 92 = .ok (.iconst 1, 1) := by decide +kernel
theorem dX12_init_93 : decode cX12_init 93 = .ok (.iastore, 1) := by decide +kernel
theorem dX12_init_94 : decode cX12_init 94 = .ok (.aload_n 0, 1) := by decide +kernel
theorem dX12_init_95 : decode cX12_init 95 = .ok (.getfield 7, 3) := by decide +kernel
theorem dX12_init_98 : decode cX12_init 98 = .ok (.bipush 8, 2) := by decide +kernel
theorem dX12_init_100 : decode cX12_init 100 = .ok (.bipush 11, 2) := by decide +kernel
theorem dX12_init_102 : decode cX12_init 102 = .ok (.iastore, 1) := by decide +kernel
theorem dX12_init_103 : decode cX12_init 103 = .ok (.aload_n 0, 1) := by decide +kernel
theorem dX12_init_104 : decode cX12_init 104 = .ok (.getfield 7, 3) := by decide +kernel
theorem dX12_init_107 : decode cX12_init 107 = .ok (.iconst 5, 1) := by decide +kernel
theorem dX12_init_108 : decode cX12_init 108 = .ok (.iconst (-1), 1) := by decide +kernel
theorem dX12_init_109 : decode cX12_init 109 = .ok (.iastore, 1) := by decide +kernel
theorem dX12_init_110 : decode cX12_init 110 = .ok (.aload_n 0, 1) := by decide +kernel
theorem dX12_init_111 : decode cX12_init 111 = .ok (.getfield 7, 3) := by decide +kernel
theorem dX12_init_114 : decode cX12_init 114 = .ok (.bipush 6, 2) := by decide +kernel
theorem dX12_init_116 : decode cX12_init 116 = .ok (.iconst (-1), 1) := by decide +kernel
theorem dX12_init_117 : decode cX12_init 117 = .ok (.iastore, 1) := by decide +kernel
theorem dX12_init_118 : decode cX12_init 118 = .ok (.return_, 1) := by decide +kernel
theorem dX12_in_0 : decode cX12_in 0 = .ok (.iload_n 0, 1) := by decide +kernel
theorem dX12_in_1 : decode cX12_in 1 = .ok (.iload_n 1, 1) := by decide +kernel
theorem dX12_in_2 : decode cX12_in 2 = .ok (.if_icmp .lt 12, 3) := by decide +kernel
theorem dX12_in_5 : decode cX12_in 5 = .ok (.iload_n 0, 1) := by decide +kernel
theorem dX12_in_6 : decode cX12_in 6 = .ok (.iload_n 2, 1) := by decide +kernel
theorem dX12_in_7 : decode cX12_in 7 = .ok (.if_icmp .gt 7, 3) := by decide +kernel
theorem dX12_in_10 : decode cX12_in 10 = .ok (.iconst 1, 1) := by decide +kernel
theorem dX12_in_11 : decode cX12_in 11 = .ok (.goto 4, 3) := by decide +kernel
theorem dX12_in_14 : decode cX12_in 14 = .ok (.iconst 0, 1) := by decide +kernel
theorem dX12_in_15 : decode cX12_in 15 = .ok (.ireturn, 1) := by decide +kernel
theorem dX12_errs_0 : decode cX12_errs 0 = .ok (.aload_n 0, 1) := by decide +kernel
theorem dX12_errs_1 : decode cX12_errs 1 = .ok (.getfield 22, 3) := by decide +kernel
theorem dX12_errs_4 : decode cX12_errs 4 = .ok (.ldc 40, 2) := by decide +kernel
theorem dX12_errs_6 : decode cX12_errs 6 = .ok (.iload_n 1, 1) := by decide +kernel
theorem dX12_errs_7 : decode cX12_errs 7 = .ok (.isub, 1) := by decide +kernel
theorem dX12_errs_8 : decode cX12_errs 8 = .ok (.dup2, 1) := by decide +kernel
theorem dX12_errs_9 : decode cX12_errs 9 = .ok (.iaload, 1) := by decide +kernel
theorem dX12_errs_10 : decode cX12_errs 10 = .ok (.iconst 1, 1) := by decide +kernel
theorem dX12_errs_11 : decode cX12_errs 11 = .ok (.iadd, 1) := by decide +kernel
theorem dX12_errs_12 : decode cX12_errs 12 = .ok (.iastore, 1) := by decide +kernel
theorem dX12_errs_13 : decode cX12_errs 13 = .ok (.iload_n 1, 1) := by decide +kernel
theorem dX12_errs_14 : decode cX12_errs 14 = .ok (.ireturn, 1) := by decide +kernel
theorem dX12_held_0 : decode cX12_held 0 = .ok (.iload_n 0, 1) := by decide +kernel
theorem dX12_held_1 : decode cX12_held 1 = .ok (.iload_n 1, 1) := by decide +kernel
theorem dX12_held_2 : decode cX12_held 2 = .ok (.if_icmp .ge 7, 3) := by decide +kernel
theorem dX12_held_5 : decode cX12_held 5 = .ok (.iload_n 1, 1) := by decide +kernel
theorem dX12_held_6 : decode cX12_held 6 = .ok (.goto 13, 3) := by decide +kernel
theorem dX12_held_9 : decode cX12_held 9 = .ok (.iload_n 0, 1) := by decide +kernel
theorem dX12_held_10 : decode cX12_held 10 = .ok (.iload_n 2, 1) := by decide +kernel
theorem dX12_held_11 : decode cX12_held 11 = .ok (.if_icmp .le 7, 3) := by decide +kernel
theorem dX12_held_14 : decode cX12_held 14 = .ok (.iload_n 2, 1) := by decide +kernel
theorem dX12_held_15 : decode cX12_held 15 = .ok (.goto 4, 3) := by decide +kernel
theorem dX12_held_18 : decode cX12_held 18 = .ok (.iload_n 0, 1) := by decide +kernel
theorem dX12_held_19 : decode cX12_held 19 = .ok (.ireturn, 1) := by decide +kernel
theorem dX12_moveAll_0 : decode cX12_moveAll 0 = .ok (.iconst 0, 1) := by decide +kernel
theorem dX12_moveAll_1 : decode cX12_moveAll 1 = .ok (.istore_n 3, 1) := by decide +kernel
theorem dX12_moveAll_2 : decode cX12_moveAll 2 = .ok (.iload_n 3, 1) := by decide +kernel
theorem dX12_moveAll_3 : decode cX12_moveAll 3 = .ok (.sipush 240, 3) := by decide +kernel
theorem dX12_moveAll_6 : decode cX12_moveAll 6 = .ok (.if_icmp .ge 15, 3) := by decide +kernel
theorem dX12_moveAll_9 : decode cX12_moveAll 9 = .ok (.aload_n 2, 1) := by decide +kernel
theorem dX12_moveAll_10 : decode cX12_moveAll 10 = .ok (.iload_n 3, 1) := by decide +kernel
theorem dX12_moveAll_11 : decode cX12_moveAll 11 = .ok (.aload_n 1, 1) := by decide +kernel
theorem dX12_moveAll_12 : decode cX12_moveAll 12 = .ok (.iload_n 3, 1) := by decide +kernel
theorem dX12_moveAll_13 : decode cX12_moveAll 13 = .ok (.iaload, 1) := by decide +kernel
theorem dX12_moveAll_14 : decode cX12_moveAll 14 = .ok (.iastore, 1) := by decide +kernel
theorem dX12_moveAll_15 : decode cX12_moveAll 15 = .ok (.iinc 3 1, 3) := by decide +kernel
theorem dX12_moveAll_18 : decode cX12_moveAll 18 = .ok (.goto (-16), 3) := by decide +kernel
theorem dX12_moveAll_21 : decode cX12_moveAll 21 = .ok (.return_, 1) := by decide +kernel
theorem dX12_its_0 : decode cX12_its 0 = .ok (.aload_n 0, 1) := by decide +kernel
theorem dX12_its_1 : decode cX12_its 1 = .ok (.getfield 7, 3) := by decide +kernel
theorem dX12_its_4 : decode cX12_its 4 = .ok (.bipush 10, 2) := by decide +kernel
theorem dX12_its_6 : decode cX12_its 6 = .ok (.iconst 5, 1) := by decide +kernel
theorem dX12_its_7 : decode cX12_its 7 = .ok (.iload_n 1, 1) := by decide +kernel
theorem dX12_its_8 : decode cX12_its 8 = .ok (.imul, 1) := by decide +kernel
theorem dX12_its_9 : decode cX12_its 9 = .ok (.iadd, 1) := by decide +kernel
theorem dX12_its_10 : decode cX12_its 10 = .ok (.iload_n 2, 1) := by decide +kernel
theorem dX12_its_11 : decode cX12_its 11 = .ok (.iadd, 1) := by decide +kernel
theorem dX12_its_12 : decode cX12_its 12 = .ok (.iaload, 1) := by decide +kernel
theorem dX12_its_13 : decode cX12_its 13 = .ok (.ireturn, 1) := by decide +kernel
theorem dX12_gets_0 : decode cX12_gets 0 = .ok (.aload_n 0, 1) := by decide +kernel
theorem dX12_gets_1 : decode cX12_gets 1 = .ok (.getfield 7, 3) := by decide +kernel
theorem dX12_gets_4 : decode cX12_gets 4 = .ok (.bipush 10, 2) := by decide +kernel
theorem dX12_gets_6 : decode cX12_gets 6 = .ok (.iconst 5, 1) := by decide +kernel
theorem dX12_gets_7 : decode cX12_gets 7 = .ok (.iload_n 1, 1) := by decide +kernel
theorem dX12_gets_8 : decode cX12_gets 8 = .ok (.imul, 1) := by decide +kernel
theorem dX12_gets_9 : decode cX12_gets 9 = .ok (.iadd, 1) := by decide +kernel
theorem dX12_gets_10 : decode cX12_gets 10 = .ok (.iload_n 2, 1) := by decide +kernel
theorem dX12_gets_11 : decode cX12_gets 11 = .ok (.iadd, 1) := by decide +kernel
theorem dX12_gets_12 : decode cX12_gets 12 = .ok (.iload_n 3, 1) := by decide +kernel
theorem dX12_gets_13 : decode cX12_gets 13 = .ok (.iastore, 1) := by decide +kernel
theorem dX12_gets_14 : decode cX12_gets 14 = .ok (.return_, 1) := by decide +kernel
theorem dX12_isYard_0 : decode cX12_isYard 0 = .ok (.iload_n 1, 1) := by decide +kernel
theorem dX12_isYard_1 : decode cX12_isYard 1 = .ok (.iconst 0, 1) := by decide +kernel
theorem dX12_isYard_2 : decode cX12_isYard 2 = .ok (.aload_n 0, 1) := by decide +kernel
theorem dX12_isYard_3 : decode cX12_isYard 3 = .ok (.getfield 7, 3) := by decide +kernel
theorem dX12_isYard_6 : decode cX12_isYard 6 = .ok (.iconst 2, 1) := by decide +kernel
theorem dX12_isYard_7 : decode cX12_isYard 7 = .ok (.iaload, 1) := by decide +kernel
theorem dX12_isYard_8 : decode cX12_isYard 8 = .ok (.iconst 1, 1) := by decide +kernel
theorem dX12_isYard_9 : decode cX12_isYard 9 = .ok (.isub, 1) := by decide +kernel
theorem dX12_isYard_10 : decode cX12_isYard 10 = .ok (.invokestatic 41, 3) := by decide +kernel
theorem dX12_isYard_13 : decode cX12_isYard 13 = .ok (.ireturn, 1) := by decide +kernel
theorem dX12_becomes_0 : decode cX12_becomes 0 = .ok (.aload_n 0, 1) := by decide +kernel
theorem dX12_becomes_1 : decode cX12_becomes 1 = .ok (.getfield 7, 3) := by decide +kernel
theorem dX12_becomes_4 : decode cX12_becomes 4 = .ok (.iload_n 1, 1) := by decide +kernel
theorem dX12_becomes_5 : decode cX12_becomes 5 = .ok (.iaload, 1) := by decide +kernel
theorem dX12_becomes_6 : decode cX12_becomes 6 = .ok (.istore_n 3, 1) := by decide +kernel
theorem dX12_becomes_7 : decode cX12_becomes 7 = .ok (.aload_n 0, 1) := by decide +kernel
theorem dX12_becomes_8 : decode cX12_becomes 8 = .ok (.getfield 7, 3) := by decide +kernel
theorem dX12_becomes_11 : decode cX12_becomes 11 = .ok (.iload_n 1, 1) := by decide +kernel
theorem dX12_becomes_12 : decode cX12_becomes 12 = .ok (.iload_n 2, 1) := by decide +kernel
theorem dX12_becomes_13 : decode cX12_becomes 13 = .ok (.iastore, 1) := by decide +kernel
theorem dX12_becomes_14 : decode cX12_becomes 14 = .ok (.iload_n 3, 1) := by decide +kernel
theorem dX12_becomes_15 : decode cX12_becomes 15 = .ok (.ireturn, 1) := by decide +kernel
theorem dX12_yard_0 : decode cX12_yard 0 = .ok (.iload_n 1, 1) := by decide +kernel
theorem dX12_yard_1 : decode cX12_yard 1 = .ok (.iconst 0, 1) := by decide +kernel
theorem dX12_yard_2 : decode cX12_yard 2 = .ok (.bipush 69, 2) := by decide +kernel
theorem dX12_yard_4 : decode cX12_yard 4 = .ok (.invokestatic 41, 3) := by decide +kernel
theorem dX12_yard_7 : decode cX12_yard 7 = .ok (.ifCond .eq 24, 3) := by decide +kernel
theorem dX12_yard_10 : decode cX12_yard 10 = .ok (.iload_n 2, 1) := by decide +kernel
theorem dX12_yard_11 : decode cX12_yard 11 = .ok (.iconst 0, 1) := by decide +kernel
theorem dX12_yard_12 : decode cX12_yard 12 = .ok (.sipush 999, 3) := by decide +kernel
theorem dX12_yard_15 : decode cX12_yard 15 = .ok (.invokestatic 41, 3) := by decide +kernel
theorem dX12_yard_18 : decode cX12_yard 18 = .ok (.ifCond .eq 13, 3) := by decide +kernel
theorem dX12_yard_21 : decode cX12_yard 21 = .ok (.iload_n 3, 1) := by decide +kernel
theorem dX12_yard_22 : decode cX12_yard 22 = .ok (.iconst (-1), 1) := by decide +kernel
theorem dX12_yard_23 : decode cX12_yard 23 = .ok (.bipush 99, 2) := by decide +kernel
theorem dX12_yard_25 : decode cX12_yard 25 = .ok (.invokestatic 41, 3) := by decide +kernel
theorem dX12_yard_28 : decode cX12_yard 28 = .ok (.ifCond .ne 10, 3) := by decide +kernel
theorem dX12_yard_31 : decode cX12_yard 31 = .ok (.aload_n 0, 1) := by decide +kernel
theorem dX12_yard_32 : decode cX12_yard 32 = .ok (.ldc 45, 2) := by decide +kernel
theorem dX12_yard_34 : decode cX12_yard 34 = .ok (.invokevirtual 46, 3) := by decide +kernel
theorem dX12_yard_37 : decode cX12_yard 37 = .ok (.ireturn, 1) := by decide +kernel
theorem dX12_yard_38 : decode cX12_yard 38 = .ok (.aload_n 0, 1) := by decide +kernel
theorem dX12_yard_39 : decode cX12_yard 39 = .ok (.getfield 7, 3) := by decide +kernel
theorem dX12_yard_42 : decode cX12_yard 42 = .ok (.iconst 2, 1) := by decide +kernel
theorem dX12_yard_43 : decode cX12_yard 43 = .ok (.iaload, 1) := by decide +kernel
theorem dX12_yard_44 : decode cX12_yard 44 = .ok (.bipush 12, 2) := by decide +kernel
theorem dX12_yard_46 : decode cX12_yard 46 = .ok (.if_icmp .ne 10, 3) := by decide +kernel
theorem dX12_yard_49 : decode cX12_yard 49 = .ok (.aload_n 0, 1) := by decide +kernel
theorem dX12_yard_50 : decode cX12_yard 50 = .ok (.ldc 50, 2) := by decide +kernel
theorem dX12_yard_52 : decode cX12_yard 52 = .ok (.invokevirtual 46, 3) := by decide +kernel
theorem dX12_yard_55 : decode cX12_yard 55 = .ok (.ireturn, 1) := by decide +kernel
theorem dX12_yard_56 : decode cX12_yard 56 = .ok (.aload_n 0, 1) := by decide +kernel
theorem dX12_yard_57 : decode cX12_yard 57 = .ok (.getfield 7, 3) := by decide +kernel
theorem dX12_yard_60 : decode cX12_yard 60 = .ok (.iconst 2, 1) := by decide +kernel
theorem dX12_yard_61 : decode cX12_yard 61 = .ok (.iaload, 1) := by decide +kernel
theorem dX12_yard_62 : decode cX12_yard 62 = .ok (.istore 4, 2) := by decide +kernel
theorem dX12_yard_64 : decode cX12_yard 64 = .ok (.aload_n 0, 1) := by decide +kernel
theorem dX12_yard_65 : decode cX12_yard 65 = .ok (.iload 4, 2) := by decide +kernel
theorem dX12_yard_67 : decode cX12_yard 67 = .ok (.iconst 0, 1) := by decide +kernel
theorem dX12_yard_68 : decode cX12_yard 68 = .ok (.iload_n 1, 1) := by decide +kernel
theorem dX12_yard_69 : decode cX12_yard 69 = .ok (.bipush 10, 2) := by decide +kernel
theorem dX12_yard_71 : decode cX12_yard 71 = .ok (.idiv, 1) := by decide +kernel
theorem dX12_yard_72 : decode cX12_yard 72 = .ok (.invokevirtual 51, 3) := by decide +kernel
theorem dX12_yard_75 : decode cX12_yard 75 = .ok (.aload_n 0, 1) := by decide +kernel
theorem dX12_yard_76 : decode cX12_yard 76 = .ok (.iload 4, 2) := by decide +kernel
theorem dX12_yard_78 : decode cX12_yard 78 = .ok (.iconst 1, 1) := by decide +kernel
theorem dX12_yard_79 : decode cX12_yard 79 = .ok (.iload_n 1, 1) := by decide +kernel
theorem dX12_yard_80 : decode cX12_yard 80 = .ok (.bipush 10, 2) := by decide +kernel
theorem dX12_yard_82 : decode cX12_yard 82 = .ok (.irem, 1) := by decide +kernel
theorem dX12_yard_83 : decode cX12_yard 83 = .ok (.invokevirtual 51, 3) := by decide +kernel
theorem dX12_yard_86 : decode cX12_yard 86 = .ok (.aload_n 0, 1) := by decide +kernel
theorem dX12_yard_87 : decode cX12_yard 87 = .ok (.iload 4, 2) := by decide +kernel
theorem dX12_yard_89 : decode cX12_yard 89 = .ok (.iconst 2, 1) := by decide +kernel
theorem dX12_yard_90 : decode cX12_yard 90 = .ok (.iload_n 2, 1) := by decide +kernel
theorem dX12_yard_91 : decode cX12_yard 91 = .ok (.invokevirtual 51, 3) := by decide +kernel
theorem dX12_yard_94 : decode cX12_yard 94 = .ok (.aload_n 0, 1) := by decide +kernel
theorem dX12_yard_95 : decode cX12_yard 95 = .ok (.iload 4, 2) := by decide +kernel
theorem dX12_yard_97 : decode cX12_yard 97 = .ok (.iconst 3, 1) := by decide +kernel
theorem dX12_yard_98 : decode cX12_yard 98 = .ok (.iload_n 3, 1) := by decide +kernel
theorem dX12_yard_99 : decode cX12_yard 99 = .ok (.ifCond .ge 7, 3) := by decide +kernel
theorem dX12_yard_102 : decode cX12_yard 102 = .ok (.iconst 0, 1) := by decide +kernel
theorem dX12_yard_103 : decode cX12_yard 103 = .ok (.goto 4, 3) := by decide +kernel
theorem dX12_yard_106 : decode cX12_yard 106 = .ok (.iconst 1, 1) := by decide +kernel
theorem dX12_yard_107 : decode cX12_yard 107 = .ok (.invokevirtual 51, 3) := by decide +kernel
theorem dX12_yard_110 : decode cX12_yard 110 = .ok (.aload_n 0, 1) := by decide +kernel
theorem dX12_yard_111 : decode cX12_yard 111 = .ok (.iload 4, 2) := by decide +kernel
theorem dX12_yard_113 : decode cX12_yard 113 = .ok (.iconst 4, 1) := by decide +kernel
theorem dX12_yard_114 : decode cX12_yard 114 = .ok (.iload_n 3, 1) := by decide +kernel
theorem dX12_yard_115 : decode cX12_yard 115 = .ok (.ifCond .ge 7, 3) := by decide +kernel
theorem dX12_yard_118 : decode cX12_yard 118 = .ok (.iconst 0, 1) := by decide +kernel
theorem dX12_yard_119 : decode cX12_yard 119 = .ok (.goto 4, 3) := by decide +kernel
theorem dX12_yard_122 : decode cX12_yard 122 = .ok (.iload_n 3, 1) := by decide +kernel
theorem dX12_yard_123 : decode cX12_yard 123 = .ok (.invokevirtual 51, 3) := by decide +kernel
theorem dX12_yard_126 : decode cX12_yard 126 = .ok (.aload_n 0, 1) := by decide +kernel
theorem dX12_yard_127 : decode cX12_yard 127 = .ok (.getfield 7, 3) := by decide +kernel
theorem dX12_yard_130 : decode cX12_yard 130 = .ok (.iconst 2, 1) := by decide +kernel
theorem dX12_yard_131 : decode cX12_yard 131 = .ok (.dup2, 1) := by decide +kernel
theorem dX12_yard_132 : decode cX12_yard 132 = .ok (.iaload, 1) := by decide +kernel
theorem dX12_yard_133 : decode cX12_yard 133 = .ok (.iconst 1, 1) := by decide +kernel
theorem dX12_yard_134 : decode cX12_yard 134 = .ok (.iadd, 1) := by decide +kernel
theorem dX12_yard_135 : decode cX12_yard 135 = .ok (.iastore, 1) := by decide +kernel
theorem dX12_yard_136 : decode cX12_yard 136 = .ok (.iload 4, 2) := by decide +kernel
theorem dX12_yard_138 : decode cX12_yard 138 = .ok (.ireturn, 1) := by decide +kernel
theorem dX12_ofYard_0 : decode cX12_ofYard 0 = .ok (.aload_n 0, 1) := by decide +kernel
theorem dX12_ofYard_1 : decode cX12_ofYard 1 = .ok (.iload_n 1, 1) := by decide +kernel
theorem dX12_ofYard_2 : decode cX12_ofYard 2 = .ok (.invokevirtual 55, 3) := by decide +kernel
theorem dX12_ofYard_5 : decode cX12_ofYard 5 = .ok (.ifCond .eq 13, 3) := by decide +kernel
theorem dX12_ofYard_8 : decode cX12_ofYard 8 = .ok (.iload_n 2, 1) := by decide +kernel
theorem dX12_ofYard_9 : decode cX12_ofYard 9 = .ok (.iconst 0, 1) := by decide +kernel
theorem dX12_ofYard_10 : decode cX12_ofYard 10 = .ok (.bipush 6, 2) := by decide +kernel
theorem dX12_ofYard_12 : decode cX12_ofYard 12 = .ok (.invokestatic 41, 3) := by decide +kernel
theorem dX12_ofYard_15 : decode cX12_ofYard 15 = .ok (.ifCond .ne 10, 3) := by decide +kernel
theorem dX12_ofYard_18 : decode cX12_ofYard 18 = .ok (.aload_n 0, 1) := by decide +kernel
theorem dX12_ofYard_19 : decode cX12_ofYard 19 = .ok (.ldc 45, 2) := by decide +kernel
theorem dX12_ofYard_21 : decode cX12_ofYard 21 = .ok (.invokevirtual 46, 3) := by decide +kernel
theorem dX12_ofYard_24 : decode cX12_ofYard 24 = .ok (.ireturn, 1) := by decide +kernel
theorem dX12_ofYard_25 : decode cX12_ofYard 25 = .ok (.iload_n 2, 1) := by decide +kernel
theorem dX12_ofYard_26 : decode cX12_ofYard 26 = .ok (.iconst 5, 1) := by decide +kernel
theorem dX12_ofYard_27 : decode cX12_ofYard 27 = .ok (.if_icmp .ge 12, 3) := by decide +kernel
theorem dX12_ofYard_30 : decode cX12_ofYard 30 = .ok (.aload_n 0, 1) := by decide +kernel
theorem dX12_ofYard_31 : decode cX12_ofYard 31 = .ok (.iload_n 1, 1) := by decide +kernel
theorem dX12_ofYard_32 : decode cX12_ofYard 32 = .ok (.iload_n 2, 1) := by decide +kernel
theorem dX12_ofYard_33 : decode cX12_ofYard 33 = .ok (.invokevirtual 59, 3) := by decide +kernel
theorem dX12_ofYard_36 : decode cX12_ofYard 36 = .ok (.goto 21, 3) := by decide +kernel
theorem dX12_ofYard_39 : decode cX12_ofYard 39 = .ok (.iload_n 2, 1) := by decide +kernel
theorem dX12_ofYard_40 : decode cX12_ofYard 40 = .ok (.iconst 5, 1) := by decide +kernel
theorem dX12_ofYard_41 : decode cX12_ofYard 41 = .ok (.if_icmp .ne 11, 3) := by decide +kernel
theorem dX12_ofYard_44 : decode cX12_ofYard 44 = .ok (.aload_n 0, 1) := by decide +kernel
theorem dX12_ofYard_45 : decode cX12_ofYard 45 = .ok (.iload_n 1, 1) := by decide +kernel
theorem dX12_ofYard_46 : decode cX12_ofYard 46 = .ok (.invokevirtual 63, 3) := by decide +kernel
theorem dX12_ofYard_49 : decode cX12_ofYard 49 = .ok (.goto 8, 3) := by decide +kernel
theorem dX12_ofYard_52 : decode cX12_ofYard 52 = .ok (.aload_n 0, 1) := by decide +kernel
theorem dX12_ofYard_53 : decode cX12_ofYard 53 = .ok (.iload_n 1, 1) := by decide +kernel
theorem dX12_ofYard_54 : decode cX12_ofYard 54 = .ok (.invokevirtual 66, 3) := by decide +kernel
theorem dX12_ofYard_57 : decode cX12_ofYard 57 = .ok (.ireturn, 1) := by decide +kernel
theorem dX12_change_0 : decode cX12_change 0 = .ok (.iload_n 2, 1) := by decide +kernel
theorem dX12_change_1 : decode cX12_change 1 = .ok (.ifCond .ne 14, 3) := by decide +kernel
theorem dX12_change_4 : decode cX12_change 4 = .ok (.iload_n 3, 1) := by decide +kernel
theorem dX12_change_5 : decode cX12_change 5 = .ok (.iconst 0, 1) := by decide +kernel
theorem dX12_change_6 : decode cX12_change 6 = .ok (.sipush 999, 3) := by decide +kernel
theorem dX12_change_9 : decode cX12_change 9 = .ok (.invokestatic 41, 3) := by decide +kernel
theorem dX12_change_12 : decode cX12_change 12 = .ok (.goto 37, 3) := by decide +kernel
theorem dX12_change_15 : decode cX12_change 15 = .ok (.iload_n 2, 1) := by decide +kernel
theorem dX12_change_16 : decode cX12_change 16 = .ok (.iconst 1, 1) := by decide +kernel
theorem dX12_change_17 : decode cX12_change 17 = .ok (.if_icmp .ne 12, 3) := by decide +kernel
theorem dX12_change_20 : decode cX12_change 20 = .ok (.iload_n 3, 1) := by decide +kernel
theorem dX12_change_21 : decode cX12_change 21 = .ok (.iconst 0, 1) := by decide +kernel
theorem dX12_change_22 : decode cX12_change 22 = .ok (.iconst 1, 1) := by decide +kernel
theorem dX12_change_23 : decode cX12_change 23 = .ok (.invokestatic 41, 3) := by decide +kernel
theorem dX12_change_26 : decode cX12_change 26 = .ok (.goto 23, 3) := by decide +kernel
theorem dX12_change_29 : decode cX12_change 29 = .ok (.iload_n 2, 1) := by decide +kernel
theorem dX12_change_30 : decode cX12_change 30 = .ok (.iconst 2, 1) := by decide +kernel
theorem dX12_change_31 : decode cX12_change 31 = .ok (.if_icmp .ne 17, 3) := by decide +kernel
theorem dX12_change_34 : decode cX12_change 34 = .ok (.iload_n 3, 1) := by decide +kernel
theorem dX12_change_35 : decode cX12_change 35 = .ok (.iconst 0, 1) := by decide +kernel
theorem dX12_change_36 : decode cX12_change 36 = .ok (.bipush 99, 2) := by decide +kernel
theorem dX12_change_38 : decode cX12_change 38 = .ok (.invokestatic 41, 3) := by decide +kernel
theorem dX12_change_41 : decode cX12_change 41 = .ok (.ifCond .eq 7, 3) := by decide +kernel
theorem dX12_change_44 : decode cX12_change 44 = .ok (.iconst 1, 1) := by decide +kernel
theorem dX12_change_45 : decode cX12_change 45 = .ok (.goto 4, 3) := by decide +kernel
theorem dX12_change_48 : decode cX12_change 48 = .ok (.iconst 0, 1) := by decide +kernel
theorem dX12_change_49 : decode cX12_change 49 = .ok (.istore 4, 2) := by decide +kernel
theorem dX12_change_51 : decode cX12_change 51 = .ok (.aload_n 0, 1) := by decide +kernel
theorem dX12_change_52 : decode cX12_change 52 = .ok (.iload_n 1, 1) := by decide +kernel
theorem dX12_change_53 : decode cX12_change 53 = .ok (.invokevirtual 55, 3) := by decide +kernel
theorem dX12_change_56 : decode cX12_change 56 = .ok (.ifCond .eq 26, 3) := by decide +kernel
theorem dX12_change_59 : decode cX12_change 59 = .ok (.iload 4, 2) := by decide +kernel
theorem dX12_change_61 : decode cX12_change 61 = .ok (.ifCond .eq 21, 3) := by decide +kernel
theorem dX12_change_64 : decode cX12_change 64 = .ok (.aload_n 0, 1) := by decide +kernel
theorem dX12_change_65 : decode cX12_change 65 = .ok (.bipush 10, 2) := by decide +kernel
theorem dX12_change_67 : decode cX12_change 67 = .ok (.iconst 5, 1) := by decide +kernel
theorem dX12_change_68 : decode cX12_change 68 = .ok (.iload_n 1, 1) := by decide +kernel
theorem dX12_change_69 : decode cX12_change 69 = .ok (.imul, 1) := by decide +kernel
theorem dX12_change_70 : decode cX12_change 70 = .ok (.iadd, 1) := by decide +kernel
theorem dX12_change_71 : decode cX12_change 71 = .ok (.iconst 2, 1) := by decide +kernel
theorem dX12_change_72 : decode cX12_change 72 = .ok (.iadd, 1) := by decide +kernel
theorem dX12_change_73 : decode cX12_change 73 = .ok (.iload_n 2, 1) := by decide +kernel
theorem dX12_change_74 : decode cX12_change 74 = .ok (.iadd, 1) := by decide +kernel
theorem dX12_change_75 : decode cX12_change 75 = .ok (.iload_n 3, 1) := by decide +kernel
theorem dX12_change_76 : decode cX12_change 76 = .ok (.invokevirtual 69, 3) := by decide +kernel
theorem dX12_change_79 : decode cX12_change 79 = .ok (.goto 9, 3) := by decide +kernel
theorem dX12_change_82 : decode cX12_change 82 = .ok (.aload_n 0, 1) := by decide +kernel
theorem dX12_change_83 : decode cX12_change 83 = .ok (.ldc 45, 2) := by decide +kernel
theorem dX12_change_85 : decode cX12_change 85 = .ok (.invokevirtual 46, 3) := by decide +kernel
theorem dX12_change_88 : decode cX12_change 88 = .ok (.ireturn, 1) := by decide +kernel
theorem dX12_set_0 : decode cX12_set 0 = .ok (.iload_n 1, 1) := by decide +kernel
theorem dX12_set_1 : decode cX12_set 1 = .ok (.ifCond .ne 13, 3) := by decide +kernel
theorem dX12_set_4 : decode cX12_set 4 = .ok (.iload_n 2, 1) := by decide +kernel
theorem dX12_set_5 : decode cX12_set 5 = .ok (.iconst 0, 1) := by decide +kernel
theorem dX12_set_6 : decode cX12_set 6 = .ok (.bipush 9, 2) := by decide +kernel
theorem dX12_set_8 : decode cX12_set 8 = .ok (.invokestatic 41, 3) := by decide +kernel
theorem dX12_set_11 : decode cX12_set 11 = .ok (.goto 38, 3) := by decide +kernel
theorem dX12_set_14 : decode cX12_set 14 = .ok (.iload_n 1, 1) := by decide +kernel
theorem dX12_set_15 : decode cX12_set 15 = .ok (.iconst 1, 1) := by decide +kernel
theorem dX12_set_16 : decode cX12_set 16 = .ok (.if_icmp .ne 13, 3) := by decide +kernel
theorem dX12_set_19 : decode cX12_set 19 = .ok (.iload_n 2, 1) := by decide +kernel
theorem dX12_set_20 : decode cX12_set 20 = .ok (.iconst 0, 1) := by decide +kernel
theorem dX12_set_21 : decode cX12_set 21 = .ok (.bipush 99, 2) := by decide +kernel
theorem dX12_set_23 : decode cX12_set 23 = .ok (.invokestatic 41, 3) := by decide +kernel
theorem dX12_set_26 : decode cX12_set 26 = .ok (.goto 23, 3) := by decide +kernel
theorem dX12_set_29 : decode cX12_set 29 = .ok (.iload_n 1, 1) := by decide +kernel
theorem dX12_set_30 : decode cX12_set 30 = .ok (.iconst 2, 1) := by decide +kernel
theorem dX12_set_31 : decode cX12_set 31 = .ok (.if_icmp .ne 17, 3) := by decide +kernel
theorem dX12_set_34 : decode cX12_set 34 = .ok (.iload_n 2, 1) := by decide +kernel
theorem dX12_set_35 : decode cX12_set 35 = .ok (.iconst 0, 1) := by decide +kernel
theorem dX12_set_36 : decode cX12_set 36 = .ok (.ldc 72, 2) := by decide +kernel
theorem dX12_set_38 : decode cX12_set 38 = .ok (.invokestatic 41, 3) := by decide +kernel
theorem dX12_set_41 : decode cX12_set 41 = .ok (.ifCond .eq 7, 3) := by decide +kernel
theorem dX12_set_44 : decode cX12_set 44 = .ok (.iconst 1, 1) := by decide +kernel
theorem dX12_set_45 : decode cX12_set 45 = .ok (.goto 4, 3) := by decide +kernel
theorem dX12_set_48 : decode cX12_set 48 = .ok (.iconst 0, 1) := by decide +kernel
theorem dX12_set_49 : decode cX12_set 49 = .ok (.istore_n 3, 1) := by decide +kernel
theorem dX12_set_50 : decode cX12_set 50 = .ok (.iload_n 3, 1) := by decide +kernel
theorem dX12_set_51 : decode cX12_set 51 = .ok (.ifCond .eq 15, 3) := by decide +kernel
theorem dX12_set_54 : decode cX12_set 54 = .ok (.aload_n 0, 1) := by decide +kernel
theorem dX12_set_55 : decode cX12_set 55 = .ok (.bipush 7, 2) := by decide +kernel
theorem dX12_set_57 : decode cX12_set 57 = .ok (.iload_n 1, 1) := by decide +kernel
theorem dX12_set_58 : decode cX12_set 58 = .ok (.iadd, 1) := by decide +kernel
theorem dX12_set_59 : decode cX12_set 59 = .ok (.iload_n 2, 1) := by decide +kernel
theorem dX12_set_60 : decode cX12_set 60 = .ok (.invokevirtual 69, 3) := by decide +kernel
theorem dX12_set_63 : decode cX12_set 63 = .ok (.goto 9, 3) := by decide +kernel
theorem dX12_set_66 : decode cX12_set 66 = .ok (.aload_n 0, 1) := by decide +kernel
theorem dX12_set_67 : decode cX12_set 67 = .ok (.ldc 45, 2) := by decide +kernel
theorem dX12_set_69 : decode cX12_set 69 = .ok (.invokevirtual 46, 3) := by decide +kernel
theorem dX12_set_72 : decode cX12_set 72 = .ok (.ireturn, 1) := by decide +kernel
theorem dX12_become_0 : decode cX12_become 0 = .ok (.aload_n 0, 1) := by decide +kernel
theorem dX12_become_1 : decode cX12_become 1 = .ok (.iload_n 1, 1) := by decide +kernel
theorem dX12_become_2 : decode cX12_become 2 = .ok (.invokevirtual 55, 3) := by decide +kernel
theorem dX12_become_5 : decode cX12_become 5 = .ok (.ifCond .eq 13, 3) := by decide +kernel
theorem dX12_become_8 : decode cX12_become 8 = .ok (.iload_n 2, 1) := by decide +kernel
theorem dX12_become_9 : decode cX12_become 9 = .ok (.iconst 0, 1) := by decide +kernel
theorem dX12_become_10 : decode cX12_become 10 = .ok (.bipush 69, 2) := by decide +kernel
theorem dX12_become_12 : decode cX12_become 12 = .ok (.invokestatic 41, 3) := by decide +kernel
theorem dX12_become_15 : decode cX12_become 15 = .ok (.ifCond .ne 10, 3) := by decide +kernel
theorem dX12_become_18 : decode cX12_become 18 = .ok (.aload_n 0, 1) := by decide +kernel
theorem dX12_become_19 : decode cX12_become 19 = .ok (.ldc 45, 2) := by decide +kernel
theorem dX12_become_21 : decode cX12_become 21 = .ok (.invokevirtual 46, 3) := by decide +kernel
theorem dX12_become_24 : decode cX12_become 24 = .ok (.ireturn, 1) := by decide +kernel
theorem dX12_become_25 : decode cX12_become 25 = .ok (.aload_n 0, 1) := by decide +kernel
theorem dX12_become_26 : decode cX12_become 26 = .ok (.iload_n 1, 1) := by decide +kernel
theorem dX12_become_27 : decode cX12_become 27 = .ok (.iconst 1, 1) := by decide +kernel
theorem dX12_become_28 : decode cX12_become 28 = .ok (.iload_n 2, 1) := by decide +kernel
theorem dX12_become_29 : decode cX12_become 29 = .ok (.bipush 10, 2) := by decide +kernel
theorem dX12_become_31 : decode cX12_become 31 = .ok (.irem, 1) := by decide +kernel
theorem dX12_become_32 : decode cX12_become 32 = .ok (.invokevirtual 51, 3) := by decide +kernel
theorem dX12_become_35 : decode cX12_become 35 = .ok (.aload_n 0, 1) := by decide +kernel
theorem dX12_become_36 : decode cX12_become 36 = .ok (.bipush 10, 2) := by decide +kernel
theorem dX12_become_38 : decode cX12_become 38 = .ok (.iconst 5, 1) := by decide +kernel
theorem dX12_become_39 : decode cX12_become 39 = .ok (.iload_n 1, 1) := by decide +kernel
theorem dX12_become_40 : decode cX12_become 40 = .ok (.imul, 1) := by decide +kernel
theorem dX12_become_41 : decode cX12_become 41 = .ok (.iadd, 1) := by decide +kernel
theorem dX12_become_42 : decode cX12_become 42 = .ok (.iload_n 2, 1) := by decide +kernel
theorem dX12_become_43 : decode cX12_become 43 = .ok (.bipush 10, 2) := by decide +kernel
theorem dX12_become_45 : decode cX12_become 45 = .ok (.idiv, 1) := by decide +kernel
theorem dX12_become_46 : decode cX12_become 46 = .ok (.invokevirtual 69, 3) := by decide +kernel
theorem dX12_become_49 : decode cX12_become 49 = .ok (.ireturn, 1) := by decide +kernel
theorem dX12_above_0 : decode cX12_above 0 = .ok (.iload_n 0, 1) := by decide +kernel
theorem dX12_above_1 : decode cX12_above 1 = .ok (.ifCond .ne 7, 3) := by decide +kernel
theorem dX12_above_4 : decode cX12_above 4 = .ok (.iconst (-1), 1) := by decide +kernel
theorem dX12_above_5 : decode cX12_above 5 = .ok (.goto 15, 3) := by decide +kernel
theorem dX12_above_8 : decode cX12_above 8 = .ok (.iload_n 0, 1) := by decide +kernel
theorem dX12_above_9 : decode cX12_above 9 = .ok (.iconst 3, 1) := by decide +kernel
theorem dX12_above_10 : decode cX12_above 10 = .ok (.if_icmp .le 9, 3) := by decide +kernel
theorem dX12_above_13 : decode cX12_above 13 = .ok (.iload_n 0, 1) := by decide +kernel
theorem dX12_above_14 : decode cX12_above 14 = .ok (.iconst 3, 1) := by decide +kernel
theorem dX12_above_15 : decode cX12_above 15 = .ok (.isub, 1) := by decide +kernel
theorem dX12_above_16 : decode cX12_above 16 = .ok (.goto 4, 3) := by decide +kernel
theorem dX12_above_19 : decode cX12_above 19 = .ok (.iconst 0, 1) := by decide +kernel
theorem dX12_above_20 : decode cX12_above 20 = .ok (.ireturn, 1) := by decide +kernel
theorem dX12_as_0 : decode cX12_as 0 = .ok (.aload_n 0, 1) := by decide +kernel
theorem dX12_as_1 : decode cX12_as 1 = .ok (.iload_n 1, 1) := by decide +kernel
theorem dX12_as_2 : decode cX12_as 2 = .ok (.invokevirtual 55, 3) := by decide +kernel
theorem dX12_as_5 : decode cX12_as 5 = .ok (.ifCond .eq 13, 3) := by decide +kernel
theorem dX12_as_8 : decode cX12_as 8 = .ok (.iload_n 2, 1) := by decide +kernel
theorem dX12_as_9 : decode cX12_as 9 = .ok (.iconst 0, 1) := by decide +kernel
theorem dX12_as_10 : decode cX12_as 10 = .ok (.bipush 6, 2) := by decide +kernel
theorem dX12_as_12 : decode cX12_as 12 = .ok (.invokestatic 41, 3) := by decide +kernel
theorem dX12_as_15 : decode cX12_as 15 = .ok (.ifCond .ne 10, 3) := by decide +kernel
theorem dX12_as_18 : decode cX12_as 18 = .ok (.aload_n 0, 1) := by decide +kernel
theorem dX12_as_19 : decode cX12_as 19 = .ok (.ldc 45, 2) := by decide +kernel
theorem dX12_as_21 : decode cX12_as 21 = .ok (.invokevirtual 46, 3) := by decide +kernel
theorem dX12_as_24 : decode cX12_as 24 = .ok (.ireturn, 1) := by decide +kernel
theorem dX12_as_25 : decode cX12_as 25 = .ok (.aload_n 0, 1) := by decide +kernel
theorem dX12_as_26 : decode cX12_as 26 = .ok (.iload_n 1, 1) := by decide +kernel
theorem dX12_as_27 : decode cX12_as 27 = .ok (.iconst 0, 1) := by decide +kernel
theorem dX12_as_28 : decode cX12_as 28 = .ok (.invokevirtual 59, 3) := by decide +kernel
theorem dX12_as_31 : decode cX12_as 31 = .ok (.istore_n 3, 1) := by decide +kernel
theorem dX12_as_32 : decode cX12_as 32 = .ok (.iload_n 3, 1) := by decide +kernel
theorem dX12_as_33 : decode cX12_as 33 = .ok (.ifCond .lt 16, 3) := by decide +kernel
theorem dX12_as_36 : decode cX12_as 36 = .ok (.iload_n 3, 1) := by decide +kernel
theorem dX12_as_37 : decode cX12_as 37 = .ok (.iload_n 2, 1) := by decide +kernel
theorem dX12_as_38 : decode cX12_as 38 = .ok (.if_icmp .eq 11, 3) := by decide +kernel
theorem dX12_as_41 : decode cX12_as 41 = .ok (.iload_n 3, 1) := by decide +kernel
theorem dX12_as_42 : decode cX12_as 42 = .ok (.invokestatic 73, 3) := by decide +kernel
theorem dX12_as_45 : decode cX12_as 45 = .ok (.istore_n 3, 1) := by decide +kernel
theorem dX12_as_46 : decode cX12_as 46 = .ok (.goto (-14), 3) := by decide +kernel
theorem dX12_as_49 : decode cX12_as 49 = .ok (.iload_n 3, 1) := by decide +kernel
theorem dX12_as_50 : decode cX12_as 50 = .ok (.ifCond .ge 12, 3) := by decide +kernel
theorem dX12_as_53 : decode cX12_as 53 = .ok (.aload_n 0, 1) := by decide +kernel
theorem dX12_as_54 : decode cX12_as 54 = .ok (.ldc 76, 2) := by decide +kernel
theorem dX12_as_56 : decode cX12_as 56 = .ok (.invokevirtual 46, 3) := by decide +kernel
theorem dX12_as_59 : decode cX12_as 59 = .ok (.goto 9, 3) := by decide +kernel
theorem dX12_as_62 : decode cX12_as 62 = .ok (.aload_n 0, 1) := by decide +kernel
theorem dX12_as_63 : decode cX12_as 63 = .ok (.iload_n 1, 1) := by decide +kernel
theorem dX12_as_64 : decode cX12_as 64 = .ok (.iconst 1, 1) := by decide +kernel
theorem dX12_as_65 : decode cX12_as 65 = .ok (.invokevirtual 59, 3) := by decide +kernel
theorem dX12_as_68 : decode cX12_as 68 = .ok (.ireturn, 1) := by decide +kernel
theorem dX12_byteAt_0 : decode cX12_byteAt 0 = .ok (.iload_n 1, 1) := by decide +kernel
theorem dX12_byteAt_1 : decode cX12_byteAt 1 = .ok (.aload_n 0, 1) := by decide +kernel
theorem dX12_byteAt_2 : decode cX12_byteAt 2 = .ok (.getfield 77, 3) := by decide +kernel
theorem dX12_byteAt_5 : decode cX12_byteAt 5 = .ok (.if_icmp .ge 24, 3) := by decide +kernel
theorem dX12_byteAt_8 : decode cX12_byteAt 8 = .ok (.aload_n 0, 1) := by decide +kernel
theorem dX12_byteAt_9 : decode cX12_byteAt 9 = .ok (.getfield 7, 3) := by decide +kernel
theorem dX12_byteAt_12 : decode cX12_byteAt 12 = .ok (.sipush 140, 3) := by decide +kernel
theorem dX12_byteAt_15 : decode cX12_byteAt 15 = .ok (.bipush 50, 2) := by decide +kernel
theorem dX12_byteAt_17 : decode cX12_byteAt 17 = .ok (.aload_n 0, 1) := by decide +kernel
theorem dX12_byteAt_18 : decode cX12_byteAt 18 = .ok (.getfield 81, 3) := by decide +kernel
theorem dX12_byteAt_21 : decode cX12_byteAt 21 = .ok (.imul, 1) := by decide +kernel
theorem dX12_byteAt_22 : decode cX12_byteAt 22 = .ok (.iadd, 1) := by decide +kernel
theorem dX12_byteAt_23 : decode cX12_byteAt 23 = .ok (.iload_n 1, 1) := by decide +kernel
theorem dX12_byteAt_24 : decode cX12_byteAt 24 = .ok (.iadd, 1) := by decide +kernel
theorem dX12_byteAt_25 : decode cX12_byteAt 25 = .ok (.iaload, 1) := by decide +kernel
theorem dX12_byteAt_26 : decode cX12_byteAt 26 = .ok (.goto 4, 3) := by decide +kernel
theorem dX12_byteAt_29 : decode cX12_byteAt 29 = .ok (.iconst (-1), 1) := by decide +kernel
theorem dX12_byteAt_30 : decode cX12_byteAt 30 = .ok (.ireturn, 1) := by decide +kernel
theorem dX12_isDigit_0 : decode cX12_isDigit 0 = .ok (.iload_n 0, 1) := by decide +kernel
theorem dX12_isDigit_1 : decode cX12_isDigit 1 = .ok (.bipush 48, 2) := by decide +kernel
theorem dX12_isDigit_3 : decode cX12_isDigit 3 = .ok (.bipush 57, 2) := by decide +kernel
theorem dX12_isDigit_5 : decode cX12_isDigit 5 = .ok (.invokestatic 41, 3) := by decide +kernel
theorem dX12_isDigit_8 : decode cX12_isDigit 8 = .ok (.ireturn, 1) := by decide +kernel
theorem dX12_fails_0 : decode cX12_fails 0 = .ok (.aload_n 0, 1) := by decide +kernel
theorem dX12_fails_1 : decode cX12_fails 1 = .ok (.iconst 0, 1) := by decide +kernel
theorem dX12_fails_2 : decode cX12_fails 2 = .ok (.putfield 84, 3) := by decide +kernel
theorem dX12_fails_5 : decode cX12_fails 5 = .ok (.iconst 0, 1) := by decide +kernel
theorem dX12_fails_6 : decode cX12_fails 6 = .ok (.ireturn, 1) := by decide +kernel
theorem dX12_number_0 : decode cX12_number 0 = .ok (.iconst 0, 1) := by decide +kernel
theorem dX12_number_1 : decode cX12_number 1 = .ok (.istore_n 1, 1) := by decide +kernel
theorem dX12_number_2 : decode cX12_number 2 = .ok (.iconst 0, 1) := by decide +kernel
theorem dX12_number_3 : decode cX12_number 3 = .ok (.istore_n 2, 1) := by decide +kernel
theorem dX12_number_4 : decode cX12_number 4 = .ok (.iload_n 2, 1) := by decide +kernel
theorem dX12_number_5 : decode cX12_number 5 = .ok (.iconst 4, 1) := by decide +kernel
theorem dX12_number_6 : decode cX12_number 6 = .ok (.if_icmp .ge 50, 3) := by decide +kernel
theorem dX12_number_9 : decode cX12_number 9 = .ok (.aload_n 0, 1) := by decide +kernel
theorem dX12_number_10 : decode cX12_number 10 = .ok (.aload_n 0, 1) := by decide +kernel
theorem dX12_number_11 : decode cX12_number 11 = .ok (.getfield 88, 3) := by decide +kernel
theorem dX12_number_14 : decode cX12_number 14 = .ok (.invokevirtual 91, 3) := by decide +kernel
theorem dX12_number_17 : decode cX12_number 17 = .ok (.invokestatic 94, 3) := by decide +kernel
theorem dX12_number_20 : decode cX12_number 20 = .ok (.ifCond .eq 36, 3) := by decide +kernel
theorem dX12_number_23 : decode cX12_number 23 = .ok (.bipush 10, 2) := by decide +kernel
theorem dX12_number_25 : decode cX12_number 25 = .ok (.iload_n 1, 1) := by decide +kernel
theorem dX12_number_26 : decode cX12_number 26 = .ok (.imul, 1) := by decide +kernel
theorem dX12_number_27 : decode cX12_number 27 = .ok (.aload_n 0, 1) := by decide +kernel
theorem dX12_number_28 : decode cX12_number 28 = .ok (.aload_n 0, 1) := by decide +kernel
theorem dX12_number_29 : decode cX12_number 29 = .ok (.getfield 88, 3) := by decide +kernel
theorem dX12_number_32 : decode cX12_number 32 = .ok (.invokevirtual 91, 3) := by decide +kernel
theorem dX12_number_35 : decode cX12_number 35 = .ok (.iadd, 1) := by decide +kernel
theorem dX12_number_36 : decode cX12_number 36 = .ok (.bipush 48, 2) := by decide +kernel
theorem dX12_number_38 : decode cX12_number 38 = .ok (.isub, 1) := by decide +kernel
theorem dX12_number_39 : decode cX12_number 39 = .ok (.istore_n 1, 1) := by decide +kernel
theorem dX12_number_40 : decode cX12_number 40 = .ok (.aload_n 0, 1) := by decide +kernel
theorem dX12_number_41 : decode cX12_number 41 = .ok (.dup, 1) := by decide +kernel
theorem dX12_number_42 : decode cX12_number 42 = .ok (.getfield 88, 3) := by decide +kernel
theorem dX12_number_45 : decode cX12_number 45 = .ok (.iconst 1, 1) := by decide +kernel
theorem dX12_number_46 : decode cX12_number 46 = .ok (.iadd, 1) := by decide +kernel
theorem dX12_number_47 : decode cX12_number 47 = .ok (.putfield 88, 3) := by decide +kernel
theorem dX12_number_50 : decode cX12_number 50 = .ok (.iinc 2 1, 3) := by decide +kernel
theorem dX12_number_53 : decode cX12_number 53 = .ok (.goto (-49), 3) := by decide +kernel
theorem dX12_number_56 : decode cX12_number 56 = .ok (.iload_n 1, 1) := by decide +kernel
theorem dX12_number_57 : decode cX12_number 57 = .ok (.ireturn, 1) := by decide +kernel
theorem dX12_named_0 : decode cX12_named 0 = .ok (.iload_n 1, 1) := by decide +kernel
theorem dX12_named_1 : decode cX12_named 1 = .ok (.aload_n 0, 1) := by decide +kernel
theorem dX12_named_2 : decode cX12_named 2 = .ok (.getfield 81, 3) := by decide +kernel
theorem dX12_named_5 : decode cX12_named 5 = .ok (.ifCond .ne 8, 3) := by decide +kernel
theorem dX12_named_8 : decode cX12_named 8 = .ok (.bipush 121, 2) := by decide +kernel
theorem dX12_named_10 : decode cX12_named 10 = .ok (.goto 5, 3) := by decide +kernel
theorem dX12_named_13 : decode cX12_named 13 = .ok (.bipush 115, 2) := by decide +kernel
theorem dX12_named_15 : decode cX12_named 15 = .ok (.if_icmp .ne 7, 3) := by decide +kernel
theorem dX12_named_18 : decode cX12_named 18 = .ok (.iconst 1, 1) := by decide +kernel
theorem dX12_named_19 : decode cX12_named 19 = .ok (.goto 4, 3) := by decide +kernel
theorem dX12_named_22 : decode cX12_named 22 = .ok (.iconst 0, 1) := by decide +kernel
theorem dX12_named_23 : decode cX12_named 23 = .ok (.istore_n 2, 1) := by decide +kernel
theorem dX12_named_24 : decode cX12_named 24 = .ok (.iload_n 1, 1) := by decide +kernel
theorem dX12_named_25 : decode cX12_named 25 = .ok (.bipush 100, 2) := by decide +kernel
theorem dX12_named_27 : decode cX12_named 27 = .ok (.if_icmp .ne 7, 3) := by decide +kernel
theorem dX12_named_30 : decode cX12_named 30 = .ok (.iconst 1, 1) := by decide +kernel
theorem dX12_named_31 : decode cX12_named 31 = .ok (.goto 4, 3) := by decide +kernel
theorem dX12_named_34 : decode cX12_named 34 = .ok (.iconst 0, 1) := by decide +kernel
theorem dX12_named_35 : decode cX12_named 35 = .ok (.istore_n 3, 1) := by decide +kernel
theorem dX12_named_36 : decode cX12_named 36 = .ok (.iload_n 1, 1) := by decide +kernel
theorem dX12_named_37 : decode cX12_named 37 = .ok (.aload_n 0, 1) := by decide +kernel
theorem dX12_named_38 : decode cX12_named 38 = .ok (.getfield 81, 3) := by decide +kernel
theorem dX12_named_41 : decode cX12_named 41 = .ok (.ifCond .ne 8, 3) := by decide +kernel
theorem dX12_named_44 : decode cX12_named 44 = .ok (.bipush 120, 2) := by decide +kernel
theorem dX12_named_46 : decode cX12_named 46 = .ok (.goto 5, 3) := by decide +kernel
theorem dX12_named_49 : decode cX12_named 49 = .ok (.bipush 101, 2) := by decide +kernel
theorem dX12_named_51 : decode cX12_named 51 = .ok (.if_icmp .ne 7, 3) := by decide +kernel
theorem dX12_named_54 : decode cX12_named 54 = .ok (.iconst 1, 1) := by decide +kernel
theorem dX12_named_55 : decode cX12_named 55 = .ok (.goto 4, 3) := by decide +kernel
theorem dX12_named_58 : decode cX12_named 58 = .ok (.iconst 0, 1) := by decide +kernel
theorem dX12_named_59 : decode cX12_named 59 = .ok (.istore 4, 2) := by decide +kernel
theorem dX12_named_61 : decode cX12_named 61 = .ok (.iload_n 2, 1) := by decide +kernel
theorem dX12_named_62 : decode cX12_named 62 = .ok (.ifCond .ne 17, 3) := by decide +kernel
theorem dX12_named_65 : decode cX12_named 65 = .ok (.iload_n 3, 1) := by decide +kernel
theorem dX12_named_66 : decode cX12_named 66 = .ok (.ifCond .ne 13, 3) := by decide +kernel
theorem dX12_named_69 : decode cX12_named 69 = .ok (.iload 4, 2) := by decide +kernel
theorem dX12_named_71 : decode cX12_named 71 = .ok (.ifCond .ne 8, 3) := by decide +kernel
theorem dX12_named_74 : decode cX12_named 74 = .ok (.aload_n 0, 1) := by decide +kernel
theorem dX12_named_75 : decode cX12_named 75 = .ok (.invokevirtual 97, 3) := by decide +kernel
theorem dX12_named_78 : decode cX12_named 78 = .ok (.ireturn, 1) := by decide +kernel
theorem dX12_named_79 : decode cX12_named 79 = .ok (.aload_n 0, 1) := by decide +kernel
theorem dX12_named_80 : decode cX12_named 80 = .ok (.dup, 1) := by decide +kernel
theorem dX12_named_81 : decode cX12_named 81 = .ok (.getfield 88, 3) := by decide +kernel
theorem dX12_named_84 : decode cX12_named 84 = .ok (.iconst 1, 1) := by decide +kernel
theorem dX12_named_85 : decode cX12_named 85 = .ok (.iadd, 1) := by decide +kernel
theorem dX12_named_86 : decode cX12_named 86 = .ok (.putfield 88, 3) := by decide +kernel
theorem dX12_named_89 : decode cX12_named 89 = .ok (.iload_n 2, 1) := by decide +kernel
theorem dX12_named_90 : decode cX12_named 90 = .ok (.ifCond .eq 10, 3) := by decide +kernel
theorem dX12_named_93 : decode cX12_named 93 = .ok (.aload_n 0, 1) := by decide +kernel
theorem dX12_named_94 : decode cX12_named 94 = .ok (.getfield 101, 3) := by decide +kernel
theorem dX12_named_97 : decode cX12_named 97 = .ok (.goto 18, 3) := by decide +kernel
theorem dX12_named_100 : decode cX12_named 100 = .ok (.iload_n 3, 1) := by decide +kernel
theorem dX12_named_101 : decode cX12_named 101 = .ok (.ifCond .eq 10, 3) := by decide +kernel
theorem dX12_named_104 : decode cX12_named 104 = .ok (.aload_n 0, 1) := by decide +kernel
theorem dX12_named_105 : decode cX12_named 105 = .ok (.getfield 104, 3) := by decide +kernel
theorem dX12_named_108 : decode cX12_named 108 = .ok (.goto 7, 3) := by decide +kernel
theorem dX12_named_111 : decode cX12_named 111 = .ok (.aload_n 0, 1) := by decide +kernel
theorem dX12_named_112 : decode cX12_named 112 = .ok (.getfield 107, 3) := by decide +kernel
theorem dX12_named_115 : decode cX12_named 115 = .ok (.ireturn, 1) := by decide +kernel
theorem dX12_factor_0 : decode cX12_factor 0 = .ok (.aload_n 0, 1) := by decide +kernel
theorem dX12_factor_1 : decode cX12_factor 1 = .ok (.aload_n 0, 1) := by decide +kernel
theorem dX12_factor_2 : decode cX12_factor 2 = .ok (.getfield 88, 3) := by decide +kernel
theorem dX12_factor_5 : decode cX12_factor 5 = .ok (.invokevirtual 91, 3) := by decide +kernel
theorem dX12_factor_8 : decode cX12_factor 8 = .ok (.istore_n 1, 1) := by decide +kernel
theorem dX12_factor_9 : decode cX12_factor 9 = .ok (.iload_n 1, 1) := by decide +kernel
theorem dX12_factor_10 : decode cX12_factor 10 = .ok (.invokestatic 94, 3) := by decide +kernel
theorem dX12_factor_13 : decode cX12_factor 13 = .ok (.ifCond .eq 8, 3) := by decide +kernel
theorem dX12_factor_16 : decode cX12_factor 16 = .ok (.aload_n 0, 1) := by decide +kernel
theorem dX12_factor_17 : decode cX12_factor 17 = .ok (.invokevirtual 110, 3) := by decide +kernel
theorem dX12_factor_20 : decode cX12_factor 20 = .ok (.ireturn, 1) := by decide +kernel
theorem dX12_factor_21 : decode cX12_factor 21 = .ok (.iload_n 1, 1) := by decide +kernel
theorem dX12_factor_22 : decode cX12_factor 22 = .ok (.bipush 33, 2) := by decide +kernel
theorem dX12_factor_24 : decode cX12_factor 24 = .ok (.if_icmp .eq 15, 3) := by decide +kernel
theorem dX12_factor_27 : decode cX12_factor 27 = .ok (.iload_n 1, 1) := by decide +kernel
theorem dX12_factor_28 : decode cX12_factor 28 = .ok (.bipush 40, 2) := by decide +kernel
theorem dX12_factor_30 : decode cX12_factor 30 = .ok (.if_icmp .eq 9, 3) := by decide +kernel
theorem dX12_factor_33 : decode cX12_factor 33 = .ok (.aload_n 0, 1) := by decide +kernel
theorem dX12_factor_34 : decode cX12_factor 34 = .ok (.iload_n 1, 1) := by decide +kernel
theorem dX12_factor_35 : decode cX12_factor 35 = .ok (.invokevirtual 113, 3) := by decide +kernel
theorem dX12_factor_38 : decode cX12_factor 38 = .ok (.ireturn, 1) := by decide +kernel
theorem dX12_factor_39 : decode cX12_factor 39 = .ok (.aload_n 0, 1) := by decide +kernel
theorem dX12_factor_40 : decode cX12_factor 40 = .ok (.getfield 116, 3) := by decide +kernel
theorem dX12_factor_43 : decode cX12_factor 43 = .ok (.iconst 5, 1) := by decide +kernel
theorem dX12_factor_44 : decode cX12_factor 44 = .ok (.if_icmp .ne 8, 3) := by decide +kernel
theorem dX12_factor_47 : decode cX12_factor 47 = .ok (.aload_n 0, 1) := by decide +kernel
theorem dX12_factor_48 : decode cX12_factor 48 = .ok (.invokevirtual 97, 3) := by decide +kernel
theorem dX12_factor_51 : decode cX12_factor 51 = .ok (.ireturn, 1) := by decide +kernel
theorem dX12_factor_52 : decode cX12_factor 52 = .ok (.aload_n 0, 1) := by decide +kernel
theorem dX12_factor_53 : decode cX12_factor 53 = .ok (.dup, 1) := by decide +kernel
theorem dX12_factor_54 : decode cX12_factor 54 = .ok (.getfield 116, 3) := by decide +kernel
theorem dX12_factor_57 : decode cX12_factor 57 = .ok (.iconst 1, 1) := by decide +kernel
theorem dX12_factor_58 : decode cX12_factor 58 = .ok (.iadd, 1) := by decide +kernel
theorem dX12_factor_59 : decode cX12_factor 59 = .ok (.putfield 116, 3) := by decide +kernel
theorem dX12_factor_62 : decode cX12_factor 62 = .ok (.aload_n 0, 1) := by decide +kernel
theorem dX12_factor_63 : decode cX12_factor 63 = .ok (.dup, 1) := by decide +kernel
theorem dX12_factor_64 : decode cX12_factor 64 = .ok (.getfield 88, 3) := by decide +kernel
theorem dX12_factor_67 : decode cX12_factor 67 = .ok (.iconst 1, 1) := by decide +kernel
theorem dX12_factor_68 : decode cX12_factor 68 = .ok (.iadd, 1) := by decide +kernel
theorem dX12_factor_69 : decode cX12_factor 69 = .ok (.putfield 88, 3) := by decide +kernel
theorem dX12_factor_72 : decode cX12_factor 72 = .ok (.iload_n 1, 1) := by decide +kernel
theorem dX12_factor_73 : decode cX12_factor 73 = .ok (.bipush 33, 2) := by decide +kernel
theorem dX12_factor_75 : decode cX12_factor 75 = .ok (.if_icmp .ne 10, 3) := by decide +kernel
theorem dX12_factor_78 : decode cX12_factor 78 = .ok (.aload_n 0, 1) := by decide +kernel
theorem dX12_factor_79 : decode cX12_factor 79 = .ok (.invokevirtual 119, 3) := by decide +kernel
theorem dX12_factor_82 : decode cX12_factor 82 = .ok (.goto 7, 3) := by decide +kernel
theorem dX12_factor_85 : decode cX12_factor 85 = .ok (.aload_n 0, 1) := by decide +kernel
theorem dX12_factor_86 : decode cX12_factor 86 = .ok (.invokevirtual 122, 3) := by decide +kernel
theorem dX12_factor_89 : decode cX12_factor 89 = .ok (.istore_n 2, 1) := by decide +kernel
theorem dX12_factor_90 : decode cX12_factor 90 = .ok (.aload_n 0, 1) := by decide +kernel
theorem dX12_factor_91 : decode cX12_factor 91 = .ok (.dup, 1) := by decide +kernel
theorem dX12_factor_92 : decode cX12_factor 92 = .ok (.getfield 116, 3) := by decide +kernel
theorem dX12_factor_95 : decode cX12_factor 95 = .ok (.iconst 1, 1) := by decide +kernel
theorem dX12_factor_96 : decode cX12_factor 96 = .ok (.isub, 1) := by decide +kernel
theorem dX12_factor_97 : decode cX12_factor 97 = .ok (.putfield 116, 3) := by decide +kernel
theorem dX12_factor_100 : decode cX12_factor 100 = .ok (.iload_n 1, 1) := by decide +kernel
theorem dX12_factor_101 : decode cX12_factor 101 = .ok (.bipush 33, 2) := by decide +kernel
theorem dX12_factor_103 : decode cX12_factor 103 = .ok (.if_icmp .ne 13, 3) := by decide +kernel
theorem dX12_factor_106 : decode cX12_factor 106 = .ok (.iload_n 2, 1) := by decide +kernel
theorem dX12_factor_107 : decode cX12_factor 107 = .ok (.ifCond .ne 7, 3) := by decide +kernel
theorem dX12_factor_110 : decode cX12_factor 110 = .ok (.iconst 1, 1) := by decide +kernel
theorem dX12_factor_111 : decode cX12_factor 111 = .ok (.goto 4, 3) := by decide +kernel
theorem dX12_factor_114 : decode cX12_factor 114 = .ok (.iconst 0, 1) := by decide +kernel
theorem dX12_factor_115 : decode cX12_factor 115 = .ok (.ireturn, 1) := by decide +kernel
theorem dX12_factor_116 : decode cX12_factor 116 = .ok (.aload_n 0, 1) := by decide +kernel
theorem dX12_factor_117 : decode cX12_factor 117 = .ok (.getfield 84, 3) := by decide +kernel
theorem dX12_factor_120 : decode cX12_factor 120 = .ok (.ifCond .eq 28, 3) := by decide +kernel
theorem dX12_factor_123 : decode cX12_factor 123 = .ok (.aload_n 0, 1) := by decide +kernel
theorem dX12_factor_124 : decode cX12_factor 124 = .ok (.aload_n 0, 1) := by decide +kernel
theorem dX12_factor_125 : decode cX12_factor 125 = .ok (.getfield 88, 3) := by decide +kernel
theorem dX12_factor_128 : decode cX12_factor 128 = .ok (.invokevirtual 91, 3) := by decide +kernel
theorem dX12_factor_131 : decode cX12_factor 131 = .ok (.bipush 41, 2) := by decide +kernel
theorem dX12_factor_133 : decode cX12_factor 133 = .ok (.if_icmp .ne 15, 3) := by decide +kernel
theorem dX12_factor_136 : decode cX12_factor 136 = .ok (.aload_n 0, 1) := by decide +kernel
theorem dX12_factor_137 : decode cX12_factor 137 = .ok (.dup, 1) := by decide +kernel
theorem dX12_factor_138 : decode cX12_factor 138 = .ok (.getfield 88, 3) := by decide +kernel
theorem dX12_factor_141 : decode cX12_factor 141 = .ok (.iconst 1, 1) := by decide +kernel
theorem dX12_factor_142 : decode cX12_factor 142 = .ok (.iadd, 1) := by decide +kernel
theorem dX12_factor_143 : decode cX12_factor 143 = .ok (.putfield 88, 3) := by decide +kernel
theorem dX12_factor_146 : decode cX12_factor 146 = .ok (.iload_n 2, 1) := by decide +kernel
theorem dX12_factor_147 : decode cX12_factor 147 = .ok (.ireturn, 1) := by decide +kernel
theorem dX12_factor_148 : decode cX12_factor 148 = .ok (.aload_n 0, 1) := by decide +kernel
theorem dX12_factor_149 : decode cX12_factor 149 = .ok (.invokevirtual 97, 3) := by decide +kernel
theorem dX12_factor_152 : decode cX12_factor 152 = .ok (.ireturn, 1) := by decide +kernel
theorem dX12_product_0 : decode cX12_product 0 = .ok (.aload_n 0, 1) := by decide +kernel
theorem dX12_product_1 : decode cX12_product 1 = .ok (.invokevirtual 119, 3) := by decide +kernel
theorem dX12_product_4 : decode cX12_product 4 = .ok (.istore_n 1, 1) := by decide +kernel
theorem dX12_product_5 : decode cX12_product 5 = .ok (.aload_n 0, 1) := by decide +kernel
theorem dX12_product_6 : decode cX12_product 6 = .ok (.getfield 84, 3) := by decide +kernel
theorem dX12_product_9 : decode cX12_product 9 = .ok (.ifCond .eq 105, 3) := by decide +kernel
theorem dX12_product_12 : decode cX12_product 12 = .ok (.aload_n 0, 1) := by decide +kernel
theorem dX12_product_13 : decode cX12_product 13 = .ok (.aload_n 0, 1) := by decide +kernel
theorem dX12_product_14 : decode cX12_product 14 = .ok (.getfield 88, 3) := by decide +kernel
theorem dX12_product_17 : decode cX12_product 17 = .ok (.invokevirtual 91, 3) := by decide +kernel
theorem dX12_product_20 : decode cX12_product 20 = .ok (.bipush 42, 2) := by decide +kernel
theorem dX12_product_22 : decode cX12_product 22 = .ok (.if_icmp .eq 29, 3) := by decide +kernel
theorem dX12_product_25 : decode cX12_product 25 = .ok (.aload_n 0, 1) := by decide +kernel
theorem dX12_product_26 : decode cX12_product 26 = .ok (.aload_n 0, 1) := by decide +kernel
theorem dX12_product_27 : decode cX12_product 27 = .ok (.getfield 88, 3) := by decide +kernel
theorem dX12_product_30 : decode cX12_product 30 = .ok (.invokevirtual 91, 3) := by decide +kernel
theorem dX12_product_33 : decode cX12_product 33 = .ok (.bipush 47, 2) := by decide +kernel
theorem dX12_product_35 : decode cX12_product 35 = .ok (.if_icmp .eq 16, 3) := by decide +kernel
theorem dX12_product_38 : decode cX12_product 38 = .ok (.aload_n 0, 1) := by decide +kernel
theorem dX12_product_39 : decode cX12_product 39 = .ok (.aload_n 0, 1) := by decide +kernel
theorem dX12_product_40 : decode cX12_product 40 = .ok (.getfield 88, 3) := by decide +kernel
theorem dX12_product_43 : decode cX12_product 43 = .ok (.invokevirtual 91, 3) := by decide +kernel
theorem dX12_product_46 : decode cX12_product 46 = .ok (.bipush 37, 2) := by decide +kernel
theorem dX12_product_48 : decode cX12_product 48 = .ok (.if_icmp .ne 66, 3) := by decide +kernel
theorem dX12_product_51 : decode cX12_product 51 = .ok (.aload_n 0, 1) := by decide +kernel
theorem dX12_product_52 : decode cX12_product 52 = .ok (.aload_n 0, 1) := by decide +kernel
theorem dX12_product_53 : decode cX12_product 53 = .ok (.getfield 88, 3) := by decide +kernel
theorem dX12_product_56 : decode cX12_product 56 = .ok (.invokevirtual 91, 3) := by decide +kernel
theorem dX12_product_59 : decode cX12_product 59 = .ok (.istore_n 2, 1) := by decide +kernel
theorem dX12_product_60 : decode cX12_product 60 = .ok (.aload_n 0, 1) := by decide +kernel
theorem dX12_product_61 : decode cX12_product 61 = .ok (.dup, 1) := by decide +kernel
theorem dX12_product_62 : decode cX12_product 62 = .ok (.getfield 88, 3) := by decide +kernel
theorem dX12_product_65 : decode cX12_product 65 = .ok (.iconst 1, 1) := by decide +kernel
theorem dX12_product_66 : decode cX12_product 66 = .ok (.iadd, 1) := by decide +kernel
theorem dX12_product_67 : decode cX12_product 67 = .ok (.putfield 88, 3) := by decide +kernel
theorem dX12_product_70 : decode cX12_product 70 = .ok (.aload_n 0, 1) := by decide +kernel
theorem dX12_product_71 : decode cX12_product 71 = .ok (.invokevirtual 119, 3) := by decide +kernel
theorem dX12_product_74 : decode cX12_product 74 = .ok (.istore_n 3, 1) := by decide +kernel
theorem dX12_product_75 : decode cX12_product 75 = .ok (.iload_n 2, 1) := by decide +kernel
theorem dX12_product_76 : decode cX12_product 76 = .ok (.bipush 42, 2) := by decide +kernel
theorem dX12_product_78 : decode cX12_product 78 = .ok (.if_icmp .ne 9, 3) := by decide +kernel
theorem dX12_product_81 : decode cX12_product 81 = .ok (.iload_n 1, 1) := by decide +kernel
theorem dX12_product_82 : decode cX12_product 82 = .ok (.iload_n 3, 1) := by decide +kernel
theorem dX12_product_83 : decode cX12_product 83 = .ok (.imul, 1) := by decide +kernel
theorem dX12_product_84 : decode cX12_product 84 = .ok (.goto 26, 3) := by decide +kernel
theorem dX12_product_87 : decode cX12_product 87 = .ok (.iload_n 3, 1) := by decide +kernel
theorem dX12_product_88 : decode cX12_product 88 = .ok (.ifCond .ne 7, 3) := by decide +kernel
theorem dX12_product_91 : decode cX12_product 91 = .ok (.iconst 0, 1) := by decide +kernel
theorem dX12_product_92 : decode cX12_product 92 = .ok (.goto 18, 3) := by decide +kernel
theorem dX12_product_95 : decode cX12_product 95 = .ok (.iload_n 2, 1) := by decide +kernel
theorem dX12_product_96 : decode cX12_product 96 = .ok (.bipush 47, 2) := by decide +kernel
theorem dX12_product_98 : decode cX12_product 98 = .ok (.if_icmp .ne 9, 3) := by decide +kernel
theorem dX12_product_101 : decode cX12_product 101 = .ok (.iload_n 1, 1) := by decide +kernel
theorem dX12_product_102 : decode cX12_product 102 = .ok (.iload_n 3, 1) := by decide +kernel
theorem dX12_product_103 : decode cX12_product 103 = .ok (.idiv, 1) := by decide +kernel
theorem dX12_product_104 : decode cX12_product 104 = .ok (.goto 6, 3) := by decide +kernel
theorem dX12_product_107 : decode cX12_product 107 = .ok (.iload_n 1, 1) := by decide +kernel
theorem dX12_product_108 : decode cX12_product 108 = .ok (.iload_n 3, 1) := by decide +kernel
theorem dX12_product_109 : decode cX12_product 109 = .ok (.irem, 1) := by decide +kernel
theorem dX12_product_110 : decode cX12_product 110 = .ok (.istore_n 1, 1) := by decide +kernel
theorem dX12_product_111 : decode cX12_product 111 = .ok (.goto (-106), 3) := by decide +kernel
theorem dX12_product_114 : decode cX12_product 114 = .ok (.iload_n 1, 1) := by decide +kernel
theorem dX12_product_115 : decode cX12_product 115 = .ok (.ireturn, 1) := by decide +kernel
theorem dX12_sum_0 : decode cX12_sum 0 = .ok (.aload_n 0, 1) := by decide +kernel
theorem dX12_sum_1 : decode cX12_sum 1 = .ok (.invokevirtual 125, 3) := by decide +kernel
theorem dX12_sum_4 : decode cX12_sum 4 = .ok (.istore_n 1, 1) := by decide +kernel
theorem dX12_sum_5 : decode cX12_sum 5 = .ok (.aload_n 0, 1) := by decide +kernel
theorem dX12_sum_6 : decode cX12_sum 6 = .ok (.getfield 84, 3) := by decide +kernel
theorem dX12_sum_9 : decode cX12_sum 9 = .ok (.ifCond .eq 72, 3) := by decide +kernel
theorem dX12_sum_12 : decode cX12_sum 12 = .ok (.aload_n 0, 1) := by decide +kernel
theorem dX12_sum_13 : decode cX12_sum 13 = .ok (.aload_n 0, 1) := by decide +kernel
theorem dX12_sum_14 : decode cX12_sum 14 = .ok (.getfield 88, 3) := by decide +kernel
theorem dX12_sum_17 : decode cX12_sum 17 = .ok (.invokevirtual 91, 3) := by decide +kernel
theorem dX12_sum_20 : decode cX12_sum 20 = .ok (.bipush 43, 2) := by decide +kernel
theorem dX12_sum_22 : decode cX12_sum 22 = .ok (.if_icmp .eq 16, 3) := by decide +kernel
theorem dX12_sum_25 : decode cX12_sum 25 = .ok (.aload_n 0, 1) := by decide +kernel
theorem dX12_sum_26 : decode cX12_sum 26 = .ok (.aload_n 0, 1) := by decide +kernel
theorem dX12_sum_27 : decode cX12_sum 27 = .ok (.getfield 88, 3) := by decide +kernel
theorem dX12_sum_30 : decode cX12_sum 30 = .ok (.invokevirtual 91, 3) := by decide +kernel
theorem dX12_sum_33 : decode cX12_sum 33 = .ok (.bipush 45, 2) := by decide +kernel
theorem dX12_sum_35 : decode cX12_sum 35 = .ok (.if_icmp .ne 46, 3) := by decide +kernel
theorem dX12_sum_38 : decode cX12_sum 38 = .ok (.aload_n 0, 1) := by decide +kernel
theorem dX12_sum_39 : decode cX12_sum 39 = .ok (.aload_n 0, 1) := by decide +kernel
theorem dX12_sum_40 : decode cX12_sum 40 = .ok (.getfield 88, 3) := by decide +kernel
theorem dX12_sum_43 : decode cX12_sum 43 = .ok (.invokevirtual 91, 3) := by decide +kernel
theorem dX12_sum_46 : decode cX12_sum 46 = .ok (.istore_n 2, 1) := by decide +kernel
theorem dX12_sum_47 : decode cX12_sum 47 = .ok (.aload_n 0, 1) := by decide +kernel
theorem dX12_sum_48 : decode cX12_sum 48 = .ok (.dup, 1) := by decide +kernel
theorem dX12_sum_49 : decode cX12_sum 49 = .ok (.getfield 88, 3) := by decide +kernel
theorem dX12_sum_52 : decode cX12_sum 52 = .ok (.iconst 1, 1) := by decide +kernel
theorem dX12_sum_53 : decode cX12_sum 53 = .ok (.iadd, 1) := by decide +kernel
theorem dX12_sum_54 : decode cX12_sum 54 = .ok (.putfield 88, 3) := by decide +kernel
theorem dX12_sum_57 : decode cX12_sum 57 = .ok (.aload_n 0, 1) := by decide +kernel
theorem dX12_sum_58 : decode cX12_sum 58 = .ok (.invokevirtual 125, 3) := by decide +kernel
theorem dX12_sum_61 : decode cX12_sum 61 = .ok (.istore_n 3, 1) := by decide +kernel
theorem dX12_sum_62 : decode cX12_sum 62 = .ok (.iload_n 2, 1) := by decide +kernel
theorem dX12_sum_63 : decode cX12_sum 63 = .ok (.bipush 43, 2) := by decide +kernel
theorem dX12_sum_65 : decode cX12_sum 65 = .ok (.if_icmp .ne 9, 3) := by decide +kernel
theorem dX12_sum_68 : decode cX12_sum 68 = .ok (.iload_n 1, 1) := by decide +kernel
theorem dX12_sum_69 : decode cX12_sum 69 = .ok (.iload_n 3, 1) := by decide +kernel
theorem dX12_sum_70 : decode cX12_sum 70 = .ok (.iadd, 1) := by decide +kernel
theorem dX12_sum_71 : decode cX12_sum 71 = .ok (.goto 6, 3) := by decide +kernel
theorem dX12_sum_74 : decode cX12_sum 74 = .ok (.iload_n 1, 1) := by decide +kernel
theorem dX12_sum_75 : decode cX12_sum 75 = .ok (.iload_n 3, 1) := by decide +kernel
theorem dX12_sum_76 : decode cX12_sum 76 = .ok (.isub, 1) := by decide +kernel
theorem dX12_sum_77 : decode cX12_sum 77 = .ok (.istore_n 1, 1) := by decide +kernel
theorem dX12_sum_78 : decode cX12_sum 78 = .ok (.goto (-73), 3) := by decide +kernel
theorem dX12_sum_81 : decode cX12_sum 81 = .ok (.iload_n 1, 1) := by decide +kernel
theorem dX12_sum_82 : decode cX12_sum 82 = .ok (.ireturn, 1) := by decide +kernel
theorem dX12_compared_0 : decode cX12_compared 0 = .ok (.aload_n 0, 1) := by decide +kernel
theorem dX12_compared_1 : decode cX12_compared 1 = .ok (.invokevirtual 128, 3) := by decide +kernel
theorem dX12_compared_4 : decode cX12_compared 4 = .ok (.istore_n 1, 1) := by decide +kernel
theorem dX12_compared_5 : decode cX12_compared 5 = .ok (.aload_n 0, 1) := by decide +kernel
theorem dX12_compared_6 : decode cX12_compared 6 = .ok (.getfield 84, 3) := by decide +kernel
theorem dX12_compared_9 : decode cX12_compared 9 = .ok (.ifCond .eq 14, 3) := by decide +kernel
theorem dX12_compared_12 : decode cX12_compared 12 = .ok (.aload_n 0, 1) := by decide +kernel
theorem dX12_compared_13 : decode cX12_compared 13 = .ok (.aload_n 0, 1) := by decide +kernel
theorem dX12_compared_14 : decode cX12_compared 14 = .ok (.getfield 88, 3) := by decide +kernel
theorem dX12_compared_17 : decode cX12_compared 17 = .ok (.invokevirtual 91, 3) := by decide +kernel
theorem dX12_compared_20 : decode cX12_compared 20 = .ok (.goto 4, 3) := by decide +kernel
theorem dX12_compared_23 : decode cX12_compared 23 = .ok (.iconst (-1), 1) := by decide +kernel
theorem dX12_compared_24 : decode cX12_compared 24 = .ok (.istore_n 2, 1) := by decide +kernel
theorem dX12_compared_25 : decode cX12_compared 25 = .ok (.iload_n 2, 1) := by decide +kernel
theorem dX12_compared_26 : decode cX12_compared 26 = .ok (.bipush 60, 2) := by decide +kernel
theorem dX12_compared_28 : decode cX12_compared 28 = .ok (.if_icmp .eq 17, 3) := by decide +kernel
theorem dX12_compared_31 : decode cX12_compared 31 = .ok (.iload_n 2, 1) := by decide +kernel
theorem dX12_compared_32 : decode cX12_compared 32 = .ok (.bipush 61, 2) := by decide +kernel
theorem dX12_compared_34 : decode cX12_compared 34 = .ok (.if_icmp .eq 11, 3) := by decide +kernel
theorem dX12_compared_37 : decode cX12_compared 37 = .ok (.iload_n 2, 1) := by decide +kernel
theorem dX12_compared_38 : decode cX12_compared 38 = .ok (.bipush 62, 2) := by decide +kernel
theorem dX12_compared_40 : decode cX12_compared 40 = .ok (.if_icmp .eq 5, 3) := by decide +kernel
theorem dX12_compared_43 : decode cX12_compared 43 = .ok (.iload_n 1, 1) := by decide +kernel
theorem dX12_compared_44 : decode cX12_compared 44 = .ok (.ireturn, 1) := by decide +kernel
theorem dX12_compared_45 : decode cX12_compared 45 = .ok (.aload_n 0, 1) := by decide +kernel
theorem dX12_compared_46 : decode cX12_compared 46 = .ok (.dup, 1) := by decide +kernel
theorem dX12_compared_47 : decode cX12_compared 47 = .ok (.getfield 88, 3) := by decide +kernel
theorem dX12_compared_50 : decode cX12_compared 50 = .ok (.iconst 1, 1) := by decide +kernel
theorem dX12_compared_51 : decode cX12_compared 51 = .ok (.iadd, 1) := by decide +kernel
theorem dX12_compared_52 : decode cX12_compared 52 = .ok (.putfield 88, 3) := by decide +kernel
theorem dX12_compared_55 : decode cX12_compared 55 = .ok (.aload_n 0, 1) := by decide +kernel
theorem dX12_compared_56 : decode cX12_compared 56 = .ok (.invokevirtual 128, 3) := by decide +kernel
theorem dX12_compared_59 : decode cX12_compared 59 = .ok (.istore_n 3, 1) := by decide +kernel
theorem dX12_compared_60 : decode cX12_compared 60 = .ok (.iload_n 2, 1) := by decide +kernel
theorem dX12_compared_61 : decode cX12_compared 61 = .ok (.bipush 60, 2) := by decide +kernel
theorem dX12_compared_63 : decode cX12_compared 63 = .ok (.if_icmp .ne 16, 3) := by decide +kernel
theorem dX12_compared_66 : decode cX12_compared 66 = .ok (.iload_n 1, 1) := by decide +kernel
theorem dX12_compared_67 : decode cX12_compared 67 = .ok (.iload_n 3, 1) := by decide +kernel
theorem dX12_compared_68 : decode cX12_compared 68 = .ok (.if_icmp .ge 7, 3) := by decide +kernel
theorem dX12_compared_71 : decode cX12_compared 71 = .ok (.iconst 1, 1) := by decide +kernel
theorem dX12_compared_72 : decode cX12_compared 72 = .ok (.goto 36, 3) := by decide +kernel
theorem dX12_compared_75 : decode cX12_compared 75 = .ok (.iconst 0, 1) := by decide +kernel
theorem dX12_compared_76 : decode cX12_compared 76 = .ok (.goto 32, 3) := by decide +kernel
theorem dX12_compared_79 : decode cX12_compared 79 = .ok (.iload_n 2, 1) := by decide +kernel
theorem dX12_compared_80 : decode cX12_compared 80 = .ok (.bipush 61, 2) := by decide +kernel
theorem dX12_compared_82 : decode cX12_compared 82 = .ok (.if_icmp .ne 16, 3) := by decide +kernel
theorem dX12_compared_85 : decode cX12_compared 85 = .ok (.iload_n 1, 1) := by decide +kernel
theorem dX12_compared_86 : decode cX12_compared 86 = .ok (.iload_n 3, 1) := by decide +kernel
theorem dX12_compared_87 : decode cX12_compared 87 = .ok (.if_icmp .ne 7, 3) := by decide +kernel
theorem dX12_compared_90 : decode cX12_compared 90 = .ok (.iconst 1, 1) := by decide +kernel
theorem dX12_compared_91 : decode cX12_compared 91 = .ok (.goto 17, 3) := by decide +kernel
theorem dX12_compared_94 : decode cX12_compared 94 = .ok (.iconst 0, 1) := by decide +kernel
theorem dX12_compared_95 : decode cX12_compared 95 = .ok (.goto 13, 3) := by decide +kernel
theorem dX12_compared_98 : decode cX12_compared 98 = .ok (.iload_n 1, 1) := by decide +kernel
theorem dX12_compared_99 : decode cX12_compared 99 = .ok (.iload_n 3, 1) := by decide +kernel
theorem dX12_compared_100 : decode cX12_compared 100 = .ok (.if_icmp .le 7, 3) := by decide +kernel
theorem dX12_compared_103 : decode cX12_compared 103 = .ok (.iconst 1, 1) := by decide +kernel
theorem dX12_compared_104 : decode cX12_compared 104 = .ok (.goto 4, 3) := by decide +kernel
theorem dX12_compared_107 : decode cX12_compared 107 = .ok (.iconst 0, 1) := by decide +kernel
theorem dX12_compared_108 : decode cX12_compared 108 = .ok (.istore 4, 2) := by decide +kernel
theorem dX12_compared_110 : decode cX12_compared 110 = .ok (.iload 4, 2) := by decide +kernel
theorem dX12_compared_112 : decode cX12_compared 112 = .ok (.ifCond .eq 7, 3) := by decide +kernel
theorem dX12_compared_115 : decode cX12_compared 115 = .ok (.iconst 1, 1) := by decide +kernel
theorem dX12_compared_116 : decode cX12_compared 116 = .ok (.goto 4, 3) := by decide +kernel
theorem dX12_compared_119 : decode cX12_compared 119 = .ok (.iconst 0, 1) := by decide +kernel
theorem dX12_compared_120 : decode cX12_compared 120 = .ok (.ireturn, 1) := by decide +kernel
theorem dX12_both_0 : decode cX12_both 0 = .ok (.aload_n 0, 1) := by decide +kernel
theorem dX12_both_1 : decode cX12_both 1 = .ok (.invokevirtual 131, 3) := by decide +kernel
theorem dX12_both_4 : decode cX12_both 4 = .ok (.istore_n 1, 1) := by decide +kernel
theorem dX12_both_5 : decode cX12_both 5 = .ok (.aload_n 0, 1) := by decide +kernel
theorem dX12_both_6 : decode cX12_both 6 = .ok (.getfield 84, 3) := by decide +kernel
theorem dX12_both_9 : decode cX12_both 9 = .ok (.ifCond .eq 48, 3) := by decide +kernel
end
section
theorem dX12_both_12 : decode cX12_both 12 = .ok (.aload_n 0, 1) := by decide +kernel
theorem dX12_both_13 : decode cX12_both 13 = .ok (.aload_n 0, 1) := by decide +kernel
theorem dX12_both_14 : decode cX12_both 14 = .ok (.getfield 88, 3) := by decide +kernel
theorem dX12_both_17 : decode cX12_both 17 = .ok (.invokevirtual 91, 3) := by decide +kernel
theorem dX12_both_20 : decode cX12_both 20 = .ok (.bipush 38, 2) := by decide +kernel
theorem dX12_both_22 : decode cX12_both 22 = .ok (.if_icmp .ne 35, 3) := by decide +kernel
theorem dX12_both_25 : decode cX12_both 25 = .ok (.aload_n 0, 1) := by decide +kernel
theorem dX12_both_26 : decode cX12_both 26 = .ok (.dup, 1) := by decide +kernel
theorem dX12_both_27 : decode cX12_both 27 = .ok (.getfield 88, 3) := by decide +kernel
theorem dX12_both_30 : decode cX12_both 30 = .ok (.iconst 1, 1) := by decide +kernel
theorem dX12_both_31 : decode cX12_both 31 = .ok (.iadd, 1) := by decide +kernel
theorem dX12_both_32 : decode cX12_both 32 = .ok (.putfield 88, 3) := by decide +kernel
theorem dX12_both_35 : decode cX12_both 35 = .ok (.aload_n 0, 1) := by decide +kernel
theorem dX12_both_36 : decode cX12_both 36 = .ok (.invokevirtual 131, 3) := by decide +kernel
theorem dX12_both_39 : decode cX12_both 39 = .ok (.istore_n 2, 1) := by decide +kernel
theorem dX12_both_40 : decode cX12_both 40 = .ok (.iload_n 1, 1) := by decide +kernel
theorem dX12_both_41 : decode cX12_both 41 = .ok (.ifCond .eq 11, 3) := by decide +kernel
theorem dX12_both_44 : decode cX12_both 44 = .ok (.iload_n 2, 1) := by decide +kernel
theorem dX12_both_45 : decode cX12_both 45 = .ok (.ifCond .eq 7, 3) := by decide +kernel
theorem dX12_both_48 : decode cX12_both 48 = .ok (.iconst 1, 1) := by decide +kernel
theorem dX12_both_49 : decode cX12_both 49 = .ok (.goto 4, 3) := by decide +kernel
theorem dX12_both_52 : decode cX12_both 52 = .ok (.iconst 0, 1) := by decide +kernel
theorem dX12_both_53 : decode cX12_both 53 = .ok (.istore_n 1, 1) := by decide +kernel
theorem dX12_both_54 : decode cX12_both 54 = .ok (.goto (-49), 3) := by decide +kernel
theorem dX12_both_57 : decode cX12_both 57 = .ok (.iload_n 1, 1) := by decide +kernel
theorem dX12_both_58 : decode cX12_both 58 = .ok (.ireturn, 1) := by decide +kernel
theorem dX12_whole_0 : decode cX12_whole 0 = .ok (.aload_n 0, 1) := by decide +kernel
theorem dX12_whole_1 : decode cX12_whole 1 = .ok (.invokevirtual 134, 3) := by decide +kernel
theorem dX12_whole_4 : decode cX12_whole 4 = .ok (.istore_n 1, 1) := by decide +kernel
theorem dX12_whole_5 : decode cX12_whole 5 = .ok (.aload_n 0, 1) := by decide +kernel
theorem dX12_whole_6 : decode cX12_whole 6 = .ok (.getfield 84, 3) := by decide +kernel
theorem dX12_whole_9 : decode cX12_whole 9 = .ok (.ifCond .eq 48, 3) := by decide +kernel
theorem dX12_whole_12 : decode cX12_whole 12 = .ok (.aload_n 0, 1) := by decide +kernel
theorem dX12_whole_13 : decode cX12_whole 13 = .ok (.aload_n 0, 1) := by decide +kernel
theorem dX12_whole_14 : decode cX12_whole 14 = .ok (.getfield 88, 3) := by decide +kernel
theorem dX12_whole_17 : decode cX12_whole 17 = .ok (.invokevirtual 91, 3) := by decide +kernel
theorem dX12_whole_20 : decode cX12_whole 20 = .ok (.bipush 124, 2) := by decide +kernel
theorem dX12_whole_22 : decode cX12_whole 22 = .ok (.if_icmp .ne 35, 3) := by decide +kernel
theorem dX12_whole_25 : decode cX12_whole 25 = .ok (.aload_n 0, 1) := by decide +kernel
theorem dX12_whole_26 : decode cX12_whole 26 = .ok (.dup, 1) := by decide +kernel
theorem dX12_whole_27 : decode cX12_whole 27 = .ok (.getfield 88, 3) := by decide +kernel
theorem dX12_whole_30 : decode cX12_whole 30 = .ok (.iconst 1, 1) := by decide +kernel
theorem dX12_whole_31 : decode cX12_whole 31 = .ok (.iadd, 1) := by decide +kernel
theorem dX12_whole_32 : decode cX12_whole 32 = .ok (.putfield 88, 3) := by decide +kernel
theorem dX12_whole_35 : decode cX12_whole 35 = .ok (.aload_n 0, 1) := by decide +kernel
theorem dX12_whole_36 : decode cX12_whole 36 = .ok (.invokevirtual 134, 3) := by decide +kernel
theorem dX12_whole_39 : decode cX12_whole 39 = .ok (.istore_n 2, 1) := by decide +kernel
theorem dX12_whole_40 : decode cX12_whole 40 = .ok (.iload_n 1, 1) := by decide +kernel
theorem dX12_whole_41 : decode cX12_whole 41 = .ok (.ifCond .ne 7, 3) := by decide +kernel
theorem dX12_whole_44 : decode cX12_whole 44 = .ok (.iload_n 2, 1) := by decide +kernel
theorem dX12_whole_45 : decode cX12_whole 45 = .ok (.ifCond .eq 7, 3) := by decide +kernel
theorem dX12_whole_48 : decode cX12_whole 48 = .ok (.iconst 1, 1) := by decide +kernel
theorem dX12_whole_49 : decode cX12_whole 49 = .ok (.goto 4, 3) := by decide +kernel
theorem dX12_whole_52 : decode cX12_whole 52 = .ok (.iconst 0, 1) := by decide +kernel
theorem dX12_whole_53 : decode cX12_whole 53 = .ok (.istore_n 1, 1) := by decide +kernel
theorem dX12_whole_54 : decode cX12_whole 54 = .ok (.goto (-49), 3) := by decide +kernel
theorem dX12_whole_57 : decode cX12_whole 57 = .ok (.iload_n 1, 1) := by decide +kernel
theorem dX12_whole_58 : decode cX12_whole 58 = .ok (.ireturn, 1) := by decide +kernel
theorem dX12_walks_0 : decode cX12_walks 0 = .ok (.aload_n 0, 1) := by decide +kernel
theorem dX12_walks_1 : decode cX12_walks 1 = .ok (.iload_n 1, 1) := by decide +kernel
theorem dX12_walks_2 : decode cX12_walks 2 = .ok (.putfield 81, 3) := by decide +kernel
theorem dX12_walks_5 : decode cX12_walks 5 = .ok (.aload_n 0, 1) := by decide +kernel
theorem dX12_walks_6 : decode cX12_walks 6 = .ok (.iconst 0, 1) := by decide +kernel
theorem dX12_walks_7 : decode cX12_walks 7 = .ok (.putfield 88, 3) := by decide +kernel
theorem dX12_walks_10 : decode cX12_walks 10 = .ok (.aload_n 0, 1) := by decide +kernel
theorem dX12_walks_11 : decode cX12_walks 11 = .ok (.aload_n 0, 1) := by decide +kernel
theorem dX12_walks_12 : decode cX12_walks 12 = .ok (.getfield 7, 3) := by decide +kernel
theorem dX12_walks_15 : decode cX12_walks 15 = .ok (.iconst 5, 1) := by decide +kernel
theorem dX12_walks_16 : decode cX12_walks 16 = .ok (.iload_n 1, 1) := by decide +kernel
theorem dX12_walks_17 : decode cX12_walks 17 = .ok (.iadd, 1) := by decide +kernel
theorem dX12_walks_18 : decode cX12_walks 18 = .ok (.iaload, 1) := by decide +kernel
theorem dX12_walks_19 : decode cX12_walks 19 = .ok (.putfield 77, 3) := by decide +kernel
theorem dX12_walks_22 : decode cX12_walks 22 = .ok (.aload_n 0, 1) := by decide +kernel
theorem dX12_walks_23 : decode cX12_walks 23 = .ok (.iconst 0, 1) := by decide +kernel
theorem dX12_walks_24 : decode cX12_walks 24 = .ok (.putfield 116, 3) := by decide +kernel
theorem dX12_walks_27 : decode cX12_walks 27 = .ok (.aload_n 0, 1) := by decide +kernel
theorem dX12_walks_28 : decode cX12_walks 28 = .ok (.iconst 1, 1) := by decide +kernel
theorem dX12_walks_29 : decode cX12_walks 29 = .ok (.putfield 84, 3) := by decide +kernel
theorem dX12_walks_32 : decode cX12_walks 32 = .ok (.aload_n 0, 1) := by decide +kernel
theorem dX12_walks_33 : decode cX12_walks 33 = .ok (.iload_n 2, 1) := by decide +kernel
theorem dX12_walks_34 : decode cX12_walks 34 = .ok (.putfield 101, 3) := by decide +kernel
theorem dX12_walks_37 : decode cX12_walks 37 = .ok (.aload_n 0, 1) := by decide +kernel
theorem dX12_walks_38 : decode cX12_walks 38 = .ok (.iload_n 3, 1) := by decide +kernel
theorem dX12_walks_39 : decode cX12_walks 39 = .ok (.putfield 104, 3) := by decide +kernel
theorem dX12_walks_42 : decode cX12_walks 42 = .ok (.aload_n 0, 1) := by decide +kernel
theorem dX12_walks_43 : decode cX12_walks 43 = .ok (.iload 4, 2) := by decide +kernel
theorem dX12_walks_45 : decode cX12_walks 45 = .ok (.putfield 107, 3) := by decide +kernel
theorem dX12_walks_48 : decode cX12_walks 48 = .ok (.aload_n 0, 1) := by decide +kernel
theorem dX12_walks_49 : decode cX12_walks 49 = .ok (.invokevirtual 122, 3) := by decide +kernel
theorem dX12_walks_52 : decode cX12_walks 52 = .ok (.istore 5, 2) := by decide +kernel
theorem dX12_walks_54 : decode cX12_walks 54 = .ok (.aload_n 0, 1) := by decide +kernel
theorem dX12_walks_55 : decode cX12_walks 55 = .ok (.aload_n 0, 1) := by decide +kernel
theorem dX12_walks_56 : decode cX12_walks 56 = .ok (.getfield 84, 3) := by decide +kernel
theorem dX12_walks_59 : decode cX12_walks 59 = .ok (.ifCond .eq 18, 3) := by decide +kernel
theorem dX12_walks_62 : decode cX12_walks 62 = .ok (.aload_n 0, 1) := by decide +kernel
theorem dX12_walks_63 : decode cX12_walks 63 = .ok (.getfield 88, 3) := by decide +kernel
theorem dX12_walks_66 : decode cX12_walks 66 = .ok (.aload_n 0, 1) := by decide +kernel
theorem dX12_walks_67 : decode cX12_walks 67 = .ok (.getfield 77, 3) := by decide +kernel
theorem dX12_walks_70 : decode cX12_walks 70 = .ok (.if_icmp .ne 7, 3) := by decide +kernel
theorem dX12_walks_73 : decode cX12_walks 73 = .ok (.iconst 1, 1) := by decide +kernel
theorem dX12_walks_74 : decode cX12_walks 74 = .ok (.goto 4, 3) := by decide +kernel
theorem dX12_walks_77 : decode cX12_walks 77 = .ok (.iconst 0, 1) := by decide +kernel
theorem dX12_walks_78 : decode cX12_walks 78 = .ok (.putfield 84, 3) := by decide +kernel
theorem dX12_walks_81 : decode cX12_walks 81 = .ok (.iload 5, 2) := by decide +kernel
theorem dX12_walks_83 : decode cX12_walks 83 = .ok (.ireturn, 1) := by decide +kernel
theorem dX12_lawOf_0 : decode cX12_lawOf 0 = .ok (.iload_n 1, 1) := by decide +kernel
theorem dX12_lawOf_1 : decode cX12_lawOf 1 = .ok (.ifCond .ne 8, 3) := by decide +kernel
theorem dX12_lawOf_4 : decode cX12_lawOf 4 = .ok (.bipush 99, 2) := by decide +kernel
theorem dX12_lawOf_6 : decode cX12_lawOf 6 = .ok (.goto 4, 3) := by decide +kernel
theorem dX12_lawOf_9 : decode cX12_lawOf 9 = .ok (.iconst 1, 1) := by decide +kernel
theorem dX12_lawOf_10 : decode cX12_lawOf 10 = .ok (.istore 5, 2) := by decide +kernel
theorem dX12_lawOf_12 : decode cX12_lawOf 12 = .ok (.aload_n 0, 1) := by decide +kernel
theorem dX12_lawOf_13 : decode cX12_lawOf 13 = .ok (.getfield 7, 3) := by decide +kernel
theorem dX12_lawOf_16 : decode cX12_lawOf 16 = .ok (.iconst 5, 1) := by decide +kernel
theorem dX12_lawOf_17 : decode cX12_lawOf 17 = .ok (.iload_n 1, 1) := by decide +kernel
theorem dX12_lawOf_18 : decode cX12_lawOf 18 = .ok (.iadd, 1) := by decide +kernel
theorem dX12_lawOf_19 : decode cX12_lawOf 19 = .ok (.iaload, 1) := by decide +kernel
theorem dX12_lawOf_20 : decode cX12_lawOf 20 = .ok (.ifCond .lt 19, 3) := by decide +kernel
theorem dX12_lawOf_23 : decode cX12_lawOf 23 = .ok (.aload_n 0, 1) := by decide +kernel
theorem dX12_lawOf_24 : decode cX12_lawOf 24 = .ok (.iload_n 1, 1) := by decide +kernel
theorem dX12_lawOf_25 : decode cX12_lawOf 25 = .ok (.iload_n 2, 1) := by decide +kernel
theorem dX12_lawOf_26 : decode cX12_lawOf 26 = .ok (.iload_n 3, 1) := by decide +kernel
theorem dX12_lawOf_27 : decode cX12_lawOf 27 = .ok (.iload 4, 2) := by decide +kernel
theorem dX12_lawOf_29 : decode cX12_lawOf 29 = .ok (.invokevirtual 137, 3) := by decide +kernel
theorem dX12_lawOf_32 : decode cX12_lawOf 32 = .ok (.iconst 0, 1) := by decide +kernel
theorem dX12_lawOf_33 : decode cX12_lawOf 33 = .ok (.iload 5, 2) := by decide +kernel
theorem dX12_lawOf_35 : decode cX12_lawOf 35 = .ok (.invokestatic 141, 3) := by decide +kernel
theorem dX12_lawOf_38 : decode cX12_lawOf 38 = .ok (.ireturn, 1) := by decide +kernel
theorem dX12_lawOf_39 : decode cX12_lawOf 39 = .ok (.iload_n 1, 1) := by decide +kernel
theorem dX12_lawOf_40 : decode cX12_lawOf 40 = .ok (.ifCond .ne 7, 3) := by decide +kernel
theorem dX12_lawOf_43 : decode cX12_lawOf 43 = .ok (.iconst 3, 1) := by decide +kernel
theorem dX12_lawOf_44 : decode cX12_lawOf 44 = .ok (.goto 27, 3) := by decide +kernel
theorem dX12_lawOf_47 : decode cX12_lawOf 47 = .ok (.iload_n 2, 1) := by decide +kernel
theorem dX12_lawOf_48 : decode cX12_lawOf 48 = .ok (.ifCond .ne 8, 3) := by decide +kernel
theorem dX12_lawOf_51 : decode cX12_lawOf 51 = .ok (.iload_n 3, 1) := by decide +kernel
theorem dX12_lawOf_52 : decode cX12_lawOf 52 = .ok (.iconst 1, 1) := by decide +kernel
theorem dX12_lawOf_53 : decode cX12_lawOf 53 = .ok (.if_icmp .eq 13, 3) := by decide +kernel
theorem dX12_lawOf_56 : decode cX12_lawOf 56 = .ok (.iload_n 2, 1) := by decide +kernel
theorem dX12_lawOf_57 : decode cX12_lawOf 57 = .ok (.iconst 1, 1) := by decide +kernel
theorem dX12_lawOf_58 : decode cX12_lawOf 58 = .ok (.if_icmp .ne 12, 3) := by decide +kernel
theorem dX12_lawOf_61 : decode cX12_lawOf 61 = .ok (.iload_n 3, 1) := by decide +kernel
theorem dX12_lawOf_62 : decode cX12_lawOf 62 = .ok (.iconst 4, 1) := by decide +kernel
theorem dX12_lawOf_63 : decode cX12_lawOf 63 = .ok (.if_icmp .ne 7, 3) := by decide +kernel
theorem dX12_lawOf_66 : decode cX12_lawOf 66 = .ok (.iconst 1, 1) := by decide +kernel
theorem dX12_lawOf_67 : decode cX12_lawOf 67 = .ok (.goto 4, 3) := by decide +kernel
theorem dX12_lawOf_70 : decode cX12_lawOf 70 = .ok (.iconst 0, 1) := by decide +kernel
theorem dX12_lawOf_71 : decode cX12_lawOf 71 = .ok (.ireturn, 1) := by decide +kernel
theorem dX12_law_0 : decode cX12_law 0 = .ok (.iload_n 1, 1) := by decide +kernel
theorem dX12_law_1 : decode cX12_law 1 = .ok (.iconst 0, 1) := by decide +kernel
theorem dX12_law_2 : decode cX12_law 2 = .ok (.iconst 1, 1) := by decide +kernel
theorem dX12_law_3 : decode cX12_law 3 = .ok (.invokestatic 41, 3) := by decide +kernel
theorem dX12_law_6 : decode cX12_law 6 = .ok (.ifCond .eq 15, 3) := by decide +kernel
theorem dX12_law_9 : decode cX12_law 9 = .ok (.aload_n 0, 1) := by decide +kernel
theorem dX12_law_10 : decode cX12_law 10 = .ok (.iload_n 1, 1) := by decide +kernel
theorem dX12_law_11 : decode cX12_law 11 = .ok (.iload_n 2, 1) := by decide +kernel
theorem dX12_law_12 : decode cX12_law 12 = .ok (.iload_n 3, 1) := by decide +kernel
theorem dX12_law_13 : decode cX12_law 13 = .ok (.iload 4, 2) := by decide +kernel
theorem dX12_law_15 : decode cX12_law 15 = .ok (.invokevirtual 145, 3) := by decide +kernel
theorem dX12_law_18 : decode cX12_law 18 = .ok (.goto 9, 3) := by decide +kernel
theorem dX12_law_21 : decode cX12_law 21 = .ok (.aload_n 0, 1) := by decide +kernel
theorem dX12_law_22 : decode cX12_law 22 = .ok (.ldc 45, 2) := by decide +kernel
theorem dX12_law_24 : decode cX12_law 24 = .ok (.invokevirtual 46, 3) := by decide +kernel
theorem dX12_law_27 : decode cX12_law 27 = .ok (.ireturn, 1) := by decide +kernel
theorem dX12_feed_0 : decode cX12_feed 0 = .ok (.iload_n 3, 1) := by decide +kernel
theorem dX12_feed_1 : decode cX12_feed 1 = .ok (.iconst 1, 1) := by decide +kernel
theorem dX12_feed_2 : decode cX12_feed 2 = .ok (.bipush 8, 2) := by decide +kernel
theorem dX12_feed_4 : decode cX12_feed 4 = .ok (.invokestatic 41, 3) := by decide +kernel
theorem dX12_feed_7 : decode cX12_feed 7 = .ok (.ifCond .ne 10, 3) := by decide +kernel
theorem dX12_feed_10 : decode cX12_feed 10 = .ok (.aload_n 0, 1) := by decide +kernel
theorem dX12_feed_11 : decode cX12_feed 11 = .ok (.ldc 45, 2) := by decide +kernel
theorem dX12_feed_13 : decode cX12_feed 13 = .ok (.invokevirtual 46, 3) := by decide +kernel
theorem dX12_feed_16 : decode cX12_feed 16 = .ok (.ireturn, 1) := by decide +kernel
theorem dX12_feed_17 : decode cX12_feed 17 = .ok (.aload_n 0, 1) := by decide +kernel
theorem dX12_feed_18 : decode cX12_feed 18 = .ok (.getfield 7, 3) := by decide +kernel
theorem dX12_feed_21 : decode cX12_feed 21 = .ok (.iconst 3, 1) := by decide +kernel
theorem dX12_feed_22 : decode cX12_feed 22 = .ok (.iaload, 1) := by decide +kernel
theorem dX12_feed_23 : decode cX12_feed 23 = .ok (.iload_n 3, 1) := by decide +kernel
theorem dX12_feed_24 : decode cX12_feed 24 = .ok (.iadd, 1) := by decide +kernel
theorem dX12_feed_25 : decode cX12_feed 25 = .ok (.bipush 50, 2) := by decide +kernel
theorem dX12_feed_27 : decode cX12_feed 27 = .ok (.if_icmp .le 10, 3) := by decide +kernel
theorem dX12_feed_30 : decode cX12_feed 30 = .ok (.aload_n 0, 1) := by decide +kernel
theorem dX12_feed_31 : decode cX12_feed 31 = .ok (.ldc 50, 2) := by decide +kernel
theorem dX12_feed_33 : decode cX12_feed 33 = .ok (.invokevirtual 46, 3) := by decide +kernel
theorem dX12_feed_36 : decode cX12_feed 36 = .ok (.ireturn, 1) := by decide +kernel
theorem dX12_feed_37 : decode cX12_feed 37 = .ok (.iconst 0, 1) := by decide +kernel
theorem dX12_feed_38 : decode cX12_feed 38 = .ok (.istore 4, 2) := by decide +kernel
theorem dX12_feed_40 : decode cX12_feed 40 = .ok (.iload 4, 2) := by decide +kernel
theorem dX12_feed_42 : decode cX12_feed 42 = .ok (.iload_n 3, 1) := by decide +kernel
theorem dX12_feed_43 : decode cX12_feed 43 = .ok (.if_icmp .ge 45, 3) := by decide +kernel
theorem dX12_feed_46 : decode cX12_feed 46 = .ok (.aload_n 0, 1) := by decide +kernel
theorem dX12_feed_47 : decode cX12_feed 47 = .ok (.getfield 7, 3) := by decide +kernel
theorem dX12_feed_50 : decode cX12_feed 50 = .ok (.bipush 70, 2) := by decide +kernel
theorem dX12_feed_52 : decode cX12_feed 52 = .ok (.aload_n 0, 1) := by decide +kernel
theorem dX12_feed_53 : decode cX12_feed 53 = .ok (.getfield 7, 3) := by decide +kernel
theorem dX12_feed_56 : decode cX12_feed 56 = .ok (.iconst 3, 1) := by decide +kernel
theorem dX12_feed_57 : decode cX12_feed 57 = .ok (.iaload, 1) := by decide +kernel
theorem dX12_feed_58 : decode cX12_feed 58 = .ok (.iadd, 1) := by decide +kernel
theorem dX12_feed_59 : decode cX12_feed 59 = .ok (.lload_n 1, 1) := by decide +kernel
theorem dX12_feed_60 : decode cX12_feed 60 = .ok (.bipush 8, 2) := by decide +kernel
theorem dX12_feed_62 : decode cX12_feed 62 = .ok (.iload 4, 2) := by decide +kernel
theorem dX12_feed_64 : decode cX12_feed 64 = .ok (.imul, 1) := by decide +kernel
theorem dX12_feed_65 : decode cX12_feed 65 = .ok (.lshr, 1) := by decide +kernel
theorem dX12_feed_66 : decode cX12_feed 66 = .ok (.ldc2_w 148, 3) := by decide +kernel
theorem dX12_feed_69 : decode cX12_feed 69 = .ok (.land, 1) := by decide +kernel
theorem dX12_feed_70 : decode cX12_feed 70 = .ok (.l2i, 1) := by decide +kernel
theorem dX12_feed_71 : decode cX12_feed 71 = .ok (.iastore, 1) := by decide +kernel
theorem dX12_feed_72 : decode cX12_feed 72 = .ok (.aload_n 0, 1) := by decide +kernel
theorem dX12_feed_73 : decode cX12_feed 73 = .ok (.getfield 7, 3) := by decide +kernel
theorem dX12_feed_76 : decode cX12_feed 76 = .ok (.iconst 3, 1) := by decide +kernel
theorem dX12_feed_77 : decode cX12_feed 77 = .ok (.dup2, 1) := by decide +kernel
theorem dX12_feed_78 : decode cX12_feed 78 = .ok (.iaload, 1) := by decide +kernel
theorem dX12_feed_79 : decode cX12_feed 79 = .ok (.iconst 1, 1) := by decide +kernel
theorem dX12_feed_80 : decode cX12_feed 80 = .ok (.iadd, 1) := by decide +kernel
theorem dX12_feed_81 : decode cX12_feed 81 = .ok (.iastore, 1) := by decide +kernel
theorem dX12_feed_82 : decode cX12_feed 82 = .ok (.iinc 4 1, 3) := by decide +kernel
theorem dX12_feed_85 : decode cX12_feed 85 = .ok (.goto (-45), 3) := by decide +kernel
theorem dX12_feed_88 : decode cX12_feed 88 = .ok (.aload_n 0, 1) := by decide +kernel
theorem dX12_feed_89 : decode cX12_feed 89 = .ok (.getfield 7, 3) := by decide +kernel
theorem dX12_feed_92 : decode cX12_feed 92 = .ok (.iconst 3, 1) := by decide +kernel
theorem dX12_feed_93 : decode cX12_feed 93 = .ok (.iaload, 1) := by decide +kernel
theorem dX12_feed_94 : decode cX12_feed 94 = .ok (.ireturn, 1) := by decide +kernel
theorem dX12_text_0 : decode cX12_text 0 = .ok (.iload_n 1, 1) := by decide +kernel
theorem dX12_text_1 : decode cX12_text 1 = .ok (.iconst 0, 1) := by decide +kernel
theorem dX12_text_2 : decode cX12_text 2 = .ok (.iconst 1, 1) := by decide +kernel
theorem dX12_text_3 : decode cX12_text 3 = .ok (.invokestatic 41, 3) := by decide +kernel
theorem dX12_text_6 : decode cX12_text 6 = .ok (.ifCond .ne 10, 3) := by decide +kernel
theorem dX12_text_9 : decode cX12_text 9 = .ok (.aload_n 0, 1) := by decide +kernel
theorem dX12_text_10 : decode cX12_text 10 = .ok (.ldc 45, 2) := by decide +kernel
theorem dX12_text_12 : decode cX12_text 12 = .ok (.invokevirtual 46, 3) := by decide +kernel
theorem dX12_text_15 : decode cX12_text 15 = .ok (.ireturn, 1) := by decide +kernel
theorem dX12_text_16 : decode cX12_text 16 = .ok (.aload_n 0, 1) := by decide +kernel
theorem dX12_text_17 : decode cX12_text 17 = .ok (.aload_n 0, 1) := by decide +kernel
theorem dX12_text_18 : decode cX12_text 18 = .ok (.getfield 7, 3) := by decide +kernel
theorem dX12_text_21 : decode cX12_text 21 = .ok (.aload_n 0, 1) := by decide +kernel
theorem dX12_text_22 : decode cX12_text 22 = .ok (.getfield 19, 3) := by decide +kernel
theorem dX12_text_25 : decode cX12_text 25 = .ok (.invokevirtual 150, 3) := by decide +kernel
theorem dX12_text_28 : decode cX12_text 28 = .ok (.iconst 0, 1) := by decide +kernel
theorem dX12_text_29 : decode cX12_text 29 = .ok (.istore_n 2, 1) := by decide +kernel
theorem dX12_text_30 : decode cX12_text 30 = .ok (.iload_n 2, 1) := by decide +kernel
theorem dX12_text_31 : decode cX12_text 31 = .ok (.bipush 50, 2) := by decide +kernel
theorem dX12_text_33 : decode cX12_text 33 = .ok (.if_icmp .ge 33, 3) := by decide +kernel
theorem dX12_text_36 : decode cX12_text 36 = .ok (.aload_n 0, 1) := by decide +kernel
theorem dX12_text_37 : decode cX12_text 37 = .ok (.getfield 7, 3) := by decide +kernel
theorem dX12_text_40 : decode cX12_text 40 = .ok (.sipush 140, 3) := by decide +kernel
theorem dX12_text_43 : decode cX12_text 43 = .ok (.bipush 50, 2) := by decide +kernel
theorem dX12_text_45 : decode cX12_text 45 = .ok (.iload_n 1, 1) := by decide +kernel
theorem dX12_text_46 : decode cX12_text 46 = .ok (.imul, 1) := by decide +kernel
theorem dX12_text_47 : decode cX12_text 47 = .ok (.iadd, 1) := by decide +kernel
theorem dX12_text_48 : decode cX12_text 48 = .ok (.iload_n 2, 1) := by decide +kernel
theorem dX12_text_49 : decode cX12_text 49 = .ok (.iadd, 1) := by decide +kernel
theorem dX12_text_50 : decode cX12_text 50 = .ok (.aload_n 0, 1) := by decide +kernel
theorem dX12_text_51 : decode cX12_text 51 = .ok (.getfield 7, 3) := by decide +kernel
theorem dX12_text_54 : decode cX12_text 54 = .ok (.bipush 70, 2) := by decide +kernel
theorem dX12_text_56 : decode cX12_text 56 = .ok (.iload_n 2, 1) := by decide +kernel
theorem dX12_text_57 : decode cX12_text 57 = .ok (.iadd, 1) := by decide +kernel
theorem dX12_text_58 : decode cX12_text 58 = .ok (.iaload, 1) := by decide +kernel
theorem dX12_text_59 : decode cX12_text 59 = .ok (.iastore, 1) := by decide +kernel
theorem dX12_text_60 : decode cX12_text 60 = .ok (.iinc 2 1, 3) := by decide +kernel
theorem dX12_text_63 : decode cX12_text 63 = .ok (.goto (-33), 3) := by decide +kernel
theorem dX12_text_66 : decode cX12_text 66 = .ok (.aload_n 0, 1) := by decide +kernel
theorem dX12_text_67 : decode cX12_text 67 = .ok (.getfield 7, 3) := by decide +kernel
theorem dX12_text_70 : decode cX12_text 70 = .ok (.iconst 5, 1) := by decide +kernel
theorem dX12_text_71 : decode cX12_text 71 = .ok (.iload_n 1, 1) := by decide +kernel
theorem dX12_text_72 : decode cX12_text 72 = .ok (.iadd, 1) := by decide +kernel
theorem dX12_text_73 : decode cX12_text 73 = .ok (.aload_n 0, 1) := by decide +kernel
theorem dX12_text_74 : decode cX12_text 74 = .ok (.getfield 7, 3) := by decide +kernel
theorem dX12_text_77 : decode cX12_text 77 = .ok (.iconst 3, 1) := by decide +kernel
theorem dX12_text_78 : decode cX12_text 78 = .ok (.iaload, 1) := by decide +kernel
theorem dX12_text_79 : decode cX12_text 79 = .ok (.iastore, 1) := by decide +kernel
theorem dX12_text_80 : decode cX12_text 80 = .ok (.aload_n 0, 1) := by decide +kernel
theorem dX12_text_81 : decode cX12_text 81 = .ok (.iload_n 1, 1) := by decide +kernel
theorem dX12_text_82 : decode cX12_text 82 = .ok (.iconst 1, 1) := by decide +kernel
theorem dX12_text_83 : decode cX12_text 83 = .ok (.iconst 1, 1) := by decide +kernel
theorem dX12_text_84 : decode cX12_text 84 = .ok (.iconst 1, 1) := by decide +kernel
theorem dX12_text_85 : decode cX12_text 85 = .ok (.invokevirtual 137, 3) := by decide +kernel
theorem dX12_text_88 : decode cX12_text 88 = .ok (.istore_n 2, 1) := by decide +kernel
theorem dX12_text_89 : decode cX12_text 89 = .ok (.aload_n 0, 1) := by decide +kernel
theorem dX12_text_90 : decode cX12_text 90 = .ok (.getfield 84, 3) := by decide +kernel
theorem dX12_text_93 : decode cX12_text 93 = .ok (.ifCond .eq 12, 3) := by decide +kernel
theorem dX12_text_96 : decode cX12_text 96 = .ok (.iload_n 2, 1) := by decide +kernel
theorem dX12_text_97 : decode cX12_text 97 = .ok (.iload_n 2, 1) := by decide +kernel
theorem dX12_text_98 : decode cX12_text 98 = .ok (.if_icmp .ne 7, 3) := by decide +kernel
theorem dX12_text_101 : decode cX12_text 101 = .ok (.iconst 1, 1) := by decide +kernel
theorem dX12_text_102 : decode cX12_text 102 = .ok (.goto 4, 3) := by decide +kernel
theorem dX12_text_105 : decode cX12_text 105 = .ok (.iconst 0, 1) := by decide +kernel
theorem dX12_text_106 : decode cX12_text 106 = .ok (.istore_n 3, 1) := by decide +kernel
theorem dX12_text_107 : decode cX12_text 107 = .ok (.aload_n 0, 1) := by decide +kernel
theorem dX12_text_108 : decode cX12_text 108 = .ok (.getfield 88, 3) := by decide +kernel
theorem dX12_text_111 : decode cX12_text 111 = .ok (.istore 4, 2) := by decide +kernel
theorem dX12_text_113 : decode cX12_text 113 = .ok (.iload_n 3, 1) := by decide +kernel
theorem dX12_text_114 : decode cX12_text 114 = .ok (.ifCond .ne 15, 3) := by decide +kernel
theorem dX12_text_117 : decode cX12_text 117 = .ok (.aload_n 0, 1) := by decide +kernel
theorem dX12_text_118 : decode cX12_text 118 = .ok (.aload_n 0, 1) := by decide +kernel
theorem dX12_text_119 : decode cX12_text 119 = .ok (.getfield 19, 3) := by decide +kernel
theorem dX12_text_122 : decode cX12_text 122 = .ok (.aload_n 0, 1) := by decide +kernel
theorem dX12_text_123 : decode cX12_text 123 = .ok (.getfield 7, 3) := by decide +kernel
theorem dX12_text_126 : decode cX12_text 126 = .ok (.invokevirtual 150, 3) := by decide +kernel
theorem dX12_text_129 : decode cX12_text 129 = .ok (.aload_n 0, 1) := by decide +kernel
theorem dX12_text_130 : decode cX12_text 130 = .ok (.getfield 7, 3) := by decide +kernel
theorem dX12_text_133 : decode cX12_text 133 = .ok (.iconst 3, 1) := by decide +kernel
theorem dX12_text_134 : decode cX12_text 134 = .ok (.iconst 0, 1) := by decide +kernel
theorem dX12_text_135 : decode cX12_text 135 = .ok (.iastore, 1) := by decide +kernel
theorem dX12_text_136 : decode cX12_text 136 = .ok (.iload_n 3, 1) := by decide +kernel
theorem dX12_text_137 : decode cX12_text 137 = .ok (.ifCond .eq 7, 3) := by decide +kernel
theorem dX12_text_140 : decode cX12_text 140 = .ok (.iconst 1, 1) := by decide +kernel
theorem dX12_text_141 : decode cX12_text 141 = .ok (.goto 8, 3) := by decide +kernel
theorem dX12_text_144 : decode cX12_text 144 = .ok (.bipush (-10), 2) := by decide +kernel
theorem dX12_text_146 : decode cX12_text 146 = .ok (.iload 4, 2) := by decide +kernel
theorem dX12_text_148 : decode cX12_text 148 = .ok (.isub, 1) := by decide +kernel
theorem dX12_text_149 : decode cX12_text 149 = .ok (.ireturn, 1) := by decide +kernel
theorem dX12_falling_0 : decode cX12_falling 0 = .ok (.aload_n 0, 1) := by decide +kernel
theorem dX12_falling_1 : decode cX12_falling 1 = .ok (.iload_n 1, 1) := by decide +kernel
theorem dX12_falling_2 : decode cX12_falling 2 = .ok (.iconst 1, 1) := by decide +kernel
theorem dX12_falling_3 : decode cX12_falling 3 = .ok (.invokevirtual 59, 3) := by decide +kernel
theorem dX12_falling_6 : decode cX12_falling 6 = .ok (.istore_n 2, 1) := by decide +kernel
theorem dX12_falling_7 : decode cX12_falling 7 = .ok (.aload_n 0, 1) := by decide +kernel
theorem dX12_falling_8 : decode cX12_falling 8 = .ok (.iconst 0, 1) := by decide +kernel
theorem dX12_falling_9 : decode cX12_falling 9 = .ok (.iload_n 1, 1) := by decide +kernel
theorem dX12_falling_10 : decode cX12_falling 10 = .ok (.aload_n 0, 1) := by decide +kernel
theorem dX12_falling_11 : decode cX12_falling 11 = .ok (.getfield 7, 3) := by decide +kernel
theorem dX12_falling_14 : decode cX12_falling 14 = .ok (.iconst 0, 1) := by decide +kernel
theorem dX12_falling_15 : decode cX12_falling 15 = .ok (.iaload, 1) := by decide +kernel
theorem dX12_falling_16 : decode cX12_falling 16 = .ok (.bipush 30, 2) := by decide +kernel
theorem dX12_falling_18 : decode cX12_falling 18 = .ok (.irem, 1) := by decide +kernel
theorem dX12_falling_19 : decode cX12_falling 19 = .ok (.aload_n 0, 1) := by decide +kernel
theorem dX12_falling_20 : decode cX12_falling 20 = .ok (.iload_n 1, 1) := by decide +kernel
theorem dX12_falling_21 : decode cX12_falling 21 = .ok (.iconst 2, 1) := by decide +kernel
theorem dX12_falling_22 : decode cX12_falling 22 = .ok (.invokevirtual 59, 3) := by decide +kernel
theorem dX12_falling_25 : decode cX12_falling 25 = .ok (.invokevirtual 145, 3) := by decide +kernel
theorem dX12_falling_28 : decode cX12_falling 28 = .ok (.istore_n 3, 1) := by decide +kernel
theorem dX12_falling_29 : decode cX12_falling 29 = .ok (.aload_n 0, 1) := by decide +kernel
theorem dX12_falling_30 : decode cX12_falling 30 = .ok (.iload_n 1, 1) := by decide +kernel
theorem dX12_falling_31 : decode cX12_falling 31 = .ok (.iconst 0, 1) := by decide +kernel
theorem dX12_falling_32 : decode cX12_falling 32 = .ok (.invokevirtual 59, 3) := by decide +kernel
theorem dX12_falling_35 : decode cX12_falling 35 = .ok (.tableswitch 123 1 6 #[37, 57, 91, 46, 64, 103], 37) := by decide +kernel
theorem dX12_falling_72 : decode cX12_falling 72 = .ok (.iload_n 3, 1) := by decide +kernel
theorem dX12_falling_73 : decode cX12_falling 73 = .ok (.iload_n 2, 1) := by decide +kernel
theorem dX12_falling_74 : decode cX12_falling 74 = .ok (.iconst 3, 1) := by decide +kernel
theorem dX12_falling_75 : decode cX12_falling 75 = .ok (.irem, 1) := by decide +kernel
theorem dX12_falling_76 : decode cX12_falling 76 = .ok (.isub, 1) := by decide +kernel
theorem dX12_falling_77 : decode cX12_falling 77 = .ok (.istore_n 3, 1) := by decide +kernel
theorem dX12_falling_78 : decode cX12_falling 78 = .ok (.goto 80, 3) := by decide +kernel
theorem dX12_falling_81 : decode cX12_falling 81 = .ok (.iconst 2, 1) := by decide +kernel
theorem dX12_falling_82 : decode cX12_falling 82 = .ok (.iload_n 3, 1) := by decide +kernel
theorem dX12_falling_83 : decode cX12_falling 83 = .ok (.iload_n 2, 1) := by decide +kernel
theorem dX12_falling_84 : decode cX12_falling 84 = .ok (.iconst 3, 1) := by decide +kernel
theorem dX12_falling_85 : decode cX12_falling 85 = .ok (.irem, 1) := by decide +kernel
theorem dX12_falling_86 : decode cX12_falling 86 = .ok (.isub, 1) := by decide +kernel
theorem dX12_falling_87 : decode cX12_falling 87 = .ok (.imul, 1) := by decide +kernel
theorem dX12_falling_88 : decode cX12_falling 88 = .ok (.istore_n 3, 1) := by decide +kernel
theorem dX12_falling_89 : decode cX12_falling 89 = .ok (.goto 69, 3) := by decide +kernel
theorem dX12_falling_92 : decode cX12_falling 92 = .ok (.iload_n 3, 1) := by decide +kernel
theorem dX12_falling_93 : decode cX12_falling 93 = .ok (.iconst 2, 1) := by decide +kernel
theorem dX12_falling_94 : decode cX12_falling 94 = .ok (.idiv, 1) := by decide +kernel
theorem dX12_falling_95 : decode cX12_falling 95 = .ok (.istore_n 3, 1) := by decide +kernel
theorem dX12_falling_96 : decode cX12_falling 96 = .ok (.goto 62, 3) := by decide +kernel
theorem dX12_falling_99 : decode cX12_falling 99 = .ok (.aload_n 0, 1) := by decide +kernel
theorem dX12_falling_100 : decode cX12_falling 100 = .ok (.getfield 7, 3) := by decide +kernel
theorem dX12_falling_103 : decode cX12_falling 103 = .ok (.iconst 0, 1) := by decide +kernel
theorem dX12_falling_104 : decode cX12_falling 104 = .ok (.iaload, 1) := by decide +kernel
theorem dX12_falling_105 : decode cX12_falling 105 = .ok (.bipush 7, 2) := by decide +kernel
theorem dX12_falling_107 : decode cX12_falling 107 = .ok (.irem, 1) := by decide +kernel
theorem dX12_falling_108 : decode cX12_falling 108 = .ok (.ifCond .ne 11, 3) := by decide +kernel
theorem dX12_falling_111 : decode cX12_falling 111 = .ok (.iload_n 3, 1) := by decide +kernel
theorem dX12_falling_112 : decode cX12_falling 112 = .ok (.iconst 2, 1) := by decide +kernel
theorem dX12_falling_113 : decode cX12_falling 113 = .ok (.idiv, 1) := by decide +kernel
theorem dX12_falling_114 : decode cX12_falling 114 = .ok (.iload_n 2, 1) := by decide +kernel
theorem dX12_falling_115 : decode cX12_falling 115 = .ok (.iadd, 1) := by decide +kernel
theorem dX12_falling_116 : decode cX12_falling 116 = .ok (.goto 6, 3) := by decide +kernel
theorem dX12_falling_119 : decode cX12_falling 119 = .ok (.iload_n 3, 1) := by decide +kernel
theorem dX12_falling_120 : decode cX12_falling 120 = .ok (.iconst 2, 1) := by decide +kernel
theorem dX12_falling_121 : decode cX12_falling 121 = .ok (.idiv, 1) := by decide +kernel
theorem dX12_falling_122 : decode cX12_falling 122 = .ok (.istore_n 3, 1) := by decide +kernel
theorem dX12_falling_123 : decode cX12_falling 123 = .ok (.goto 35, 3) := by decide +kernel
theorem dX12_falling_126 : decode cX12_falling 126 = .ok (.iload_n 3, 1) := by decide +kernel
theorem dX12_falling_127 : decode cX12_falling 127 = .ok (.aload_n 0, 1) := by decide +kernel
theorem dX12_falling_128 : decode cX12_falling 128 = .ok (.iload_n 1, 1) := by decide +kernel
theorem dX12_falling_129 : decode cX12_falling 129 = .ok (.iconst 3, 1) := by decide +kernel
theorem dX12_falling_130 : decode cX12_falling 130 = .ok (.invokevirtual 59, 3) := by decide +kernel
theorem dX12_falling_133 : decode cX12_falling 133 = .ok (.iadd, 1) := by decide +kernel
theorem dX12_falling_134 : decode cX12_falling 134 = .ok (.istore_n 3, 1) := by decide +kernel
theorem dX12_falling_135 : decode cX12_falling 135 = .ok (.goto 23, 3) := by decide +kernel
theorem dX12_falling_138 : decode cX12_falling 138 = .ok (.iload_n 3, 1) := by decide +kernel
theorem dX12_falling_139 : decode cX12_falling 139 = .ok (.aload_n 0, 1) := by decide +kernel
theorem dX12_falling_140 : decode cX12_falling 140 = .ok (.iload_n 1, 1) := by decide +kernel
theorem dX12_falling_141 : decode cX12_falling 141 = .ok (.iconst 3, 1) := by decide +kernel
theorem dX12_falling_142 : decode cX12_falling 142 = .ok (.invokevirtual 59, 3) := by decide +kernel
theorem dX12_falling_145 : decode cX12_falling 145 = .ok (.aload_n 0, 1) := by decide +kernel
theorem dX12_falling_146 : decode cX12_falling 146 = .ok (.getfield 7, 3) := by decide +kernel
theorem dX12_falling_149 : decode cX12_falling 149 = .ok (.bipush 7, 2) := by decide +kernel
theorem dX12_falling_151 : decode cX12_falling 151 = .ok (.iaload, 1) := by decide +kernel
theorem dX12_falling_152 : decode cX12_falling 152 = .ok (.iadd, 1) := by decide +kernel
theorem dX12_falling_153 : decode cX12_falling 153 = .ok (.iadd, 1) := by decide +kernel
theorem dX12_falling_154 : decode cX12_falling 154 = .ok (.istore_n 3, 1) := by decide +kernel
theorem dX12_falling_155 : decode cX12_falling 155 = .ok (.goto 3, 3) := by decide +kernel
theorem dX12_falling_158 : decode cX12_falling 158 = .ok (.iload_n 3, 1) := by decide +kernel
theorem dX12_falling_159 : decode cX12_falling 159 = .ok (.ifCond .ge 7, 3) := by decide +kernel
theorem dX12_falling_162 : decode cX12_falling 162 = .ok (.iconst 0, 1) := by decide +kernel
theorem dX12_falling_163 : decode cX12_falling 163 = .ok (.goto 4, 3) := by decide +kernel
theorem dX12_falling_166 : decode cX12_falling 166 = .ok (.iload_n 3, 1) := by decide +kernel
theorem dX12_falling_167 : decode cX12_falling 167 = .ok (.ireturn, 1) := by decide +kernel
theorem dX12_taken_0 : decode cX12_taken 0 = .ok (.aload_n 0, 1) := by decide +kernel
theorem dX12_taken_1 : decode cX12_taken 1 = .ok (.iload_n 1, 1) := by decide +kernel
theorem dX12_taken_2 : decode cX12_taken 2 = .ok (.iconst 2, 1) := by decide +kernel
theorem dX12_taken_3 : decode cX12_taken 3 = .ok (.invokevirtual 59, 3) := by decide +kernel
theorem dX12_taken_6 : decode cX12_taken 6 = .ok (.istore_n 2, 1) := by decide +kernel
theorem dX12_taken_7 : decode cX12_taken 7 = .ok (.iload_n 2, 1) := by decide +kernel
theorem dX12_taken_8 : decode cX12_taken 8 = .ok (.iload_n 2, 1) := by decide +kernel
theorem dX12_taken_9 : decode cX12_taken 9 = .ok (.iconst 2, 1) := by decide +kernel
theorem dX12_taken_10 : decode cX12_taken 10 = .ok (.irem, 1) := by decide +kernel
theorem dX12_taken_11 : decode cX12_taken 11 = .ok (.isub, 1) := by decide +kernel
theorem dX12_taken_12 : decode cX12_taken 12 = .ok (.istore_n 3, 1) := by decide +kernel
theorem dX12_taken_13 : decode cX12_taken 13 = .ok (.aload_n 0, 1) := by decide +kernel
theorem dX12_taken_14 : decode cX12_taken 14 = .ok (.iload_n 1, 1) := by decide +kernel
theorem dX12_taken_15 : decode cX12_taken 15 = .ok (.iconst 0, 1) := by decide +kernel
theorem dX12_taken_16 : decode cX12_taken 16 = .ok (.invokevirtual 59, 3) := by decide +kernel
theorem dX12_taken_19 : decode cX12_taken 19 = .ok (.tableswitch 90 1 6 #[37, 52, 77, 39, 56, 77], 37) := by decide +kernel
theorem dX12_taken_56 : decode cX12_taken 56 = .ok (.iload_n 3, 1) := by decide +kernel
theorem dX12_taken_57 : decode cX12_taken 57 = .ok (.ireturn, 1) := by decide +kernel
theorem dX12_taken_58 : decode cX12_taken 58 = .ok (.iload_n 3, 1) := by decide +kernel
theorem dX12_taken_59 : decode cX12_taken 59 = .ok (.bipush 99, 2) := by decide +kernel
theorem dX12_taken_61 : decode cX12_taken 61 = .ok (.if_icmp .ge 7, 3) := by decide +kernel
theorem dX12_taken_64 : decode cX12_taken 64 = .ok (.iload_n 3, 1) := by decide +kernel
theorem dX12_taken_65 : decode cX12_taken 65 = .ok (.goto 5, 3) := by decide +kernel
theorem dX12_taken_68 : decode cX12_taken 68 = .ok (.bipush 99, 2) := by decide +kernel
theorem dX12_taken_70 : decode cX12_taken 70 = .ok (.ireturn, 1) := by decide +kernel
theorem dX12_taken_71 : decode cX12_taken 71 = .ok (.iload_n 2, 1) := by decide +kernel
theorem dX12_taken_72 : decode cX12_taken 72 = .ok (.iconst 2, 1) := by decide +kernel
theorem dX12_taken_73 : decode cX12_taken 73 = .ok (.idiv, 1) := by decide +kernel
theorem dX12_taken_74 : decode cX12_taken 74 = .ok (.ireturn, 1) := by decide +kernel
theorem dX12_taken_75 : decode cX12_taken 75 = .ok (.iload_n 2, 1) := by decide +kernel
theorem dX12_taken_76 : decode cX12_taken 76 = .ok (.iconst 2, 1) := by decide +kernel
theorem dX12_taken_77 : decode cX12_taken 77 = .ok (.idiv, 1) := by decide +kernel
theorem dX12_taken_78 : decode cX12_taken 78 = .ok (.bipush 10, 2) := by decide +kernel
theorem dX12_taken_80 : decode cX12_taken 80 = .ok (.iadd, 1) := by decide +kernel
theorem dX12_taken_81 : decode cX12_taken 81 = .ok (.iload_n 2, 1) := by decide +kernel
theorem dX12_taken_82 : decode cX12_taken 82 = .ok (.if_icmp .ge 12, 3) := by decide +kernel
theorem dX12_taken_85 : decode cX12_taken 85 = .ok (.iload_n 2, 1) := by decide +kernel
theorem dX12_taken_86 : decode cX12_taken 86 = .ok (.iconst 2, 1) := by decide +kernel
theorem dX12_taken_87 : decode cX12_taken 87 = .ok (.idiv, 1) := by decide +kernel
theorem dX12_taken_88 : decode cX12_taken 88 = .ok (.bipush 10, 2) := by decide +kernel
theorem dX12_taken_90 : decode cX12_taken 90 = .ok (.iadd, 1) := by decide +kernel
theorem dX12_taken_91 : decode cX12_taken 91 = .ok (.goto 4, 3) := by decide +kernel
theorem dX12_taken_94 : decode cX12_taken 94 = .ok (.iload_n 2, 1) := by decide +kernel
theorem dX12_taken_95 : decode cX12_taken 95 = .ok (.ireturn, 1) := by decide +kernel
theorem dX12_taken_96 : decode cX12_taken 96 = .ok (.iload_n 2, 1) := by decide +kernel
theorem dX12_taken_97 : decode cX12_taken 97 = .ok (.bipush 50, 2) := by decide +kernel
theorem dX12_taken_99 : decode cX12_taken 99 = .ok (.if_icmp .ge 7, 3) := by decide +kernel
theorem dX12_taken_102 : decode cX12_taken 102 = .ok (.iload_n 2, 1) := by decide +kernel
theorem dX12_taken_103 : decode cX12_taken 103 = .ok (.goto 5, 3) := by decide +kernel
theorem dX12_taken_106 : decode cX12_taken 106 = .ok (.bipush 50, 2) := by decide +kernel
theorem dX12_taken_108 : decode cX12_taken 108 = .ok (.ireturn, 1) := by decide +kernel
theorem dX12_taken_109 : decode cX12_taken 109 = .ok (.iload_n 2, 1) := by decide +kernel
theorem dX12_taken_110 : decode cX12_taken 110 = .ok (.ireturn, 1) := by decide +kernel
theorem dX12_isSigned_0 : decode cX12_isSigned 0 = .ok (.aload_n 0, 1) := by decide +kernel
theorem dX12_isSigned_1 : decode cX12_isSigned 1 = .ok (.getfield 154, 3) := by decide +kernel
theorem dX12_isSigned_4 : decode cX12_isSigned 4 = .ok (.ifCond .le 20, 3) := by decide +kernel
theorem dX12_isSigned_7 : decode cX12_isSigned 7 = .ok (.iload_n 2, 1) := by decide +kernel
theorem dX12_isSigned_8 : decode cX12_isSigned 8 = .ok (.aload_n 0, 1) := by decide +kernel
theorem dX12_isSigned_9 : decode cX12_isSigned 9 = .ok (.getfield 154, 3) := by decide +kernel
theorem dX12_isSigned_12 : decode cX12_isSigned 12 = .ok (.irem, 1) := by decide +kernel
theorem dX12_isSigned_13 : decode cX12_isSigned 13 = .ok (.ifCond .ne 7, 3) := by decide +kernel
theorem dX12_isSigned_16 : decode cX12_isSigned 16 = .ok (.iconst 1, 1) := by decide +kernel
theorem dX12_isSigned_17 : decode cX12_isSigned 17 = .ok (.goto 29, 3) := by decide +kernel
theorem dX12_isSigned_20 : decode cX12_isSigned 20 = .ok (.iconst 0, 1) := by decide +kernel
theorem dX12_isSigned_21 : decode cX12_isSigned 21 = .ok (.goto 25, 3) := by decide +kernel
theorem dX12_isSigned_24 : decode cX12_isSigned 24 = .ok (.aload_n 0, 1) := by decide +kernel
theorem dX12_isSigned_25 : decode cX12_isSigned 25 = .ok (.iconst 1, 1) := by decide +kernel
theorem dX12_isSigned_26 : decode cX12_isSigned 26 = .ok (.iload_n 1, 1) := by decide +kernel
theorem dX12_isSigned_27 : decode cX12_isSigned 27 = .ok (.iload_n 2, 1) := by decide +kernel
theorem dX12_isSigned_28 : decode cX12_isSigned 28 = .ok (.bipush 7, 2) := by decide +kernel
theorem dX12_isSigned_30 : decode cX12_isSigned 30 = .ok (.irem, 1) := by decide +kernel
theorem dX12_isSigned_31 : decode cX12_isSigned 31 = .ok (.iload_n 2, 1) := by decide +kernel
theorem dX12_isSigned_32 : decode cX12_isSigned 32 = .ok (.bipush 30, 2) := by decide +kernel
theorem dX12_isSigned_34 : decode cX12_isSigned 34 = .ok (.irem, 1) := by decide +kernel
theorem dX12_isSigned_35 : decode cX12_isSigned 35 = .ok (.invokevirtual 145, 3) := by decide +kernel
theorem dX12_isSigned_38 : decode cX12_isSigned 38 = .ok (.ifCond .eq 7, 3) := by decide +kernel
theorem dX12_isSigned_41 : decode cX12_isSigned 41 = .ok (.iconst 1, 1) := by decide +kernel
theorem dX12_isSigned_42 : decode cX12_isSigned 42 = .ok (.goto 4, 3) := by decide +kernel
theorem dX12_isSigned_45 : decode cX12_isSigned 45 = .ok (.iconst 0, 1) := by decide +kernel
theorem dX12_isSigned_46 : decode cX12_isSigned 46 = .ok (.ireturn, 1) := by decide +kernel
theorem dX12_sign_0 : decode cX12_sign 0 = .ok (.iload_n 1, 1) := by decide +kernel
theorem dX12_sign_1 : decode cX12_sign 1 = .ok (.iconst 0, 1) := by decide +kernel
theorem dX12_sign_2 : decode cX12_sign 2 = .ok (.iconst 1, 1) := by decide +kernel
theorem dX12_sign_3 : decode cX12_sign 3 = .ok (.invokestatic 41, 3) := by decide +kernel
theorem dX12_sign_6 : decode cX12_sign 6 = .ok (.ifCond .eq 13, 3) := by decide +kernel
theorem dX12_sign_9 : decode cX12_sign 9 = .ok (.iload_n 2, 1) := by decide +kernel
theorem dX12_sign_10 : decode cX12_sign 10 = .ok (.iconst 0, 1) := by decide +kernel
theorem dX12_sign_11 : decode cX12_sign 11 = .ok (.bipush 99, 2) := by decide +kernel
theorem dX12_sign_13 : decode cX12_sign 13 = .ok (.invokestatic 41, 3) := by decide +kernel
theorem dX12_sign_16 : decode cX12_sign 16 = .ok (.ifCond .ne 10, 3) := by decide +kernel
theorem dX12_sign_19 : decode cX12_sign 19 = .ok (.aload_n 0, 1) := by decide +kernel
theorem dX12_sign_20 : decode cX12_sign 20 = .ok (.ldc 45, 2) := by decide +kernel
theorem dX12_sign_22 : decode cX12_sign 22 = .ok (.invokevirtual 46, 3) := by decide +kernel
theorem dX12_sign_25 : decode cX12_sign 25 = .ok (.ireturn, 1) := by decide +kernel
theorem dX12_sign_26 : decode cX12_sign 26 = .ok (.aload_n 0, 1) := by decide +kernel
theorem dX12_sign_27 : decode cX12_sign 27 = .ok (.iload_n 1, 1) := by decide +kernel
theorem dX12_sign_28 : decode cX12_sign 28 = .ok (.aload_n 0, 1) := by decide +kernel
theorem dX12_sign_29 : decode cX12_sign 29 = .ok (.getfield 7, 3) := by decide +kernel
theorem dX12_sign_32 : decode cX12_sign 32 = .ok (.iconst 0, 1) := by decide +kernel
theorem dX12_sign_33 : decode cX12_sign 33 = .ok (.iaload, 1) := by decide +kernel
theorem dX12_sign_34 : decode cX12_sign 34 = .ok (.iload_n 2, 1) := by decide +kernel
theorem dX12_sign_35 : decode cX12_sign 35 = .ok (.iadd, 1) := by decide +kernel
theorem dX12_sign_36 : decode cX12_sign 36 = .ok (.invokevirtual 157, 3) := by decide +kernel
theorem dX12_sign_39 : decode cX12_sign 39 = .ok (.ifCond .eq 7, 3) := by decide +kernel
theorem dX12_sign_42 : decode cX12_sign 42 = .ok (.iconst 1, 1) := by decide +kernel
theorem dX12_sign_43 : decode cX12_sign 43 = .ok (.goto 4, 3) := by decide +kernel
theorem dX12_sign_46 : decode cX12_sign 46 = .ok (.iconst 0, 1) := by decide +kernel
theorem dX12_sign_47 : decode cX12_sign 47 = .ok (.ireturn, 1) := by decide +kernel
theorem dX12_placesOn_0 : decode cX12_placesOn 0 = .ok (.iconst 0, 1) := by decide +kernel
theorem dX12_placesOn_1 : decode cX12_placesOn 1 = .ok (.istore_n 2, 1) := by decide +kernel
theorem dX12_placesOn_2 : decode cX12_placesOn 2 = .ok (.iload_n 1, 1) := by decide +kernel
theorem dX12_placesOn_3 : decode cX12_placesOn 3 = .ok (.istore_n 3, 1) := by decide +kernel
theorem dX12_placesOn_4 : decode cX12_placesOn 4 = .ok (.iload_n 3, 1) := by decide +kernel
theorem dX12_placesOn_5 : decode cX12_placesOn 5 = .ok (.aload_n 0, 1) := by decide +kernel
theorem dX12_placesOn_6 : decode cX12_placesOn 6 = .ok (.getfield 7, 3) := by decide +kernel
theorem dX12_placesOn_9 : decode cX12_placesOn 9 = .ok (.iconst 2, 1) := by decide +kernel
theorem dX12_placesOn_10 : decode cX12_placesOn 10 = .ok (.iaload, 1) := by decide +kernel
theorem dX12_placesOn_11 : decode cX12_placesOn 11 = .ok (.if_icmp .ge 20, 3) := by decide +kernel
theorem dX12_placesOn_14 : decode cX12_placesOn 14 = .ok (.iload_n 2, 1) := by decide +kernel
theorem dX12_placesOn_15 : decode cX12_placesOn 15 = .ok (.iconst 1, 1) := by decide +kernel
theorem dX12_placesOn_16 : decode cX12_placesOn 16 = .ok (.aload_n 0, 1) := by decide +kernel
theorem dX12_placesOn_17 : decode cX12_placesOn 17 = .ok (.iload_n 3, 1) := by decide +kernel
theorem dX12_placesOn_18 : decode cX12_placesOn 18 = .ok (.iconst 3, 1) := by decide +kernel
theorem dX12_placesOn_19 : decode cX12_placesOn 19 = .ok (.invokevirtual 59, 3) := by decide +kernel
theorem dX12_placesOn_22 : decode cX12_placesOn 22 = .ok (.isub, 1) := by decide +kernel
theorem dX12_placesOn_23 : decode cX12_placesOn 23 = .ok (.iadd, 1) := by decide +kernel
theorem dX12_placesOn_24 : decode cX12_placesOn 24 = .ok (.istore_n 2, 1) := by decide +kernel
theorem dX12_placesOn_25 : decode cX12_placesOn 25 = .ok (.iinc 3 2, 3) := by decide +kernel
theorem dX12_placesOn_28 : decode cX12_placesOn 28 = .ok (.goto (-24), 3) := by decide +kernel
theorem dX12_placesOn_31 : decode cX12_placesOn 31 = .ok (.iload_n 2, 1) := by decide +kernel
theorem dX12_placesOn_32 : decode cX12_placesOn 32 = .ok (.ireturn, 1) := by decide +kernel
theorem dX12_stayers_0 : decode cX12_stayers 0 = .ok (.iload_n 2, 1) := by decide +kernel
theorem dX12_stayers_1 : decode cX12_stayers 1 = .ok (.istore_n 3, 1) := by decide +kernel
theorem dX12_stayers_2 : decode cX12_stayers 2 = .ok (.iconst 0, 1) := by decide +kernel
theorem dX12_stayers_3 : decode cX12_stayers 3 = .ok (.istore 4, 2) := by decide +kernel
theorem dX12_stayers_5 : decode cX12_stayers 5 = .ok (.iload_n 1, 1) := by decide +kernel
theorem dX12_stayers_6 : decode cX12_stayers 6 = .ok (.istore 5, 2) := by decide +kernel
theorem dX12_stayers_8 : decode cX12_stayers 8 = .ok (.iload 5, 2) := by decide +kernel
theorem dX12_stayers_10 : decode cX12_stayers 10 = .ok (.aload_n 0, 1) := by decide +kernel
theorem dX12_stayers_11 : decode cX12_stayers 11 = .ok (.getfield 7, 3) := by decide +kernel
theorem dX12_stayers_14 : decode cX12_stayers 14 = .ok (.iconst 2, 1) := by decide +kernel
theorem dX12_stayers_15 : decode cX12_stayers 15 = .ok (.iaload, 1) := by decide +kernel
theorem dX12_stayers_16 : decode cX12_stayers 16 = .ok (.if_icmp .ge 90, 3) := by decide +kernel
theorem dX12_stayers_19 : decode cX12_stayers 19 = .ok (.aload_n 0, 1) := by decide +kernel
theorem dX12_stayers_20 : decode cX12_stayers 20 = .ok (.iload 5, 2) := by decide +kernel
theorem dX12_stayers_22 : decode cX12_stayers 22 = .ok (.iconst 3, 1) := by decide +kernel
theorem dX12_stayers_23 : decode cX12_stayers 23 = .ok (.invokevirtual 59, 3) := by decide +kernel
theorem dX12_stayers_26 : decode cX12_stayers 26 = .ok (.iconst 1, 1) := by decide +kernel
theorem dX12_stayers_27 : decode cX12_stayers 27 = .ok (.if_icmp .ne 28, 3) := by decide +kernel
theorem dX12_stayers_30 : decode cX12_stayers 30 = .ok (.aload_n 0, 1) := by decide +kernel
theorem dX12_stayers_31 : decode cX12_stayers 31 = .ok (.iload 5, 2) := by decide +kernel
theorem dX12_stayers_33 : decode cX12_stayers 33 = .ok (.iconst 4, 1) := by decide +kernel
theorem dX12_stayers_34 : decode cX12_stayers 34 = .ok (.invokevirtual 59, 3) := by decide +kernel
theorem dX12_stayers_37 : decode cX12_stayers 37 = .ok (.aload_n 0, 1) := by decide +kernel
theorem dX12_stayers_38 : decode cX12_stayers 38 = .ok (.getfield 7, 3) := by decide +kernel
theorem dX12_stayers_41 : decode cX12_stayers 41 = .ok (.bipush 8, 2) := by decide +kernel
theorem dX12_stayers_43 : decode cX12_stayers 43 = .ok (.iaload, 1) := by decide +kernel
theorem dX12_stayers_44 : decode cX12_stayers 44 = .ok (.if_icmp .ge 11, 3) := by decide +kernel
theorem dX12_stayers_47 : decode cX12_stayers 47 = .ok (.iload_n 3, 1) := by decide +kernel
theorem dX12_stayers_48 : decode cX12_stayers 48 = .ok (.ifCond .le 7, 3) := by decide +kernel
theorem dX12_stayers_51 : decode cX12_stayers 51 = .ok (.iconst 1, 1) := by decide +kernel
theorem dX12_stayers_52 : decode cX12_stayers 52 = .ok (.goto 4, 3) := by decide +kernel
theorem dX12_stayers_55 : decode cX12_stayers 55 = .ok (.iconst 0, 1) := by decide +kernel
theorem dX12_stayers_56 : decode cX12_stayers 56 = .ok (.istore 6, 2) := by decide +kernel
theorem dX12_stayers_58 : decode cX12_stayers 58 = .ok (.iload_n 3, 1) := by decide +kernel
theorem dX12_stayers_59 : decode cX12_stayers 59 = .ok (.iload 6, 2) := by decide +kernel
theorem dX12_stayers_61 : decode cX12_stayers 61 = .ok (.ifCond .eq 7, 3) := by decide +kernel
theorem dX12_stayers_64 : decode cX12_stayers 64 = .ok (.iconst 1, 1) := by decide +kernel
theorem dX12_stayers_65 : decode cX12_stayers 65 = .ok (.goto 4, 3) := by decide +kernel
theorem dX12_stayers_68 : decode cX12_stayers 68 = .ok (.iconst 0, 1) := by decide +kernel
theorem dX12_stayers_69 : decode cX12_stayers 69 = .ok (.isub, 1) := by decide +kernel
theorem dX12_stayers_70 : decode cX12_stayers 70 = .ok (.istore_n 3, 1) := by decide +kernel
theorem dX12_stayers_71 : decode cX12_stayers 71 = .ok (.iload 4, 2) := by decide +kernel
theorem dX12_stayers_73 : decode cX12_stayers 73 = .ok (.aload_n 0, 1) := by decide +kernel
theorem dX12_stayers_74 : decode cX12_stayers 74 = .ok (.iload 5, 2) := by decide +kernel
theorem dX12_stayers_76 : decode cX12_stayers 76 = .ok (.iconst 3, 1) := by decide +kernel
theorem dX12_stayers_77 : decode cX12_stayers 77 = .ok (.invokevirtual 59, 3) := by decide +kernel
theorem dX12_stayers_80 : decode cX12_stayers 80 = .ok (.iconst 1, 1) := by decide +kernel
theorem dX12_stayers_81 : decode cX12_stayers 81 = .ok (.if_icmp .ne 15, 3) := by decide +kernel
theorem dX12_stayers_84 : decode cX12_stayers 84 = .ok (.iload 6, 2) := by decide +kernel
theorem dX12_stayers_86 : decode cX12_stayers 86 = .ok (.ifCond .ne 10, 3) := by decide +kernel
theorem dX12_stayers_89 : decode cX12_stayers 89 = .ok (.iconst 1, 1) := by decide +kernel
theorem dX12_stayers_90 : decode cX12_stayers 90 = .ok (.iload 5, 2) := by decide +kernel
theorem dX12_stayers_92 : decode cX12_stayers 92 = .ok (.ishl, 1) := by decide +kernel
theorem dX12_stayers_93 : decode cX12_stayers 93 = .ok (.goto 4, 3) := by decide +kernel
theorem dX12_stayers_96 : decode cX12_stayers 96 = .ok (.iconst 0, 1) := by decide +kernel
theorem dX12_stayers_97 : decode cX12_stayers 97 = .ok (.ior, 1) := by decide +kernel
theorem dX12_stayers_98 : decode cX12_stayers 98 = .ok (.istore 4, 2) := by decide +kernel
theorem dX12_stayers_100 : decode cX12_stayers 100 = .ok (.iinc 5 2, 3) := by decide +kernel
theorem dX12_stayers_103 : decode cX12_stayers 103 = .ok (.goto (-95), 3) := by decide +kernel
theorem dX12_stayers_106 : decode cX12_stayers 106 = .ok (.iload 4, 2) := by decide +kernel
theorem dX12_stayers_108 : decode cX12_stayers 108 = .ok (.ireturn, 1) := by decide +kernel
theorem dX12_sweepsSide_0 : decode cX12_sweepsSide 0 = .ok (.aload_n 0, 1) := by decide +kernel
theorem dX12_sweepsSide_1 : decode cX12_sweepsSide 1 = .ok (.iload_n 1, 1) := by decide +kernel
theorem dX12_sweepsSide_2 : decode cX12_sweepsSide 2 = .ok (.iload_n 2, 1) := by decide +kernel
theorem dX12_sweepsSide_3 : decode cX12_sweepsSide 3 = .ok (.invokevirtual 161, 3) := by decide +kernel
theorem dX12_sweepsSide_6 : decode cX12_sweepsSide 6 = .ok (.istore_n 3, 1) := by decide +kernel
theorem dX12_sweepsSide_7 : decode cX12_sweepsSide 7 = .ok (.iload_n 1, 1) := by decide +kernel
theorem dX12_sweepsSide_8 : decode cX12_sweepsSide 8 = .ok (.istore 4, 2) := by decide +kernel
theorem dX12_sweepsSide_10 : decode cX12_sweepsSide 10 = .ok (.iload 4, 2) := by decide +kernel
theorem dX12_sweepsSide_12 : decode cX12_sweepsSide 12 = .ok (.aload_n 0, 1) := by decide +kernel
theorem dX12_sweepsSide_13 : decode cX12_sweepsSide 13 = .ok (.getfield 7, 3) := by decide +kernel
theorem dX12_sweepsSide_16 : decode cX12_sweepsSide 16 = .ok (.iconst 2, 1) := by decide +kernel
theorem dX12_sweepsSide_17 : decode cX12_sweepsSide 17 = .ok (.iaload, 1) := by decide +kernel
theorem dX12_sweepsSide_18 : decode cX12_sweepsSide 18 = .ok (.if_icmp .ge 71, 3) := by decide +kernel
theorem dX12_sweepsSide_21 : decode cX12_sweepsSide 21 = .ok (.iload_n 3, 1) := by decide +kernel
theorem dX12_sweepsSide_22 : decode cX12_sweepsSide 22 = .ok (.iload 4, 2) := by decide +kernel
theorem dX12_sweepsSide_24 : decode cX12_sweepsSide 24 = .ok (.ishr, 1) := by decide +kernel
theorem dX12_sweepsSide_25 : decode cX12_sweepsSide 25 = .ok (.iconst 1, 1) := by decide +kernel
theorem dX12_sweepsSide_26 : decode cX12_sweepsSide 26 = .ok (.iand, 1) := by decide +kernel
theorem dX12_sweepsSide_27 : decode cX12_sweepsSide 27 = .ok (.iconst 1, 1) := by decide +kernel
theorem dX12_sweepsSide_28 : decode cX12_sweepsSide 28 = .ok (.if_icmp .ne 34, 3) := by decide +kernel
theorem dX12_sweepsSide_31 : decode cX12_sweepsSide 31 = .ok (.aload_n 0, 1) := by decide +kernel
theorem dX12_sweepsSide_32 : decode cX12_sweepsSide 32 = .ok (.getfield 7, 3) := by decide +kernel
theorem dX12_sweepsSide_35 : decode cX12_sweepsSide 35 = .ok (.bipush 9, 2) := by decide +kernel
theorem dX12_sweepsSide_37 : decode cX12_sweepsSide 37 = .ok (.aload_n 0, 1) := by decide +kernel
theorem dX12_sweepsSide_38 : decode cX12_sweepsSide 38 = .ok (.getfield 7, 3) := by decide +kernel
theorem dX12_sweepsSide_41 : decode cX12_sweepsSide 41 = .ok (.bipush 9, 2) := by decide +kernel
theorem dX12_sweepsSide_43 : decode cX12_sweepsSide 43 = .ok (.iaload, 1) := by decide +kernel
theorem dX12_sweepsSide_44 : decode cX12_sweepsSide 44 = .ok (.aload_n 0, 1) := by decide +kernel
theorem dX12_sweepsSide_45 : decode cX12_sweepsSide 45 = .ok (.getfield 7, 3) := by decide +kernel
theorem dX12_sweepsSide_48 : decode cX12_sweepsSide 48 = .ok (.bipush 8, 2) := by decide +kernel
theorem dX12_sweepsSide_50 : decode cX12_sweepsSide 50 = .ok (.iaload, 1) := by decide +kernel
theorem dX12_sweepsSide_51 : decode cX12_sweepsSide 51 = .ok (.iadd, 1) := by decide +kernel
theorem dX12_sweepsSide_52 : decode cX12_sweepsSide 52 = .ok (.iconst 0, 1) := by decide +kernel
theorem dX12_sweepsSide_53 : decode cX12_sweepsSide 53 = .ok (.ldc 72, 2) := by decide +kernel
theorem dX12_sweepsSide_55 : decode cX12_sweepsSide 55 = .ok (.invokestatic 141, 3) := by decide +kernel
theorem dX12_sweepsSide_58 : decode cX12_sweepsSide 58 = .ok (.iastore, 1) := by decide +kernel
theorem dX12_sweepsSide_59 : decode cX12_sweepsSide 59 = .ok (.goto 24, 3) := by decide +kernel
theorem dX12_sweepsSide_62 : decode cX12_sweepsSide 62 = .ok (.aload_n 0, 1) := by decide +kernel
theorem dX12_sweepsSide_63 : decode cX12_sweepsSide 63 = .ok (.iload 4, 2) := by decide +kernel
theorem dX12_sweepsSide_65 : decode cX12_sweepsSide 65 = .ok (.iconst 2, 1) := by decide +kernel
theorem dX12_sweepsSide_66 : decode cX12_sweepsSide 66 = .ok (.aload_n 0, 1) := by decide +kernel
theorem dX12_sweepsSide_67 : decode cX12_sweepsSide 67 = .ok (.iload 4, 2) := by decide +kernel
theorem dX12_sweepsSide_69 : decode cX12_sweepsSide 69 = .ok (.iconst 2, 1) := by decide +kernel
theorem dX12_sweepsSide_70 : decode cX12_sweepsSide 70 = .ok (.invokevirtual 59, 3) := by decide +kernel
theorem dX12_sweepsSide_73 : decode cX12_sweepsSide 73 = .ok (.aload_n 0, 1) := by decide +kernel
theorem dX12_sweepsSide_74 : decode cX12_sweepsSide 74 = .ok (.iload 4, 2) := by decide +kernel
theorem dX12_sweepsSide_76 : decode cX12_sweepsSide 76 = .ok (.invokevirtual 66, 3) := by decide +kernel
theorem dX12_sweepsSide_79 : decode cX12_sweepsSide 79 = .ok (.isub, 1) := by decide +kernel
theorem dX12_sweepsSide_80 : decode cX12_sweepsSide 80 = .ok (.invokevirtual 51, 3) := by decide +kernel
theorem dX12_sweepsSide_83 : decode cX12_sweepsSide 83 = .ok (.iinc 4 2, 3) := by decide +kernel
theorem dX12_sweepsSide_86 : decode cX12_sweepsSide 86 = .ok (.goto (-76), 3) := by decide +kernel
theorem dX12_sweepsSide_89 : decode cX12_sweepsSide 89 = .ok (.return_, 1) := by decide +kernel
theorem dX12_oneDay_0 : decode cX12_oneDay 0 = .ok (.iconst 0, 1) := by decide +kernel
theorem dX12_oneDay_1 : decode cX12_oneDay 1 = .ok (.istore_n 1, 1) := by decide +kernel
theorem dX12_oneDay_2 : decode cX12_oneDay 2 = .ok (.iload_n 1, 1) := by decide +kernel
theorem dX12_oneDay_3 : decode cX12_oneDay 3 = .ok (.aload_n 0, 1) := by decide +kernel
theorem dX12_oneDay_4 : decode cX12_oneDay 4 = .ok (.getfield 7, 3) := by decide +kernel
theorem dX12_oneDay_7 : decode cX12_oneDay 7 = .ok (.iconst 2, 1) := by decide +kernel
theorem dX12_oneDay_8 : decode cX12_oneDay 8 = .ok (.iaload, 1) := by decide +kernel
theorem dX12_oneDay_9 : decode cX12_oneDay 9 = .ok (.if_icmp .ge 34, 3) := by decide +kernel
theorem dX12_oneDay_12 : decode cX12_oneDay 12 = .ok (.aload_n 0, 1) := by decide +kernel
theorem dX12_oneDay_13 : decode cX12_oneDay 13 = .ok (.iload_n 1, 1) := by decide +kernel
theorem dX12_oneDay_14 : decode cX12_oneDay 14 = .ok (.iconst 2, 1) := by decide +kernel
theorem dX12_oneDay_15 : decode cX12_oneDay 15 = .ok (.aload_n 0, 1) := by decide +kernel
theorem dX12_oneDay_16 : decode cX12_oneDay 16 = .ok (.iload_n 1, 1) := by decide +kernel
theorem dX12_oneDay_17 : decode cX12_oneDay 17 = .ok (.iconst 2, 1) := by decide +kernel
theorem dX12_oneDay_18 : decode cX12_oneDay 18 = .ok (.invokevirtual 59, 3) := by decide +kernel
theorem dX12_oneDay_21 : decode cX12_oneDay 21 = .ok (.aload_n 0, 1) := by decide +kernel
theorem dX12_oneDay_22 : decode cX12_oneDay 22 = .ok (.iload_n 1, 1) := by decide +kernel
theorem dX12_oneDay_23 : decode cX12_oneDay 23 = .ok (.invokevirtual 63, 3) := by decide +kernel
theorem dX12_oneDay_26 : decode cX12_oneDay 26 = .ok (.iadd, 1) := by decide +kernel
theorem dX12_oneDay_27 : decode cX12_oneDay 27 = .ok (.iconst 0, 1) := by decide +kernel
theorem dX12_oneDay_28 : decode cX12_oneDay 28 = .ok (.sipush 999, 3) := by decide +kernel
theorem dX12_oneDay_31 : decode cX12_oneDay 31 = .ok (.invokestatic 141, 3) := by decide +kernel
theorem dX12_oneDay_34 : decode cX12_oneDay 34 = .ok (.invokevirtual 51, 3) := by decide +kernel
theorem dX12_oneDay_37 : decode cX12_oneDay 37 = .ok (.iinc 1 1, 3) := by decide +kernel
theorem dX12_oneDay_40 : decode cX12_oneDay 40 = .ok (.goto (-38), 3) := by decide +kernel
theorem dX12_oneDay_43 : decode cX12_oneDay 43 = .ok (.iconst 1, 1) := by decide +kernel
theorem dX12_oneDay_44 : decode cX12_oneDay 44 = .ok (.istore_n 1, 1) := by decide +kernel
theorem dX12_oneDay_45 : decode cX12_oneDay 45 = .ok (.iload_n 1, 1) := by decide +kernel
theorem dX12_oneDay_46 : decode cX12_oneDay 46 = .ok (.aload_n 0, 1) := by decide +kernel
theorem dX12_oneDay_47 : decode cX12_oneDay 47 = .ok (.getfield 7, 3) := by decide +kernel
theorem dX12_oneDay_50 : decode cX12_oneDay 50 = .ok (.iconst 2, 1) := by decide +kernel
theorem dX12_oneDay_51 : decode cX12_oneDay 51 = .ok (.iaload, 1) := by decide +kernel
theorem dX12_oneDay_52 : decode cX12_oneDay 52 = .ok (.if_icmp .ge 66, 3) := by decide +kernel
theorem dX12_oneDay_55 : decode cX12_oneDay 55 = .ok (.aload_n 0, 1) := by decide +kernel
theorem dX12_oneDay_56 : decode cX12_oneDay 56 = .ok (.iload_n 1, 1) := by decide +kernel
theorem dX12_oneDay_57 : decode cX12_oneDay 57 = .ok (.iconst 2, 1) := by decide +kernel
theorem dX12_oneDay_58 : decode cX12_oneDay 58 = .ok (.invokevirtual 59, 3) := by decide +kernel
theorem dX12_oneDay_61 : decode cX12_oneDay 61 = .ok (.aload_n 0, 1) := by decide +kernel
theorem dX12_oneDay_62 : decode cX12_oneDay 62 = .ok (.getfield 7, 3) := by decide +kernel
theorem dX12_oneDay_65 : decode cX12_oneDay 65 = .ok (.bipush 7, 2) := by decide +kernel
theorem dX12_oneDay_67 : decode cX12_oneDay 67 = .ok (.iaload, 1) := by decide +kernel
theorem dX12_oneDay_68 : decode cX12_oneDay 68 = .ok (.imul, 1) := by decide +kernel
theorem dX12_oneDay_69 : decode cX12_oneDay 69 = .ok (.bipush 20, 2) := by decide +kernel
theorem dX12_oneDay_71 : decode cX12_oneDay 71 = .ok (.idiv, 1) := by decide +kernel
theorem dX12_oneDay_72 : decode cX12_oneDay 72 = .ok (.istore_n 2, 1) := by decide +kernel
theorem dX12_oneDay_73 : decode cX12_oneDay 73 = .ok (.aload_n 0, 1) := by decide +kernel
theorem dX12_oneDay_74 : decode cX12_oneDay 74 = .ok (.iload_n 1, 1) := by decide +kernel
theorem dX12_oneDay_75 : decode cX12_oneDay 75 = .ok (.iconst 2, 1) := by decide +kernel
theorem dX12_oneDay_76 : decode cX12_oneDay 76 = .ok (.aload_n 0, 1) := by decide +kernel
theorem dX12_oneDay_77 : decode cX12_oneDay 77 = .ok (.iload_n 1, 1) := by decide +kernel
theorem dX12_oneDay_78 : decode cX12_oneDay 78 = .ok (.iconst 2, 1) := by decide +kernel
theorem dX12_oneDay_79 : decode cX12_oneDay 79 = .ok (.invokevirtual 59, 3) := by decide +kernel
theorem dX12_oneDay_82 : decode cX12_oneDay 82 = .ok (.iload_n 2, 1) := by decide +kernel
theorem dX12_oneDay_83 : decode cX12_oneDay 83 = .ok (.isub, 1) := by decide +kernel
theorem dX12_oneDay_84 : decode cX12_oneDay 84 = .ok (.invokevirtual 51, 3) := by decide +kernel
theorem dX12_oneDay_87 : decode cX12_oneDay 87 = .ok (.aload_n 0, 1) := by decide +kernel
theorem dX12_oneDay_88 : decode cX12_oneDay 88 = .ok (.iload_n 1, 1) := by decide +kernel
theorem dX12_oneDay_89 : decode cX12_oneDay 89 = .ok (.iconst 1, 1) := by decide +kernel
theorem dX12_oneDay_90 : decode cX12_oneDay 90 = .ok (.isub, 1) := by decide +kernel
theorem dX12_oneDay_91 : decode cX12_oneDay 91 = .ok (.iconst 2, 1) := by decide +kernel
theorem dX12_oneDay_92 : decode cX12_oneDay 92 = .ok (.aload_n 0, 1) := by decide +kernel
theorem dX12_oneDay_93 : decode cX12_oneDay 93 = .ok (.iload_n 1, 1) := by decide +kernel
theorem dX12_oneDay_94 : decode cX12_oneDay 94 = .ok (.iconst 1, 1) := by decide +kernel
theorem dX12_oneDay_95 : decode cX12_oneDay 95 = .ok (.isub, 1) := by decide +kernel
theorem dX12_oneDay_96 : decode cX12_oneDay 96 = .ok (.iconst 2, 1) := by decide +kernel
theorem dX12_oneDay_97 : decode cX12_oneDay 97 = .ok (.invokevirtual 59, 3) := by decide +kernel
theorem dX12_oneDay_100 : decode cX12_oneDay 100 = .ok (.iload_n 2, 1) := by decide +kernel
theorem dX12_oneDay_101 : decode cX12_oneDay 101 = .ok (.iadd, 1) := by decide +kernel
theorem dX12_oneDay_102 : decode cX12_oneDay 102 = .ok (.iconst 0, 1) := by decide +kernel
theorem dX12_oneDay_103 : decode cX12_oneDay 103 = .ok (.sipush 999, 3) := by decide +kernel
theorem dX12_oneDay_106 : decode cX12_oneDay 106 = .ok (.invokestatic 141, 3) := by decide +kernel
theorem dX12_oneDay_109 : decode cX12_oneDay 109 = .ok (.invokevirtual 51, 3) := by decide +kernel
theorem dX12_oneDay_112 : decode cX12_oneDay 112 = .ok (.iinc 1 2, 3) := by decide +kernel
theorem dX12_oneDay_115 : decode cX12_oneDay 115 = .ok (.goto (-70), 3) := by decide +kernel
theorem dX12_oneDay_118 : decode cX12_oneDay 118 = .ok (.aload_n 0, 1) := by decide +kernel
theorem dX12_oneDay_119 : decode cX12_oneDay 119 = .ok (.iconst 0, 1) := by decide +kernel
theorem dX12_oneDay_120 : decode cX12_oneDay 120 = .ok (.aload_n 0, 1) := by decide +kernel
theorem dX12_oneDay_121 : decode cX12_oneDay 121 = .ok (.getfield 7, 3) := by decide +kernel
theorem dX12_oneDay_124 : decode cX12_oneDay 124 = .ok (.iconst 0, 1) := by decide +kernel
theorem dX12_oneDay_125 : decode cX12_oneDay 125 = .ok (.iaload, 1) := by decide +kernel
theorem dX12_oneDay_126 : decode cX12_oneDay 126 = .ok (.invokevirtual 157, 3) := by decide +kernel
theorem dX12_oneDay_129 : decode cX12_oneDay 129 = .ok (.istore_n 1, 1) := by decide +kernel
theorem dX12_oneDay_130 : decode cX12_oneDay 130 = .ok (.aload_n 0, 1) := by decide +kernel
theorem dX12_oneDay_131 : decode cX12_oneDay 131 = .ok (.iconst 1, 1) := by decide +kernel
theorem dX12_oneDay_132 : decode cX12_oneDay 132 = .ok (.aload_n 0, 1) := by decide +kernel
theorem dX12_oneDay_133 : decode cX12_oneDay 133 = .ok (.getfield 7, 3) := by decide +kernel
theorem dX12_oneDay_136 : decode cX12_oneDay 136 = .ok (.iconst 0, 1) := by decide +kernel
theorem dX12_oneDay_137 : decode cX12_oneDay 137 = .ok (.iaload, 1) := by decide +kernel
theorem dX12_oneDay_138 : decode cX12_oneDay 138 = .ok (.invokevirtual 157, 3) := by decide +kernel
theorem dX12_oneDay_141 : decode cX12_oneDay 141 = .ok (.istore_n 2, 1) := by decide +kernel
theorem dX12_oneDay_142 : decode cX12_oneDay 142 = .ok (.iload_n 1, 1) := by decide +kernel
theorem dX12_oneDay_143 : decode cX12_oneDay 143 = .ok (.ifCond .eq 21, 3) := by decide +kernel
theorem dX12_oneDay_146 : decode cX12_oneDay 146 = .ok (.aload_n 0, 1) := by decide +kernel
theorem dX12_oneDay_147 : decode cX12_oneDay 147 = .ok (.iconst 0, 1) := by decide +kernel
theorem dX12_oneDay_148 : decode cX12_oneDay 148 = .ok (.iload_n 2, 1) := by decide +kernel
theorem dX12_oneDay_149 : decode cX12_oneDay 149 = .ok (.ifCond .eq 7, 3) := by decide +kernel
theorem dX12_oneDay_152 : decode cX12_oneDay 152 = .ok (.iconst 0, 1) := by decide +kernel
theorem dX12_oneDay_153 : decode cX12_oneDay 153 = .ok (.goto 8, 3) := by decide +kernel
theorem dX12_oneDay_156 : decode cX12_oneDay 156 = .ok (.aload_n 0, 1) := by decide +kernel
theorem dX12_oneDay_157 : decode cX12_oneDay 157 = .ok (.iconst 1, 1) := by decide +kernel
theorem dX12_oneDay_158 : decode cX12_oneDay 158 = .ok (.invokevirtual 164, 3) := by decide +kernel
theorem dX12_oneDay_161 : decode cX12_oneDay 161 = .ok (.invokevirtual 167, 3) := by decide +kernel
theorem dX12_oneDay_164 : decode cX12_oneDay 164 = .ok (.iload_n 2, 1) := by decide +kernel
theorem dX12_oneDay_165 : decode cX12_oneDay 165 = .ok (.ifCond .eq 21, 3) := by decide +kernel
theorem dX12_oneDay_168 : decode cX12_oneDay 168 = .ok (.aload_n 0, 1) := by decide +kernel
theorem dX12_oneDay_169 : decode cX12_oneDay 169 = .ok (.iconst 1, 1) := by decide +kernel
theorem dX12_oneDay_170 : decode cX12_oneDay 170 = .ok (.iload_n 1, 1) := by decide +kernel
theorem dX12_oneDay_171 : decode cX12_oneDay 171 = .ok (.ifCond .eq 7, 3) := by decide +kernel
theorem dX12_oneDay_174 : decode cX12_oneDay 174 = .ok (.iconst 0, 1) := by decide +kernel
theorem dX12_oneDay_175 : decode cX12_oneDay 175 = .ok (.goto 8, 3) := by decide +kernel
theorem dX12_oneDay_178 : decode cX12_oneDay 178 = .ok (.aload_n 0, 1) := by decide +kernel
theorem dX12_oneDay_179 : decode cX12_oneDay 179 = .ok (.iconst 0, 1) := by decide +kernel
theorem dX12_oneDay_180 : decode cX12_oneDay 180 = .ok (.invokevirtual 164, 3) := by decide +kernel
theorem dX12_oneDay_183 : decode cX12_oneDay 183 = .ok (.invokevirtual 167, 3) := by decide +kernel
theorem dX12_oneDay_186 : decode cX12_oneDay 186 = .ok (.aload_n 0, 1) := by decide +kernel
theorem dX12_oneDay_187 : decode cX12_oneDay 187 = .ok (.getfield 7, 3) := by decide +kernel
theorem dX12_oneDay_190 : decode cX12_oneDay 190 = .ok (.iconst 0, 1) := by decide +kernel
theorem dX12_oneDay_191 : decode cX12_oneDay 191 = .ok (.dup2, 1) := by decide +kernel
theorem dX12_oneDay_192 : decode cX12_oneDay 192 = .ok (.iaload, 1) := by decide +kernel
theorem dX12_oneDay_193 : decode cX12_oneDay 193 = .ok (.iconst 1, 1) := by decide +kernel
theorem dX12_oneDay_194 : decode cX12_oneDay 194 = .ok (.iadd, 1) := by decide +kernel
theorem dX12_oneDay_195 : decode cX12_oneDay 195 = .ok (.iastore, 1) := by decide +kernel
theorem dX12_oneDay_196 : decode cX12_oneDay 196 = .ok (.return_, 1) := by decide +kernel
theorem dX12_passes_0 : decode cX12_passes 0 = .ok (.iconst 0, 1) := by decide +kernel
theorem dX12_passes_1 : decode cX12_passes 1 = .ok (.istore_n 2, 1) := by decide +kernel
theorem dX12_passes_2 : decode cX12_passes 2 = .ok (.iload_n 2, 1) := by decide +kernel
theorem dX12_passes_3 : decode cX12_passes 3 = .ok (.iload_n 1, 1) := by decide +kernel
theorem dX12_passes_4 : decode cX12_passes 4 = .ok (.if_icmp .ge 13, 3) := by decide +kernel
theorem dX12_passes_7 : decode cX12_passes 7 = .ok (.aload_n 0, 1) := by decide +kernel
theorem dX12_passes_8 : decode cX12_passes 8 = .ok (.invokevirtual 171, 3) := by decide +kernel
theorem dX12_passes_11 : decode cX12_passes 11 = .ok (.iinc 2 1, 3) := by decide +kernel
theorem dX12_passes_14 : decode cX12_passes 14 = .ok (.goto (-12), 3) := by decide +kernel
theorem dX12_passes_17 : decode cX12_passes 17 = .ok (.return_, 1) := by decide +kernel
theorem dX12_allDirt_0 : decode cX12_allDirt 0 = .ok (.iconst 0, 1) := by decide +kernel
theorem dX12_allDirt_1 : decode cX12_allDirt 1 = .ok (.istore_n 1, 1) := by decide +kernel
theorem dX12_allDirt_2 : decode cX12_allDirt 2 = .ok (.iconst 0, 1) := by decide +kernel
theorem dX12_allDirt_3 : decode cX12_allDirt 3 = .ok (.istore_n 2, 1) := by decide +kernel
theorem dX12_allDirt_4 : decode cX12_allDirt 4 = .ok (.iload_n 2, 1) := by decide +kernel
theorem dX12_allDirt_5 : decode cX12_allDirt 5 = .ok (.aload_n 0, 1) := by decide +kernel
theorem dX12_allDirt_6 : decode cX12_allDirt 6 = .ok (.getfield 7, 3) := by decide +kernel
theorem dX12_allDirt_9 : decode cX12_allDirt 9 = .ok (.iconst 2, 1) := by decide +kernel
theorem dX12_allDirt_10 : decode cX12_allDirt 10 = .ok (.iaload, 1) := by decide +kernel
theorem dX12_allDirt_11 : decode cX12_allDirt 11 = .ok (.if_icmp .ge 18, 3) := by decide +kernel
theorem dX12_allDirt_14 : decode cX12_allDirt 14 = .ok (.iload_n 1, 1) := by decide +kernel
theorem dX12_allDirt_15 : decode cX12_allDirt 15 = .ok (.aload_n 0, 1) := by decide +kernel
theorem dX12_allDirt_16 : decode cX12_allDirt 16 = .ok (.iload_n 2, 1) := by decide +kernel
theorem dX12_allDirt_17 : decode cX12_allDirt 17 = .ok (.iconst 2, 1) := by decide +kernel
theorem dX12_allDirt_18 : decode cX12_allDirt 18 = .ok (.invokevirtual 59, 3) := by decide +kernel
theorem dX12_allDirt_21 : decode cX12_allDirt 21 = .ok (.iadd, 1) := by decide +kernel
theorem dX12_allDirt_22 : decode cX12_allDirt 22 = .ok (.istore_n 1, 1) := by decide +kernel
theorem dX12_allDirt_23 : decode cX12_allDirt 23 = .ok (.iinc 2 1, 3) := by decide +kernel
theorem dX12_allDirt_26 : decode cX12_allDirt 26 = .ok (.goto (-22), 3) := by decide +kernel
theorem dX12_allDirt_29 : decode cX12_allDirt 29 = .ok (.iload_n 1, 1) := by decide +kernel
theorem dX12_allDirt_30 : decode cX12_allDirt 30 = .ok (.ireturn, 1) := by decide +kernel
theorem dX12_days_0 : decode cX12_days 0 = .ok (.iload_n 1, 1) := by decide +kernel
theorem dX12_days_1 : decode cX12_days 1 = .ok (.iconst 1, 1) := by decide +kernel
theorem dX12_days_2 : decode cX12_days 2 = .ok (.bipush 60, 2) := by decide +kernel
theorem dX12_days_4 : decode cX12_days 4 = .ok (.invokestatic 41, 3) := by decide +kernel
theorem dX12_days_7 : decode cX12_days 7 = .ok (.ifCond .ne 10, 3) := by decide +kernel
theorem dX12_days_10 : decode cX12_days 10 = .ok (.aload_n 0, 1) := by decide +kernel
theorem dX12_days_11 : decode cX12_days 11 = .ok (.ldc 45, 2) := by decide +kernel
theorem dX12_days_13 : decode cX12_days 13 = .ok (.invokevirtual 46, 3) := by decide +kernel
theorem dX12_days_16 : decode cX12_days 16 = .ok (.ireturn, 1) := by decide +kernel
theorem dX12_days_17 : decode cX12_days 17 = .ok (.aload_n 0, 1) := by decide +kernel
theorem dX12_days_18 : decode cX12_days 18 = .ok (.getfield 7, 3) := by decide +kernel
theorem dX12_days_21 : decode cX12_days 21 = .ok (.iconst 0, 1) := by decide +kernel
theorem dX12_days_22 : decode cX12_days 22 = .ok (.iaload, 1) := by decide +kernel
theorem dX12_days_23 : decode cX12_days 23 = .ok (.iload_n 1, 1) := by decide +kernel
theorem dX12_days_24 : decode cX12_days 24 = .ok (.iadd, 1) := by decide +kernel
theorem dX12_days_25 : decode cX12_days 25 = .ok (.sipush 9999, 3) := by decide +kernel
theorem dX12_days_28 : decode cX12_days 28 = .ok (.if_icmp .le 10, 3) := by decide +kernel
theorem dX12_days_31 : decode cX12_days 31 = .ok (.aload_n 0, 1) := by decide +kernel
theorem dX12_days_32 : decode cX12_days 32 = .ok (.ldc 174, 2) := by decide +kernel
theorem dX12_days_34 : decode cX12_days 34 = .ok (.invokevirtual 46, 3) := by decide +kernel
theorem dX12_days_37 : decode cX12_days 37 = .ok (.ireturn, 1) := by decide +kernel
theorem dX12_days_38 : decode cX12_days 38 = .ok (.aload_n 0, 1) := by decide +kernel
theorem dX12_days_39 : decode cX12_days 39 = .ok (.iload_n 1, 1) := by decide +kernel
theorem dX12_days_40 : decode cX12_days 40 = .ok (.invokevirtual 175, 3) := by decide +kernel
theorem dX12_days_43 : decode cX12_days 43 = .ok (.aload_n 0, 1) := by decide +kernel
theorem dX12_days_44 : decode cX12_days 44 = .ok (.invokevirtual 179, 3) := by decide +kernel
theorem dX12_days_47 : decode cX12_days 47 = .ok (.ireturn, 1) := by decide +kernel
theorem dX12_drawn_0 : decode cX12_drawn 0 = .ok (.aload_n 0, 1) := by decide +kernel
theorem dX12_drawn_1 : decode cX12_drawn 1 = .ok (.getfield 7, 3) := by decide +kernel
theorem dX12_drawn_4 : decode cX12_drawn 4 = .ok (.iconst 1, 1) := by decide +kernel
theorem dX12_drawn_5 : decode cX12_drawn 5 = .ok (.aload_n 0, 1) := by decide +kernel
theorem dX12_drawn_6 : decode cX12_drawn 6 = .ok (.getfield 7, 3) := by decide +kernel
theorem dX12_drawn_9 : decode cX12_drawn 9 = .ok (.iconst 1, 1) := by decide +kernel
theorem dX12_drawn_10 : decode cX12_drawn 10 = .ok (.iaload, 1) := by decide +kernel
theorem dX12_drawn_11 : decode cX12_drawn 11 = .ok (.ldc 182, 2) := by decide +kernel
theorem dX12_drawn_13 : decode cX12_drawn 13 = .ok (.imul, 1) := by decide +kernel
theorem dX12_drawn_14 : decode cX12_drawn 14 = .ok (.sipush 12345, 3) := by decide +kernel
theorem dX12_drawn_17 : decode cX12_drawn 17 = .ok (.iadd, 1) := by decide +kernel
theorem dX12_drawn_18 : decode cX12_drawn 18 = .ok (.iastore, 1) := by decide +kernel
theorem dX12_drawn_19 : decode cX12_drawn 19 = .ok (.aload_n 0, 1) := by decide +kernel
theorem dX12_drawn_20 : decode cX12_drawn 20 = .ok (.getfield 7, 3) := by decide +kernel
theorem dX12_drawn_23 : decode cX12_drawn 23 = .ok (.iconst 1, 1) := by decide +kernel
theorem dX12_drawn_24 : decode cX12_drawn 24 = .ok (.iaload, 1) := by decide +kernel
theorem dX12_drawn_25 : decode cX12_drawn 25 = .ok (.bipush 8, 2) := by decide +kernel
theorem dX12_drawn_27 : decode cX12_drawn 27 = .ok (.iushr, 1) := by decide +kernel
theorem dX12_drawn_28 : decode cX12_drawn 28 = .ok (.iload_n 1, 1) := by decide +kernel
theorem dX12_drawn_29 : decode cX12_drawn 29 = .ok (.irem, 1) := by decide +kernel
theorem dX12_drawn_30 : decode cX12_drawn 30 = .ok (.ireturn, 1) := by decide +kernel
theorem dX12_loose_0 : decode cX12_loose 0 = .ok (.iload_n 1, 1) := by decide +kernel
theorem dX12_loose_1 : decode cX12_loose 1 = .ok (.iconst 1, 1) := by decide +kernel
theorem dX12_loose_2 : decode cX12_loose 2 = .ok (.bipush 40, 2) := by decide +kernel
theorem dX12_loose_4 : decode cX12_loose 4 = .ok (.invokestatic 41, 3) := by decide +kernel
theorem dX12_loose_7 : decode cX12_loose 7 = .ok (.ifCond .ne 10, 3) := by decide +kernel
theorem dX12_loose_10 : decode cX12_loose 10 = .ok (.aload_n 0, 1) := by decide +kernel
theorem dX12_loose_11 : decode cX12_loose 11 = .ok (.ldc 45, 2) := by decide +kernel
theorem dX12_loose_13 : decode cX12_loose 13 = .ok (.invokevirtual 46, 3) := by decide +kernel
theorem dX12_loose_16 : decode cX12_loose 16 = .ok (.ireturn, 1) := by decide +kernel
theorem dX12_loose_17 : decode cX12_loose 17 = .ok (.aload_n 0, 1) := by decide +kernel
theorem dX12_loose_18 : decode cX12_loose 18 = .ok (.getfield 7, 3) := by decide +kernel
theorem dX12_loose_21 : decode cX12_loose 21 = .ok (.iconst 0, 1) := by decide +kernel
theorem dX12_loose_22 : decode cX12_loose 22 = .ok (.iaload, 1) := by decide +kernel
theorem dX12_loose_23 : decode cX12_loose 23 = .ok (.iload_n 1, 1) := by decide +kernel
theorem dX12_loose_24 : decode cX12_loose 24 = .ok (.iadd, 1) := by decide +kernel
theorem dX12_loose_25 : decode cX12_loose 25 = .ok (.sipush 9999, 3) := by decide +kernel
theorem dX12_loose_28 : decode cX12_loose 28 = .ok (.if_icmp .le 10, 3) := by decide +kernel
theorem dX12_loose_31 : decode cX12_loose 31 = .ok (.aload_n 0, 1) := by decide +kernel
theorem dX12_loose_32 : decode cX12_loose 32 = .ok (.ldc 174, 2) := by decide +kernel
theorem dX12_loose_34 : decode cX12_loose 34 = .ok (.invokevirtual 46, 3) := by decide +kernel
theorem dX12_loose_37 : decode cX12_loose 37 = .ok (.ireturn, 1) := by decide +kernel
theorem dX12_loose_38 : decode cX12_loose 38 = .ok (.iconst 0, 1) := by decide +kernel
theorem dX12_loose_39 : decode cX12_loose 39 = .ok (.istore_n 2, 1) := by decide +kernel
theorem dX12_loose_40 : decode cX12_loose 40 = .ok (.iload_n 2, 1) := by decide +kernel
theorem dX12_loose_41 : decode cX12_loose 41 = .ok (.iload_n 1, 1) := by decide +kernel
theorem dX12_loose_42 : decode cX12_loose 42 = .ok (.if_icmp .ge 73, 3) := by decide +kernel
theorem dX12_loose_45 : decode cX12_loose 45 = .ok (.aload_n 0, 1) := by decide +kernel
theorem dX12_loose_46 : decode cX12_loose 46 = .ok (.getfield 7, 3) := by decide +kernel
theorem dX12_loose_49 : decode cX12_loose 49 = .ok (.bipush 7, 2) := by decide +kernel
theorem dX12_loose_51 : decode cX12_loose 51 = .ok (.aload_n 0, 1) := by decide +kernel
theorem dX12_loose_52 : decode cX12_loose 52 = .ok (.bipush 10, 2) := by decide +kernel
theorem dX12_loose_54 : decode cX12_loose 54 = .ok (.invokevirtual 183, 3) := by decide +kernel
theorem dX12_loose_57 : decode cX12_loose 57 = .ok (.iastore, 1) := by decide +kernel
theorem dX12_loose_58 : decode cX12_loose 58 = .ok (.aload_n 0, 1) := by decide +kernel
theorem dX12_loose_59 : decode cX12_loose 59 = .ok (.aload_n 0, 1) := by decide +kernel
theorem dX12_loose_60 : decode cX12_loose 60 = .ok (.getfield 7, 3) := by decide +kernel
theorem dX12_loose_63 : decode cX12_loose 63 = .ok (.iconst 2, 1) := by decide +kernel
theorem dX12_loose_64 : decode cX12_loose 64 = .ok (.iaload, 1) := by decide +kernel
theorem dX12_loose_65 : decode cX12_loose 65 = .ok (.ifCond .le 12, 3) := by decide +kernel
theorem dX12_loose_68 : decode cX12_loose 68 = .ok (.aload_n 0, 1) := by decide +kernel
theorem dX12_loose_69 : decode cX12_loose 69 = .ok (.getfield 7, 3) := by decide +kernel
theorem dX12_loose_72 : decode cX12_loose 72 = .ok (.iconst 2, 1) := by decide +kernel
theorem dX12_loose_73 : decode cX12_loose 73 = .ok (.iaload, 1) := by decide +kernel
theorem dX12_loose_74 : decode cX12_loose 74 = .ok (.goto 4, 3) := by decide +kernel
theorem dX12_loose_77 : decode cX12_loose 77 = .ok (.iconst 1, 1) := by decide +kernel
theorem dX12_loose_78 : decode cX12_loose 78 = .ok (.invokevirtual 183, 3) := by decide +kernel
theorem dX12_loose_81 : decode cX12_loose 81 = .ok (.istore_n 3, 1) := by decide +kernel
theorem dX12_loose_82 : decode cX12_loose 82 = .ok (.aload_n 0, 1) := by decide +kernel
theorem dX12_loose_83 : decode cX12_loose 83 = .ok (.getfield 7, 3) := by decide +kernel
theorem dX12_loose_86 : decode cX12_loose 86 = .ok (.iconst 2, 1) := by decide +kernel
theorem dX12_loose_87 : decode cX12_loose 87 = .ok (.iaload, 1) := by decide +kernel
theorem dX12_loose_88 : decode cX12_loose 88 = .ok (.ifCond .le 17, 3) := by decide +kernel
theorem dX12_loose_91 : decode cX12_loose 91 = .ok (.aload_n 0, 1) := by decide +kernel
theorem dX12_loose_92 : decode cX12_loose 92 = .ok (.iload_n 3, 1) := by decide +kernel
theorem dX12_loose_93 : decode cX12_loose 93 = .ok (.iconst 3, 1) := by decide +kernel
theorem dX12_loose_94 : decode cX12_loose 94 = .ok (.iconst 1, 1) := by decide +kernel
theorem dX12_loose_95 : decode cX12_loose 95 = .ok (.aload_n 0, 1) := by decide +kernel
theorem dX12_loose_96 : decode cX12_loose 96 = .ok (.iload_n 3, 1) := by decide +kernel
theorem dX12_loose_97 : decode cX12_loose 97 = .ok (.iconst 3, 1) := by decide +kernel
theorem dX12_loose_98 : decode cX12_loose 98 = .ok (.invokevirtual 59, 3) := by decide +kernel
theorem dX12_loose_101 : decode cX12_loose 101 = .ok (.isub, 1) := by decide +kernel
theorem dX12_loose_102 : decode cX12_loose 102 = .ok (.invokevirtual 51, 3) := by decide +kernel
theorem dX12_loose_105 : decode cX12_loose 105 = .ok (.aload_n 0, 1) := by decide +kernel
theorem dX12_loose_106 : decode cX12_loose 106 = .ok (.invokevirtual 171, 3) := by decide +kernel
theorem dX12_loose_109 : decode cX12_loose 109 = .ok (.iinc 2 1, 3) := by decide +kernel
theorem dX12_loose_112 : decode cX12_loose 112 = .ok (.goto (-72), 3) := by decide +kernel
theorem dX12_loose_115 : decode cX12_loose 115 = .ok (.aload_n 0, 1) := by decide +kernel
theorem dX12_loose_116 : decode cX12_loose 116 = .ok (.invokevirtual 179, 3) := by decide +kernel
theorem dX12_loose_119 : decode cX12_loose 119 = .ok (.ireturn, 1) := by decide +kernel
theorem dX12_then_0 : decode cX12_then 0 = .ok (.iload_n 1, 1) := by decide +kernel
theorem dX12_then_1 : decode cX12_then 1 = .ok (.iconst 0, 1) := by decide +kernel
theorem dX12_then_2 : decode cX12_then 2 = .ok (.bipush 60, 2) := by decide +kernel
theorem dX12_then_4 : decode cX12_then 4 = .ok (.invokestatic 41, 3) := by decide +kernel
theorem dX12_then_7 : decode cX12_then 7 = .ok (.ifCond .eq 11, 3) := by decide +kernel
theorem dX12_then_10 : decode cX12_then 10 = .ok (.aload_n 0, 1) := by decide +kernel
theorem dX12_then_11 : decode cX12_then 11 = .ok (.iload_n 2, 1) := by decide +kernel
theorem dX12_then_12 : decode cX12_then 12 = .ok (.invokevirtual 55, 3) := by decide +kernel
theorem dX12_then_15 : decode cX12_then 15 = .ok (.ifCond .ne 10, 3) := by decide +kernel
theorem dX12_then_18 : decode cX12_then 18 = .ok (.aload_n 0, 1) := by decide +kernel
theorem dX12_then_19 : decode cX12_then 19 = .ok (.ldc 45, 2) := by decide +kernel
theorem dX12_then_21 : decode cX12_then 21 = .ok (.invokevirtual 46, 3) := by decide +kernel
theorem dX12_then_24 : decode cX12_then 24 = .ok (.ireturn, 1) := by decide +kernel
theorem dX12_then_25 : decode cX12_then 25 = .ok (.aload_n 0, 1) := by decide +kernel
theorem dX12_then_26 : decode cX12_then 26 = .ok (.aload_n 0, 1) := by decide +kernel
theorem dX12_then_27 : decode cX12_then 27 = .ok (.getfield 7, 3) := by decide +kernel
theorem dX12_then_30 : decode cX12_then 30 = .ok (.aload_n 0, 1) := by decide +kernel
theorem dX12_then_31 : decode cX12_then 31 = .ok (.getfield 16, 3) := by decide +kernel
theorem dX12_then_34 : decode cX12_then 34 = .ok (.invokevirtual 150, 3) := by decide +kernel
theorem dX12_then_37 : decode cX12_then 37 = .ok (.aload_n 0, 1) := by decide +kernel
theorem dX12_then_38 : decode cX12_then 38 = .ok (.iload_n 1, 1) := by decide +kernel
theorem dX12_then_39 : decode cX12_then 39 = .ok (.invokevirtual 175, 3) := by decide +kernel
theorem dX12_then_42 : decode cX12_then 42 = .ok (.aload_n 0, 1) := by decide +kernel
theorem dX12_then_43 : decode cX12_then 43 = .ok (.iload_n 2, 1) := by decide +kernel
theorem dX12_then_44 : decode cX12_then 44 = .ok (.iconst 2, 1) := by decide +kernel
theorem dX12_then_45 : decode cX12_then 45 = .ok (.invokevirtual 59, 3) := by decide +kernel
theorem dX12_then_48 : decode cX12_then 48 = .ok (.istore_n 3, 1) := by decide +kernel
theorem dX12_then_49 : decode cX12_then 49 = .ok (.aload_n 0, 1) := by decide +kernel
theorem dX12_then_50 : decode cX12_then 50 = .ok (.aload_n 0, 1) := by decide +kernel
theorem dX12_then_51 : decode cX12_then 51 = .ok (.getfield 16, 3) := by decide +kernel
theorem dX12_then_54 : decode cX12_then 54 = .ok (.aload_n 0, 1) := by decide +kernel
theorem dX12_then_55 : decode cX12_then 55 = .ok (.getfield 7, 3) := by decide +kernel
theorem dX12_then_58 : decode cX12_then 58 = .ok (.invokevirtual 150, 3) := by decide +kernel
theorem dX12_then_61 : decode cX12_then 61 = .ok (.iload_n 3, 1) := by decide +kernel
theorem dX12_then_62 : decode cX12_then 62 = .ok (.ireturn, 1) := by decide +kernel
theorem dX12_dirtyFrom_0 : decode cX12_dirtyFrom 0 = .ok (.iconst 0, 1) := by decide +kernel
theorem dX12_dirtyFrom_1 : decode cX12_dirtyFrom 1 = .ok (.istore_n 2, 1) := by decide +kernel
theorem dX12_dirtyFrom_2 : decode cX12_dirtyFrom 2 = .ok (.iload_n 2, 1) := by decide +kernel
theorem dX12_dirtyFrom_3 : decode cX12_dirtyFrom 3 = .ok (.aload_n 0, 1) := by decide +kernel
theorem dX12_dirtyFrom_4 : decode cX12_dirtyFrom 4 = .ok (.getfield 7, 3) := by decide +kernel
theorem dX12_dirtyFrom_7 : decode cX12_dirtyFrom 7 = .ok (.iconst 2, 1) := by decide +kernel
theorem dX12_dirtyFrom_8 : decode cX12_dirtyFrom 8 = .ok (.iaload, 1) := by decide +kernel
theorem dX12_dirtyFrom_9 : decode cX12_dirtyFrom 9 = .ok (.if_icmp .ge 19, 3) := by decide +kernel
theorem dX12_dirtyFrom_12 : decode cX12_dirtyFrom 12 = .ok (.aload_n 0, 1) := by decide +kernel
theorem dX12_dirtyFrom_13 : decode cX12_dirtyFrom 13 = .ok (.iload_n 2, 1) := by decide +kernel
theorem dX12_dirtyFrom_14 : decode cX12_dirtyFrom 14 = .ok (.iconst 2, 1) := by decide +kernel
theorem dX12_dirtyFrom_15 : decode cX12_dirtyFrom 15 = .ok (.invokevirtual 59, 3) := by decide +kernel
theorem dX12_dirtyFrom_18 : decode cX12_dirtyFrom 18 = .ok (.iload_n 1, 1) := by decide +kernel
theorem dX12_dirtyFrom_19 : decode cX12_dirtyFrom 19 = .ok (.if_icmp .ge 9, 3) := by decide +kernel
theorem dX12_dirtyFrom_22 : decode cX12_dirtyFrom 22 = .ok (.iinc 2 1, 3) := by decide +kernel
theorem dX12_dirtyFrom_25 : decode cX12_dirtyFrom 25 = .ok (.goto (-23), 3) := by decide +kernel
theorem dX12_dirtyFrom_28 : decode cX12_dirtyFrom 28 = .ok (.iload_n 2, 1) := by decide +kernel
theorem dX12_dirtyFrom_29 : decode cX12_dirtyFrom 29 = .ok (.ireturn, 1) := by decide +kernel
theorem dX12_worst_0 : decode cX12_worst 0 = .ok (.iload_n 1, 1) := by decide +kernel
theorem dX12_worst_1 : decode cX12_worst 1 = .ok (.iconst 1, 1) := by decide +kernel
theorem dX12_worst_2 : decode cX12_worst 2 = .ok (.sipush 999, 3) := by decide +kernel
theorem dX12_worst_5 : decode cX12_worst 5 = .ok (.invokestatic 41, 3) := by decide +kernel
theorem dX12_worst_8 : decode cX12_worst 8 = .ok (.ifCond .eq 12, 3) := by decide +kernel
theorem dX12_worst_11 : decode cX12_worst 11 = .ok (.iload_n 2, 1) := by decide +kernel
theorem dX12_worst_12 : decode cX12_worst 12 = .ok (.iconst 0, 1) := by decide +kernel
theorem dX12_worst_13 : decode cX12_worst 13 = .ok (.iconst 1, 1) := by decide +kernel
theorem dX12_worst_14 : decode cX12_worst 14 = .ok (.invokestatic 41, 3) := by decide +kernel
theorem dX12_worst_17 : decode cX12_worst 17 = .ok (.ifCond .ne 10, 3) := by decide +kernel
theorem dX12_worst_20 : decode cX12_worst 20 = .ok (.aload_n 0, 1) := by decide +kernel
theorem dX12_worst_21 : decode cX12_worst 21 = .ok (.ldc 45, 2) := by decide +kernel
theorem dX12_worst_23 : decode cX12_worst 23 = .ok (.invokevirtual 46, 3) := by decide +kernel
theorem dX12_worst_26 : decode cX12_worst 26 = .ok (.ireturn, 1) := by decide +kernel
theorem dX12_worst_27 : decode cX12_worst 27 = .ok (.aload_n 0, 1) := by decide +kernel
theorem dX12_worst_28 : decode cX12_worst 28 = .ok (.aload_n 0, 1) := by decide +kernel
theorem dX12_worst_29 : decode cX12_worst 29 = .ok (.getfield 7, 3) := by decide +kernel
theorem dX12_worst_32 : decode cX12_worst 32 = .ok (.aload_n 0, 1) := by decide +kernel
theorem dX12_worst_33 : decode cX12_worst 33 = .ok (.getfield 16, 3) := by decide +kernel
theorem dX12_worst_36 : decode cX12_worst 36 = .ok (.invokevirtual 150, 3) := by decide +kernel
theorem dX12_worst_39 : decode cX12_worst 39 = .ok (.iconst 0, 1) := by decide +kernel
theorem dX12_worst_40 : decode cX12_worst 40 = .ok (.istore_n 3, 1) := by decide +kernel
theorem dX12_worst_41 : decode cX12_worst 41 = .ok (.iload_n 3, 1) := by decide +kernel
theorem dX12_worst_42 : decode cX12_worst 42 = .ok (.bipush 60, 2) := by decide +kernel
theorem dX12_worst_44 : decode cX12_worst 44 = .ok (.if_icmp .gt 27, 3) := by decide +kernel
theorem dX12_worst_47 : decode cX12_worst 47 = .ok (.aload_n 0, 1) := by decide +kernel
theorem dX12_worst_48 : decode cX12_worst 48 = .ok (.iload_n 1, 1) := by decide +kernel
theorem dX12_worst_49 : decode cX12_worst 49 = .ok (.invokevirtual 186, 3) := by decide +kernel
theorem dX12_worst_52 : decode cX12_worst 52 = .ok (.aload_n 0, 1) := by decide +kernel
theorem dX12_worst_53 : decode cX12_worst 53 = .ok (.getfield 7, 3) := by decide +kernel
theorem dX12_worst_56 : decode cX12_worst 56 = .ok (.iconst 2, 1) := by decide +kernel
theorem dX12_worst_57 : decode cX12_worst 57 = .ok (.iaload, 1) := by decide +kernel
theorem dX12_worst_58 : decode cX12_worst 58 = .ok (.if_icmp .ne 13, 3) := by decide +kernel
theorem dX12_worst_61 : decode cX12_worst 61 = .ok (.aload_n 0, 1) := by decide +kernel
theorem dX12_worst_62 : decode cX12_worst 62 = .ok (.invokevirtual 171, 3) := by decide +kernel
theorem dX12_worst_65 : decode cX12_worst 65 = .ok (.iinc 3 1, 3) := by decide +kernel
theorem dX12_worst_68 : decode cX12_worst 68 = .ok (.goto (-27), 3) := by decide +kernel
theorem dX12_worst_71 : decode cX12_worst 71 = .ok (.aload_n 0, 1) := by decide +kernel
theorem dX12_worst_72 : decode cX12_worst 72 = .ok (.iload_n 1, 1) := by decide +kernel
theorem dX12_worst_73 : decode cX12_worst 73 = .ok (.invokevirtual 186, 3) := by decide +kernel
theorem dX12_worst_76 : decode cX12_worst 76 = .ok (.istore 4, 2) := by decide +kernel
theorem dX12_worst_78 : decode cX12_worst 78 = .ok (.aload_n 0, 1) := by decide +kernel
theorem dX12_worst_79 : decode cX12_worst 79 = .ok (.aload_n 0, 1) := by decide +kernel
theorem dX12_worst_80 : decode cX12_worst 80 = .ok (.getfield 16, 3) := by decide +kernel
theorem dX12_worst_83 : decode cX12_worst 83 = .ok (.aload_n 0, 1) := by decide +kernel
theorem dX12_worst_84 : decode cX12_worst 84 = .ok (.getfield 7, 3) := by decide +kernel
theorem dX12_worst_87 : decode cX12_worst 87 = .ok (.invokevirtual 150, 3) := by decide +kernel
theorem dX12_worst_90 : decode cX12_worst 90 = .ok (.iload_n 3, 1) := by decide +kernel
theorem dX12_worst_91 : decode cX12_worst 91 = .ok (.bipush 60, 2) := by decide +kernel
theorem dX12_worst_93 : decode cX12_worst 93 = .ok (.if_icmp .le 10, 3) := by decide +kernel
theorem dX12_worst_96 : decode cX12_worst 96 = .ok (.aload_n 0, 1) := by decide +kernel
theorem dX12_worst_97 : decode cX12_worst 97 = .ok (.ldc 189, 2) := by decide +kernel
theorem dX12_worst_99 : decode cX12_worst 99 = .ok (.invokevirtual 46, 3) := by decide +kernel
theorem dX12_worst_102 : decode cX12_worst 102 = .ok (.ireturn, 1) := by decide +kernel
theorem dX12_worst_103 : decode cX12_worst 103 = .ok (.iload_n 2, 1) := by decide +kernel
theorem dX12_worst_104 : decode cX12_worst 104 = .ok (.ifCond .ne 7, 3) := by decide +kernel
theorem dX12_worst_107 : decode cX12_worst 107 = .ok (.iload_n 3, 1) := by decide +kernel
theorem dX12_worst_108 : decode cX12_worst 108 = .ok (.goto 5, 3) := by decide +kernel
theorem dX12_worst_111 : decode cX12_worst 111 = .ok (.iload 4, 2) := by decide +kernel
theorem dX12_worst_113 : decode cX12_worst 113 = .ok (.ireturn, 1) := by decide +kernel
theorem dX12_stay_0 : decode cX12_stay 0 = .ok (.aload_n 0, 1) := by decide +kernel
theorem dX12_stay_1 : decode cX12_stay 1 = .ok (.iconst 0, 1) := by decide +kernel
theorem dX12_stay_2 : decode cX12_stay 2 = .ok (.aload_n 0, 1) := by decide +kernel
theorem dX12_stay_3 : decode cX12_stay 3 = .ok (.iconst 1, 1) := by decide +kernel
theorem dX12_stay_4 : decode cX12_stay 4 = .ok (.invokevirtual 164, 3) := by decide +kernel
theorem dX12_stay_7 : decode cX12_stay 7 = .ok (.invokevirtual 161, 3) := by decide +kernel
theorem dX12_stay_10 : decode cX12_stay 10 = .ok (.aload_n 0, 1) := by decide +kernel
theorem dX12_stay_11 : decode cX12_stay 11 = .ok (.iconst 1, 1) := by decide +kernel
theorem dX12_stay_12 : decode cX12_stay 12 = .ok (.aload_n 0, 1) := by decide +kernel
theorem dX12_stay_13 : decode cX12_stay 13 = .ok (.iconst 0, 1) := by decide +kernel
theorem dX12_stay_14 : decode cX12_stay 14 = .ok (.invokevirtual 164, 3) := by decide +kernel
theorem dX12_stay_17 : decode cX12_stay 17 = .ok (.invokevirtual 161, 3) := by decide +kernel
theorem dX12_stay_20 : decode cX12_stay 20 = .ok (.ior, 1) := by decide +kernel
theorem dX12_stay_21 : decode cX12_stay 21 = .ok (.ireturn, 1) := by decide +kernel
theorem dX12_dirtSwept_0 : decode cX12_dirtSwept 0 = .ok (.aload_n 0, 1) := by decide +kernel
theorem dX12_dirtSwept_1 : decode cX12_dirtSwept 1 = .ok (.aload_n 0, 1) := by decide +kernel
theorem dX12_dirtSwept_2 : decode cX12_dirtSwept 2 = .ok (.getfield 7, 3) := by decide +kernel
theorem dX12_dirtSwept_5 : decode cX12_dirtSwept 5 = .ok (.aload_n 0, 1) := by decide +kernel
theorem dX12_dirtSwept_6 : decode cX12_dirtSwept 6 = .ok (.getfield 16, 3) := by decide +kernel
theorem dX12_dirtSwept_9 : decode cX12_dirtSwept 9 = .ok (.invokevirtual 150, 3) := by decide +kernel
theorem dX12_dirtSwept_12 : decode cX12_dirtSwept 12 = .ok (.aload_n 0, 1) := by decide +kernel
theorem dX12_dirtSwept_13 : decode cX12_dirtSwept 13 = .ok (.iload_n 1, 1) := by decide +kernel
theorem dX12_dirtSwept_14 : decode cX12_dirtSwept 14 = .ok (.aload_n 0, 1) := by decide +kernel
theorem dX12_dirtSwept_15 : decode cX12_dirtSwept 15 = .ok (.iconst 1, 1) := by decide +kernel
theorem dX12_dirtSwept_16 : decode cX12_dirtSwept 16 = .ok (.iload_n 1, 1) := by decide +kernel
theorem dX12_dirtSwept_17 : decode cX12_dirtSwept 17 = .ok (.isub, 1) := by decide +kernel
theorem dX12_dirtSwept_18 : decode cX12_dirtSwept 18 = .ok (.invokevirtual 164, 3) := by decide +kernel
theorem dX12_dirtSwept_21 : decode cX12_dirtSwept 21 = .ok (.invokevirtual 167, 3) := by decide +kernel
theorem dX12_dirtSwept_24 : decode cX12_dirtSwept 24 = .ok (.aload_n 0, 1) := by decide +kernel
theorem dX12_dirtSwept_25 : decode cX12_dirtSwept 25 = .ok (.invokevirtual 179, 3) := by decide +kernel
theorem dX12_dirtSwept_28 : decode cX12_dirtSwept 28 = .ok (.istore_n 2, 1) := by decide +kernel
theorem dX12_dirtSwept_29 : decode cX12_dirtSwept 29 = .ok (.aload_n 0, 1) := by decide +kernel
theorem dX12_dirtSwept_30 : decode cX12_dirtSwept 30 = .ok (.aload_n 0, 1) := by decide +kernel
theorem dX12_dirtSwept_31 : decode cX12_dirtSwept 31 = .ok (.getfield 16, 3) := by decide +kernel
theorem dX12_dirtSwept_34 : decode cX12_dirtSwept 34 = .ok (.aload_n 0, 1) := by decide +kernel
theorem dX12_dirtSwept_35 : decode cX12_dirtSwept 35 = .ok (.getfield 7, 3) := by decide +kernel
theorem dX12_dirtSwept_38 : decode cX12_dirtSwept 38 = .ok (.invokevirtual 150, 3) := by decide +kernel
theorem dX12_dirtSwept_41 : decode cX12_dirtSwept 41 = .ok (.iload_n 2, 1) := by decide +kernel
theorem dX12_dirtSwept_42 : decode cX12_dirtSwept 42 = .ok (.ireturn, 1) := by decide +kernel
theorem dX12_side_0 : decode cX12_side 0 = .ok (.iload_n 1, 1) := by decide +kernel
theorem dX12_side_1 : decode cX12_side 1 = .ok (.iconst 0, 1) := by decide +kernel
theorem dX12_side_2 : decode cX12_side 2 = .ok (.iconst 1, 1) := by decide +kernel
theorem dX12_side_3 : decode cX12_side 3 = .ok (.invokestatic 41, 3) := by decide +kernel
theorem dX12_side_6 : decode cX12_side 6 = .ok (.ifCond .ne 10, 3) := by decide +kernel
theorem dX12_side_9 : decode cX12_side 9 = .ok (.aload_n 0, 1) := by decide +kernel
theorem dX12_side_10 : decode cX12_side 10 = .ok (.ldc 45, 2) := by decide +kernel
theorem dX12_side_12 : decode cX12_side 12 = .ok (.invokevirtual 46, 3) := by decide +kernel
theorem dX12_side_15 : decode cX12_side 15 = .ok (.ireturn, 1) := by decide +kernel
theorem dX12_side_16 : decode cX12_side 16 = .ok (.aload_n 0, 1) := by decide +kernel
theorem dX12_side_17 : decode cX12_side 17 = .ok (.iconst 0, 1) := by decide +kernel
theorem dX12_side_18 : decode cX12_side 18 = .ok (.invokevirtual 190, 3) := by decide +kernel
theorem dX12_side_21 : decode cX12_side 21 = .ok (.istore_n 2, 1) := by decide +kernel
theorem dX12_side_22 : decode cX12_side 22 = .ok (.aload_n 0, 1) := by decide +kernel
theorem dX12_side_23 : decode cX12_side 23 = .ok (.iconst 1, 1) := by decide +kernel
theorem dX12_side_24 : decode cX12_side 24 = .ok (.invokevirtual 190, 3) := by decide +kernel
theorem dX12_side_27 : decode cX12_side 27 = .ok (.istore_n 3, 1) := by decide +kernel
theorem dX12_side_28 : decode cX12_side 28 = .ok (.iload_n 1, 1) := by decide +kernel
theorem dX12_side_29 : decode cX12_side 29 = .ok (.ifCond .ne 16, 3) := by decide +kernel
theorem dX12_side_32 : decode cX12_side 32 = .ok (.iload_n 3, 1) := by decide +kernel
theorem dX12_side_33 : decode cX12_side 33 = .ok (.iload_n 2, 1) := by decide +kernel
theorem dX12_side_34 : decode cX12_side 34 = .ok (.if_icmp .ge 7, 3) := by decide +kernel
theorem dX12_side_37 : decode cX12_side 37 = .ok (.iconst 1, 1) := by decide +kernel
theorem dX12_side_38 : decode cX12_side 38 = .ok (.goto 17, 3) := by decide +kernel
theorem dX12_side_41 : decode cX12_side 41 = .ok (.iconst 0, 1) := by decide +kernel
theorem dX12_side_42 : decode cX12_side 42 = .ok (.goto 13, 3) := by decide +kernel
theorem dX12_side_45 : decode cX12_side 45 = .ok (.iload_n 3, 1) := by decide +kernel
theorem dX12_side_46 : decode cX12_side 46 = .ok (.iload_n 2, 1) := by decide +kernel
theorem dX12_side_47 : decode cX12_side 47 = .ok (.if_icmp .ge 7, 3) := by decide +kernel
theorem dX12_side_50 : decode cX12_side 50 = .ok (.iload_n 3, 1) := by decide +kernel
theorem dX12_side_51 : decode cX12_side 51 = .ok (.goto 4, 3) := by decide +kernel
theorem dX12_side_54 : decode cX12_side 54 = .ok (.iload_n 2, 1) := by decide +kernel
theorem dX12_side_55 : decode cX12_side 55 = .ok (.ireturn, 1) := by decide +kernel
theorem dX12_seldom_0 : decode cX12_seldom 0 = .ok (.iload_n 1, 1) := by decide +kernel
theorem dX12_seldom_1 : decode cX12_seldom 1 = .ok (.iconst 1, 1) := by decide +kernel
theorem dX12_seldom_2 : decode cX12_seldom 2 = .ok (.sipush 999, 3) := by decide +kernel
theorem dX12_seldom_5 : decode cX12_seldom 5 = .ok (.invokestatic 41, 3) := by decide +kernel
theorem dX12_seldom_8 : decode cX12_seldom 8 = .ok (.ifCond .ne 10, 3) := by decide +kernel
theorem dX12_seldom_11 : decode cX12_seldom 11 = .ok (.aload_n 0, 1) := by decide +kernel
theorem dX12_seldom_12 : decode cX12_seldom 12 = .ok (.ldc 45, 2) := by decide +kernel
theorem dX12_seldom_14 : decode cX12_seldom 14 = .ok (.invokevirtual 46, 3) := by decide +kernel
theorem dX12_seldom_17 : decode cX12_seldom 17 = .ok (.ireturn, 1) := by decide +kernel
theorem dX12_seldom_18 : decode cX12_seldom 18 = .ok (.iconst (-1), 1) := by decide +kernel
theorem dX12_seldom_19 : decode cX12_seldom 19 = .ok (.istore_n 2, 1) := by decide +kernel
theorem dX12_seldom_20 : decode cX12_seldom 20 = .ok (.aload_n 0, 1) := by decide +kernel
theorem dX12_seldom_21 : decode cX12_seldom 21 = .ok (.aload_n 0, 1) := by decide +kernel
theorem dX12_seldom_22 : decode cX12_seldom 22 = .ok (.getfield 7, 3) := by decide +kernel
theorem dX12_seldom_25 : decode cX12_seldom 25 = .ok (.aload_n 0, 1) := by decide +kernel
theorem dX12_seldom_26 : decode cX12_seldom 26 = .ok (.getfield 16, 3) := by decide +kernel
theorem dX12_seldom_29 : decode cX12_seldom 29 = .ok (.invokevirtual 150, 3) := by decide +kernel
theorem dX12_seldom_32 : decode cX12_seldom 32 = .ok (.aload_n 0, 1) := by decide +kernel
theorem dX12_seldom_33 : decode cX12_seldom 33 = .ok (.iconst 1, 1) := by decide +kernel
theorem dX12_seldom_34 : decode cX12_seldom 34 = .ok (.putfield 154, 3) := by decide +kernel
theorem dX12_seldom_37 : decode cX12_seldom 37 = .ok (.aload_n 0, 1) := by decide +kernel
theorem dX12_seldom_38 : decode cX12_seldom 38 = .ok (.getfield 154, 3) := by decide +kernel
theorem dX12_seldom_41 : decode cX12_seldom 41 = .ok (.bipush 14, 2) := by decide +kernel
theorem dX12_seldom_43 : decode cX12_seldom 43 = .ok (.if_icmp .gt 87, 3) := by decide +kernel
theorem dX12_seldom_46 : decode cX12_seldom 46 = .ok (.iconst 1, 1) := by decide +kernel
theorem dX12_seldom_47 : decode cX12_seldom 47 = .ok (.istore_n 3, 1) := by decide +kernel
theorem dX12_seldom_48 : decode cX12_seldom 48 = .ok (.iconst 0, 1) := by decide +kernel
theorem dX12_seldom_49 : decode cX12_seldom 49 = .ok (.istore 4, 2) := by decide +kernel
theorem dX12_seldom_51 : decode cX12_seldom 51 = .ok (.iload 4, 2) := by decide +kernel
theorem dX12_seldom_53 : decode cX12_seldom 53 = .ok (.bipush 28, 2) := by decide +kernel
theorem dX12_seldom_55 : decode cX12_seldom 55 = .ok (.if_icmp .ge 37, 3) := by decide +kernel
theorem dX12_seldom_58 : decode cX12_seldom 58 = .ok (.iload_n 3, 1) := by decide +kernel
theorem dX12_seldom_59 : decode cX12_seldom 59 = .ok (.ifCond .eq 33, 3) := by decide +kernel
theorem dX12_seldom_62 : decode cX12_seldom 62 = .ok (.aload_n 0, 1) := by decide +kernel
theorem dX12_seldom_63 : decode cX12_seldom 63 = .ok (.invokevirtual 171, 3) := by decide +kernel
theorem dX12_seldom_66 : decode cX12_seldom 66 = .ok (.aload_n 0, 1) := by decide +kernel
theorem dX12_seldom_67 : decode cX12_seldom 67 = .ok (.iload_n 1, 1) := by decide +kernel
theorem dX12_seldom_68 : decode cX12_seldom 68 = .ok (.invokevirtual 186, 3) := by decide +kernel
theorem dX12_seldom_71 : decode cX12_seldom 71 = .ok (.aload_n 0, 1) := by decide +kernel
theorem dX12_seldom_72 : decode cX12_seldom 72 = .ok (.getfield 7, 3) := by decide +kernel
theorem dX12_seldom_75 : decode cX12_seldom 75 = .ok (.iconst 2, 1) := by decide +kernel
theorem dX12_seldom_76 : decode cX12_seldom 76 = .ok (.iaload, 1) := by decide +kernel
theorem dX12_seldom_77 : decode cX12_seldom 77 = .ok (.if_icmp .ne 7, 3) := by decide +kernel
theorem dX12_seldom_80 : decode cX12_seldom 80 = .ok (.iconst 1, 1) := by decide +kernel
theorem dX12_seldom_81 : decode cX12_seldom 81 = .ok (.goto 4, 3) := by decide +kernel
theorem dX12_seldom_84 : decode cX12_seldom 84 = .ok (.iconst 0, 1) := by decide +kernel
theorem dX12_seldom_85 : decode cX12_seldom 85 = .ok (.istore_n 3, 1) := by decide +kernel
theorem dX12_seldom_86 : decode cX12_seldom 86 = .ok (.iinc 4 1, 3) := by decide +kernel
theorem dX12_seldom_89 : decode cX12_seldom 89 = .ok (.goto (-38), 3) := by decide +kernel
theorem dX12_seldom_92 : decode cX12_seldom 92 = .ok (.iload_n 3, 1) := by decide +kernel
theorem dX12_seldom_93 : decode cX12_seldom 93 = .ok (.ifCond .eq 10, 3) := by decide +kernel
theorem dX12_seldom_96 : decode cX12_seldom 96 = .ok (.aload_n 0, 1) := by decide +kernel
theorem dX12_seldom_97 : decode cX12_seldom 97 = .ok (.getfield 154, 3) := by decide +kernel
theorem dX12_seldom_100 : decode cX12_seldom 100 = .ok (.goto 4, 3) := by decide +kernel
theorem dX12_seldom_103 : decode cX12_seldom 103 = .ok (.iload_n 2, 1) := by decide +kernel
theorem dX12_seldom_104 : decode cX12_seldom 104 = .ok (.istore_n 2, 1) := by decide +kernel
theorem dX12_seldom_105 : decode cX12_seldom 105 = .ok (.aload_n 0, 1) := by decide +kernel
theorem dX12_seldom_106 : decode cX12_seldom 106 = .ok (.aload_n 0, 1) := by decide +kernel
theorem dX12_seldom_107 : decode cX12_seldom 107 = .ok (.getfield 16, 3) := by decide +kernel
theorem dX12_seldom_110 : decode cX12_seldom 110 = .ok (.aload_n 0, 1) := by decide +kernel
theorem dX12_seldom_111 : decode cX12_seldom 111 = .ok (.getfield 7, 3) := by decide +kernel
theorem dX12_seldom_114 : decode cX12_seldom 114 = .ok (.invokevirtual 150, 3) := by decide +kernel
theorem dX12_seldom_117 : decode cX12_seldom 117 = .ok (.aload_n 0, 1) := by decide +kernel
theorem dX12_seldom_118 : decode cX12_seldom 118 = .ok (.dup, 1) := by decide +kernel
theorem dX12_seldom_119 : decode cX12_seldom 119 = .ok (.getfield 154, 3) := by decide +kernel
theorem dX12_seldom_122 : decode cX12_seldom 122 = .ok (.iconst 1, 1) := by decide +kernel
theorem dX12_seldom_123 : decode cX12_seldom 123 = .ok (.iadd, 1) := by decide +kernel
theorem dX12_seldom_124 : decode cX12_seldom 124 = .ok (.putfield 154, 3) := by decide +kernel
theorem dX12_seldom_127 : decode cX12_seldom 127 = .ok (.goto (-90), 3) := by decide +kernel
theorem dX12_seldom_130 : decode cX12_seldom 130 = .ok (.aload_n 0, 1) := by decide +kernel
theorem dX12_seldom_131 : decode cX12_seldom 131 = .ok (.iconst 0, 1) := by decide +kernel
theorem dX12_seldom_132 : decode cX12_seldom 132 = .ok (.putfield 154, 3) := by decide +kernel
theorem dX12_seldom_135 : decode cX12_seldom 135 = .ok (.iload_n 2, 1) := by decide +kernel
theorem dX12_seldom_136 : decode cX12_seldom 136 = .ok (.ifCond .ge 12, 3) := by decide +kernel
theorem dX12_seldom_139 : decode cX12_seldom 139 = .ok (.aload_n 0, 1) := by decide +kernel
theorem dX12_seldom_140 : decode cX12_seldom 140 = .ok (.ldc 189, 2) := by decide +kernel
theorem dX12_seldom_142 : decode cX12_seldom 142 = .ok (.invokevirtual 46, 3) := by decide +kernel
theorem dX12_seldom_145 : decode cX12_seldom 145 = .ok (.goto 4, 3) := by decide +kernel
theorem dX12_seldom_148 : decode cX12_seldom 148 = .ok (.iload_n 2, 1) := by decide +kernel
theorem dX12_seldom_149 : decode cX12_seldom 149 = .ok (.ireturn, 1) := by decide +kernel
theorem dX12_leastFine_0 : decode cX12_leastFine 0 = .ok (.iload_n 1, 1) := by decide +kernel
theorem dX12_leastFine_1 : decode cX12_leastFine 1 = .ok (.iconst 0, 1) := by decide +kernel
theorem dX12_leastFine_2 : decode cX12_leastFine 2 = .ok (.iconst 1, 1) := by decide +kernel
theorem dX12_leastFine_3 : decode cX12_leastFine 3 = .ok (.invokestatic 41, 3) := by decide +kernel
theorem dX12_leastFine_6 : decode cX12_leastFine 6 = .ok (.ifCond .ne 10, 3) := by decide +kernel
theorem dX12_leastFine_9 : decode cX12_leastFine 9 = .ok (.aload_n 0, 1) := by decide +kernel
theorem dX12_leastFine_10 : decode cX12_leastFine 10 = .ok (.ldc 45, 2) := by decide +kernel
theorem dX12_leastFine_12 : decode cX12_leastFine 12 = .ok (.invokevirtual 46, 3) := by decide +kernel
theorem dX12_leastFine_15 : decode cX12_leastFine 15 = .ok (.ireturn, 1) := by decide +kernel
theorem dX12_leastFine_16 : decode cX12_leastFine 16 = .ok (.aload_n 0, 1) := by decide +kernel
theorem dX12_leastFine_17 : decode cX12_leastFine 17 = .ok (.getfield 7, 3) := by decide +kernel
theorem dX12_leastFine_20 : decode cX12_leastFine 20 = .ok (.bipush 8, 2) := by decide +kernel
theorem dX12_leastFine_22 : decode cX12_leastFine 22 = .ok (.iaload, 1) := by decide +kernel
theorem dX12_leastFine_23 : decode cX12_leastFine 23 = .ok (.istore_n 2, 1) := by decide +kernel
theorem dX12_leastFine_24 : decode cX12_leastFine 24 = .ok (.iconst 0, 1) := by decide +kernel
theorem dX12_leastFine_25 : decode cX12_leastFine 25 = .ok (.istore_n 3, 1) := by decide +kernel
theorem dX12_leastFine_26 : decode cX12_leastFine 26 = .ok (.aload_n 0, 1) := by decide +kernel
theorem dX12_leastFine_27 : decode cX12_leastFine 27 = .ok (.getfield 7, 3) := by decide +kernel
theorem dX12_leastFine_30 : decode cX12_leastFine 30 = .ok (.bipush 8, 2) := by decide +kernel
theorem dX12_leastFine_32 : decode cX12_leastFine 32 = .ok (.iload_n 3, 1) := by decide +kernel
theorem dX12_leastFine_33 : decode cX12_leastFine 33 = .ok (.iastore, 1) := by decide +kernel
theorem dX12_leastFine_34 : decode cX12_leastFine 34 = .ok (.iload_n 3, 1) := by decide +kernel
theorem dX12_leastFine_35 : decode cX12_leastFine 35 = .ok (.bipush 99, 2) := by decide +kernel
theorem dX12_leastFine_37 : decode cX12_leastFine 37 = .ok (.if_icmp .gt 32, 3) := by decide +kernel
theorem dX12_leastFine_40 : decode cX12_leastFine 40 = .ok (.aload_n 0, 1) := by decide +kernel
theorem dX12_leastFine_41 : decode cX12_leastFine 41 = .ok (.iload_n 1, 1) := by decide +kernel
theorem dX12_leastFine_42 : decode cX12_leastFine 42 = .ok (.aload_n 0, 1) := by decide +kernel
theorem dX12_leastFine_43 : decode cX12_leastFine 43 = .ok (.iconst 1, 1) := by decide +kernel
theorem dX12_leastFine_44 : decode cX12_leastFine 44 = .ok (.iload_n 1, 1) := by decide +kernel
theorem dX12_leastFine_45 : decode cX12_leastFine 45 = .ok (.isub, 1) := by decide +kernel
theorem dX12_leastFine_46 : decode cX12_leastFine 46 = .ok (.invokevirtual 164, 3) := by decide +kernel
theorem dX12_leastFine_49 : decode cX12_leastFine 49 = .ok (.invokevirtual 161, 3) := by decide +kernel
theorem dX12_leastFine_52 : decode cX12_leastFine 52 = .ok (.ifCond .eq 17, 3) := by decide +kernel
theorem dX12_leastFine_55 : decode cX12_leastFine 55 = .ok (.iinc 3 1, 3) := by decide +kernel
theorem dX12_leastFine_58 : decode cX12_leastFine 58 = .ok (.aload_n 0, 1) := by decide +kernel
theorem dX12_leastFine_59 : decode cX12_leastFine 59 = .ok (.getfield 7, 3) := by decide +kernel
theorem dX12_leastFine_62 : decode cX12_leastFine 62 = .ok (.bipush 8, 2) := by decide +kernel
theorem dX12_leastFine_64 : decode cX12_leastFine 64 = .ok (.iload_n 3, 1) := by decide +kernel
theorem dX12_leastFine_65 : decode cX12_leastFine 65 = .ok (.iastore, 1) := by decide +kernel
theorem dX12_leastFine_66 : decode cX12_leastFine 66 = .ok (.goto (-32), 3) := by decide +kernel
theorem dX12_leastFine_69 : decode cX12_leastFine 69 = .ok (.aload_n 0, 1) := by decide +kernel
theorem dX12_leastFine_70 : decode cX12_leastFine 70 = .ok (.getfield 7, 3) := by decide +kernel
theorem dX12_leastFine_73 : decode cX12_leastFine 73 = .ok (.bipush 8, 2) := by decide +kernel
theorem dX12_leastFine_75 : decode cX12_leastFine 75 = .ok (.iload_n 2, 1) := by decide +kernel
theorem dX12_leastFine_76 : decode cX12_leastFine 76 = .ok (.iastore, 1) := by decide +kernel
theorem dX12_leastFine_77 : decode cX12_leastFine 77 = .ok (.iload_n 3, 1) := by decide +kernel
theorem dX12_leastFine_78 : decode cX12_leastFine 78 = .ok (.bipush 99, 2) := by decide +kernel
theorem dX12_leastFine_80 : decode cX12_leastFine 80 = .ok (.if_icmp .le 12, 3) := by decide +kernel
theorem dX12_leastFine_83 : decode cX12_leastFine 83 = .ok (.aload_n 0, 1) := by decide +kernel
theorem dX12_leastFine_84 : decode cX12_leastFine 84 = .ok (.ldc 189, 2) := by decide +kernel
theorem dX12_leastFine_86 : decode cX12_leastFine 86 = .ok (.invokevirtual 46, 3) := by decide +kernel
theorem dX12_leastFine_89 : decode cX12_leastFine 89 = .ok (.goto 4, 3) := by decide +kernel
theorem dX12_leastFine_92 : decode cX12_leastFine 92 = .ok (.iload_n 3, 1) := by decide +kernel
theorem dX12_leastFine_93 : decode cX12_leastFine 93 = .ok (.ireturn, 1) := by decide +kernel
theorem dX12_carSet_0 : decode cX12_carSet 0 = .ok (.iconst 0, 1) := by decide +kernel
theorem dX12_carSet_1 : decode cX12_carSet 1 = .ok (.istore_n 1, 1) := by decide +kernel
theorem dX12_carSet_2 : decode cX12_carSet 2 = .ok (.iconst 0, 1) := by decide +kernel
theorem dX12_carSet_3 : decode cX12_carSet 3 = .ok (.istore_n 2, 1) := by decide +kernel
theorem dX12_carSet_4 : decode cX12_carSet 4 = .ok (.iload_n 2, 1) := by decide +kernel
theorem dX12_carSet_5 : decode cX12_carSet 5 = .ok (.aload_n 0, 1) := by decide +kernel
theorem dX12_carSet_6 : decode cX12_carSet 6 = .ok (.getfield 7, 3) := by decide +kernel
theorem dX12_carSet_9 : decode cX12_carSet 9 = .ok (.iconst 2, 1) := by decide +kernel
theorem dX12_carSet_10 : decode cX12_carSet 10 = .ok (.iaload, 1) := by decide +kernel
theorem dX12_carSet_11 : decode cX12_carSet 11 = .ok (.if_icmp .ge 20, 3) := by decide +kernel
theorem dX12_carSet_14 : decode cX12_carSet 14 = .ok (.iload_n 1, 1) := by decide +kernel
theorem dX12_carSet_15 : decode cX12_carSet 15 = .ok (.aload_n 0, 1) := by decide +kernel
theorem dX12_carSet_16 : decode cX12_carSet 16 = .ok (.iload_n 2, 1) := by decide +kernel
theorem dX12_carSet_17 : decode cX12_carSet 17 = .ok (.iconst 3, 1) := by decide +kernel
theorem dX12_carSet_18 : decode cX12_carSet 18 = .ok (.invokevirtual 59, 3) := by decide +kernel
theorem dX12_carSet_21 : decode cX12_carSet 21 = .ok (.iload_n 2, 1) := by decide +kernel
theorem dX12_carSet_22 : decode cX12_carSet 22 = .ok (.ishl, 1) := by decide +kernel
theorem dX12_carSet_23 : decode cX12_carSet 23 = .ok (.ior, 1) := by decide +kernel
theorem dX12_carSet_24 : decode cX12_carSet 24 = .ok (.istore_n 1, 1) := by decide +kernel
theorem dX12_carSet_25 : decode cX12_carSet 25 = .ok (.iinc 2 1, 3) := by decide +kernel
theorem dX12_carSet_28 : decode cX12_carSet 28 = .ok (.goto (-24), 3) := by decide +kernel
theorem dX12_carSet_31 : decode cX12_carSet 31 = .ok (.iload_n 1, 1) := by decide +kernel
theorem dX12_carSet_32 : decode cX12_carSet 32 = .ok (.ireturn, 1) := by decide +kernel
theorem dX12_isClean_0 : decode cX12_isClean 0 = .ok (.aload_n 0, 1) := by decide +kernel
theorem dX12_isClean_1 : decode cX12_isClean 1 = .ok (.aload_n 0, 1) := by decide +kernel
theorem dX12_isClean_2 : decode cX12_isClean 2 = .ok (.getfield 7, 3) := by decide +kernel
theorem dX12_isClean_5 : decode cX12_isClean 5 = .ok (.aload_n 0, 1) := by decide +kernel
theorem dX12_isClean_6 : decode cX12_isClean 6 = .ok (.getfield 16, 3) := by decide +kernel
theorem dX12_isClean_9 : decode cX12_isClean 9 = .ok (.invokevirtual 150, 3) := by decide +kernel
theorem dX12_isClean_12 : decode cX12_isClean 12 = .ok (.iload 4, 2) := by decide +kernel
theorem dX12_isClean_14 : decode cX12_isClean 14 = .ok (.ifCond .lt 19, 3) := by decide +kernel
theorem dX12_isClean_17 : decode cX12_isClean 17 = .ok (.aload_n 0, 1) := by decide +kernel
theorem dX12_isClean_18 : decode cX12_isClean 18 = .ok (.iload 4, 2) := by decide +kernel
theorem dX12_isClean_20 : decode cX12_isClean 20 = .ok (.iconst 3, 1) := by decide +kernel
theorem dX12_isClean_21 : decode cX12_isClean 21 = .ok (.iconst 0, 1) := by decide +kernel
theorem dX12_isClean_22 : decode cX12_isClean 22 = .ok (.invokevirtual 51, 3) := by decide +kernel
theorem dX12_isClean_25 : decode cX12_isClean 25 = .ok (.aload_n 0, 1) := by decide +kernel
theorem dX12_isClean_26 : decode cX12_isClean 26 = .ok (.iload 5, 2) := by decide +kernel
theorem dX12_isClean_28 : decode cX12_isClean 28 = .ok (.iconst 3, 1) := by decide +kernel
theorem dX12_isClean_29 : decode cX12_isClean 29 = .ok (.iconst 0, 1) := by decide +kernel
theorem dX12_isClean_30 : decode cX12_isClean 30 = .ok (.invokevirtual 51, 3) := by decide +kernel
theorem dX12_isClean_33 : decode cX12_isClean 33 = .ok (.aload_n 0, 1) := by decide +kernel
theorem dX12_isClean_34 : decode cX12_isClean 34 = .ok (.iload_n 3, 1) := by decide +kernel
theorem dX12_isClean_35 : decode cX12_isClean 35 = .ok (.invokevirtual 175, 3) := by decide +kernel
theorem dX12_isClean_38 : decode cX12_isClean 38 = .ok (.aload_n 0, 1) := by decide +kernel
theorem dX12_isClean_39 : decode cX12_isClean 39 = .ok (.iload_n 1, 1) := by decide +kernel
theorem dX12_isClean_40 : decode cX12_isClean 40 = .ok (.iconst 2, 1) := by decide +kernel
theorem dX12_isClean_41 : decode cX12_isClean 41 = .ok (.invokevirtual 59, 3) := by decide +kernel
theorem dX12_isClean_44 : decode cX12_isClean 44 = .ok (.iload_n 2, 1) := by decide +kernel
theorem dX12_isClean_45 : decode cX12_isClean 45 = .ok (.if_icmp .ge 7, 3) := by decide +kernel
theorem dX12_isClean_48 : decode cX12_isClean 48 = .ok (.iconst 1, 1) := by decide +kernel
theorem dX12_isClean_49 : decode cX12_isClean 49 = .ok (.goto 4, 3) := by decide +kernel
theorem dX12_isClean_52 : decode cX12_isClean 52 = .ok (.iconst 0, 1) := by decide +kernel
theorem dX12_isClean_53 : decode cX12_isClean 53 = .ok (.istore 6, 2) := by decide +kernel
theorem dX12_isClean_55 : decode cX12_isClean 55 = .ok (.aload_n 0, 1) := by decide +kernel
theorem dX12_isClean_56 : decode cX12_isClean 56 = .ok (.aload_n 0, 1) := by decide +kernel
theorem dX12_isClean_57 : decode cX12_isClean 57 = .ok (.getfield 16, 3) := by decide +kernel
theorem dX12_isClean_60 : decode cX12_isClean 60 = .ok (.aload_n 0, 1) := by decide +kernel
theorem dX12_isClean_61 : decode cX12_isClean 61 = .ok (.getfield 7, 3) := by decide +kernel
theorem dX12_isClean_64 : decode cX12_isClean 64 = .ok (.invokevirtual 150, 3) := by decide +kernel
theorem dX12_isClean_67 : decode cX12_isClean 67 = .ok (.iload 6, 2) := by decide +kernel
theorem dX12_isClean_69 : decode cX12_isClean 69 = .ok (.ireturn, 1) := by decide +kernel
theorem dX12_tow_0 : decode cX12_tow 0 = .ok (.aload_n 0, 1) := by decide +kernel
theorem dX12_tow_1 : decode cX12_tow 1 = .ok (.iload_n 1, 1) := by decide +kernel
theorem dX12_tow_2 : decode cX12_tow 2 = .ok (.invokevirtual 55, 3) := by decide +kernel
theorem dX12_tow_5 : decode cX12_tow 5 = .ok (.ifCond .eq 24, 3) := by decide +kernel
theorem dX12_tow_8 : decode cX12_tow 8 = .ok (.iload_n 2, 1) := by decide +kernel
theorem dX12_tow_9 : decode cX12_tow 9 = .ok (.iconst 1, 1) := by decide +kernel
theorem dX12_tow_10 : decode cX12_tow 10 = .ok (.sipush 999, 3) := by decide +kernel
theorem dX12_tow_13 : decode cX12_tow 13 = .ok (.invokestatic 41, 3) := by decide +kernel
theorem dX12_tow_16 : decode cX12_tow 16 = .ok (.ifCond .eq 13, 3) := by decide +kernel
theorem dX12_tow_19 : decode cX12_tow 19 = .ok (.iload_n 3, 1) := by decide +kernel
theorem dX12_tow_20 : decode cX12_tow 20 = .ok (.iconst 0, 1) := by decide +kernel
theorem dX12_tow_21 : decode cX12_tow 21 = .ok (.bipush 20, 2) := by decide +kernel
theorem dX12_tow_23 : decode cX12_tow 23 = .ok (.invokestatic 41, 3) := by decide +kernel
theorem dX12_tow_26 : decode cX12_tow 26 = .ok (.ifCond .ne 10, 3) := by decide +kernel
theorem dX12_tow_29 : decode cX12_tow 29 = .ok (.aload_n 0, 1) := by decide +kernel
theorem dX12_tow_30 : decode cX12_tow 30 = .ok (.ldc 45, 2) := by decide +kernel
theorem dX12_tow_32 : decode cX12_tow 32 = .ok (.invokevirtual 46, 3) := by decide +kernel
theorem dX12_tow_35 : decode cX12_tow 35 = .ok (.ireturn, 1) := by decide +kernel
theorem dX12_tow_36 : decode cX12_tow 36 = .ok (.aload_n 0, 1) := by decide +kernel
theorem dX12_tow_37 : decode cX12_tow 37 = .ok (.iload_n 1, 1) := by decide +kernel
theorem dX12_tow_38 : decode cX12_tow 38 = .ok (.iload_n 2, 1) := by decide +kernel
theorem dX12_tow_39 : decode cX12_tow 39 = .ok (.iload_n 3, 1) := by decide +kernel
theorem dX12_tow_40 : decode cX12_tow 40 = .ok (.iconst (-1), 1) := by decide +kernel
theorem dX12_tow_41 : decode cX12_tow 41 = .ok (.iconst (-1), 1) := by decide +kernel
theorem dX12_tow_42 : decode cX12_tow 42 = .ok (.invokevirtual 193, 3) := by decide +kernel
theorem dX12_tow_45 : decode cX12_tow 45 = .ok (.ifCond .eq 5, 3) := by decide +kernel
theorem dX12_tow_48 : decode cX12_tow 48 = .ok (.iconst 0, 1) := by decide +kernel
theorem dX12_tow_49 : decode cX12_tow 49 = .ok (.ireturn, 1) := by decide +kernel
theorem dX12_tow_50 : decode cX12_tow 50 = .ok (.aload_n 0, 1) := by decide +kernel
theorem dX12_tow_51 : decode cX12_tow 51 = .ok (.invokevirtual 197, 3) := by decide +kernel
theorem dX12_tow_54 : decode cX12_tow 54 = .ok (.istore 4, 2) := by decide +kernel
theorem dX12_tow_56 : decode cX12_tow 56 = .ok (.iconst (-1), 1) := by decide +kernel
theorem dX12_tow_57 : decode cX12_tow 57 = .ok (.istore 5, 2) := by decide +kernel
theorem dX12_tow_59 : decode cX12_tow 59 = .ok (.iconst (-1), 1) := by decide +kernel
theorem dX12_tow_60 : decode cX12_tow 60 = .ok (.istore 6, 2) := by decide +kernel
theorem dX12_tow_62 : decode cX12_tow 62 = .ok (.aload_n 0, 1) := by decide +kernel
theorem dX12_tow_63 : decode cX12_tow 63 = .ok (.getfield 7, 3) := by decide +kernel
theorem dX12_tow_66 : decode cX12_tow 66 = .ok (.iconst 2, 1) := by decide +kernel
theorem dX12_tow_67 : decode cX12_tow 67 = .ok (.iaload, 1) := by decide +kernel
theorem dX12_tow_68 : decode cX12_tow 68 = .ok (.iconst 1, 1) := by decide +kernel
theorem dX12_tow_69 : decode cX12_tow 69 = .ok (.isub, 1) := by decide +kernel
theorem dX12_tow_70 : decode cX12_tow 70 = .ok (.istore 7, 2) := by decide +kernel
theorem dX12_tow_72 : decode cX12_tow 72 = .ok (.iload 7, 2) := by decide +kernel
theorem dX12_tow_74 : decode cX12_tow 74 = .ok (.ifCond .lt 130, 3) := by decide +kernel
theorem dX12_tow_77 : decode cX12_tow 77 = .ok (.iload 7, 2) := by decide +kernel
theorem dX12_tow_79 : decode cX12_tow 79 = .ok (.istore 8, 2) := by decide +kernel
theorem dX12_tow_81 : decode cX12_tow 81 = .ok (.iload 8, 2) := by decide +kernel
theorem dX12_tow_83 : decode cX12_tow 83 = .ok (.ifCond .lt 115, 3) := by decide +kernel
theorem dX12_tow_86 : decode cX12_tow 86 = .ok (.iload 4, 2) := by decide +kernel
theorem dX12_tow_88 : decode cX12_tow 88 = .ok (.iload 7, 2) := by decide +kernel
theorem dX12_tow_90 : decode cX12_tow 90 = .ok (.ishr, 1) := by decide +kernel
theorem dX12_tow_91 : decode cX12_tow 91 = .ok (.iconst 1, 1) := by decide +kernel
theorem dX12_tow_92 : decode cX12_tow 92 = .ok (.iand, 1) := by decide +kernel
theorem dX12_tow_93 : decode cX12_tow 93 = .ok (.iconst 1, 1) := by decide +kernel
theorem dX12_tow_94 : decode cX12_tow 94 = .ok (.if_icmp .ne 44, 3) := by decide +kernel
theorem dX12_tow_97 : decode cX12_tow 97 = .ok (.iload 4, 2) := by decide +kernel
theorem dX12_tow_99 : decode cX12_tow 99 = .ok (.iload 8, 2) := by decide +kernel
theorem dX12_tow_101 : decode cX12_tow 101 = .ok (.ishr, 1) := by decide +kernel
theorem dX12_tow_102 : decode cX12_tow 102 = .ok (.iconst 1, 1) := by decide +kernel
theorem dX12_tow_103 : decode cX12_tow 103 = .ok (.iand, 1) := by decide +kernel
theorem dX12_tow_104 : decode cX12_tow 104 = .ok (.iconst 1, 1) := by decide +kernel
theorem dX12_tow_105 : decode cX12_tow 105 = .ok (.if_icmp .ne 33, 3) := by decide +kernel
theorem dX12_tow_108 : decode cX12_tow 108 = .ok (.iload 7, 2) := by decide +kernel
theorem dX12_tow_110 : decode cX12_tow 110 = .ok (.iload 8, 2) := by decide +kernel
theorem dX12_tow_112 : decode cX12_tow 112 = .ok (.if_icmp .eq 8, 3) := by decide +kernel
theorem dX12_tow_115 : decode cX12_tow 115 = .ok (.iload 5, 2) := by decide +kernel
theorem dX12_tow_117 : decode cX12_tow 117 = .ok (.ifCond .ge 21, 3) := by decide +kernel
theorem dX12_tow_120 : decode cX12_tow 120 = .ok (.aload_n 0, 1) := by decide +kernel
theorem dX12_tow_121 : decode cX12_tow 121 = .ok (.iload_n 1, 1) := by decide +kernel
theorem dX12_tow_122 : decode cX12_tow 122 = .ok (.iload_n 2, 1) := by decide +kernel
theorem dX12_tow_123 : decode cX12_tow 123 = .ok (.iload_n 3, 1) := by decide +kernel
theorem dX12_tow_124 : decode cX12_tow 124 = .ok (.iload 7, 2) := by decide +kernel
theorem dX12_tow_126 : decode cX12_tow 126 = .ok (.iload 8, 2) := by decide +kernel
theorem dX12_tow_128 : decode cX12_tow 128 = .ok (.invokevirtual 193, 3) := by decide +kernel
theorem dX12_tow_131 : decode cX12_tow 131 = .ok (.ifCond .eq 7, 3) := by decide +kernel
theorem dX12_tow_134 : decode cX12_tow 134 = .ok (.iconst 1, 1) := by decide +kernel
theorem dX12_tow_135 : decode cX12_tow 135 = .ok (.goto 4, 3) := by decide +kernel
theorem dX12_tow_138 : decode cX12_tow 138 = .ok (.iconst 0, 1) := by decide +kernel
theorem dX12_tow_139 : decode cX12_tow 139 = .ok (.istore 9, 2) := by decide +kernel
theorem dX12_tow_141 : decode cX12_tow 141 = .ok (.iload 9, 2) := by decide +kernel
theorem dX12_tow_143 : decode cX12_tow 143 = .ok (.ifCond .eq 17, 3) := by decide +kernel
theorem dX12_tow_146 : decode cX12_tow 146 = .ok (.iload 7, 2) := by decide +kernel
theorem dX12_tow_148 : decode cX12_tow 148 = .ok (.iload 8, 2) := by decide +kernel
theorem dX12_tow_150 : decode cX12_tow 150 = .ok (.if_icmp .ne 10, 3) := by decide +kernel
theorem dX12_tow_153 : decode cX12_tow 153 = .ok (.iconst 1, 1) := by decide +kernel
theorem dX12_tow_154 : decode cX12_tow 154 = .ok (.iload 7, 2) := by decide +kernel
theorem dX12_tow_156 : decode cX12_tow 156 = .ok (.ishl, 1) := by decide +kernel
theorem dX12_tow_157 : decode cX12_tow 157 = .ok (.goto 5, 3) := by decide +kernel
theorem dX12_tow_160 : decode cX12_tow 160 = .ok (.iload 5, 2) := by decide +kernel
theorem dX12_tow_162 : decode cX12_tow 162 = .ok (.istore 5, 2) := by decide +kernel
theorem dX12_tow_164 : decode cX12_tow 164 = .ok (.iload 9, 2) := by decide +kernel
theorem dX12_tow_166 : decode cX12_tow 166 = .ok (.ifCond .eq 22, 3) := by decide +kernel
theorem dX12_tow_169 : decode cX12_tow 169 = .ok (.iload 7, 2) := by decide +kernel
theorem dX12_tow_171 : decode cX12_tow 171 = .ok (.iload 8, 2) := by decide +kernel
theorem dX12_tow_173 : decode cX12_tow 173 = .ok (.if_icmp .eq 15, 3) := by decide +kernel
theorem dX12_tow_176 : decode cX12_tow 176 = .ok (.iconst 1, 1) := by decide +kernel
theorem dX12_tow_177 : decode cX12_tow 177 = .ok (.iload 7, 2) := by decide +kernel
theorem dX12_tow_179 : decode cX12_tow 179 = .ok (.ishl, 1) := by decide +kernel
theorem dX12_tow_180 : decode cX12_tow 180 = .ok (.iconst 1, 1) := by decide +kernel
theorem dX12_tow_181 : decode cX12_tow 181 = .ok (.iload 8, 2) := by decide +kernel
theorem dX12_tow_183 : decode cX12_tow 183 = .ok (.ishl, 1) := by decide +kernel
theorem dX12_tow_184 : decode cX12_tow 184 = .ok (.ior, 1) := by decide +kernel
theorem dX12_tow_185 : decode cX12_tow 185 = .ok (.goto 5, 3) := by decide +kernel
end
section
theorem dX12_tow_188 : decode cX12_tow 188 = .ok (.iload 6, 2) := by decide +kernel
theorem dX12_tow_190 : decode cX12_tow 190 = .ok (.istore 6, 2) := by decide +kernel
theorem dX12_tow_192 : decode cX12_tow 192 = .ok (.iinc 8 (-1), 3) := by decide +kernel
theorem dX12_tow_195 : decode cX12_tow 195 = .ok (.goto (-114), 3) := by decide +kernel
theorem dX12_tow_198 : decode cX12_tow 198 = .ok (.iinc 7 (-1), 3) := by decide +kernel
theorem dX12_tow_201 : decode cX12_tow 201 = .ok (.goto (-129), 3) := by decide +kernel
theorem dX12_tow_204 : decode cX12_tow 204 = .ok (.iload 5, 2) := by decide +kernel
theorem dX12_tow_206 : decode cX12_tow 206 = .ok (.ifCond .lt 8, 3) := by decide +kernel
theorem dX12_tow_209 : decode cX12_tow 209 = .ok (.iload 5, 2) := by decide +kernel
theorem dX12_tow_211 : decode cX12_tow 211 = .ok (.goto 19, 3) := by decide +kernel
theorem dX12_tow_214 : decode cX12_tow 214 = .ok (.iload 6, 2) := by decide +kernel
theorem dX12_tow_216 : decode cX12_tow 216 = .ok (.ifCond .lt 8, 3) := by decide +kernel
theorem dX12_tow_219 : decode cX12_tow 219 = .ok (.iload 6, 2) := by decide +kernel
theorem dX12_tow_221 : decode cX12_tow 221 = .ok (.goto 9, 3) := by decide +kernel
theorem dX12_tow_224 : decode cX12_tow 224 = .ok (.aload_n 0, 1) := by decide +kernel
theorem dX12_tow_225 : decode cX12_tow 225 = .ok (.ldc 189, 2) := by decide +kernel
theorem dX12_tow_227 : decode cX12_tow 227 = .ok (.invokevirtual 46, 3) := by decide +kernel
theorem dX12_tow_230 : decode cX12_tow 230 = .ok (.ireturn, 1) := by decide +kernel
theorem dX12_dirtiest_0 : decode cX12_dirtiest 0 = .ok (.iconst 0, 1) := by decide +kernel
theorem dX12_dirtiest_1 : decode cX12_dirtiest 1 = .ok (.istore_n 1, 1) := by decide +kernel
theorem dX12_dirtiest_2 : decode cX12_dirtiest 2 = .ok (.iconst 0, 1) := by decide +kernel
theorem dX12_dirtiest_3 : decode cX12_dirtiest 3 = .ok (.istore_n 2, 1) := by decide +kernel
theorem dX12_dirtiest_4 : decode cX12_dirtiest 4 = .ok (.iload_n 2, 1) := by decide +kernel
theorem dX12_dirtiest_5 : decode cX12_dirtiest 5 = .ok (.aload_n 0, 1) := by decide +kernel
theorem dX12_dirtiest_6 : decode cX12_dirtiest 6 = .ok (.getfield 7, 3) := by decide +kernel
theorem dX12_dirtiest_9 : decode cX12_dirtiest 9 = .ok (.iconst 2, 1) := by decide +kernel
theorem dX12_dirtiest_10 : decode cX12_dirtiest 10 = .ok (.iaload, 1) := by decide +kernel
theorem dX12_dirtiest_11 : decode cX12_dirtiest 11 = .ok (.if_icmp .ge 30, 3) := by decide +kernel
theorem dX12_dirtiest_14 : decode cX12_dirtiest 14 = .ok (.aload_n 0, 1) := by decide +kernel
theorem dX12_dirtiest_15 : decode cX12_dirtiest 15 = .ok (.iload_n 2, 1) := by decide +kernel
theorem dX12_dirtiest_16 : decode cX12_dirtiest 16 = .ok (.iconst 2, 1) := by decide +kernel
theorem dX12_dirtiest_17 : decode cX12_dirtiest 17 = .ok (.invokevirtual 59, 3) := by decide +kernel
theorem dX12_dirtiest_20 : decode cX12_dirtiest 20 = .ok (.iload_n 1, 1) := by decide +kernel
theorem dX12_dirtiest_21 : decode cX12_dirtiest 21 = .ok (.if_icmp .le 12, 3) := by decide +kernel
theorem dX12_dirtiest_24 : decode cX12_dirtiest 24 = .ok (.aload_n 0, 1) := by decide +kernel
theorem dX12_dirtiest_25 : decode cX12_dirtiest 25 = .ok (.iload_n 2, 1) := by decide +kernel
theorem dX12_dirtiest_26 : decode cX12_dirtiest 26 = .ok (.iconst 2, 1) := by decide +kernel
theorem dX12_dirtiest_27 : decode cX12_dirtiest 27 = .ok (.invokevirtual 59, 3) := by decide +kernel
theorem dX12_dirtiest_30 : decode cX12_dirtiest 30 = .ok (.goto 4, 3) := by decide +kernel
theorem dX12_dirtiest_33 : decode cX12_dirtiest 33 = .ok (.iload_n 1, 1) := by decide +kernel
theorem dX12_dirtiest_34 : decode cX12_dirtiest 34 = .ok (.istore_n 1, 1) := by decide +kernel
theorem dX12_dirtiest_35 : decode cX12_dirtiest 35 = .ok (.iinc 2 1, 3) := by decide +kernel
theorem dX12_dirtiest_38 : decode cX12_dirtiest 38 = .ok (.goto (-34), 3) := by decide +kernel
theorem dX12_dirtiest_41 : decode cX12_dirtiest 41 = .ok (.iload_n 1, 1) := by decide +kernel
theorem dX12_dirtiest_42 : decode cX12_dirtiest 42 = .ok (.ireturn, 1) := by decide +kernel
theorem dX12_broom_0 : decode cX12_broom 0 = .ok (.iload_n 1, 1) := by decide +kernel
theorem dX12_broom_1 : decode cX12_broom 1 = .ok (.iconst 0, 1) := by decide +kernel
theorem dX12_broom_2 : decode cX12_broom 2 = .ok (.bipush 30, 2) := by decide +kernel
theorem dX12_broom_4 : decode cX12_broom 4 = .ok (.invokestatic 41, 3) := by decide +kernel
theorem dX12_broom_7 : decode cX12_broom 7 = .ok (.ifCond .eq 12, 3) := by decide +kernel
theorem dX12_broom_10 : decode cX12_broom 10 = .ok (.iload_n 2, 1) := by decide +kernel
theorem dX12_broom_11 : decode cX12_broom 11 = .ok (.iconst 0, 1) := by decide +kernel
theorem dX12_broom_12 : decode cX12_broom 12 = .ok (.iconst 1, 1) := by decide +kernel
theorem dX12_broom_13 : decode cX12_broom 13 = .ok (.invokestatic 41, 3) := by decide +kernel
theorem dX12_broom_16 : decode cX12_broom 16 = .ok (.ifCond .ne 10, 3) := by decide +kernel
theorem dX12_broom_19 : decode cX12_broom 19 = .ok (.aload_n 0, 1) := by decide +kernel
theorem dX12_broom_20 : decode cX12_broom 20 = .ok (.ldc 45, 2) := by decide +kernel
theorem dX12_broom_22 : decode cX12_broom 22 = .ok (.invokevirtual 46, 3) := by decide +kernel
theorem dX12_broom_25 : decode cX12_broom 25 = .ok (.ireturn, 1) := by decide +kernel
theorem dX12_broom_26 : decode cX12_broom 26 = .ok (.aload_n 0, 1) := by decide +kernel
theorem dX12_broom_27 : decode cX12_broom 27 = .ok (.getfield 7, 3) := by decide +kernel
theorem dX12_broom_30 : decode cX12_broom 30 = .ok (.iconst 2, 1) := by decide +kernel
theorem dX12_broom_31 : decode cX12_broom 31 = .ok (.iaload, 1) := by decide +kernel
theorem dX12_broom_32 : decode cX12_broom 32 = .ok (.ifCond .ne 10, 3) := by decide +kernel
theorem dX12_broom_35 : decode cX12_broom 35 = .ok (.aload_n 0, 1) := by decide +kernel
theorem dX12_broom_36 : decode cX12_broom 36 = .ok (.ldc 189, 2) := by decide +kernel
theorem dX12_broom_38 : decode cX12_broom 38 = .ok (.invokevirtual 46, 3) := by decide +kernel
theorem dX12_broom_41 : decode cX12_broom 41 = .ok (.ireturn, 1) := by decide +kernel
theorem dX12_broom_42 : decode cX12_broom 42 = .ok (.iconst 0, 1) := by decide +kernel
theorem dX12_broom_43 : decode cX12_broom 43 = .ok (.istore_n 3, 1) := by decide +kernel
theorem dX12_broom_44 : decode cX12_broom 44 = .ok (.sipush 1000, 3) := by decide +kernel
theorem dX12_broom_47 : decode cX12_broom 47 = .ok (.istore 4, 2) := by decide +kernel
theorem dX12_broom_49 : decode cX12_broom 49 = .ok (.aload_n 0, 1) := by decide +kernel
theorem dX12_broom_50 : decode cX12_broom 50 = .ok (.aload_n 0, 1) := by decide +kernel
theorem dX12_broom_51 : decode cX12_broom 51 = .ok (.getfield 7, 3) := by decide +kernel
theorem dX12_broom_54 : decode cX12_broom 54 = .ok (.aload_n 0, 1) := by decide +kernel
theorem dX12_broom_55 : decode cX12_broom 55 = .ok (.getfield 16, 3) := by decide +kernel
theorem dX12_broom_58 : decode cX12_broom 58 = .ok (.invokevirtual 150, 3) := by decide +kernel
theorem dX12_broom_61 : decode cX12_broom 61 = .ok (.iconst 0, 1) := by decide +kernel
theorem dX12_broom_62 : decode cX12_broom 62 = .ok (.istore 5, 2) := by decide +kernel
theorem dX12_broom_64 : decode cX12_broom 64 = .ok (.iload 5, 2) := by decide +kernel
theorem dX12_broom_66 : decode cX12_broom 66 = .ok (.aload_n 0, 1) := by decide +kernel
theorem dX12_broom_67 : decode cX12_broom 67 = .ok (.getfield 16, 3) := by decide +kernel
theorem dX12_broom_70 : decode cX12_broom 70 = .ok (.iconst 2, 1) := by decide +kernel
theorem dX12_broom_71 : decode cX12_broom 71 = .ok (.iaload, 1) := by decide +kernel
theorem dX12_broom_72 : decode cX12_broom 72 = .ok (.if_icmp .ge 70, 3) := by decide +kernel
theorem dX12_broom_75 : decode cX12_broom 75 = .ok (.aload_n 0, 1) := by decide +kernel
theorem dX12_broom_76 : decode cX12_broom 76 = .ok (.iload 5, 2) := by decide +kernel
theorem dX12_broom_78 : decode cX12_broom 78 = .ok (.iconst 2, 1) := by decide +kernel
theorem dX12_broom_79 : decode cX12_broom 79 = .ok (.iconst 0, 1) := by decide +kernel
theorem dX12_broom_80 : decode cX12_broom 80 = .ok (.invokevirtual 51, 3) := by decide +kernel
theorem dX12_broom_83 : decode cX12_broom 83 = .ok (.aload_n 0, 1) := by decide +kernel
theorem dX12_broom_84 : decode cX12_broom 84 = .ok (.iload_n 1, 1) := by decide +kernel
theorem dX12_broom_85 : decode cX12_broom 85 = .ok (.invokevirtual 175, 3) := by decide +kernel
theorem dX12_broom_88 : decode cX12_broom 88 = .ok (.aload_n 0, 1) := by decide +kernel
theorem dX12_broom_89 : decode cX12_broom 89 = .ok (.invokevirtual 200, 3) := by decide +kernel
theorem dX12_broom_92 : decode cX12_broom 92 = .ok (.istore 6, 2) := by decide +kernel
theorem dX12_broom_94 : decode cX12_broom 94 = .ok (.aload_n 0, 1) := by decide +kernel
theorem dX12_broom_95 : decode cX12_broom 95 = .ok (.aload_n 0, 1) := by decide +kernel
theorem dX12_broom_96 : decode cX12_broom 96 = .ok (.getfield 16, 3) := by decide +kernel
theorem dX12_broom_99 : decode cX12_broom 99 = .ok (.aload_n 0, 1) := by decide +kernel
theorem dX12_broom_100 : decode cX12_broom 100 = .ok (.getfield 7, 3) := by decide +kernel
theorem dX12_broom_103 : decode cX12_broom 103 = .ok (.invokevirtual 150, 3) := by decide +kernel
theorem dX12_broom_106 : decode cX12_broom 106 = .ok (.iload 6, 2) := by decide +kernel
theorem dX12_broom_108 : decode cX12_broom 108 = .ok (.iload 4, 2) := by decide +kernel
theorem dX12_broom_110 : decode cX12_broom 110 = .ok (.if_icmp .ge 8, 3) := by decide +kernel
theorem dX12_broom_113 : decode cX12_broom 113 = .ok (.iload 5, 2) := by decide +kernel
theorem dX12_broom_115 : decode cX12_broom 115 = .ok (.goto 4, 3) := by decide +kernel
theorem dX12_broom_118 : decode cX12_broom 118 = .ok (.iload_n 3, 1) := by decide +kernel
theorem dX12_broom_119 : decode cX12_broom 119 = .ok (.istore_n 3, 1) := by decide +kernel
theorem dX12_broom_120 : decode cX12_broom 120 = .ok (.iload 6, 2) := by decide +kernel
theorem dX12_broom_122 : decode cX12_broom 122 = .ok (.iload 4, 2) := by decide +kernel
theorem dX12_broom_124 : decode cX12_broom 124 = .ok (.if_icmp .ge 8, 3) := by decide +kernel
theorem dX12_broom_127 : decode cX12_broom 127 = .ok (.iload 6, 2) := by decide +kernel
theorem dX12_broom_129 : decode cX12_broom 129 = .ok (.goto 5, 3) := by decide +kernel
theorem dX12_broom_132 : decode cX12_broom 132 = .ok (.iload 4, 2) := by decide +kernel
theorem dX12_broom_134 : decode cX12_broom 134 = .ok (.istore 4, 2) := by decide +kernel
theorem dX12_broom_136 : decode cX12_broom 136 = .ok (.iinc 5 1, 3) := by decide +kernel
theorem dX12_broom_139 : decode cX12_broom 139 = .ok (.goto (-75), 3) := by decide +kernel
theorem dX12_broom_142 : decode cX12_broom 142 = .ok (.iload_n 2, 1) := by decide +kernel
theorem dX12_broom_143 : decode cX12_broom 143 = .ok (.ifCond .ne 7, 3) := by decide +kernel
theorem dX12_broom_146 : decode cX12_broom 146 = .ok (.iload_n 3, 1) := by decide +kernel
theorem dX12_broom_147 : decode cX12_broom 147 = .ok (.goto 5, 3) := by decide +kernel
theorem dX12_broom_150 : decode cX12_broom 150 = .ok (.iload 4, 2) := by decide +kernel
theorem dX12_broom_152 : decode cX12_broom 152 = .ok (.ireturn, 1) := by decide +kernel
theorem dX12_isSheet_0 : decode cX12_isSheet 0 = .ok (.iload_n 0, 1) := by decide +kernel
theorem dX12_isSheet_1 : decode cX12_isSheet 1 = .ok (.iconst 0, 1) := by decide +kernel
theorem dX12_isSheet_2 : decode cX12_isSheet 2 = .ok (.iconst 3, 1) := by decide +kernel
theorem dX12_isSheet_3 : decode cX12_isSheet 3 = .ok (.invokestatic 41, 3) := by decide +kernel
theorem dX12_isSheet_6 : decode cX12_isSheet 6 = .ok (.ireturn, 1) := by decide +kernel
theorem dX12_isDirtSo_0 : decode cX12_isDirtSo 0 = .ok (.iconst 1, 1) := by decide +kernel
theorem dX12_isDirtSo_1 : decode cX12_isDirtSo 1 = .ok (.istore_n 2, 1) := by decide +kernel
theorem dX12_isDirtSo_2 : decode cX12_isDirtSo 2 = .ok (.aload_n 0, 1) := by decide +kernel
theorem dX12_isDirtSo_3 : decode cX12_isDirtSo 3 = .ok (.invokevirtual 171, 3) := by decide +kernel
theorem dX12_isDirtSo_6 : decode cX12_isDirtSo 6 = .ok (.iconst 0, 1) := by decide +kernel
theorem dX12_isDirtSo_7 : decode cX12_isDirtSo 7 = .ok (.istore_n 3, 1) := by decide +kernel
theorem dX12_isDirtSo_8 : decode cX12_isDirtSo 8 = .ok (.iload_n 3, 1) := by decide +kernel
theorem dX12_isDirtSo_9 : decode cX12_isDirtSo 9 = .ok (.aload_n 0, 1) := by decide +kernel
theorem dX12_isDirtSo_10 : decode cX12_isDirtSo 10 = .ok (.getfield 7, 3) := by decide +kernel
theorem dX12_isDirtSo_13 : decode cX12_isDirtSo 13 = .ok (.iconst 2, 1) := by decide +kernel
theorem dX12_isDirtSo_14 : decode cX12_isDirtSo 14 = .ok (.iaload, 1) := by decide +kernel
theorem dX12_isDirtSo_15 : decode cX12_isDirtSo 15 = .ok (.if_icmp .ge 39, 3) := by decide +kernel
theorem dX12_isDirtSo_18 : decode cX12_isDirtSo 18 = .ok (.iload_n 2, 1) := by decide +kernel
theorem dX12_isDirtSo_19 : decode cX12_isDirtSo 19 = .ok (.ifCond .eq 27, 3) := by decide +kernel
theorem dX12_isDirtSo_22 : decode cX12_isDirtSo 22 = .ok (.aload_n 0, 1) := by decide +kernel
theorem dX12_isDirtSo_23 : decode cX12_isDirtSo 23 = .ok (.iload_n 3, 1) := by decide +kernel
theorem dX12_isDirtSo_24 : decode cX12_isDirtSo 24 = .ok (.iconst 2, 1) := by decide +kernel
theorem dX12_isDirtSo_25 : decode cX12_isDirtSo 25 = .ok (.invokevirtual 59, 3) := by decide +kernel
theorem dX12_isDirtSo_28 : decode cX12_isDirtSo 28 = .ok (.aload_n 0, 1) := by decide +kernel
theorem dX12_isDirtSo_29 : decode cX12_isDirtSo 29 = .ok (.getfield 31, 3) := by decide +kernel
theorem dX12_isDirtSo_32 : decode cX12_isDirtSo 32 = .ok (.bipush 40, 2) := by decide +kernel
theorem dX12_isDirtSo_34 : decode cX12_isDirtSo 34 = .ok (.iload_n 1, 1) := by decide +kernel
theorem dX12_isDirtSo_35 : decode cX12_isDirtSo 35 = .ok (.imul, 1) := by decide +kernel
theorem dX12_isDirtSo_36 : decode cX12_isDirtSo 36 = .ok (.iload_n 3, 1) := by decide +kernel
theorem dX12_isDirtSo_37 : decode cX12_isDirtSo 37 = .ok (.iadd, 1) := by decide +kernel
theorem dX12_isDirtSo_38 : decode cX12_isDirtSo 38 = .ok (.iaload, 1) := by decide +kernel
theorem dX12_isDirtSo_39 : decode cX12_isDirtSo 39 = .ok (.if_icmp .ne 7, 3) := by decide +kernel
theorem dX12_isDirtSo_42 : decode cX12_isDirtSo 42 = .ok (.iconst 1, 1) := by decide +kernel
theorem dX12_isDirtSo_43 : decode cX12_isDirtSo 43 = .ok (.goto 4, 3) := by decide +kernel
theorem dX12_isDirtSo_46 : decode cX12_isDirtSo 46 = .ok (.iconst 0, 1) := by decide +kernel
theorem dX12_isDirtSo_47 : decode cX12_isDirtSo 47 = .ok (.istore_n 2, 1) := by decide +kernel
theorem dX12_isDirtSo_48 : decode cX12_isDirtSo 48 = .ok (.iinc 3 1, 3) := by decide +kernel
theorem dX12_isDirtSo_51 : decode cX12_isDirtSo 51 = .ok (.goto (-43), 3) := by decide +kernel
theorem dX12_isDirtSo_54 : decode cX12_isDirtSo 54 = .ok (.iload_n 2, 1) := by decide +kernel
theorem dX12_isDirtSo_55 : decode cX12_isDirtSo 55 = .ok (.ireturn, 1) := by decide +kernel
theorem dX12_fits_0 : decode cX12_fits 0 = .ok (.iload_n 1, 1) := by decide +kernel
theorem dX12_fits_1 : decode cX12_fits 1 = .ok (.invokestatic 203, 3) := by decide +kernel
theorem dX12_fits_4 : decode cX12_fits 4 = .ok (.ifCond .eq 12, 3) := by decide +kernel
theorem dX12_fits_7 : decode cX12_fits 7 = .ok (.iload_n 2, 1) := by decide +kernel
theorem dX12_fits_8 : decode cX12_fits 8 = .ok (.iconst 0, 1) := by decide +kernel
theorem dX12_fits_9 : decode cX12_fits 9 = .ok (.iconst 1, 1) := by decide +kernel
theorem dX12_fits_10 : decode cX12_fits 10 = .ok (.invokestatic 41, 3) := by decide +kernel
theorem dX12_fits_13 : decode cX12_fits 13 = .ok (.ifCond .ne 10, 3) := by decide +kernel
theorem dX12_fits_16 : decode cX12_fits 16 = .ok (.aload_n 0, 1) := by decide +kernel
theorem dX12_fits_17 : decode cX12_fits 17 = .ok (.ldc 45, 2) := by decide +kernel
theorem dX12_fits_19 : decode cX12_fits 19 = .ok (.invokevirtual 46, 3) := by decide +kernel
theorem dX12_fits_22 : decode cX12_fits 22 = .ok (.ireturn, 1) := by decide +kernel
theorem dX12_fits_23 : decode cX12_fits 23 = .ok (.aload_n 0, 1) := by decide +kernel
theorem dX12_fits_24 : decode cX12_fits 24 = .ok (.getfield 25, 3) := by decide +kernel
theorem dX12_fits_27 : decode cX12_fits 27 = .ok (.iload_n 1, 1) := by decide +kernel
theorem dX12_fits_28 : decode cX12_fits 28 = .ok (.iaload, 1) := by decide +kernel
theorem dX12_fits_29 : decode cX12_fits 29 = .ok (.ifCond .eq 18, 3) := by decide +kernel
theorem dX12_fits_32 : decode cX12_fits 32 = .ok (.aload_n 0, 1) := by decide +kernel
theorem dX12_fits_33 : decode cX12_fits 33 = .ok (.getfield 28, 3) := by decide +kernel
theorem dX12_fits_36 : decode cX12_fits 36 = .ok (.iload_n 1, 1) := by decide +kernel
theorem dX12_fits_37 : decode cX12_fits 37 = .ok (.iaload, 1) := by decide +kernel
theorem dX12_fits_38 : decode cX12_fits 38 = .ok (.aload_n 0, 1) := by decide +kernel
theorem dX12_fits_39 : decode cX12_fits 39 = .ok (.getfield 7, 3) := by decide +kernel
theorem dX12_fits_42 : decode cX12_fits 42 = .ok (.iconst 2, 1) := by decide +kernel
theorem dX12_fits_43 : decode cX12_fits 43 = .ok (.iaload, 1) := by decide +kernel
theorem dX12_fits_44 : decode cX12_fits 44 = .ok (.if_icmp .eq 10, 3) := by decide +kernel
theorem dX12_fits_47 : decode cX12_fits 47 = .ok (.aload_n 0, 1) := by decide +kernel
theorem dX12_fits_48 : decode cX12_fits 48 = .ok (.ldc 189, 2) := by decide +kernel
theorem dX12_fits_50 : decode cX12_fits 50 = .ok (.invokevirtual 46, 3) := by decide +kernel
theorem dX12_fits_53 : decode cX12_fits 53 = .ok (.ireturn, 1) := by decide +kernel
theorem dX12_fits_54 : decode cX12_fits 54 = .ok (.iconst 0, 1) := by decide +kernel
theorem dX12_fits_55 : decode cX12_fits 55 = .ok (.istore_n 3, 1) := by decide +kernel
theorem dX12_fits_56 : decode cX12_fits 56 = .ok (.iconst 0, 1) := by decide +kernel
theorem dX12_fits_57 : decode cX12_fits 57 = .ok (.istore 4, 2) := by decide +kernel
theorem dX12_fits_59 : decode cX12_fits 59 = .ok (.aload_n 0, 1) := by decide +kernel
theorem dX12_fits_60 : decode cX12_fits 60 = .ok (.aload_n 0, 1) := by decide +kernel
theorem dX12_fits_61 : decode cX12_fits 61 = .ok (.getfield 7, 3) := by decide +kernel
theorem dX12_fits_64 : decode cX12_fits 64 = .ok (.aload_n 0, 1) := by decide +kernel
theorem dX12_fits_65 : decode cX12_fits 65 = .ok (.getfield 16, 3) := by decide +kernel
theorem dX12_fits_68 : decode cX12_fits 68 = .ok (.invokevirtual 150, 3) := by decide +kernel
theorem dX12_fits_71 : decode cX12_fits 71 = .ok (.bipush 99, 2) := by decide +kernel
theorem dX12_fits_73 : decode cX12_fits 73 = .ok (.istore 5, 2) := by decide +kernel
theorem dX12_fits_75 : decode cX12_fits 75 = .ok (.iload 5, 2) := by decide +kernel
theorem dX12_fits_77 : decode cX12_fits 77 = .ok (.ifCond .lt 64, 3) := by decide +kernel
theorem dX12_fits_80 : decode cX12_fits 80 = .ok (.aload_n 0, 1) := by decide +kernel
theorem dX12_fits_81 : decode cX12_fits 81 = .ok (.getfield 7, 3) := by decide +kernel
theorem dX12_fits_84 : decode cX12_fits 84 = .ok (.bipush 8, 2) := by decide +kernel
theorem dX12_fits_86 : decode cX12_fits 86 = .ok (.iload 5, 2) := by decide +kernel
theorem dX12_fits_88 : decode cX12_fits 88 = .ok (.iastore, 1) := by decide +kernel
theorem dX12_fits_89 : decode cX12_fits 89 = .ok (.aload_n 0, 1) := by decide +kernel
theorem dX12_fits_90 : decode cX12_fits 90 = .ok (.iload_n 1, 1) := by decide +kernel
theorem dX12_fits_91 : decode cX12_fits 91 = .ok (.invokevirtual 206, 3) := by decide +kernel
theorem dX12_fits_94 : decode cX12_fits 94 = .ok (.istore 6, 2) := by decide +kernel
theorem dX12_fits_96 : decode cX12_fits 96 = .ok (.aload_n 0, 1) := by decide +kernel
theorem dX12_fits_97 : decode cX12_fits 97 = .ok (.aload_n 0, 1) := by decide +kernel
theorem dX12_fits_98 : decode cX12_fits 98 = .ok (.getfield 16, 3) := by decide +kernel
theorem dX12_fits_101 : decode cX12_fits 101 = .ok (.aload_n 0, 1) := by decide +kernel
theorem dX12_fits_102 : decode cX12_fits 102 = .ok (.getfield 7, 3) := by decide +kernel
theorem dX12_fits_105 : decode cX12_fits 105 = .ok (.invokevirtual 150, 3) := by decide +kernel
theorem dX12_fits_108 : decode cX12_fits 108 = .ok (.iload_n 3, 1) := by decide +kernel
theorem dX12_fits_109 : decode cX12_fits 109 = .ok (.iload 6, 2) := by decide +kernel
theorem dX12_fits_111 : decode cX12_fits 111 = .ok (.ifCond .eq 7, 3) := by decide +kernel
theorem dX12_fits_114 : decode cX12_fits 114 = .ok (.iconst 1, 1) := by decide +kernel
theorem dX12_fits_115 : decode cX12_fits 115 = .ok (.goto 4, 3) := by decide +kernel
theorem dX12_fits_118 : decode cX12_fits 118 = .ok (.iconst 0, 1) := by decide +kernel
theorem dX12_fits_119 : decode cX12_fits 119 = .ok (.iadd, 1) := by decide +kernel
theorem dX12_fits_120 : decode cX12_fits 120 = .ok (.istore_n 3, 1) := by decide +kernel
theorem dX12_fits_121 : decode cX12_fits 121 = .ok (.iload 6, 2) := by decide +kernel
theorem dX12_fits_123 : decode cX12_fits 123 = .ok (.ifCond .eq 8, 3) := by decide +kernel
theorem dX12_fits_126 : decode cX12_fits 126 = .ok (.iload 5, 2) := by decide +kernel
theorem dX12_fits_128 : decode cX12_fits 128 = .ok (.goto 5, 3) := by decide +kernel
theorem dX12_fits_131 : decode cX12_fits 131 = .ok (.iload 4, 2) := by decide +kernel
theorem dX12_fits_133 : decode cX12_fits 133 = .ok (.istore 4, 2) := by decide +kernel
theorem dX12_fits_135 : decode cX12_fits 135 = .ok (.iinc 5 (-1), 3) := by decide +kernel
theorem dX12_fits_138 : decode cX12_fits 138 = .ok (.goto (-63), 3) := by decide +kernel
theorem dX12_fits_141 : decode cX12_fits 141 = .ok (.iload_n 2, 1) := by decide +kernel
theorem dX12_fits_142 : decode cX12_fits 142 = .ok (.iconst 1, 1) := by decide +kernel
theorem dX12_fits_143 : decode cX12_fits 143 = .ok (.if_icmp .ne 14, 3) := by decide +kernel
theorem dX12_fits_146 : decode cX12_fits 146 = .ok (.iload_n 3, 1) := by decide +kernel
theorem dX12_fits_147 : decode cX12_fits 147 = .ok (.ifCond .ne 10, 3) := by decide +kernel
theorem dX12_fits_150 : decode cX12_fits 150 = .ok (.aload_n 0, 1) := by decide +kernel
theorem dX12_fits_151 : decode cX12_fits 151 = .ok (.ldc 189, 2) := by decide +kernel
theorem dX12_fits_153 : decode cX12_fits 153 = .ok (.invokevirtual 46, 3) := by decide +kernel
theorem dX12_fits_156 : decode cX12_fits 156 = .ok (.ireturn, 1) := by decide +kernel
theorem dX12_fits_157 : decode cX12_fits 157 = .ok (.iload_n 2, 1) := by decide +kernel
theorem dX12_fits_158 : decode cX12_fits 158 = .ok (.ifCond .ne 7, 3) := by decide +kernel
theorem dX12_fits_161 : decode cX12_fits 161 = .ok (.iload_n 3, 1) := by decide +kernel
theorem dX12_fits_162 : decode cX12_fits 162 = .ok (.goto 5, 3) := by decide +kernel
theorem dX12_fits_165 : decode cX12_fits 165 = .ok (.iload 4, 2) := by decide +kernel
theorem dX12_fits_167 : decode cX12_fits 167 = .ok (.ireturn, 1) := by decide +kernel
theorem dX12_paid_0 : decode cX12_paid 0 = .ok (.iload_n 1, 1) := by decide +kernel
theorem dX12_paid_1 : decode cX12_paid 1 = .ok (.iconst 0, 1) := by decide +kernel
theorem dX12_paid_2 : decode cX12_paid 2 = .ok (.bipush 60, 2) := by decide +kernel
theorem dX12_paid_4 : decode cX12_paid 4 = .ok (.invokestatic 41, 3) := by decide +kernel
theorem dX12_paid_7 : decode cX12_paid 7 = .ok (.ifCond .ne 10, 3) := by decide +kernel
theorem dX12_paid_10 : decode cX12_paid 10 = .ok (.aload_n 0, 1) := by decide +kernel
theorem dX12_paid_11 : decode cX12_paid 11 = .ok (.ldc 45, 2) := by decide +kernel
theorem dX12_paid_13 : decode cX12_paid 13 = .ok (.invokevirtual 46, 3) := by decide +kernel
theorem dX12_paid_16 : decode cX12_paid 16 = .ok (.ireturn, 1) := by decide +kernel
theorem dX12_paid_17 : decode cX12_paid 17 = .ok (.aload_n 0, 1) := by decide +kernel
theorem dX12_paid_18 : decode cX12_paid 18 = .ok (.aload_n 0, 1) := by decide +kernel
theorem dX12_paid_19 : decode cX12_paid 19 = .ok (.getfield 7, 3) := by decide +kernel
theorem dX12_paid_22 : decode cX12_paid 22 = .ok (.aload_n 0, 1) := by decide +kernel
theorem dX12_paid_23 : decode cX12_paid 23 = .ok (.getfield 16, 3) := by decide +kernel
theorem dX12_paid_26 : decode cX12_paid 26 = .ok (.invokevirtual 150, 3) := by decide +kernel
theorem dX12_paid_29 : decode cX12_paid 29 = .ok (.aload_n 0, 1) := by decide +kernel
theorem dX12_paid_30 : decode cX12_paid 30 = .ok (.iload_n 1, 1) := by decide +kernel
theorem dX12_paid_31 : decode cX12_paid 31 = .ok (.invokevirtual 175, 3) := by decide +kernel
theorem dX12_paid_34 : decode cX12_paid 34 = .ok (.aload_n 0, 1) := by decide +kernel
theorem dX12_paid_35 : decode cX12_paid 35 = .ok (.getfield 7, 3) := by decide +kernel
theorem dX12_paid_38 : decode cX12_paid 38 = .ok (.bipush 9, 2) := by decide +kernel
theorem dX12_paid_40 : decode cX12_paid 40 = .ok (.iaload, 1) := by decide +kernel
theorem dX12_paid_41 : decode cX12_paid 41 = .ok (.aload_n 0, 1) := by decide +kernel
theorem dX12_paid_42 : decode cX12_paid 42 = .ok (.getfield 16, 3) := by decide +kernel
theorem dX12_paid_45 : decode cX12_paid 45 = .ok (.bipush 9, 2) := by decide +kernel
theorem dX12_paid_47 : decode cX12_paid 47 = .ok (.iaload, 1) := by decide +kernel
theorem dX12_paid_48 : decode cX12_paid 48 = .ok (.isub, 1) := by decide +kernel
theorem dX12_paid_49 : decode cX12_paid 49 = .ok (.istore_n 2, 1) := by decide +kernel
theorem dX12_paid_50 : decode cX12_paid 50 = .ok (.aload_n 0, 1) := by decide +kernel
theorem dX12_paid_51 : decode cX12_paid 51 = .ok (.aload_n 0, 1) := by decide +kernel
theorem dX12_paid_52 : decode cX12_paid 52 = .ok (.getfield 16, 3) := by decide +kernel
theorem dX12_paid_55 : decode cX12_paid 55 = .ok (.aload_n 0, 1) := by decide +kernel
theorem dX12_paid_56 : decode cX12_paid 56 = .ok (.getfield 7, 3) := by decide +kernel
theorem dX12_paid_59 : decode cX12_paid 59 = .ok (.invokevirtual 150, 3) := by decide +kernel
theorem dX12_paid_62 : decode cX12_paid 62 = .ok (.iload_n 2, 1) := by decide +kernel
theorem dX12_paid_63 : decode cX12_paid 63 = .ok (.ireturn, 1) := by decide +kernel
theorem dX12_bell_0 : decode cX12_bell 0 = .ok (.iload_n 1, 1) := by decide +kernel
theorem dX12_bell_1 : decode cX12_bell 1 = .ok (.iconst 0, 1) := by decide +kernel
theorem dX12_bell_2 : decode cX12_bell 2 = .ok (.bipush 60, 2) := by decide +kernel
theorem dX12_bell_4 : decode cX12_bell 4 = .ok (.invokestatic 41, 3) := by decide +kernel
theorem dX12_bell_7 : decode cX12_bell 7 = .ok (.ifCond .ne 10, 3) := by decide +kernel
theorem dX12_bell_10 : decode cX12_bell 10 = .ok (.aload_n 0, 1) := by decide +kernel
theorem dX12_bell_11 : decode cX12_bell 11 = .ok (.ldc 45, 2) := by decide +kernel
theorem dX12_bell_13 : decode cX12_bell 13 = .ok (.invokevirtual 46, 3) := by decide +kernel
theorem dX12_bell_16 : decode cX12_bell 16 = .ok (.ireturn, 1) := by decide +kernel
theorem dX12_bell_17 : decode cX12_bell 17 = .ok (.aload_n 0, 1) := by decide +kernel
theorem dX12_bell_18 : decode cX12_bell 18 = .ok (.aload_n 0, 1) := by decide +kernel
theorem dX12_bell_19 : decode cX12_bell 19 = .ok (.getfield 7, 3) := by decide +kernel
theorem dX12_bell_22 : decode cX12_bell 22 = .ok (.aload_n 0, 1) := by decide +kernel
theorem dX12_bell_23 : decode cX12_bell 23 = .ok (.getfield 16, 3) := by decide +kernel
theorem dX12_bell_26 : decode cX12_bell 26 = .ok (.invokevirtual 150, 3) := by decide +kernel
theorem dX12_bell_29 : decode cX12_bell 29 = .ok (.aload_n 0, 1) := by decide +kernel
theorem dX12_bell_30 : decode cX12_bell 30 = .ok (.iload_n 1, 1) := by decide +kernel
theorem dX12_bell_31 : decode cX12_bell 31 = .ok (.invokevirtual 175, 3) := by decide +kernel
theorem dX12_bell_34 : decode cX12_bell 34 = .ok (.aload_n 0, 1) := by decide +kernel
theorem dX12_bell_35 : decode cX12_bell 35 = .ok (.invokevirtual 179, 3) := by decide +kernel
theorem dX12_bell_38 : decode cX12_bell 38 = .ok (.istore_n 2, 1) := by decide +kernel
theorem dX12_bell_39 : decode cX12_bell 39 = .ok (.aload_n 0, 1) := by decide +kernel
theorem dX12_bell_40 : decode cX12_bell 40 = .ok (.aload_n 0, 1) := by decide +kernel
theorem dX12_bell_41 : decode cX12_bell 41 = .ok (.getfield 16, 3) := by decide +kernel
theorem dX12_bell_44 : decode cX12_bell 44 = .ok (.aload_n 0, 1) := by decide +kernel
theorem dX12_bell_45 : decode cX12_bell 45 = .ok (.getfield 7, 3) := by decide +kernel
theorem dX12_bell_48 : decode cX12_bell 48 = .ok (.invokevirtual 150, 3) := by decide +kernel
theorem dX12_bell_51 : decode cX12_bell 51 = .ok (.iconst 0, 1) := by decide +kernel
theorem dX12_bell_52 : decode cX12_bell 52 = .ok (.istore_n 3, 1) := by decide +kernel
theorem dX12_bell_53 : decode cX12_bell 53 = .ok (.iload_n 3, 1) := by decide +kernel
theorem dX12_bell_54 : decode cX12_bell 54 = .ok (.aload_n 0, 1) := by decide +kernel
theorem dX12_bell_55 : decode cX12_bell 55 = .ok (.getfield 7, 3) := by decide +kernel
theorem dX12_bell_58 : decode cX12_bell 58 = .ok (.iconst 2, 1) := by decide +kernel
theorem dX12_bell_59 : decode cX12_bell 59 = .ok (.iaload, 1) := by decide +kernel
theorem dX12_bell_60 : decode cX12_bell 60 = .ok (.if_icmp .ge 16, 3) := by decide +kernel
theorem dX12_bell_63 : decode cX12_bell 63 = .ok (.aload_n 0, 1) := by decide +kernel
theorem dX12_bell_64 : decode cX12_bell 64 = .ok (.iload_n 3, 1) := by decide +kernel
theorem dX12_bell_65 : decode cX12_bell 65 = .ok (.iconst 3, 1) := by decide +kernel
theorem dX12_bell_66 : decode cX12_bell 66 = .ok (.iconst 0, 1) := by decide +kernel
theorem dX12_bell_67 : decode cX12_bell 67 = .ok (.invokevirtual 51, 3) := by decide +kernel
theorem dX12_bell_70 : decode cX12_bell 70 = .ok (.iinc 3 1, 3) := by decide +kernel
theorem dX12_bell_73 : decode cX12_bell 73 = .ok (.goto (-20), 3) := by decide +kernel
theorem dX12_bell_76 : decode cX12_bell 76 = .ok (.aload_n 0, 1) := by decide +kernel
theorem dX12_bell_77 : decode cX12_bell 77 = .ok (.iload_n 1, 1) := by decide +kernel
theorem dX12_bell_78 : decode cX12_bell 78 = .ok (.invokevirtual 175, 3) := by decide +kernel
theorem dX12_bell_81 : decode cX12_bell 81 = .ok (.iload_n 2, 1) := by decide +kernel
theorem dX12_bell_82 : decode cX12_bell 82 = .ok (.aload_n 0, 1) := by decide +kernel
theorem dX12_bell_83 : decode cX12_bell 83 = .ok (.invokevirtual 179, 3) := by decide +kernel
theorem dX12_bell_86 : decode cX12_bell 86 = .ok (.isub, 1) := by decide +kernel
theorem dX12_bell_87 : decode cX12_bell 87 = .ok (.istore_n 2, 1) := by decide +kernel
theorem dX12_bell_88 : decode cX12_bell 88 = .ok (.aload_n 0, 1) := by decide +kernel
theorem dX12_bell_89 : decode cX12_bell 89 = .ok (.aload_n 0, 1) := by decide +kernel
theorem dX12_bell_90 : decode cX12_bell 90 = .ok (.getfield 16, 3) := by decide +kernel
theorem dX12_bell_93 : decode cX12_bell 93 = .ok (.aload_n 0, 1) := by decide +kernel
theorem dX12_bell_94 : decode cX12_bell 94 = .ok (.getfield 7, 3) := by decide +kernel
theorem dX12_bell_97 : decode cX12_bell 97 = .ok (.invokevirtual 150, 3) := by decide +kernel
theorem dX12_bell_100 : decode cX12_bell 100 = .ok (.iload_n 2, 1) := by decide +kernel
theorem dX12_bell_101 : decode cX12_bell 101 = .ok (.ireturn, 1) := by decide +kernel
theorem dX12_divisor_0 : decode cX12_divisor 0 = .ok (.iload_n 0, 1) := by decide +kernel
theorem dX12_divisor_1 : decode cX12_divisor 1 = .ok (.istore_n 2, 1) := by decide +kernel
theorem dX12_divisor_2 : decode cX12_divisor 2 = .ok (.iload_n 1, 1) := by decide +kernel
theorem dX12_divisor_3 : decode cX12_divisor 3 = .ok (.istore_n 3, 1) := by decide +kernel
theorem dX12_divisor_4 : decode cX12_divisor 4 = .ok (.iload_n 3, 1) := by decide +kernel
theorem dX12_divisor_5 : decode cX12_divisor 5 = .ok (.ifCond .eq 16, 3) := by decide +kernel
theorem dX12_divisor_8 : decode cX12_divisor 8 = .ok (.iload_n 2, 1) := by decide +kernel
theorem dX12_divisor_9 : decode cX12_divisor 9 = .ok (.iload_n 3, 1) := by decide +kernel
theorem dX12_divisor_10 : decode cX12_divisor 10 = .ok (.irem, 1) := by decide +kernel
theorem dX12_divisor_11 : decode cX12_divisor 11 = .ok (.istore 4, 2) := by decide +kernel
theorem dX12_divisor_13 : decode cX12_divisor 13 = .ok (.iload_n 3, 1) := by decide +kernel
theorem dX12_divisor_14 : decode cX12_divisor 14 = .ok (.istore_n 2, 1) := by decide +kernel
theorem dX12_divisor_15 : decode cX12_divisor 15 = .ok (.iload 4, 2) := by decide +kernel
theorem dX12_divisor_17 : decode cX12_divisor 17 = .ok (.istore_n 3, 1) := by decide +kernel
theorem dX12_divisor_18 : decode cX12_divisor 18 = .ok (.goto (-14), 3) := by decide +kernel
theorem dX12_divisor_21 : decode cX12_divisor 21 = .ok (.iload_n 2, 1) := by decide +kernel
theorem dX12_divisor_22 : decode cX12_divisor 22 = .ok (.ireturn, 1) := by decide +kernel
theorem dX12_odds_0 : decode cX12_odds 0 = .ok (.aload_n 0, 1) := by decide +kernel
theorem dX12_odds_1 : decode cX12_odds 1 = .ok (.iload_n 1, 1) := by decide +kernel
theorem dX12_odds_2 : decode cX12_odds 2 = .ok (.invokevirtual 55, 3) := by decide +kernel
theorem dX12_odds_5 : decode cX12_odds 5 = .ok (.ifCond .eq 34, 3) := by decide +kernel
theorem dX12_odds_8 : decode cX12_odds 8 = .ok (.iload_n 2, 1) := by decide +kernel
theorem dX12_odds_9 : decode cX12_odds 9 = .ok (.iconst 1, 1) := by decide +kernel
theorem dX12_odds_10 : decode cX12_odds 10 = .ok (.sipush 999, 3) := by decide +kernel
theorem dX12_odds_13 : decode cX12_odds 13 = .ok (.invokestatic 41, 3) := by decide +kernel
theorem dX12_odds_16 : decode cX12_odds 16 = .ok (.ifCond .eq 23, 3) := by decide +kernel
theorem dX12_odds_19 : decode cX12_odds 19 = .ok (.iload_n 3, 1) := by decide +kernel
theorem dX12_odds_20 : decode cX12_odds 20 = .ok (.iconst 0, 1) := by decide +kernel
theorem dX12_odds_21 : decode cX12_odds 21 = .ok (.bipush 60, 2) := by decide +kernel
theorem dX12_odds_23 : decode cX12_odds 23 = .ok (.invokestatic 41, 3) := by decide +kernel
theorem dX12_odds_26 : decode cX12_odds 26 = .ok (.ifCond .eq 13, 3) := by decide +kernel
theorem dX12_odds_29 : decode cX12_odds 29 = .ok (.iload 4, 2) := by decide +kernel
theorem dX12_odds_31 : decode cX12_odds 31 = .ok (.iconst 0, 1) := by decide +kernel
theorem dX12_odds_32 : decode cX12_odds 32 = .ok (.iconst 1, 1) := by decide +kernel
theorem dX12_odds_33 : decode cX12_odds 33 = .ok (.invokestatic 41, 3) := by decide +kernel
theorem dX12_odds_36 : decode cX12_odds 36 = .ok (.ifCond .ne 10, 3) := by decide +kernel
theorem dX12_odds_39 : decode cX12_odds 39 = .ok (.aload_n 0, 1) := by decide +kernel
theorem dX12_odds_40 : decode cX12_odds 40 = .ok (.ldc 45, 2) := by decide +kernel
theorem dX12_odds_42 : decode cX12_odds 42 = .ok (.invokevirtual 46, 3) := by decide +kernel
theorem dX12_odds_45 : decode cX12_odds 45 = .ok (.ireturn, 1) := by decide +kernel
theorem dX12_odds_46 : decode cX12_odds 46 = .ok (.iconst 0, 1) := by decide +kernel
theorem dX12_odds_47 : decode cX12_odds 47 = .ok (.istore 5, 2) := by decide +kernel
theorem dX12_odds_49 : decode cX12_odds 49 = .ok (.aload_n 0, 1) := by decide +kernel
theorem dX12_odds_50 : decode cX12_odds 50 = .ok (.aload_n 0, 1) := by decide +kernel
theorem dX12_odds_51 : decode cX12_odds 51 = .ok (.getfield 7, 3) := by decide +kernel
theorem dX12_odds_54 : decode cX12_odds 54 = .ok (.aload_n 0, 1) := by decide +kernel
theorem dX12_odds_55 : decode cX12_odds 55 = .ok (.getfield 16, 3) := by decide +kernel
theorem dX12_odds_58 : decode cX12_odds 58 = .ok (.invokevirtual 150, 3) := by decide +kernel
theorem dX12_odds_61 : decode cX12_odds 61 = .ok (.iconst 0, 1) := by decide +kernel
theorem dX12_odds_62 : decode cX12_odds 62 = .ok (.istore 6, 2) := by decide +kernel
theorem dX12_odds_64 : decode cX12_odds 64 = .ok (.iload 6, 2) := by decide +kernel
theorem dX12_odds_66 : decode cX12_odds 66 = .ok (.bipush 10, 2) := by decide +kernel
theorem dX12_odds_68 : decode cX12_odds 68 = .ok (.if_icmp .ge 55, 3) := by decide +kernel
theorem dX12_odds_71 : decode cX12_odds 71 = .ok (.aload_n 0, 1) := by decide +kernel
theorem dX12_odds_72 : decode cX12_odds 72 = .ok (.getfield 7, 3) := by decide +kernel
theorem dX12_odds_75 : decode cX12_odds 75 = .ok (.bipush 7, 2) := by decide +kernel
theorem dX12_odds_77 : decode cX12_odds 77 = .ok (.iload 6, 2) := by decide +kernel
theorem dX12_odds_79 : decode cX12_odds 79 = .ok (.iastore, 1) := by decide +kernel
theorem dX12_odds_80 : decode cX12_odds 80 = .ok (.aload_n 0, 1) := by decide +kernel
theorem dX12_odds_81 : decode cX12_odds 81 = .ok (.iload_n 3, 1) := by decide +kernel
theorem dX12_odds_82 : decode cX12_odds 82 = .ok (.invokevirtual 175, 3) := by decide +kernel
theorem dX12_odds_85 : decode cX12_odds 85 = .ok (.iload 5, 2) := by decide +kernel
theorem dX12_odds_87 : decode cX12_odds 87 = .ok (.aload_n 0, 1) := by decide +kernel
theorem dX12_odds_88 : decode cX12_odds 88 = .ok (.iload_n 1, 1) := by decide +kernel
theorem dX12_odds_89 : decode cX12_odds 89 = .ok (.iconst 2, 1) := by decide +kernel
theorem dX12_odds_90 : decode cX12_odds 90 = .ok (.invokevirtual 59, 3) := by decide +kernel
theorem dX12_odds_93 : decode cX12_odds 93 = .ok (.iload_n 2, 1) := by decide +kernel
theorem dX12_odds_94 : decode cX12_odds 94 = .ok (.if_icmp .ge 7, 3) := by decide +kernel
theorem dX12_odds_97 : decode cX12_odds 97 = .ok (.iconst 1, 1) := by decide +kernel
theorem dX12_odds_98 : decode cX12_odds 98 = .ok (.goto 4, 3) := by decide +kernel
theorem dX12_odds_101 : decode cX12_odds 101 = .ok (.iconst 0, 1) := by decide +kernel
theorem dX12_odds_102 : decode cX12_odds 102 = .ok (.iadd, 1) := by decide +kernel
theorem dX12_odds_103 : decode cX12_odds 103 = .ok (.istore 5, 2) := by decide +kernel
theorem dX12_odds_105 : decode cX12_odds 105 = .ok (.aload_n 0, 1) := by decide +kernel
theorem dX12_odds_106 : decode cX12_odds 106 = .ok (.aload_n 0, 1) := by decide +kernel
theorem dX12_odds_107 : decode cX12_odds 107 = .ok (.getfield 16, 3) := by decide +kernel
theorem dX12_odds_110 : decode cX12_odds 110 = .ok (.aload_n 0, 1) := by decide +kernel
theorem dX12_odds_111 : decode cX12_odds 111 = .ok (.getfield 7, 3) := by decide +kernel
theorem dX12_odds_114 : decode cX12_odds 114 = .ok (.invokevirtual 150, 3) := by decide +kernel
theorem dX12_odds_117 : decode cX12_odds 117 = .ok (.iinc 6 1, 3) := by decide +kernel
theorem dX12_odds_120 : decode cX12_odds 120 = .ok (.goto (-56), 3) := by decide +kernel
theorem dX12_odds_123 : decode cX12_odds 123 = .ok (.iload 5, 2) := by decide +kernel
theorem dX12_odds_125 : decode cX12_odds 125 = .ok (.bipush 10, 2) := by decide +kernel
theorem dX12_odds_127 : decode cX12_odds 127 = .ok (.invokestatic 209, 3) := by decide +kernel
theorem dX12_odds_130 : decode cX12_odds 130 = .ok (.istore 6, 2) := by decide +kernel
theorem dX12_odds_132 : decode cX12_odds 132 = .ok (.iload 4, 2) := by decide +kernel
theorem dX12_odds_134 : decode cX12_odds 134 = .ok (.ifCond .ne 11, 3) := by decide +kernel
theorem dX12_odds_137 : decode cX12_odds 137 = .ok (.iload 5, 2) := by decide +kernel
theorem dX12_odds_139 : decode cX12_odds 139 = .ok (.iload 6, 2) := by decide +kernel
theorem dX12_odds_141 : decode cX12_odds 141 = .ok (.idiv, 1) := by decide +kernel
theorem dX12_odds_142 : decode cX12_odds 142 = .ok (.goto 8, 3) := by decide +kernel
theorem dX12_odds_145 : decode cX12_odds 145 = .ok (.bipush 10, 2) := by decide +kernel
theorem dX12_odds_147 : decode cX12_odds 147 = .ok (.iload 6, 2) := by decide +kernel
theorem dX12_odds_149 : decode cX12_odds 149 = .ok (.idiv, 1) := by decide +kernel
theorem dX12_odds_150 : decode cX12_odds 150 = .ok (.ireturn, 1) := by decide +kernel
theorem dX12_seed_0 : decode cX12_seed 0 = .ok (.aload_n 0, 1) := by decide +kernel
theorem dX12_seed_1 : decode cX12_seed 1 = .ok (.getfield 7, 3) := by decide +kernel
theorem dX12_seed_4 : decode cX12_seed 4 = .ok (.iconst 1, 1) := by decide +kernel
theorem dX12_seed_5 : decode cX12_seed 5 = .ok (.iaload, 1) := by decide +kernel
theorem dX12_seed_6 : decode cX12_seed 6 = .ok (.istore_n 2, 1) := by decide +kernel
theorem dX12_seed_7 : decode cX12_seed 7 = .ok (.aload_n 0, 1) := by decide +kernel
theorem dX12_seed_8 : decode cX12_seed 8 = .ok (.getfield 7, 3) := by decide +kernel
theorem dX12_seed_11 : decode cX12_seed 11 = .ok (.iconst 1, 1) := by decide +kernel
theorem dX12_seed_12 : decode cX12_seed 12 = .ok (.iload_n 1, 1) := by decide +kernel
theorem dX12_seed_13 : decode cX12_seed 13 = .ok (.iastore, 1) := by decide +kernel
theorem dX12_seed_14 : decode cX12_seed 14 = .ok (.iload_n 2, 1) := by decide +kernel
theorem dX12_seed_15 : decode cX12_seed 15 = .ok (.ireturn, 1) := by decide +kernel
theorem dX12_ran_0 : decode cX12_ran 0 = .ok (.aload_n 0, 1) := by decide +kernel
theorem dX12_ran_1 : decode cX12_ran 1 = .ok (.getfield 212, 3) := by decide +kernel
theorem dX12_ran_4 : decode cX12_ran 4 = .ok (.bipush 40, 2) := by decide +kernel
theorem dX12_ran_6 : decode cX12_ran 6 = .ok (.if_icmp .ge 23, 3) := by decide +kernel
theorem dX12_ran_9 : decode cX12_ran 9 = .ok (.aload_n 0, 1) := by decide +kernel
theorem dX12_ran_10 : decode cX12_ran 10 = .ok (.getfield 37, 3) := by decide +kernel
theorem dX12_ran_13 : decode cX12_ran 13 = .ok (.aload_n 0, 1) := by decide +kernel
theorem dX12_ran_14 : decode cX12_ran 14 = .ok (.getfield 212, 3) := by decide +kernel
theorem dX12_ran_17 : decode cX12_ran 17 = .ok (.iload_n 1, 1) := by decide +kernel
theorem dX12_ran_18 : decode cX12_ran 18 = .ok (.iastore, 1) := by decide +kernel
theorem dX12_ran_19 : decode cX12_ran 19 = .ok (.aload_n 0, 1) := by decide +kernel
theorem dX12_ran_20 : decode cX12_ran 20 = .ok (.dup, 1) := by decide +kernel
theorem dX12_ran_21 : decode cX12_ran 21 = .ok (.getfield 212, 3) := by decide +kernel
theorem dX12_ran_24 : decode cX12_ran 24 = .ok (.iconst 1, 1) := by decide +kernel
theorem dX12_ran_25 : decode cX12_ran 25 = .ok (.iadd, 1) := by decide +kernel
theorem dX12_ran_26 : decode cX12_ran 26 = .ok (.putfield 212, 3) := by decide +kernel
theorem dX12_ran_29 : decode cX12_ran 29 = .ok (.return_, 1) := by decide +kernel
theorem dX12_fallsIn_0 : decode cX12_fallsIn 0 = .ok (.iload_n 1, 1) := by decide +kernel
theorem dX12_fallsIn_1 : decode cX12_fallsIn 1 = .ok (.ifCond .ne 16, 3) := by decide +kernel
theorem dX12_fallsIn_4 : decode cX12_fallsIn 4 = .ok (.aload_n 0, 1) := by decide +kernel
theorem dX12_fallsIn_5 : decode cX12_fallsIn 5 = .ok (.bipush 10, 2) := by decide +kernel
theorem dX12_fallsIn_7 : decode cX12_fallsIn 7 = .ok (.invokevirtual 215, 3) := by decide +kernel
theorem dX12_fallsIn_10 : decode cX12_fallsIn 10 = .ok (.iload_n 2, 1) := by decide +kernel
theorem dX12_fallsIn_11 : decode cX12_fallsIn 11 = .ok (.aload_n 0, 1) := by decide +kernel
theorem dX12_fallsIn_12 : decode cX12_fallsIn 12 = .ok (.getfield 218, 3) := by decide +kernel
theorem dX12_fallsIn_15 : decode cX12_fallsIn 15 = .ok (.iadd, 1) := by decide +kernel
theorem dX12_fallsIn_16 : decode cX12_fallsIn 16 = .ok (.ireturn, 1) := by decide +kernel
theorem dX12_fallsIn_17 : decode cX12_fallsIn 17 = .ok (.iload_n 1, 1) := by decide +kernel
theorem dX12_fallsIn_18 : decode cX12_fallsIn 18 = .ok (.iconst 1, 1) := by decide +kernel
theorem dX12_fallsIn_19 : decode cX12_fallsIn 19 = .ok (.if_icmp .ne 18, 3) := by decide +kernel
theorem dX12_fallsIn_22 : decode cX12_fallsIn 22 = .ok (.aload_n 0, 1) := by decide +kernel
theorem dX12_fallsIn_23 : decode cX12_fallsIn 23 = .ok (.bipush 20, 2) := by decide +kernel
theorem dX12_fallsIn_25 : decode cX12_fallsIn 25 = .ok (.invokevirtual 215, 3) := by decide +kernel
theorem dX12_fallsIn_28 : decode cX12_fallsIn 28 = .ok (.aload_n 0, 1) := by decide +kernel
theorem dX12_fallsIn_29 : decode cX12_fallsIn 29 = .ok (.iconst 0, 1) := by decide +kernel
theorem dX12_fallsIn_30 : decode cX12_fallsIn 30 = .ok (.iload_n 2, 1) := by decide +kernel
theorem dX12_fallsIn_31 : decode cX12_fallsIn 31 = .ok (.invokevirtual 221, 3) := by decide +kernel
theorem dX12_fallsIn_34 : decode cX12_fallsIn 34 = .ok (.iconst 3, 1) := by decide +kernel
theorem dX12_fallsIn_35 : decode cX12_fallsIn 35 = .ok (.imul, 1) := by decide +kernel
theorem dX12_fallsIn_36 : decode cX12_fallsIn 36 = .ok (.ireturn, 1) := by decide +kernel
theorem dX12_fallsIn_37 : decode cX12_fallsIn 37 = .ok (.aload_n 0, 1) := by decide +kernel
theorem dX12_fallsIn_38 : decode cX12_fallsIn 38 = .ok (.iload_n 1, 1) := by decide +kernel
theorem dX12_fallsIn_39 : decode cX12_fallsIn 39 = .ok (.invokestatic 73, 3) := by decide +kernel
theorem dX12_fallsIn_42 : decode cX12_fallsIn 42 = .ok (.iload_n 2, 1) := by decide +kernel
theorem dX12_fallsIn_43 : decode cX12_fallsIn 43 = .ok (.invokevirtual 221, 3) := by decide +kernel
theorem dX12_fallsIn_46 : decode cX12_fallsIn 46 = .ok (.ireturn, 1) := by decide +kernel
theorem dX12_sweepsIn_0 : decode cX12_sweepsIn 0 = .ok (.iload_n 1, 1) := by decide +kernel
theorem dX12_sweepsIn_1 : decode cX12_sweepsIn 1 = .ok (.ifCond .ne 16, 3) := by decide +kernel
theorem dX12_sweepsIn_4 : decode cX12_sweepsIn 4 = .ok (.aload_n 0, 1) := by decide +kernel
theorem dX12_sweepsIn_5 : decode cX12_sweepsIn 5 = .ok (.bipush 12, 2) := by decide +kernel
theorem dX12_sweepsIn_7 : decode cX12_sweepsIn 7 = .ok (.invokevirtual 215, 3) := by decide +kernel
theorem dX12_sweepsIn_10 : decode cX12_sweepsIn 10 = .ok (.iload_n 2, 1) := by decide +kernel
theorem dX12_sweepsIn_11 : decode cX12_sweepsIn 11 = .ok (.aload_n 0, 1) := by decide +kernel
theorem dX12_sweepsIn_12 : decode cX12_sweepsIn 12 = .ok (.getfield 224, 3) := by decide +kernel
theorem dX12_sweepsIn_15 : decode cX12_sweepsIn 15 = .ok (.isub, 1) := by decide +kernel
theorem dX12_sweepsIn_16 : decode cX12_sweepsIn 16 = .ok (.ireturn, 1) := by decide +kernel
theorem dX12_sweepsIn_17 : decode cX12_sweepsIn 17 = .ok (.iload_n 1, 1) := by decide +kernel
theorem dX12_sweepsIn_18 : decode cX12_sweepsIn 18 = .ok (.iconst 3, 1) := by decide +kernel
theorem dX12_sweepsIn_19 : decode cX12_sweepsIn 19 = .ok (.if_icmp .ne 17, 3) := by decide +kernel
theorem dX12_sweepsIn_22 : decode cX12_sweepsIn 22 = .ok (.aload_n 0, 1) := by decide +kernel
theorem dX12_sweepsIn_23 : decode cX12_sweepsIn 23 = .ok (.bipush 40, 2) := by decide +kernel
theorem dX12_sweepsIn_25 : decode cX12_sweepsIn 25 = .ok (.invokevirtual 215, 3) := by decide +kernel
theorem dX12_sweepsIn_28 : decode cX12_sweepsIn 28 = .ok (.aload_n 0, 1) := by decide +kernel
theorem dX12_sweepsIn_29 : decode cX12_sweepsIn 29 = .ok (.iconst 0, 1) := by decide +kernel
theorem dX12_sweepsIn_30 : decode cX12_sweepsIn 30 = .ok (.iload_n 2, 1) := by decide +kernel
theorem dX12_sweepsIn_31 : decode cX12_sweepsIn 31 = .ok (.invokevirtual 227, 3) := by decide +kernel
theorem dX12_sweepsIn_34 : decode cX12_sweepsIn 34 = .ok (.ineg, 1) := by decide +kernel
theorem dX12_sweepsIn_35 : decode cX12_sweepsIn 35 = .ok (.ireturn, 1) := by decide +kernel
theorem dX12_sweepsIn_36 : decode cX12_sweepsIn 36 = .ok (.iload_n 1, 1) := by decide +kernel
theorem dX12_sweepsIn_37 : decode cX12_sweepsIn 37 = .ok (.bipush 6, 2) := by decide +kernel
theorem dX12_sweepsIn_39 : decode cX12_sweepsIn 39 = .ok (.if_icmp .ne 21, 3) := by decide +kernel
theorem dX12_sweepsIn_42 : decode cX12_sweepsIn 42 = .ok (.aload_n 0, 1) := by decide +kernel
theorem dX12_sweepsIn_43 : decode cX12_sweepsIn 43 = .ok (.bipush 70, 2) := by decide +kernel
theorem dX12_sweepsIn_45 : decode cX12_sweepsIn 45 = .ok (.invokevirtual 215, 3) := by decide +kernel
theorem dX12_sweepsIn_48 : decode cX12_sweepsIn 48 = .ok (.aload_n 0, 1) := by decide +kernel
theorem dX12_sweepsIn_49 : decode cX12_sweepsIn 49 = .ok (.iconst 3, 1) := by decide +kernel
theorem dX12_sweepsIn_50 : decode cX12_sweepsIn 50 = .ok (.iload_n 2, 1) := by decide +kernel
theorem dX12_sweepsIn_51 : decode cX12_sweepsIn 51 = .ok (.invokevirtual 227, 3) := by decide +kernel
theorem dX12_sweepsIn_54 : decode cX12_sweepsIn 54 = .ok (.aload_n 0, 1) := by decide +kernel
theorem dX12_sweepsIn_55 : decode cX12_sweepsIn 55 = .ok (.getfield 218, 3) := by decide +kernel
theorem dX12_sweepsIn_58 : decode cX12_sweepsIn 58 = .ok (.ixor, 1) := by decide +kernel
theorem dX12_sweepsIn_59 : decode cX12_sweepsIn 59 = .ok (.ireturn, 1) := by decide +kernel
theorem dX12_sweepsIn_60 : decode cX12_sweepsIn 60 = .ok (.aload_n 0, 1) := by decide +kernel
theorem dX12_sweepsIn_61 : decode cX12_sweepsIn 61 = .ok (.iload_n 1, 1) := by decide +kernel
theorem dX12_sweepsIn_62 : decode cX12_sweepsIn 62 = .ok (.invokestatic 73, 3) := by decide +kernel
theorem dX12_sweepsIn_65 : decode cX12_sweepsIn 65 = .ok (.iload_n 2, 1) := by decide +kernel
theorem dX12_sweepsIn_66 : decode cX12_sweepsIn 66 = .ok (.invokevirtual 227, 3) := by decide +kernel
theorem dX12_sweepsIn_69 : decode cX12_sweepsIn 69 = .ok (.ireturn, 1) := by decide +kernel
theorem dX12_movesIn_0 : decode cX12_movesIn 0 = .ok (.iload_n 1, 1) := by decide +kernel
theorem dX12_movesIn_1 : decode cX12_movesIn 1 = .ok (.ifCond .ne 21, 3) := by decide +kernel
theorem dX12_movesIn_4 : decode cX12_movesIn 4 = .ok (.aload_n 0, 1) := by decide +kernel
theorem dX12_movesIn_5 : decode cX12_movesIn 5 = .ok (.bipush 11, 2) := by decide +kernel
theorem dX12_movesIn_7 : decode cX12_movesIn 7 = .ok (.invokevirtual 215, 3) := by decide +kernel
theorem dX12_movesIn_10 : decode cX12_movesIn 10 = .ok (.aload_n 0, 1) := by decide +kernel
theorem dX12_movesIn_11 : decode cX12_movesIn 11 = .ok (.aload_n 0, 1) := by decide +kernel
theorem dX12_movesIn_12 : decode cX12_movesIn 12 = .ok (.getfield 230, 3) := by decide +kernel
theorem dX12_movesIn_15 : decode cX12_movesIn 15 = .ok (.iload_n 2, 1) := by decide +kernel
theorem dX12_movesIn_16 : decode cX12_movesIn 16 = .ok (.invokevirtual 221, 3) := by decide +kernel
theorem dX12_movesIn_19 : decode cX12_movesIn 19 = .ok (.iconst 2, 1) := by decide +kernel
theorem dX12_movesIn_20 : decode cX12_movesIn 20 = .ok (.imul, 1) := by decide +kernel
theorem dX12_movesIn_21 : decode cX12_movesIn 21 = .ok (.ireturn, 1) := by decide +kernel
theorem dX12_movesIn_22 : decode cX12_movesIn 22 = .ok (.iload_n 1, 1) := by decide +kernel
theorem dX12_movesIn_23 : decode cX12_movesIn 23 = .ok (.iconst 2, 1) := by decide +kernel
theorem dX12_movesIn_24 : decode cX12_movesIn 24 = .ok (.if_icmp .ne 28, 3) := by decide +kernel
theorem dX12_movesIn_27 : decode cX12_movesIn 27 = .ok (.aload_n 0, 1) := by decide +kernel
theorem dX12_movesIn_28 : decode cX12_movesIn 28 = .ok (.bipush 30, 2) := by decide +kernel
theorem dX12_movesIn_30 : decode cX12_movesIn 30 = .ok (.invokevirtual 215, 3) := by decide +kernel
theorem dX12_movesIn_33 : decode cX12_movesIn 33 = .ok (.aload_n 0, 1) := by decide +kernel
theorem dX12_movesIn_34 : decode cX12_movesIn 34 = .ok (.iconst 0, 1) := by decide +kernel
theorem dX12_movesIn_35 : decode cX12_movesIn 35 = .ok (.iload_n 2, 1) := by decide +kernel
theorem dX12_movesIn_36 : decode cX12_movesIn 36 = .ok (.invokevirtual 233, 3) := by decide +kernel
theorem dX12_movesIn_39 : decode cX12_movesIn 39 = .ok (.istore_n 3, 1) := by decide +kernel
theorem dX12_movesIn_40 : decode cX12_movesIn 40 = .ok (.iload_n 3, 1) := by decide +kernel
theorem dX12_movesIn_41 : decode cX12_movesIn 41 = .ok (.aload_n 0, 1) := by decide +kernel
theorem dX12_movesIn_42 : decode cX12_movesIn 42 = .ok (.aload_n 0, 1) := by decide +kernel
theorem dX12_movesIn_43 : decode cX12_movesIn 43 = .ok (.getfield 230, 3) := by decide +kernel
theorem dX12_movesIn_46 : decode cX12_movesIn 46 = .ok (.iconst 1, 1) := by decide +kernel
theorem dX12_movesIn_47 : decode cX12_movesIn 47 = .ok (.invokevirtual 227, 3) := by decide +kernel
theorem dX12_movesIn_50 : decode cX12_movesIn 50 = .ok (.isub, 1) := by decide +kernel
theorem dX12_movesIn_51 : decode cX12_movesIn 51 = .ok (.ireturn, 1) := by decide +kernel
theorem dX12_movesIn_52 : decode cX12_movesIn 52 = .ok (.iload_n 1, 1) := by decide +kernel
theorem dX12_movesIn_53 : decode cX12_movesIn 53 = .ok (.iconst 5, 1) := by decide +kernel
theorem dX12_movesIn_54 : decode cX12_movesIn 54 = .ok (.if_icmp .ne 18, 3) := by decide +kernel
theorem dX12_movesIn_57 : decode cX12_movesIn 57 = .ok (.aload_n 0, 1) := by decide +kernel
theorem dX12_movesIn_58 : decode cX12_movesIn 58 = .ok (.bipush 60, 2) := by decide +kernel
theorem dX12_movesIn_60 : decode cX12_movesIn 60 = .ok (.invokevirtual 215, 3) := by decide +kernel
theorem dX12_movesIn_63 : decode cX12_movesIn 63 = .ok (.aload_n 0, 1) := by decide +kernel
theorem dX12_movesIn_64 : decode cX12_movesIn 64 = .ok (.iconst 2, 1) := by decide +kernel
theorem dX12_movesIn_65 : decode cX12_movesIn 65 = .ok (.iload_n 2, 1) := by decide +kernel
theorem dX12_movesIn_66 : decode cX12_movesIn 66 = .ok (.iconst 1, 1) := by decide +kernel
theorem dX12_movesIn_67 : decode cX12_movesIn 67 = .ok (.iadd, 1) := by decide +kernel
theorem dX12_movesIn_68 : decode cX12_movesIn 68 = .ok (.invokevirtual 233, 3) := by decide +kernel
theorem dX12_movesIn_71 : decode cX12_movesIn 71 = .ok (.ireturn, 1) := by decide +kernel
theorem dX12_movesIn_72 : decode cX12_movesIn 72 = .ok (.aload_n 0, 1) := by decide +kernel
theorem dX12_movesIn_73 : decode cX12_movesIn 73 = .ok (.iload_n 1, 1) := by decide +kernel
theorem dX12_movesIn_74 : decode cX12_movesIn 74 = .ok (.invokestatic 73, 3) := by decide +kernel
theorem dX12_movesIn_77 : decode cX12_movesIn 77 = .ok (.iload_n 2, 1) := by decide +kernel
theorem dX12_movesIn_78 : decode cX12_movesIn 78 = .ok (.invokevirtual 233, 3) := by decide +kernel
theorem dX12_movesIn_81 : decode cX12_movesIn 81 = .ok (.ireturn, 1) := by decide +kernel
theorem dX12_blocksIn_0 : decode cX12_blocksIn 0 = .ok (.iload_n 1, 1) := by decide +kernel
theorem dX12_blocksIn_1 : decode cX12_blocksIn 1 = .ok (.ifCond .ne 31, 3) := by decide +kernel
theorem dX12_blocksIn_4 : decode cX12_blocksIn 4 = .ok (.aload_n 0, 1) := by decide +kernel
theorem dX12_blocksIn_5 : decode cX12_blocksIn 5 = .ok (.bipush 13, 2) := by decide +kernel
theorem dX12_blocksIn_7 : decode cX12_blocksIn 7 = .ok (.invokevirtual 215, 3) := by decide +kernel
theorem dX12_blocksIn_10 : decode cX12_blocksIn 10 = .ok (.aload_n 0, 1) := by decide +kernel
theorem dX12_blocksIn_11 : decode cX12_blocksIn 11 = .ok (.aload_n 0, 1) := by decide +kernel
theorem dX12_blocksIn_12 : decode cX12_blocksIn 12 = .ok (.getfield 230, 3) := by decide +kernel
theorem dX12_blocksIn_15 : decode cX12_blocksIn 15 = .ok (.iload_n 2, 1) := by decide +kernel
theorem dX12_blocksIn_16 : decode cX12_blocksIn 16 = .ok (.invokevirtual 233, 3) := by decide +kernel
theorem dX12_blocksIn_19 : decode cX12_blocksIn 19 = .ok (.istore_n 3, 1) := by decide +kernel
theorem dX12_blocksIn_20 : decode cX12_blocksIn 20 = .ok (.iload_n 3, 1) := by decide +kernel
theorem dX12_blocksIn_21 : decode cX12_blocksIn 21 = .ok (.aload_n 0, 1) := by decide +kernel
theorem dX12_blocksIn_22 : decode cX12_blocksIn 22 = .ok (.aload_n 0, 1) := by decide +kernel
theorem dX12_blocksIn_23 : decode cX12_blocksIn 23 = .ok (.getfield 230, 3) := by decide +kernel
theorem dX12_blocksIn_26 : decode cX12_blocksIn 26 = .ok (.iload_n 2, 1) := by decide +kernel
theorem dX12_blocksIn_27 : decode cX12_blocksIn 27 = .ok (.invokevirtual 227, 3) := by decide +kernel
theorem dX12_blocksIn_30 : decode cX12_blocksIn 30 = .ok (.ixor, 1) := by decide +kernel
theorem dX12_blocksIn_31 : decode cX12_blocksIn 31 = .ok (.ireturn, 1) := by decide +kernel
theorem dX12_blocksIn_32 : decode cX12_blocksIn 32 = .ok (.iload_n 1, 1) := by decide +kernel
theorem dX12_blocksIn_33 : decode cX12_blocksIn 33 = .ok (.iconst 4, 1) := by decide +kernel
theorem dX12_blocksIn_34 : decode cX12_blocksIn 34 = .ok (.if_icmp .ne 28, 3) := by decide +kernel
theorem dX12_blocksIn_37 : decode cX12_blocksIn 37 = .ok (.aload_n 0, 1) := by decide +kernel
theorem dX12_blocksIn_38 : decode cX12_blocksIn 38 = .ok (.bipush 50, 2) := by decide +kernel
theorem dX12_blocksIn_40 : decode cX12_blocksIn 40 = .ok (.invokevirtual 215, 3) := by decide +kernel
theorem dX12_blocksIn_43 : decode cX12_blocksIn 43 = .ok (.aload_n 0, 1) := by decide +kernel
theorem dX12_blocksIn_44 : decode cX12_blocksIn 44 = .ok (.iconst 1, 1) := by decide +kernel
theorem dX12_blocksIn_45 : decode cX12_blocksIn 45 = .ok (.iload_n 2, 1) := by decide +kernel
theorem dX12_blocksIn_46 : decode cX12_blocksIn 46 = .ok (.invokevirtual 236, 3) := by decide +kernel
theorem dX12_blocksIn_49 : decode cX12_blocksIn 49 = .ok (.istore_n 3, 1) := by decide +kernel
theorem dX12_blocksIn_50 : decode cX12_blocksIn 50 = .ok (.iload_n 3, 1) := by decide +kernel
theorem dX12_blocksIn_51 : decode cX12_blocksIn 51 = .ok (.aload_n 0, 1) := by decide +kernel
theorem dX12_blocksIn_52 : decode cX12_blocksIn 52 = .ok (.aload_n 0, 1) := by decide +kernel
theorem dX12_blocksIn_53 : decode cX12_blocksIn 53 = .ok (.getfield 230, 3) := by decide +kernel
theorem dX12_blocksIn_56 : decode cX12_blocksIn 56 = .ok (.iconst 2, 1) := by decide +kernel
theorem dX12_blocksIn_57 : decode cX12_blocksIn 57 = .ok (.invokevirtual 221, 3) := by decide +kernel
theorem dX12_blocksIn_60 : decode cX12_blocksIn 60 = .ok (.isub, 1) := by decide +kernel
theorem dX12_blocksIn_61 : decode cX12_blocksIn 61 = .ok (.ireturn, 1) := by decide +kernel
theorem dX12_blocksIn_62 : decode cX12_blocksIn 62 = .ok (.iload_n 1, 1) := by decide +kernel
theorem dX12_blocksIn_63 : decode cX12_blocksIn 63 = .ok (.bipush 6, 2) := by decide +kernel
theorem dX12_blocksIn_65 : decode cX12_blocksIn 65 = .ok (.if_icmp .ne 28, 3) := by decide +kernel
theorem dX12_blocksIn_68 : decode cX12_blocksIn 68 = .ok (.aload_n 0, 1) := by decide +kernel
theorem dX12_blocksIn_69 : decode cX12_blocksIn 69 = .ok (.bipush 71, 2) := by decide +kernel
theorem dX12_blocksIn_71 : decode cX12_blocksIn 71 = .ok (.invokevirtual 215, 3) := by decide +kernel
theorem dX12_blocksIn_74 : decode cX12_blocksIn 74 = .ok (.aload_n 0, 1) := by decide +kernel
theorem dX12_blocksIn_75 : decode cX12_blocksIn 75 = .ok (.aload_n 0, 1) := by decide +kernel
theorem dX12_blocksIn_76 : decode cX12_blocksIn 76 = .ok (.getfield 230, 3) := by decide +kernel
theorem dX12_blocksIn_79 : decode cX12_blocksIn 79 = .ok (.iload_n 2, 1) := by decide +kernel
theorem dX12_blocksIn_80 : decode cX12_blocksIn 80 = .ok (.invokevirtual 233, 3) := by decide +kernel
theorem dX12_blocksIn_83 : decode cX12_blocksIn 83 = .ok (.istore_n 3, 1) := by decide +kernel
theorem dX12_blocksIn_84 : decode cX12_blocksIn 84 = .ok (.iload_n 3, 1) := by decide +kernel
theorem dX12_blocksIn_85 : decode cX12_blocksIn 85 = .ok (.aload_n 0, 1) := by decide +kernel
theorem dX12_blocksIn_86 : decode cX12_blocksIn 86 = .ok (.iconst 3, 1) := by decide +kernel
theorem dX12_blocksIn_87 : decode cX12_blocksIn 87 = .ok (.iload_n 2, 1) := by decide +kernel
theorem dX12_blocksIn_88 : decode cX12_blocksIn 88 = .ok (.invokevirtual 236, 3) := by decide +kernel
theorem dX12_blocksIn_91 : decode cX12_blocksIn 91 = .ok (.isub, 1) := by decide +kernel
theorem dX12_blocksIn_92 : decode cX12_blocksIn 92 = .ok (.ireturn, 1) := by decide +kernel
theorem dX12_blocksIn_93 : decode cX12_blocksIn 93 = .ok (.aload_n 0, 1) := by decide +kernel
theorem dX12_blocksIn_94 : decode cX12_blocksIn 94 = .ok (.iload_n 1, 1) := by decide +kernel
theorem dX12_blocksIn_95 : decode cX12_blocksIn 95 = .ok (.invokestatic 73, 3) := by decide +kernel
theorem dX12_blocksIn_98 : decode cX12_blocksIn 98 = .ok (.iload_n 2, 1) := by decide +kernel
theorem dX12_blocksIn_99 : decode cX12_blocksIn 99 = .ok (.invokevirtual 236, 3) := by decide +kernel
theorem dX12_blocksIn_102 : decode cX12_blocksIn 102 = .ok (.ireturn, 1) := by decide +kernel
theorem dX12_voice_0 : decode cX12_voice 0 = .ok (.aload_n 0, 1) := by decide +kernel
theorem dX12_voice_1 : decode cX12_voice 1 = .ok (.iload_n 1, 1) := by decide +kernel
theorem dX12_voice_2 : decode cX12_voice 2 = .ok (.invokevirtual 55, 3) := by decide +kernel
theorem dX12_voice_5 : decode cX12_voice 5 = .ok (.ifCond .eq 12, 3) := by decide +kernel
theorem dX12_voice_8 : decode cX12_voice 8 = .ok (.iload_n 2, 1) := by decide +kernel
theorem dX12_voice_9 : decode cX12_voice 9 = .ok (.iconst 0, 1) := by decide +kernel
theorem dX12_voice_10 : decode cX12_voice 10 = .ok (.iconst 3, 1) := by decide +kernel
theorem dX12_voice_11 : decode cX12_voice 11 = .ok (.invokestatic 41, 3) := by decide +kernel
theorem dX12_voice_14 : decode cX12_voice 14 = .ok (.ifCond .ne 10, 3) := by decide +kernel
theorem dX12_voice_17 : decode cX12_voice 17 = .ok (.aload_n 0, 1) := by decide +kernel
theorem dX12_voice_18 : decode cX12_voice 18 = .ok (.ldc 45, 2) := by decide +kernel
theorem dX12_voice_20 : decode cX12_voice 20 = .ok (.invokevirtual 46, 3) := by decide +kernel
theorem dX12_voice_23 : decode cX12_voice 23 = .ok (.ireturn, 1) := by decide +kernel
theorem dX12_voice_24 : decode cX12_voice 24 = .ok (.aload_n 0, 1) := by decide +kernel
theorem dX12_voice_25 : decode cX12_voice 25 = .ok (.iconst 0, 1) := by decide +kernel
theorem dX12_voice_26 : decode cX12_voice 26 = .ok (.putfield 212, 3) := by decide +kernel
theorem dX12_voice_29 : decode cX12_voice 29 = .ok (.aload_n 0, 1) := by decide +kernel
theorem dX12_voice_30 : decode cX12_voice 30 = .ok (.aload_n 0, 1) := by decide +kernel
theorem dX12_voice_31 : decode cX12_voice 31 = .ok (.iload_n 1, 1) := by decide +kernel
theorem dX12_voice_32 : decode cX12_voice 32 = .ok (.iconst 0, 1) := by decide +kernel
theorem dX12_voice_33 : decode cX12_voice 33 = .ok (.invokevirtual 59, 3) := by decide +kernel
theorem dX12_voice_36 : decode cX12_voice 36 = .ok (.putfield 230, 3) := by decide +kernel
theorem dX12_voice_39 : decode cX12_voice 39 = .ok (.aload_n 0, 1) := by decide +kernel
theorem dX12_voice_40 : decode cX12_voice 40 = .ok (.iload_n 1, 1) := by decide +kernel
theorem dX12_voice_41 : decode cX12_voice 41 = .ok (.putfield 218, 3) := by decide +kernel
theorem dX12_voice_44 : decode cX12_voice 44 = .ok (.aload_n 0, 1) := by decide +kernel
theorem dX12_voice_45 : decode cX12_voice 45 = .ok (.aload_n 0, 1) := by decide +kernel
theorem dX12_voice_46 : decode cX12_voice 46 = .ok (.iload_n 1, 1) := by decide +kernel
theorem dX12_voice_47 : decode cX12_voice 47 = .ok (.iconst 1, 1) := by decide +kernel
theorem dX12_voice_48 : decode cX12_voice 48 = .ok (.invokevirtual 59, 3) := by decide +kernel
theorem dX12_voice_51 : decode cX12_voice 51 = .ok (.putfield 224, 3) := by decide +kernel
theorem dX12_voice_54 : decode cX12_voice 54 = .ok (.iload_n 2, 1) := by decide +kernel
theorem dX12_voice_55 : decode cX12_voice 55 = .ok (.tableswitch 55 0 2 #[25, 35, 45], 25) := by decide +kernel
theorem dX12_voice_80 : decode cX12_voice 80 = .ok (.aload_n 0, 1) := by decide +kernel
theorem dX12_voice_81 : decode cX12_voice 81 = .ok (.aload_n 0, 1) := by decide +kernel
theorem dX12_voice_82 : decode cX12_voice 82 = .ok (.getfield 230, 3) := by decide +kernel
theorem dX12_voice_85 : decode cX12_voice 85 = .ok (.iload_n 3, 1) := by decide +kernel
theorem dX12_voice_86 : decode cX12_voice 86 = .ok (.invokevirtual 221, 3) := by decide +kernel
theorem dX12_voice_89 : decode cX12_voice 89 = .ok (.ireturn, 1) := by decide +kernel
theorem dX12_voice_90 : decode cX12_voice 90 = .ok (.aload_n 0, 1) := by decide +kernel
theorem dX12_voice_91 : decode cX12_voice 91 = .ok (.aload_n 0, 1) := by decide +kernel
theorem dX12_voice_92 : decode cX12_voice 92 = .ok (.getfield 230, 3) := by decide +kernel
theorem dX12_voice_95 : decode cX12_voice 95 = .ok (.iload_n 3, 1) := by decide +kernel
theorem dX12_voice_96 : decode cX12_voice 96 = .ok (.invokevirtual 233, 3) := by decide +kernel
theorem dX12_voice_99 : decode cX12_voice 99 = .ok (.ireturn, 1) := by decide +kernel
theorem dX12_voice_100 : decode cX12_voice 100 = .ok (.aload_n 0, 1) := by decide +kernel
theorem dX12_voice_101 : decode cX12_voice 101 = .ok (.aload_n 0, 1) := by decide +kernel
theorem dX12_voice_102 : decode cX12_voice 102 = .ok (.getfield 230, 3) := by decide +kernel
theorem dX12_voice_105 : decode cX12_voice 105 = .ok (.iload_n 3, 1) := by decide +kernel
theorem dX12_voice_106 : decode cX12_voice 106 = .ok (.invokevirtual 227, 3) := by decide +kernel
theorem dX12_voice_109 : decode cX12_voice 109 = .ok (.ireturn, 1) := by decide +kernel
theorem dX12_voice_110 : decode cX12_voice 110 = .ok (.aload_n 0, 1) := by decide +kernel
theorem dX12_voice_111 : decode cX12_voice 111 = .ok (.aload_n 0, 1) := by decide +kernel
theorem dX12_voice_112 : decode cX12_voice 112 = .ok (.getfield 230, 3) := by decide +kernel
theorem dX12_voice_115 : decode cX12_voice 115 = .ok (.iload_n 3, 1) := by decide +kernel
theorem dX12_voice_116 : decode cX12_voice 116 = .ok (.invokevirtual 236, 3) := by decide +kernel
theorem dX12_voice_119 : decode cX12_voice 119 = .ok (.ireturn, 1) := by decide +kernel
theorem dX12_trace_0 : decode cX12_trace 0 = .ok (.iload_n 1, 1) := by decide +kernel
theorem dX12_trace_1 : decode cX12_trace 1 = .ok (.iconst 0, 1) := by decide +kernel
theorem dX12_trace_2 : decode cX12_trace 2 = .ok (.aload_n 0, 1) := by decide +kernel
theorem dX12_trace_3 : decode cX12_trace 3 = .ok (.getfield 212, 3) := by decide +kernel
theorem dX12_trace_6 : decode cX12_trace 6 = .ok (.iconst 1, 1) := by decide +kernel
theorem dX12_trace_7 : decode cX12_trace 7 = .ok (.isub, 1) := by decide +kernel
theorem dX12_trace_8 : decode cX12_trace 8 = .ok (.invokestatic 41, 3) := by decide +kernel
theorem dX12_trace_11 : decode cX12_trace 11 = .ok (.ifCond .eq 12, 3) := by decide +kernel
theorem dX12_trace_14 : decode cX12_trace 14 = .ok (.aload_n 0, 1) := by decide +kernel
theorem dX12_trace_15 : decode cX12_trace 15 = .ok (.getfield 37, 3) := by decide +kernel
theorem dX12_trace_18 : decode cX12_trace 18 = .ok (.iload_n 1, 1) := by decide +kernel
theorem dX12_trace_19 : decode cX12_trace 19 = .ok (.iaload, 1) := by decide +kernel
theorem dX12_trace_20 : decode cX12_trace 20 = .ok (.goto 9, 3) := by decide +kernel
theorem dX12_trace_23 : decode cX12_trace 23 = .ok (.aload_n 0, 1) := by decide +kernel
theorem dX12_trace_24 : decode cX12_trace 24 = .ok (.ldc 189, 2) := by decide +kernel
theorem dX12_trace_26 : decode cX12_trace 26 = .ok (.invokevirtual 46, 3) := by decide +kernel
theorem dX12_trace_29 : decode cX12_trace 29 = .ok (.ireturn, 1) := by decide +kernel
theorem dX12_narrow_0 : decode cX12_narrow 0 = .ok (.iload_n 0, 1) := by decide +kernel
theorem dX12_narrow_1 : decode cX12_narrow 1 = .ok (.bipush 8, 2) := by decide +kernel
theorem dX12_narrow_3 : decode cX12_narrow 3 = .ok (.if_icmp .ne 8, 3) := by decide +kernel
theorem dX12_narrow_6 : decode cX12_narrow 6 = .ok (.iload_n 1, 1) := by decide +kernel
theorem dX12_narrow_7 : decode cX12_narrow 7 = .ok (.i2b, 1) := by decide +kernel
theorem dX12_narrow_8 : decode cX12_narrow 8 = .ok (.goto 15, 3) := by decide +kernel
theorem dX12_narrow_11 : decode cX12_narrow 11 = .ok (.iload_n 0, 1) := by decide +kernel
theorem dX12_narrow_12 : decode cX12_narrow 12 = .ok (.bipush 16, 2) := by decide +kernel
theorem dX12_narrow_14 : decode cX12_narrow 14 = .ok (.if_icmp .ne 8, 3) := by decide +kernel
theorem dX12_narrow_17 : decode cX12_narrow 17 = .ok (.iload_n 1, 1) := by decide +kernel
theorem dX12_narrow_18 : decode cX12_narrow 18 = .ok (.i2s, 1) := by decide +kernel
theorem dX12_narrow_19 : decode cX12_narrow 19 = .ok (.goto 4, 3) := by decide +kernel
theorem dX12_narrow_22 : decode cX12_narrow 22 = .ok (.iload_n 1, 1) := by decide +kernel
theorem dX12_narrow_23 : decode cX12_narrow 23 = .ok (.ireturn, 1) := by decide +kernel
theorem dX12_sheet_0 : decode cX12_sheet 0 = .ok (.iload_n 1, 1) := by decide +kernel
theorem dX12_sheet_1 : decode cX12_sheet 1 = .ok (.invokestatic 203, 3) := by decide +kernel
theorem dX12_sheet_4 : decode cX12_sheet 4 = .ok (.ifCond .eq 25, 3) := by decide +kernel
theorem dX12_sheet_7 : decode cX12_sheet 7 = .ok (.iload_n 2, 1) := by decide +kernel
theorem dX12_sheet_8 : decode cX12_sheet 8 = .ok (.ifCond .eq 28, 3) := by decide +kernel
theorem dX12_sheet_11 : decode cX12_sheet 11 = .ok (.iload_n 2, 1) := by decide +kernel
theorem dX12_sheet_12 : decode cX12_sheet 12 = .ok (.bipush 8, 2) := by decide +kernel
theorem dX12_sheet_14 : decode cX12_sheet 14 = .ok (.if_icmp .eq 22, 3) := by decide +kernel
theorem dX12_sheet_17 : decode cX12_sheet 17 = .ok (.iload_n 2, 1) := by decide +kernel
theorem dX12_sheet_18 : decode cX12_sheet 18 = .ok (.bipush 16, 2) := by decide +kernel
theorem dX12_sheet_20 : decode cX12_sheet 20 = .ok (.if_icmp .eq 16, 3) := by decide +kernel
theorem dX12_sheet_23 : decode cX12_sheet 23 = .ok (.iload_n 2, 1) := by decide +kernel
theorem dX12_sheet_24 : decode cX12_sheet 24 = .ok (.bipush 32, 2) := by decide +kernel
theorem dX12_sheet_26 : decode cX12_sheet 26 = .ok (.if_icmp .eq 10, 3) := by decide +kernel
theorem dX12_sheet_29 : decode cX12_sheet 29 = .ok (.aload_n 0, 1) := by decide +kernel
theorem dX12_sheet_30 : decode cX12_sheet 30 = .ok (.ldc 45, 2) := by decide +kernel
theorem dX12_sheet_32 : decode cX12_sheet 32 = .ok (.invokevirtual 46, 3) := by decide +kernel
theorem dX12_sheet_35 : decode cX12_sheet 35 = .ok (.ireturn, 1) := by decide +kernel
theorem dX12_sheet_36 : decode cX12_sheet 36 = .ok (.iload_n 2, 1) := by decide +kernel
theorem dX12_sheet_37 : decode cX12_sheet 37 = .ok (.ifCond .eq 14, 3) := by decide +kernel
theorem dX12_sheet_40 : decode cX12_sheet 40 = .ok (.iload_n 3, 1) := by decide +kernel
theorem dX12_sheet_41 : decode cX12_sheet 41 = .ok (.ifCond .ge 10, 3) := by decide +kernel
theorem dX12_sheet_44 : decode cX12_sheet 44 = .ok (.aload_n 0, 1) := by decide +kernel
theorem dX12_sheet_45 : decode cX12_sheet 45 = .ok (.ldc 174, 2) := by decide +kernel
theorem dX12_sheet_47 : decode cX12_sheet 47 = .ok (.invokevirtual 46, 3) := by decide +kernel
theorem dX12_sheet_50 : decode cX12_sheet 50 = .ok (.ireturn, 1) := by decide +kernel
theorem dX12_sheet_51 : decode cX12_sheet 51 = .ok (.iload_n 2, 1) := by decide +kernel
theorem dX12_sheet_52 : decode cX12_sheet 52 = .ok (.ifCond .eq 16, 3) := by decide +kernel
theorem dX12_sheet_55 : decode cX12_sheet 55 = .ok (.iload_n 3, 1) := by decide +kernel
theorem dX12_sheet_56 : decode cX12_sheet 56 = .ok (.bipush 40, 2) := by decide +kernel
theorem dX12_sheet_58 : decode cX12_sheet 58 = .ok (.if_icmp .le 10, 3) := by decide +kernel
theorem dX12_sheet_61 : decode cX12_sheet 61 = .ok (.aload_n 0, 1) := by decide +kernel
theorem dX12_sheet_62 : decode cX12_sheet 62 = .ok (.ldc 45, 2) := by decide +kernel
theorem dX12_sheet_64 : decode cX12_sheet 64 = .ok (.invokevirtual 46, 3) := by decide +kernel
theorem dX12_sheet_67 : decode cX12_sheet 67 = .ok (.ireturn, 1) := by decide +kernel
theorem dX12_sheet_68 : decode cX12_sheet 68 = .ok (.aload_n 0, 1) := by decide +kernel
theorem dX12_sheet_69 : decode cX12_sheet 69 = .ok (.getfield 25, 3) := by decide +kernel
theorem dX12_sheet_72 : decode cX12_sheet 72 = .ok (.iload_n 1, 1) := by decide +kernel
theorem dX12_sheet_73 : decode cX12_sheet 73 = .ok (.iload_n 2, 1) := by decide +kernel
theorem dX12_sheet_74 : decode cX12_sheet 74 = .ok (.iastore, 1) := by decide +kernel
theorem dX12_sheet_75 : decode cX12_sheet 75 = .ok (.aload_n 0, 1) := by decide +kernel
theorem dX12_sheet_76 : decode cX12_sheet 76 = .ok (.getfield 28, 3) := by decide +kernel
theorem dX12_sheet_79 : decode cX12_sheet 79 = .ok (.iload_n 1, 1) := by decide +kernel
theorem dX12_sheet_80 : decode cX12_sheet 80 = .ok (.iload_n 2, 1) := by decide +kernel
theorem dX12_sheet_81 : decode cX12_sheet 81 = .ok (.ifCond .ne 7, 3) := by decide +kernel
theorem dX12_sheet_84 : decode cX12_sheet 84 = .ok (.iconst 0, 1) := by decide +kernel
theorem dX12_sheet_85 : decode cX12_sheet 85 = .ok (.goto 4, 3) := by decide +kernel
theorem dX12_sheet_88 : decode cX12_sheet 88 = .ok (.iload_n 3, 1) := by decide +kernel
theorem dX12_sheet_89 : decode cX12_sheet 89 = .ok (.iastore, 1) := by decide +kernel
theorem dX12_sheet_90 : decode cX12_sheet 90 = .ok (.iconst 0, 1) := by decide +kernel
theorem dX12_sheet_91 : decode cX12_sheet 91 = .ok (.istore 4, 2) := by decide +kernel
theorem dX12_sheet_93 : decode cX12_sheet 93 = .ok (.iload 4, 2) := by decide +kernel
theorem dX12_sheet_95 : decode cX12_sheet 95 = .ok (.bipush 40, 2) := by decide +kernel
theorem dX12_sheet_97 : decode cX12_sheet 97 = .ok (.if_icmp .ge 22, 3) := by decide +kernel
theorem dX12_sheet_100 : decode cX12_sheet 100 = .ok (.aload_n 0, 1) := by decide +kernel
theorem dX12_sheet_101 : decode cX12_sheet 101 = .ok (.getfield 31, 3) := by decide +kernel
theorem dX12_sheet_104 : decode cX12_sheet 104 = .ok (.bipush 40, 2) := by decide +kernel
theorem dX12_sheet_106 : decode cX12_sheet 106 = .ok (.iload_n 1, 1) := by decide +kernel
theorem dX12_sheet_107 : decode cX12_sheet 107 = .ok (.imul, 1) := by decide +kernel
theorem dX12_sheet_108 : decode cX12_sheet 108 = .ok (.iload 4, 2) := by decide +kernel
theorem dX12_sheet_110 : decode cX12_sheet 110 = .ok (.iadd, 1) := by decide +kernel
theorem dX12_sheet_111 : decode cX12_sheet 111 = .ok (.iconst 0, 1) := by decide +kernel
theorem dX12_sheet_112 : decode cX12_sheet 112 = .ok (.iastore, 1) := by decide +kernel
theorem dX12_sheet_113 : decode cX12_sheet 113 = .ok (.iinc 4 1, 3) := by decide +kernel
theorem dX12_sheet_116 : decode cX12_sheet 116 = .ok (.goto (-23), 3) := by decide +kernel
theorem dX12_sheet_119 : decode cX12_sheet 119 = .ok (.iconst 1, 1) := by decide +kernel
theorem dX12_sheet_120 : decode cX12_sheet 120 = .ok (.ireturn, 1) := by decide +kernel
theorem dX12_put_0 : decode cX12_put 0 = .ok (.iload_n 1, 1) := by decide +kernel
theorem dX12_put_1 : decode cX12_put 1 = .ok (.invokestatic 203, 3) := by decide +kernel
theorem dX12_put_4 : decode cX12_put 4 = .ok (.ifCond .ne 10, 3) := by decide +kernel
theorem dX12_put_7 : decode cX12_put 7 = .ok (.aload_n 0, 1) := by decide +kernel
theorem dX12_put_8 : decode cX12_put 8 = .ok (.ldc 45, 2) := by decide +kernel
theorem dX12_put_10 : decode cX12_put 10 = .ok (.invokevirtual 46, 3) := by decide +kernel
theorem dX12_put_13 : decode cX12_put 13 = .ok (.ireturn, 1) := by decide +kernel
theorem dX12_put_14 : decode cX12_put 14 = .ok (.aload_n 0, 1) := by decide +kernel
theorem dX12_put_15 : decode cX12_put 15 = .ok (.getfield 25, 3) := by decide +kernel
theorem dX12_put_18 : decode cX12_put 18 = .ok (.iload_n 1, 1) := by decide +kernel
theorem dX12_put_19 : decode cX12_put 19 = .ok (.iaload, 1) := by decide +kernel
theorem dX12_put_20 : decode cX12_put 20 = .ok (.ifCond .ne 10, 3) := by decide +kernel
theorem dX12_put_23 : decode cX12_put 23 = .ok (.aload_n 0, 1) := by decide +kernel
theorem dX12_put_24 : decode cX12_put 24 = .ok (.ldc 189, 2) := by decide +kernel
theorem dX12_put_26 : decode cX12_put 26 = .ok (.invokevirtual 46, 3) := by decide +kernel
theorem dX12_put_29 : decode cX12_put 29 = .ok (.ireturn, 1) := by decide +kernel
theorem dX12_put_30 : decode cX12_put 30 = .ok (.iload_n 2, 1) := by decide +kernel
theorem dX12_put_31 : decode cX12_put 31 = .ok (.iconst 0, 1) := by decide +kernel
theorem dX12_put_32 : decode cX12_put 32 = .ok (.aload_n 0, 1) := by decide +kernel
theorem dX12_put_33 : decode cX12_put 33 = .ok (.getfield 28, 3) := by decide +kernel
theorem dX12_put_36 : decode cX12_put 36 = .ok (.iload_n 1, 1) := by decide +kernel
theorem dX12_put_37 : decode cX12_put 37 = .ok (.iaload, 1) := by decide +kernel
theorem dX12_put_38 : decode cX12_put 38 = .ok (.iconst 1, 1) := by decide +kernel
theorem dX12_put_39 : decode cX12_put 39 = .ok (.isub, 1) := by decide +kernel
theorem dX12_put_40 : decode cX12_put 40 = .ok (.invokestatic 41, 3) := by decide +kernel
theorem dX12_put_43 : decode cX12_put 43 = .ok (.ifCond .ne 10, 3) := by decide +kernel
theorem dX12_put_46 : decode cX12_put 46 = .ok (.aload_n 0, 1) := by decide +kernel
theorem dX12_put_47 : decode cX12_put 47 = .ok (.ldc 45, 2) := by decide +kernel
theorem dX12_put_49 : decode cX12_put 49 = .ok (.invokevirtual 46, 3) := by decide +kernel
theorem dX12_put_52 : decode cX12_put 52 = .ok (.ireturn, 1) := by decide +kernel
theorem dX12_put_53 : decode cX12_put 53 = .ok (.aload_n 0, 1) := by decide +kernel
theorem dX12_put_54 : decode cX12_put 54 = .ok (.getfield 31, 3) := by decide +kernel
theorem dX12_put_57 : decode cX12_put 57 = .ok (.bipush 40, 2) := by decide +kernel
theorem dX12_put_59 : decode cX12_put 59 = .ok (.iload_n 1, 1) := by decide +kernel
theorem dX12_put_60 : decode cX12_put 60 = .ok (.imul, 1) := by decide +kernel
theorem dX12_put_61 : decode cX12_put 61 = .ok (.iload_n 2, 1) := by decide +kernel
theorem dX12_put_62 : decode cX12_put 62 = .ok (.iadd, 1) := by decide +kernel
theorem dX12_put_63 : decode cX12_put 63 = .ok (.aload_n 0, 1) := by decide +kernel
theorem dX12_put_64 : decode cX12_put 64 = .ok (.getfield 25, 3) := by decide +kernel
theorem dX12_put_67 : decode cX12_put 67 = .ok (.iload_n 1, 1) := by decide +kernel
theorem dX12_put_68 : decode cX12_put 68 = .ok (.iaload, 1) := by decide +kernel
theorem dX12_put_69 : decode cX12_put 69 = .ok (.iload_n 3, 1) := by decide +kernel
theorem dX12_put_70 : decode cX12_put 70 = .ok (.invokestatic 239, 3) := by decide +kernel
theorem dX12_put_73 : decode cX12_put 73 = .ok (.iastore, 1) := by decide +kernel
theorem dX12_put_74 : decode cX12_put 74 = .ok (.iconst 1, 1) := by decide +kernel
theorem dX12_put_75 : decode cX12_put 75 = .ok (.ireturn, 1) := by decide +kernel
theorem dX12_move_0 : decode cX12_move 0 = .ok (.iload_n 1, 1) := by decide +kernel
theorem dX12_move_1 : decode cX12_move 1 = .ok (.invokestatic 203, 3) := by decide +kernel
theorem dX12_move_4 : decode cX12_move 4 = .ok (.ifCond .eq 10, 3) := by decide +kernel
theorem dX12_move_7 : decode cX12_move 7 = .ok (.iload_n 3, 1) := by decide +kernel
theorem dX12_move_8 : decode cX12_move 8 = .ok (.invokestatic 203, 3) := by decide +kernel
theorem dX12_move_11 : decode cX12_move 11 = .ok (.ifCond .ne 10, 3) := by decide +kernel
theorem dX12_move_14 : decode cX12_move 14 = .ok (.aload_n 0, 1) := by decide +kernel
theorem dX12_move_15 : decode cX12_move 15 = .ok (.ldc 45, 2) := by decide +kernel
theorem dX12_move_17 : decode cX12_move 17 = .ok (.invokevirtual 46, 3) := by decide +kernel
theorem dX12_move_20 : decode cX12_move 20 = .ok (.ireturn, 1) := by decide +kernel
theorem dX12_move_21 : decode cX12_move 21 = .ok (.aload_n 0, 1) := by decide +kernel
theorem dX12_move_22 : decode cX12_move 22 = .ok (.getfield 25, 3) := by decide +kernel
theorem dX12_move_25 : decode cX12_move 25 = .ok (.iload_n 1, 1) := by decide +kernel
theorem dX12_move_26 : decode cX12_move 26 = .ok (.iaload, 1) := by decide +kernel
theorem dX12_move_27 : decode cX12_move 27 = .ok (.ifCond .eq 12, 3) := by decide +kernel
theorem dX12_move_30 : decode cX12_move 30 = .ok (.aload_n 0, 1) := by decide +kernel
theorem dX12_move_31 : decode cX12_move 31 = .ok (.getfield 25, 3) := by decide +kernel
theorem dX12_move_34 : decode cX12_move 34 = .ok (.iload_n 3, 1) := by decide +kernel
theorem dX12_move_35 : decode cX12_move 35 = .ok (.iaload, 1) := by decide +kernel
theorem dX12_move_36 : decode cX12_move 36 = .ok (.ifCond .ne 10, 3) := by decide +kernel
theorem dX12_move_39 : decode cX12_move 39 = .ok (.aload_n 0, 1) := by decide +kernel
theorem dX12_move_40 : decode cX12_move 40 = .ok (.ldc 189, 2) := by decide +kernel
theorem dX12_move_42 : decode cX12_move 42 = .ok (.invokevirtual 46, 3) := by decide +kernel
theorem dX12_move_45 : decode cX12_move 45 = .ok (.ireturn, 1) := by decide +kernel
theorem dX12_move_46 : decode cX12_move 46 = .ok (.aload_n 0, 1) := by decide +kernel
theorem dX12_move_47 : decode cX12_move 47 = .ok (.getfield 25, 3) := by decide +kernel
theorem dX12_move_50 : decode cX12_move 50 = .ok (.iload_n 1, 1) := by decide +kernel
theorem dX12_move_51 : decode cX12_move 51 = .ok (.iaload, 1) := by decide +kernel
theorem dX12_move_52 : decode cX12_move 52 = .ok (.aload_n 0, 1) := by decide +kernel
theorem dX12_move_53 : decode cX12_move 53 = .ok (.getfield 25, 3) := by decide +kernel
theorem dX12_move_56 : decode cX12_move 56 = .ok (.iload_n 3, 1) := by decide +kernel
theorem dX12_move_57 : decode cX12_move 57 = .ok (.iaload, 1) := by decide +kernel
theorem dX12_move_58 : decode cX12_move 58 = .ok (.if_icmp .eq 10, 3) := by decide +kernel
theorem dX12_move_61 : decode cX12_move 61 = .ok (.aload_n 0, 1) := by decide +kernel
theorem dX12_move_62 : decode cX12_move 62 = .ok (.ldc 76, 2) := by decide +kernel
theorem dX12_move_64 : decode cX12_move 64 = .ok (.invokevirtual 46, 3) := by decide +kernel
theorem dX12_move_67 : decode cX12_move 67 = .ok (.ireturn, 1) := by decide +kernel
theorem dX12_move_68 : decode cX12_move 68 = .ok (.iload 5, 2) := by decide +kernel
theorem dX12_move_70 : decode cX12_move 70 = .ok (.ifCond .lt 39, 3) := by decide +kernel
theorem dX12_move_73 : decode cX12_move 73 = .ok (.iload_n 2, 1) := by decide +kernel
theorem dX12_move_74 : decode cX12_move 74 = .ok (.ifCond .lt 35, 3) := by decide +kernel
theorem dX12_move_77 : decode cX12_move 77 = .ok (.iload 4, 2) := by decide +kernel
theorem dX12_move_79 : decode cX12_move 79 = .ok (.ifCond .lt 30, 3) := by decide +kernel
theorem dX12_move_82 : decode cX12_move 82 = .ok (.iload_n 2, 1) := by decide +kernel
theorem dX12_move_83 : decode cX12_move 83 = .ok (.aload_n 0, 1) := by decide +kernel
theorem dX12_move_84 : decode cX12_move 84 = .ok (.getfield 28, 3) := by decide +kernel
theorem dX12_move_87 : decode cX12_move 87 = .ok (.iload_n 1, 1) := by decide +kernel
theorem dX12_move_88 : decode cX12_move 88 = .ok (.iaload, 1) := by decide +kernel
theorem dX12_move_89 : decode cX12_move 89 = .ok (.iload 5, 2) := by decide +kernel
theorem dX12_move_91 : decode cX12_move 91 = .ok (.isub, 1) := by decide +kernel
theorem dX12_move_92 : decode cX12_move 92 = .ok (.if_icmp .gt 17, 3) := by decide +kernel
theorem dX12_move_95 : decode cX12_move 95 = .ok (.iload 4, 2) := by decide +kernel
theorem dX12_move_97 : decode cX12_move 97 = .ok (.aload_n 0, 1) := by decide +kernel
theorem dX12_move_98 : decode cX12_move 98 = .ok (.getfield 28, 3) := by decide +kernel
theorem dX12_move_101 : decode cX12_move 101 = .ok (.iload_n 3, 1) := by decide +kernel
theorem dX12_move_102 : decode cX12_move 102 = .ok (.iaload, 1) := by decide +kernel
theorem dX12_move_103 : decode cX12_move 103 = .ok (.iload 5, 2) := by decide +kernel
theorem dX12_move_105 : decode cX12_move 105 = .ok (.isub, 1) := by decide +kernel
theorem dX12_move_106 : decode cX12_move 106 = .ok (.if_icmp .le 10, 3) := by decide +kernel
theorem dX12_move_109 : decode cX12_move 109 = .ok (.aload_n 0, 1) := by decide +kernel
theorem dX12_move_110 : decode cX12_move 110 = .ok (.ldc 45, 2) := by decide +kernel
theorem dX12_move_112 : decode cX12_move 112 = .ok (.invokevirtual 46, 3) := by decide +kernel
theorem dX12_move_115 : decode cX12_move 115 = .ok (.ireturn, 1) := by decide +kernel
theorem dX12_move_116 : decode cX12_move 116 = .ok (.iconst 0, 1) := by decide +kernel
theorem dX12_move_117 : decode cX12_move 117 = .ok (.istore 6, 2) := by decide +kernel
theorem dX12_move_119 : decode cX12_move 119 = .ok (.iload 6, 2) := by decide +kernel
theorem dX12_move_121 : decode cX12_move 121 = .ok (.iload 5, 2) := by decide +kernel
theorem dX12_move_123 : decode cX12_move 123 = .ok (.if_icmp .ge 30, 3) := by decide +kernel
theorem dX12_move_126 : decode cX12_move 126 = .ok (.aload_n 0, 1) := by decide +kernel
theorem dX12_move_127 : decode cX12_move 127 = .ok (.getfield 34, 3) := by decide +kernel
theorem dX12_move_130 : decode cX12_move 130 = .ok (.iload 6, 2) := by decide +kernel
theorem dX12_move_132 : decode cX12_move 132 = .ok (.aload_n 0, 1) := by decide +kernel
theorem dX12_move_133 : decode cX12_move 133 = .ok (.getfield 31, 3) := by decide +kernel
theorem dX12_move_136 : decode cX12_move 136 = .ok (.bipush 40, 2) := by decide +kernel
theorem dX12_move_138 : decode cX12_move 138 = .ok (.iload_n 1, 1) := by decide +kernel
theorem dX12_move_139 : decode cX12_move 139 = .ok (.imul, 1) := by decide +kernel
theorem dX12_move_140 : decode cX12_move 140 = .ok (.iload_n 2, 1) := by decide +kernel
theorem dX12_move_141 : decode cX12_move 141 = .ok (.iadd, 1) := by decide +kernel
theorem dX12_move_142 : decode cX12_move 142 = .ok (.iload 6, 2) := by decide +kernel
theorem dX12_move_144 : decode cX12_move 144 = .ok (.iadd, 1) := by decide +kernel
theorem dX12_move_145 : decode cX12_move 145 = .ok (.iaload, 1) := by decide +kernel
theorem dX12_move_146 : decode cX12_move 146 = .ok (.iastore, 1) := by decide +kernel
theorem dX12_move_147 : decode cX12_move 147 = .ok (.iinc 6 1, 3) := by decide +kernel
theorem dX12_move_150 : decode cX12_move 150 = .ok (.goto (-31), 3) := by decide +kernel
theorem dX12_move_153 : decode cX12_move 153 = .ok (.iconst 0, 1) := by decide +kernel
theorem dX12_move_154 : decode cX12_move 154 = .ok (.istore 6, 2) := by decide +kernel
theorem dX12_move_156 : decode cX12_move 156 = .ok (.iload 6, 2) := by decide +kernel
theorem dX12_move_158 : decode cX12_move 158 = .ok (.iload 5, 2) := by decide +kernel
theorem dX12_move_160 : decode cX12_move 160 = .ok (.if_icmp .ge 31, 3) := by decide +kernel
theorem dX12_move_163 : decode cX12_move 163 = .ok (.aload_n 0, 1) := by decide +kernel
theorem dX12_move_164 : decode cX12_move 164 = .ok (.getfield 31, 3) := by decide +kernel
theorem dX12_move_167 : decode cX12_move 167 = .ok (.bipush 40, 2) := by decide +kernel
theorem dX12_move_169 : decode cX12_move 169 = .ok (.iload_n 3, 1) := by decide +kernel
theorem dX12_move_170 : decode cX12_move 170 = .ok (.imul, 1) := by decide +kernel
theorem dX12_move_171 : decode cX12_move 171 = .ok (.iload 4, 2) := by decide +kernel
theorem dX12_move_173 : decode cX12_move 173 = .ok (.iadd, 1) := by decide +kernel
theorem dX12_move_174 : decode cX12_move 174 = .ok (.iload 6, 2) := by decide +kernel
theorem dX12_move_176 : decode cX12_move 176 = .ok (.iadd, 1) := by decide +kernel
theorem dX12_move_177 : decode cX12_move 177 = .ok (.aload_n 0, 1) := by decide +kernel
theorem dX12_move_178 : decode cX12_move 178 = .ok (.getfield 34, 3) := by decide +kernel
theorem dX12_move_181 : decode cX12_move 181 = .ok (.iload 6, 2) := by decide +kernel
theorem dX12_move_183 : decode cX12_move 183 = .ok (.iaload, 1) := by decide +kernel
theorem dX12_move_184 : decode cX12_move 184 = .ok (.iastore, 1) := by decide +kernel
theorem dX12_move_185 : decode cX12_move 185 = .ok (.iinc 6 1, 3) := by decide +kernel
theorem dX12_move_188 : decode cX12_move 188 = .ok (.goto (-32), 3) := by decide +kernel
theorem dX12_move_191 : decode cX12_move 191 = .ok (.iload 5, 2) := by decide +kernel
theorem dX12_move_193 : decode cX12_move 193 = .ok (.ireturn, 1) := by decide +kernel
theorem dX12_dirts_0 : decode cX12_dirts 0 = .ok (.iload_n 1, 1) := by decide +kernel
theorem dX12_dirts_1 : decode cX12_dirts 1 = .ok (.invokestatic 203, 3) := by decide +kernel
theorem dX12_dirts_4 : decode cX12_dirts 4 = .ok (.ifCond .ne 10, 3) := by decide +kernel
theorem dX12_dirts_7 : decode cX12_dirts 7 = .ok (.aload_n 0, 1) := by decide +kernel
theorem dX12_dirts_8 : decode cX12_dirts 8 = .ok (.ldc 45, 2) := by decide +kernel
theorem dX12_dirts_10 : decode cX12_dirts 10 = .ok (.invokevirtual 46, 3) := by decide +kernel
theorem dX12_dirts_13 : decode cX12_dirts 13 = .ok (.ireturn, 1) := by decide +kernel
theorem dX12_dirts_14 : decode cX12_dirts 14 = .ok (.aload_n 0, 1) := by decide +kernel
theorem dX12_dirts_15 : decode cX12_dirts 15 = .ok (.getfield 25, 3) := by decide +kernel
theorem dX12_dirts_18 : decode cX12_dirts 18 = .ok (.iload_n 1, 1) := by decide +kernel
theorem dX12_dirts_19 : decode cX12_dirts 19 = .ok (.iaload, 1) := by decide +kernel
theorem dX12_dirts_20 : decode cX12_dirts 20 = .ok (.ifCond .ne 10, 3) := by decide +kernel
theorem dX12_dirts_23 : decode cX12_dirts 23 = .ok (.aload_n 0, 1) := by decide +kernel
theorem dX12_dirts_24 : decode cX12_dirts 24 = .ok (.ldc 189, 2) := by decide +kernel
theorem dX12_dirts_26 : decode cX12_dirts 26 = .ok (.invokevirtual 46, 3) := by decide +kernel
theorem dX12_dirts_29 : decode cX12_dirts 29 = .ok (.ireturn, 1) := by decide +kernel
theorem dX12_dirts_30 : decode cX12_dirts 30 = .ok (.iconst 0, 1) := by decide +kernel
theorem dX12_dirts_31 : decode cX12_dirts 31 = .ok (.istore_n 2, 1) := by decide +kernel
theorem dX12_dirts_32 : decode cX12_dirts 32 = .ok (.iload_n 2, 1) := by decide +kernel
theorem dX12_dirts_33 : decode cX12_dirts 33 = .ok (.aload_n 0, 1) := by decide +kernel
theorem dX12_dirts_34 : decode cX12_dirts 34 = .ok (.getfield 28, 3) := by decide +kernel
theorem dX12_dirts_37 : decode cX12_dirts 37 = .ok (.iload_n 1, 1) := by decide +kernel
theorem dX12_dirts_38 : decode cX12_dirts 38 = .ok (.iaload, 1) := by decide +kernel
theorem dX12_dirts_39 : decode cX12_dirts 39 = .ok (.if_icmp .ge 55, 3) := by decide +kernel
theorem dX12_dirts_42 : decode cX12_dirts 42 = .ok (.aload_n 0, 1) := by decide +kernel
theorem dX12_dirts_43 : decode cX12_dirts 43 = .ok (.iload_n 2, 1) := by decide +kernel
theorem dX12_dirts_44 : decode cX12_dirts 44 = .ok (.invokevirtual 55, 3) := by decide +kernel
theorem dX12_dirts_47 : decode cX12_dirts 47 = .ok (.ifCond .eq 47, 3) := by decide +kernel
theorem dX12_dirts_50 : decode cX12_dirts 50 = .ok (.aload_n 0, 1) := by decide +kernel
theorem dX12_dirts_51 : decode cX12_dirts 51 = .ok (.getfield 31, 3) := by decide +kernel
theorem dX12_dirts_54 : decode cX12_dirts 54 = .ok (.bipush 40, 2) := by decide +kernel
theorem dX12_dirts_56 : decode cX12_dirts 56 = .ok (.iload_n 1, 1) := by decide +kernel
theorem dX12_dirts_57 : decode cX12_dirts 57 = .ok (.imul, 1) := by decide +kernel
theorem dX12_dirts_58 : decode cX12_dirts 58 = .ok (.iload_n 2, 1) := by decide +kernel
theorem dX12_dirts_59 : decode cX12_dirts 59 = .ok (.iadd, 1) := by decide +kernel
theorem dX12_dirts_60 : decode cX12_dirts 60 = .ok (.iaload, 1) := by decide +kernel
theorem dX12_dirts_61 : decode cX12_dirts 61 = .ok (.iconst 0, 1) := by decide +kernel
theorem dX12_dirts_62 : decode cX12_dirts 62 = .ok (.sipush 999, 3) := by decide +kernel
theorem dX12_dirts_65 : decode cX12_dirts 65 = .ok (.invokestatic 41, 3) := by decide +kernel
theorem dX12_dirts_68 : decode cX12_dirts 68 = .ok (.ifCond .eq 26, 3) := by decide +kernel
theorem dX12_dirts_71 : decode cX12_dirts 71 = .ok (.aload_n 0, 1) := by decide +kernel
theorem dX12_dirts_72 : decode cX12_dirts 72 = .ok (.iload_n 2, 1) := by decide +kernel
theorem dX12_dirts_73 : decode cX12_dirts 73 = .ok (.iconst 2, 1) := by decide +kernel
theorem dX12_dirts_74 : decode cX12_dirts 74 = .ok (.aload_n 0, 1) := by decide +kernel
theorem dX12_dirts_75 : decode cX12_dirts 75 = .ok (.getfield 31, 3) := by decide +kernel
theorem dX12_dirts_78 : decode cX12_dirts 78 = .ok (.bipush 40, 2) := by decide +kernel
theorem dX12_dirts_80 : decode cX12_dirts 80 = .ok (.iload_n 1, 1) := by decide +kernel
theorem dX12_dirts_81 : decode cX12_dirts 81 = .ok (.imul, 1) := by decide +kernel
theorem dX12_dirts_82 : decode cX12_dirts 82 = .ok (.iload_n 2, 1) := by decide +kernel
theorem dX12_dirts_83 : decode cX12_dirts 83 = .ok (.iadd, 1) := by decide +kernel
theorem dX12_dirts_84 : decode cX12_dirts 84 = .ok (.iaload, 1) := by decide +kernel
theorem dX12_dirts_85 : decode cX12_dirts 85 = .ok (.invokevirtual 51, 3) := by decide +kernel
theorem dX12_dirts_88 : decode cX12_dirts 88 = .ok (.iinc 2 1, 3) := by decide +kernel
theorem dX12_dirts_91 : decode cX12_dirts 91 = .ok (.goto (-59), 3) := by decide +kernel
theorem dX12_dirts_94 : decode cX12_dirts 94 = .ok (.iload_n 2, 1) := by decide +kernel
theorem dX12_dirts_95 : decode cX12_dirts 95 = .ok (.ireturn, 1) := by decide +kernel
theorem dX12_judge_0 : decode cX12_judge 0 = .ok (.iload_n 1, 1) := by decide +kernel
theorem dX12_judge_1 : decode cX12_judge 1 = .ok (.invokestatic 203, 3) := by decide +kernel
theorem dX12_judge_4 : decode cX12_judge 4 = .ok (.ifCond .ne 10, 3) := by decide +kernel
theorem dX12_judge_7 : decode cX12_judge 7 = .ok (.aload_n 0, 1) := by decide +kernel
theorem dX12_judge_8 : decode cX12_judge 8 = .ok (.ldc 45, 2) := by decide +kernel
theorem dX12_judge_10 : decode cX12_judge 10 = .ok (.invokevirtual 46, 3) := by decide +kernel
theorem dX12_judge_13 : decode cX12_judge 13 = .ok (.ireturn, 1) := by decide +kernel
theorem dX12_judge_14 : decode cX12_judge 14 = .ok (.aload_n 0, 1) := by decide +kernel
theorem dX12_judge_15 : decode cX12_judge 15 = .ok (.getfield 25, 3) := by decide +kernel
theorem dX12_judge_18 : decode cX12_judge 18 = .ok (.iload_n 1, 1) := by decide +kernel
theorem dX12_judge_19 : decode cX12_judge 19 = .ok (.iaload, 1) := by decide +kernel
theorem dX12_judge_20 : decode cX12_judge 20 = .ok (.ifCond .ne 10, 3) := by decide +kernel
theorem dX12_judge_23 : decode cX12_judge 23 = .ok (.aload_n 0, 1) := by decide +kernel
theorem dX12_judge_24 : decode cX12_judge 24 = .ok (.ldc 189, 2) := by decide +kernel
theorem dX12_judge_26 : decode cX12_judge 26 = .ok (.invokevirtual 46, 3) := by decide +kernel
theorem dX12_judge_29 : decode cX12_judge 29 = .ok (.ireturn, 1) := by decide +kernel
theorem dX12_judge_30 : decode cX12_judge 30 = .ok (.iconst 0, 1) := by decide +kernel
theorem dX12_judge_31 : decode cX12_judge 31 = .ok (.istore_n 2, 1) := by decide +kernel
theorem dX12_judge_32 : decode cX12_judge 32 = .ok (.iload_n 2, 1) := by decide +kernel
theorem dX12_judge_33 : decode cX12_judge 33 = .ok (.aload_n 0, 1) := by decide +kernel
theorem dX12_judge_34 : decode cX12_judge 34 = .ok (.getfield 7, 3) := by decide +kernel
theorem dX12_judge_37 : decode cX12_judge 37 = .ok (.iconst 2, 1) := by decide +kernel
theorem dX12_judge_38 : decode cX12_judge 38 = .ok (.iaload, 1) := by decide +kernel
theorem dX12_judge_39 : decode cX12_judge 39 = .ok (.if_icmp .ge 39, 3) := by decide +kernel
theorem dX12_judge_42 : decode cX12_judge 42 = .ok (.iload_n 2, 1) := by decide +kernel
theorem dX12_judge_43 : decode cX12_judge 43 = .ok (.aload_n 0, 1) := by decide +kernel
theorem dX12_judge_44 : decode cX12_judge 44 = .ok (.getfield 28, 3) := by decide +kernel
theorem dX12_judge_47 : decode cX12_judge 47 = .ok (.iload_n 1, 1) := by decide +kernel
theorem dX12_judge_48 : decode cX12_judge 48 = .ok (.iaload, 1) := by decide +kernel
theorem dX12_judge_49 : decode cX12_judge 49 = .ok (.if_icmp .ge 29, 3) := by decide +kernel
theorem dX12_judge_52 : decode cX12_judge 52 = .ok (.aload_n 0, 1) := by decide +kernel
theorem dX12_judge_53 : decode cX12_judge 53 = .ok (.getfield 31, 3) := by decide +kernel
theorem dX12_judge_56 : decode cX12_judge 56 = .ok (.bipush 40, 2) := by decide +kernel
theorem dX12_judge_58 : decode cX12_judge 58 = .ok (.iload_n 1, 1) := by decide +kernel
theorem dX12_judge_59 : decode cX12_judge 59 = .ok (.imul, 1) := by decide +kernel
theorem dX12_judge_60 : decode cX12_judge 60 = .ok (.iload_n 2, 1) := by decide +kernel
theorem dX12_judge_61 : decode cX12_judge 61 = .ok (.iadd, 1) := by decide +kernel
theorem dX12_judge_62 : decode cX12_judge 62 = .ok (.iaload, 1) := by decide +kernel
theorem dX12_judge_63 : decode cX12_judge 63 = .ok (.aload_n 0, 1) := by decide +kernel
theorem dX12_judge_64 : decode cX12_judge 64 = .ok (.iload_n 2, 1) := by decide +kernel
theorem dX12_judge_65 : decode cX12_judge 65 = .ok (.iconst 3, 1) := by decide +kernel
theorem dX12_judge_66 : decode cX12_judge 66 = .ok (.invokevirtual 59, 3) := by decide +kernel
theorem dX12_judge_69 : decode cX12_judge 69 = .ok (.if_icmp .ne 9, 3) := by decide +kernel
theorem dX12_judge_72 : decode cX12_judge 72 = .ok (.iinc 2 1, 3) := by decide +kernel
theorem dX12_judge_75 : decode cX12_judge 75 = .ok (.goto (-43), 3) := by decide +kernel
theorem dX12_judge_78 : decode cX12_judge 78 = .ok (.iload_n 2, 1) := by decide +kernel
theorem dX12_judge_79 : decode cX12_judge 79 = .ok (.aload_n 0, 1) := by decide +kernel
theorem dX12_judge_80 : decode cX12_judge 80 = .ok (.getfield 7, 3) := by decide +kernel
theorem dX12_judge_83 : decode cX12_judge 83 = .ok (.iconst 2, 1) := by decide +kernel
theorem dX12_judge_84 : decode cX12_judge 84 = .ok (.iaload, 1) := by decide +kernel
theorem dX12_judge_85 : decode cX12_judge 85 = .ok (.if_icmp .ne 17, 3) := by decide +kernel
theorem dX12_judge_88 : decode cX12_judge 88 = .ok (.iload_n 2, 1) := by decide +kernel
theorem dX12_judge_89 : decode cX12_judge 89 = .ok (.aload_n 0, 1) := by decide +kernel
theorem dX12_judge_90 : decode cX12_judge 90 = .ok (.getfield 28, 3) := by decide +kernel
theorem dX12_judge_93 : decode cX12_judge 93 = .ok (.iload_n 1, 1) := by decide +kernel
theorem dX12_judge_94 : decode cX12_judge 94 = .ok (.iaload, 1) := by decide +kernel
theorem dX12_judge_95 : decode cX12_judge 95 = .ok (.if_icmp .ne 7, 3) := by decide +kernel
theorem dX12_judge_98 : decode cX12_judge 98 = .ok (.iconst (-1), 1) := by decide +kernel
theorem dX12_judge_99 : decode cX12_judge 99 = .ok (.goto 4, 3) := by decide +kernel
theorem dX12_judge_102 : decode cX12_judge 102 = .ok (.iload_n 2, 1) := by decide +kernel
theorem dX12_judge_103 : decode cX12_judge 103 = .ok (.ireturn, 1) := by decide +kernel
theorem dX12_image_0 : decode cX12_image 0 = .ok (.aload_n 0, 1) := by decide +kernel
theorem dX12_image_1 : decode cX12_image 1 = .ok (.aload_n 0, 1) := by decide +kernel
theorem dX12_image_2 : decode cX12_image 2 = .ok (.getfield 7, 3) := by decide +kernel
theorem dX12_image_5 : decode cX12_image 5 = .ok (.aload_n 0, 1) := by decide +kernel
theorem dX12_image_6 : decode cX12_image 6 = .ok (.getfield 13, 3) := by decide +kernel
theorem dX12_image_9 : decode cX12_image 9 = .ok (.invokevirtual 150, 3) := by decide +kernel
theorem dX12_image_12 : decode cX12_image 12 = .ok (.aload_n 0, 1) := by decide +kernel
theorem dX12_image_13 : decode cX12_image 13 = .ok (.iconst 1, 1) := by decide +kernel
theorem dX12_image_14 : decode cX12_image 14 = .ok (.putfield 242, 3) := by decide +kernel
theorem dX12_image_17 : decode cX12_image 17 = .ok (.aload_n 0, 1) := by decide +kernel
theorem dX12_image_18 : decode cX12_image 18 = .ok (.dup, 1) := by decide +kernel
theorem dX12_image_19 : decode cX12_image 19 = .ok (.getfield 245, 3) := by decide +kernel
theorem dX12_image_22 : decode cX12_image 22 = .ok (.iconst 1, 1) := by decide +kernel
theorem dX12_image_23 : decode cX12_image 23 = .ok (.iadd, 1) := by decide +kernel
theorem dX12_image_24 : decode cX12_image 24 = .ok (.putfield 245, 3) := by decide +kernel
theorem dX12_image_27 : decode cX12_image 27 = .ok (.aload_n 0, 1) := by decide +kernel
theorem dX12_image_28 : decode cX12_image 28 = .ok (.getfield 245, 3) := by decide +kernel
theorem dX12_image_31 : decode cX12_image 31 = .ok (.ireturn, 1) := by decide +kernel
theorem dX12_restore_0 : decode cX12_restore 0 = .ok (.aload_n 0, 1) := by decide +kernel
theorem dX12_restore_1 : decode cX12_restore 1 = .ok (.getfield 242, 3) := by decide +kernel
theorem dX12_restore_4 : decode cX12_restore 4 = .ok (.ifCond .ne 10, 3) := by decide +kernel
theorem dX12_restore_7 : decode cX12_restore 7 = .ok (.aload_n 0, 1) := by decide +kernel
theorem dX12_restore_8 : decode cX12_restore 8 = .ok (.ldc 189, 2) := by decide +kernel
theorem dX12_restore_10 : decode cX12_restore 10 = .ok (.invokevirtual 46, 3) := by decide +kernel
theorem dX12_restore_13 : decode cX12_restore 13 = .ok (.ireturn, 1) := by decide +kernel
theorem dX12_restore_14 : decode cX12_restore 14 = .ok (.aload_n 0, 1) := by decide +kernel
theorem dX12_restore_15 : decode cX12_restore 15 = .ok (.aload_n 0, 1) := by decide +kernel
theorem dX12_restore_16 : decode cX12_restore 16 = .ok (.getfield 13, 3) := by decide +kernel
theorem dX12_restore_19 : decode cX12_restore 19 = .ok (.aload_n 0, 1) := by decide +kernel
theorem dX12_restore_20 : decode cX12_restore 20 = .ok (.getfield 7, 3) := by decide +kernel
theorem dX12_restore_23 : decode cX12_restore 23 = .ok (.invokevirtual 150, 3) := by decide +kernel
theorem dX12_restore_26 : decode cX12_restore 26 = .ok (.aload_n 0, 1) := by decide +kernel
theorem dX12_restore_27 : decode cX12_restore 27 = .ok (.getfield 7, 3) := by decide +kernel
theorem dX12_restore_30 : decode cX12_restore 30 = .ok (.iconst 0, 1) := by decide +kernel
theorem dX12_restore_31 : decode cX12_restore 31 = .ok (.iaload, 1) := by decide +kernel
theorem dX12_restore_32 : decode cX12_restore 32 = .ok (.ireturn, 1) := by decide +kernel
theorem dX12_tell_0 : decode cX12_tell 0 = .ok (.aload_n 0, 1) := by decide +kernel
theorem dX12_tell_1 : decode cX12_tell 1 = .ok (.getfield 7, 3) := by decide +kernel
theorem dX12_tell_4 : decode cX12_tell 4 = .ok (.iconst 4, 1) := by decide +kernel
theorem dX12_tell_5 : decode cX12_tell 5 = .ok (.iaload, 1) := by decide +kernel
theorem dX12_tell_6 : decode cX12_tell 6 = .ok (.bipush 20, 2) := by decide +kernel
theorem dX12_tell_8 : decode cX12_tell 8 = .ok (.if_icmp .ne 10, 3) := by decide +kernel
theorem dX12_tell_11 : decode cX12_tell 11 = .ok (.aload_n 0, 1) := by decide +kernel
theorem dX12_tell_12 : decode cX12_tell 12 = .ok (.ldc 50, 2) := by decide +kernel
theorem dX12_tell_14 : decode cX12_tell 14 = .ok (.invokevirtual 46, 3) := by decide +kernel
theorem dX12_tell_17 : decode cX12_tell 17 = .ok (.ireturn, 1) := by decide +kernel
theorem dX12_tell_18 : decode cX12_tell 18 = .ok (.aload_n 0, 1) := by decide +kernel
theorem dX12_tell_19 : decode cX12_tell 19 = .ok (.getfield 7, 3) := by decide +kernel
theorem dX12_tell_22 : decode cX12_tell 22 = .ok (.bipush 120, 2) := by decide +kernel
theorem dX12_tell_24 : decode cX12_tell 24 = .ok (.aload_n 0, 1) := by decide +kernel
theorem dX12_tell_25 : decode cX12_tell 25 = .ok (.getfield 7, 3) := by decide +kernel
theorem dX12_tell_28 : decode cX12_tell 28 = .ok (.iconst 4, 1) := by decide +kernel
theorem dX12_tell_29 : decode cX12_tell 29 = .ok (.iaload, 1) := by decide +kernel
theorem dX12_tell_30 : decode cX12_tell 30 = .ok (.iadd, 1) := by decide +kernel
theorem dX12_tell_31 : decode cX12_tell 31 = .ok (.iload_n 1, 1) := by decide +kernel
theorem dX12_tell_32 : decode cX12_tell 32 = .ok (.iastore, 1) := by decide +kernel
theorem dX12_tell_33 : decode cX12_tell 33 = .ok (.aload_n 0, 1) := by decide +kernel
theorem dX12_tell_34 : decode cX12_tell 34 = .ok (.getfield 7, 3) := by decide +kernel
theorem dX12_tell_37 : decode cX12_tell 37 = .ok (.iconst 4, 1) := by decide +kernel
theorem dX12_tell_38 : decode cX12_tell 38 = .ok (.dup2, 1) := by decide +kernel
theorem dX12_tell_39 : decode cX12_tell 39 = .ok (.iaload, 1) := by decide +kernel
theorem dX12_tell_40 : decode cX12_tell 40 = .ok (.iconst 1, 1) := by decide +kernel
theorem dX12_tell_41 : decode cX12_tell 41 = .ok (.iadd, 1) := by decide +kernel
theorem dX12_tell_42 : decode cX12_tell 42 = .ok (.iastore, 1) := by decide +kernel
theorem dX12_tell_43 : decode cX12_tell 43 = .ok (.aload_n 0, 1) := by decide +kernel
theorem dX12_tell_44 : decode cX12_tell 44 = .ok (.getfield 7, 3) := by decide +kernel
theorem dX12_tell_47 : decode cX12_tell 47 = .ok (.iconst 4, 1) := by decide +kernel
theorem dX12_tell_48 : decode cX12_tell 48 = .ok (.iaload, 1) := by decide +kernel
theorem dX12_tell_49 : decode cX12_tell 49 = .ok (.ireturn, 1) := by decide +kernel
theorem dX12_check_0 : decode cX12_check 0 = .ok (.aload_n 0, 1) := by decide +kernel
theorem dX12_check_1 : decode cX12_check 1 = .ok (.getfield 7, 3) := by decide +kernel
theorem dX12_check_4 : decode cX12_check 4 = .ok (.iconst 4, 1) := by decide +kernel
theorem dX12_check_5 : decode cX12_check 5 = .ok (.iaload, 1) := by decide +kernel
theorem dX12_check_6 : decode cX12_check 6 = .ok (.istore_n 1, 1) := by decide +kernel
theorem dX12_check_7 : decode cX12_check 7 = .ok (.aload_n 0, 1) := by decide +kernel
theorem dX12_check_8 : decode cX12_check 8 = .ok (.getfield 7, 3) := by decide +kernel
theorem dX12_check_11 : decode cX12_check 11 = .ok (.iconst 4, 1) := by decide +kernel
theorem dX12_check_12 : decode cX12_check 12 = .ok (.iconst 0, 1) := by decide +kernel
theorem dX12_check_13 : decode cX12_check 13 = .ok (.iastore, 1) := by decide +kernel
theorem dX12_check_14 : decode cX12_check 14 = .ok (.aload_n 0, 1) := by decide +kernel
theorem dX12_check_15 : decode cX12_check 15 = .ok (.aload_n 0, 1) := by decide +kernel
theorem dX12_check_16 : decode cX12_check 16 = .ok (.getfield 7, 3) := by decide +kernel
theorem dX12_check_19 : decode cX12_check 19 = .ok (.aload_n 0, 1) := by decide +kernel
theorem dX12_check_20 : decode cX12_check 20 = .ok (.getfield 16, 3) := by decide +kernel
theorem dX12_check_23 : decode cX12_check 23 = .ok (.invokevirtual 150, 3) := by decide +kernel
theorem dX12_check_26 : decode cX12_check 26 = .ok (.iconst 0, 1) := by decide +kernel
theorem dX12_check_27 : decode cX12_check 27 = .ok (.istore_n 2, 1) := by decide +kernel
theorem dX12_check_28 : decode cX12_check 28 = .ok (.iconst 1, 1) := by decide +kernel
theorem dX12_check_29 : decode cX12_check 29 = .ok (.istore_n 3, 1) := by decide +kernel
theorem dX12_check_30 : decode cX12_check 30 = .ok (.iload_n 2, 1) := by decide +kernel
theorem dX12_check_31 : decode cX12_check 31 = .ok (.iload_n 1, 1) := by decide +kernel
theorem dX12_check_32 : decode cX12_check 32 = .ok (.if_icmp .ge 48, 3) := by decide +kernel
theorem dX12_check_35 : decode cX12_check 35 = .ok (.iload_n 3, 1) := by decide +kernel
theorem dX12_check_36 : decode cX12_check 36 = .ok (.ifCond .eq 44, 3) := by decide +kernel
theorem dX12_check_39 : decode cX12_check 39 = .ok (.aload_n 0, 1) := by decide +kernel
theorem dX12_check_40 : decode cX12_check 40 = .ok (.invokevirtual 171, 3) := by decide +kernel
theorem dX12_check_43 : decode cX12_check 43 = .ok (.aload_n 0, 1) := by decide +kernel
theorem dX12_check_44 : decode cX12_check 44 = .ok (.invokevirtual 179, 3) := by decide +kernel
theorem dX12_check_47 : decode cX12_check 47 = .ok (.aload_n 0, 1) := by decide +kernel
theorem dX12_check_48 : decode cX12_check 48 = .ok (.getfield 7, 3) := by decide +kernel
theorem dX12_check_51 : decode cX12_check 51 = .ok (.bipush 120, 2) := by decide +kernel
theorem dX12_check_53 : decode cX12_check 53 = .ok (.iload_n 2, 1) := by decide +kernel
theorem dX12_check_54 : decode cX12_check 54 = .ok (.iadd, 1) := by decide +kernel
theorem dX12_check_55 : decode cX12_check 55 = .ok (.iaload, 1) := by decide +kernel
theorem dX12_check_56 : decode cX12_check 56 = .ok (.if_icmp .ne 7, 3) := by decide +kernel
theorem dX12_check_59 : decode cX12_check 59 = .ok (.iconst 1, 1) := by decide +kernel
theorem dX12_check_60 : decode cX12_check 60 = .ok (.goto 4, 3) := by decide +kernel
theorem dX12_check_63 : decode cX12_check 63 = .ok (.iconst 0, 1) := by decide +kernel
theorem dX12_check_64 : decode cX12_check 64 = .ok (.istore_n 3, 1) := by decide +kernel
theorem dX12_check_65 : decode cX12_check 65 = .ok (.iload_n 2, 1) := by decide +kernel
theorem dX12_check_66 : decode cX12_check 66 = .ok (.iload_n 3, 1) := by decide +kernel
theorem dX12_check_67 : decode cX12_check 67 = .ok (.ifCond .eq 7, 3) := by decide +kernel
theorem dX12_check_70 : decode cX12_check 70 = .ok (.iconst 1, 1) := by decide +kernel
theorem dX12_check_71 : decode cX12_check 71 = .ok (.goto 4, 3) := by decide +kernel
theorem dX12_check_74 : decode cX12_check 74 = .ok (.iconst 0, 1) := by decide +kernel
theorem dX12_check_75 : decode cX12_check 75 = .ok (.iadd, 1) := by decide +kernel
theorem dX12_check_76 : decode cX12_check 76 = .ok (.istore_n 2, 1) := by decide +kernel
theorem dX12_check_77 : decode cX12_check 77 = .ok (.goto (-47), 3) := by decide +kernel
theorem dX12_check_80 : decode cX12_check 80 = .ok (.aload_n 0, 1) := by decide +kernel
theorem dX12_check_81 : decode cX12_check 81 = .ok (.aload_n 0, 1) := by decide +kernel
theorem dX12_check_82 : decode cX12_check 82 = .ok (.getfield 16, 3) := by decide +kernel
theorem dX12_check_85 : decode cX12_check 85 = .ok (.aload_n 0, 1) := by decide +kernel
theorem dX12_check_86 : decode cX12_check 86 = .ok (.getfield 7, 3) := by decide +kernel
theorem dX12_check_89 : decode cX12_check 89 = .ok (.invokevirtual 150, 3) := by decide +kernel
theorem dX12_check_92 : decode cX12_check 92 = .ok (.iload_n 3, 1) := by decide +kernel
theorem dX12_check_93 : decode cX12_check 93 = .ok (.ifCond .eq 7, 3) := by decide +kernel
theorem dX12_check_96 : decode cX12_check 96 = .ok (.iconst 0, 1) := by decide +kernel
theorem dX12_check_97 : decode cX12_check 97 = .ok (.goto 6, 3) := by decide +kernel
theorem dX12_check_100 : decode cX12_check 100 = .ok (.iconst 1, 1) := by decide +kernel
theorem dX12_check_101 : decode cX12_check 101 = .ok (.iload_n 2, 1) := by decide +kernel
theorem dX12_check_102 : decode cX12_check 102 = .ok (.iadd, 1) := by decide +kernel
theorem dX12_check_103 : decode cX12_check 103 = .ok (.ireturn, 1) := by decide +kernel
theorem dX12_count_0 : decode cX12_count 0 = .ok (.iload_n 1, 1) := by decide +kernel
theorem dX12_count_1 : decode cX12_count 1 = .ok (.tableswitch 133 0 10 #[59, 66, 73, 81, 89, 97, 102, 107, 114, 121, 126], 59) := by decide +kernel
theorem dX12_count_60 : decode cX12_count 60 = .ok (.aload_n 0, 1) := by decide +kernel
theorem dX12_count_61 : decode cX12_count 61 = .ok (.getfield 7, 3) := by decide +kernel
theorem dX12_count_64 : decode cX12_count 64 = .ok (.iconst 2, 1) := by decide +kernel
theorem dX12_count_65 : decode cX12_count 65 = .ok (.iaload, 1) := by decide +kernel
theorem dX12_count_66 : decode cX12_count 66 = .ok (.ireturn, 1) := by decide +kernel
theorem dX12_count_67 : decode cX12_count 67 = .ok (.aload_n 0, 1) := by decide +kernel
theorem dX12_count_68 : decode cX12_count 68 = .ok (.getfield 7, 3) := by decide +kernel
theorem dX12_count_71 : decode cX12_count 71 = .ok (.iconst 0, 1) := by decide +kernel
theorem dX12_count_72 : decode cX12_count 72 = .ok (.iaload, 1) := by decide +kernel
theorem dX12_count_73 : decode cX12_count 73 = .ok (.ireturn, 1) := by decide +kernel
theorem dX12_count_74 : decode cX12_count 74 = .ok (.aload_n 0, 1) := by decide +kernel
theorem dX12_count_75 : decode cX12_count 75 = .ok (.getfield 7, 3) := by decide +kernel
theorem dX12_count_78 : decode cX12_count 78 = .ok (.bipush 7, 2) := by decide +kernel
theorem dX12_count_80 : decode cX12_count 80 = .ok (.iaload, 1) := by decide +kernel
theorem dX12_count_81 : decode cX12_count 81 = .ok (.ireturn, 1) := by decide +kernel
theorem dX12_count_82 : decode cX12_count 82 = .ok (.aload_n 0, 1) := by decide +kernel
theorem dX12_count_83 : decode cX12_count 83 = .ok (.getfield 7, 3) := by decide +kernel
theorem dX12_count_86 : decode cX12_count 86 = .ok (.bipush 8, 2) := by decide +kernel
theorem dX12_count_88 : decode cX12_count 88 = .ok (.iaload, 1) := by decide +kernel
theorem dX12_count_89 : decode cX12_count 89 = .ok (.ireturn, 1) := by decide +kernel
theorem dX12_count_90 : decode cX12_count 90 = .ok (.aload_n 0, 1) := by decide +kernel
theorem dX12_count_91 : decode cX12_count 91 = .ok (.getfield 7, 3) := by decide +kernel
theorem dX12_count_94 : decode cX12_count 94 = .ok (.bipush 9, 2) := by decide +kernel
theorem dX12_count_96 : decode cX12_count 96 = .ok (.iaload, 1) := by decide +kernel
theorem dX12_count_97 : decode cX12_count 97 = .ok (.ireturn, 1) := by decide +kernel
theorem dX12_count_98 : decode cX12_count 98 = .ok (.aload_n 0, 1) := by decide +kernel
theorem dX12_count_99 : decode cX12_count 99 = .ok (.invokevirtual 179, 3) := by decide +kernel
theorem dX12_count_102 : decode cX12_count 102 = .ok (.ireturn, 1) := by decide +kernel
theorem dX12_count_103 : decode cX12_count 103 = .ok (.aload_n 0, 1) := by decide +kernel
theorem dX12_count_104 : decode cX12_count 104 = .ok (.invokevirtual 197, 3) := by decide +kernel
theorem dX12_count_107 : decode cX12_count 107 = .ok (.ireturn, 1) := by decide +kernel
theorem dX12_count_108 : decode cX12_count 108 = .ok (.aload_n 0, 1) := by decide +kernel
theorem dX12_count_109 : decode cX12_count 109 = .ok (.getfield 7, 3) := by decide +kernel
theorem dX12_count_112 : decode cX12_count 112 = .ok (.iconst 3, 1) := by decide +kernel
theorem dX12_count_113 : decode cX12_count 113 = .ok (.iaload, 1) := by decide +kernel
theorem dX12_count_114 : decode cX12_count 114 = .ok (.ireturn, 1) := by decide +kernel
theorem dX12_count_115 : decode cX12_count 115 = .ok (.aload_n 0, 1) := by decide +kernel
theorem dX12_count_116 : decode cX12_count 116 = .ok (.getfield 7, 3) := by decide +kernel
theorem dX12_count_119 : decode cX12_count 119 = .ok (.iconst 4, 1) := by decide +kernel
theorem dX12_count_120 : decode cX12_count 120 = .ok (.iaload, 1) := by decide +kernel
theorem dX12_count_121 : decode cX12_count 121 = .ok (.ireturn, 1) := by decide +kernel
theorem dX12_count_122 : decode cX12_count 122 = .ok (.aload_n 0, 1) := by decide +kernel
theorem dX12_count_123 : decode cX12_count 123 = .ok (.getfield 212, 3) := by decide +kernel
theorem dX12_count_126 : decode cX12_count 126 = .ok (.ireturn, 1) := by decide +kernel
theorem dX12_count_127 : decode cX12_count 127 = .ok (.aload_n 0, 1) := by decide +kernel
theorem dX12_count_128 : decode cX12_count 128 = .ok (.getfield 7, 3) := by decide +kernel
theorem dX12_count_131 : decode cX12_count 131 = .ok (.iconst 1, 1) := by decide +kernel
theorem dX12_count_132 : decode cX12_count 132 = .ok (.iaload, 1) := by decide +kernel
theorem dX12_count_133 : decode cX12_count 133 = .ok (.ireturn, 1) := by decide +kernel
theorem dX12_count_134 : decode cX12_count 134 = .ok (.aload_n 0, 1) := by decide +kernel
theorem dX12_count_135 : decode cX12_count 135 = .ok (.ldc 45, 2) := by decide +kernel
theorem dX12_count_137 : decode cX12_count 137 = .ok (.invokevirtual 46, 3) := by decide +kernel
theorem dX12_count_140 : decode cX12_count 140 = .ok (.ireturn, 1) := by decide +kernel
theorem dX12_told_0 : decode cX12_told 0 = .ok (.iload_n 1, 1) := by decide +kernel
theorem dX12_told_1 : decode cX12_told 1 = .ok (.iconst 1, 1) := by decide +kernel
theorem dX12_told_2 : decode cX12_told 2 = .ok (.iconst 5, 1) := by decide +kernel
theorem dX12_told_3 : decode cX12_told 3 = .ok (.invokestatic 41, 3) := by decide +kernel
theorem dX12_told_6 : decode cX12_told 6 = .ok (.ifCond .eq 12, 3) := by decide +kernel
theorem dX12_told_9 : decode cX12_told 9 = .ok (.aload_n 0, 1) := by decide +kernel
theorem dX12_told_10 : decode cX12_told 10 = .ok (.getfield 22, 3) := by decide +kernel
theorem dX12_told_13 : decode cX12_told 13 = .ok (.iload_n 1, 1) := by decide +kernel
theorem dX12_told_14 : decode cX12_told 14 = .ok (.iaload, 1) := by decide +kernel
theorem dX12_told_15 : decode cX12_told 15 = .ok (.goto 9, 3) := by decide +kernel
theorem dX12_told_18 : decode cX12_told 18 = .ok (.aload_n 0, 1) := by decide +kernel
theorem dX12_told_19 : decode cX12_told 19 = .ok (.ldc 45, 2) := by decide +kernel
theorem dX12_told_21 : decode cX12_told 21 = .ok (.invokevirtual 46, 3) := by decide +kernel
theorem dX12_told_24 : decode cX12_told 24 = .ok (.ireturn, 1) := by decide +kernel
theorem dJ11_isValidCodePoint_9a6ad_0 : decode cJ11_isValidCodePoint_9a6ad 0 = .ok (.iload_n 0, 1) := by decide +kernel
theorem dJ11_isValidCodePoint_9a6ad_1 : decode cJ11_isValidCodePoint_9a6ad 1 = .ok (.bipush 16, 2) := by decide +kernel
theorem dJ11_isValidCodePoint_9a6ad_3 : decode cJ11_isValidCodePoint_9a6ad 3 = .ok (.iushr, 1) := by decide +kernel
theorem dJ11_isValidCodePoint_9a6ad_4 : decode cJ11_isValidCodePoint_9a6ad 4 = .ok (.istore_n 1, 1) := by decide +kernel
theorem dJ11_isValidCodePoint_9a6ad_5 : decode cJ11_isValidCodePoint_9a6ad 5 = .ok (.iload_n 1, 1) := by decide +kernel
theorem dJ11_isValidCodePoint_9a6ad_6 : decode cJ11_isValidCodePoint_9a6ad 6 = .ok (.bipush 17, 2) := by decide +kernel
theorem dJ11_isValidCodePoint_9a6ad_8 : decode cJ11_isValidCodePoint_9a6ad 8 = .ok (.if_icmp .ge 7, 3) := by decide +kernel
theorem dJ11_isValidCodePoint_9a6ad_11 : decode cJ11_isValidCodePoint_9a6ad 11 = .ok (.iconst 1, 1) := by decide +kernel
theorem dJ11_isValidCodePoint_9a6ad_12 : decode cJ11_isValidCodePoint_9a6ad 12 = .ok (.goto 4, 3) := by decide +kernel
theorem dJ11_isValidCodePoint_9a6ad_15 : decode cJ11_isValidCodePoint_9a6ad 15 = .ok (.iconst 0, 1) := by decide +kernel
theorem dJ11_isValidCodePoint_9a6ad_16 : decode cJ11_isValidCodePoint_9a6ad 16 = .ok (.ireturn, 1) := by decide +kernel
theorem dJ11_highSurrogate_5068e_0 : decode cJ11_highSurrogate_5068e 0 = .ok (.iload_n 0, 1) := by decide +kernel
theorem dJ11_highSurrogate_5068e_1 : decode cJ11_highSurrogate_5068e 1 = .ok (.bipush 10, 2) := by decide +kernel
theorem dJ11_highSurrogate_5068e_3 : decode cJ11_highSurrogate_5068e 3 = .ok (.iushr, 1) := by decide +kernel
theorem dJ11_highSurrogate_5068e_4 : decode cJ11_highSurrogate_5068e 4 = .ok (.ldc 110, 2) := by decide +kernel
theorem dJ11_highSurrogate_5068e_6 : decode cJ11_highSurrogate_5068e 6 = .ok (.iadd, 1) := by decide +kernel
theorem dJ11_highSurrogate_5068e_7 : decode cJ11_highSurrogate_5068e 7 = .ok (.i2c, 1) := by decide +kernel
theorem dJ11_highSurrogate_5068e_8 : decode cJ11_highSurrogate_5068e 8 = .ok (.ireturn, 1) := by decide +kernel
theorem dJ11_lowSurrogate_5068e_0 : decode cJ11_lowSurrogate_5068e 0 = .ok (.iload_n 0, 1) := by decide +kernel
theorem dJ11_lowSurrogate_5068e_1 : decode cJ11_lowSurrogate_5068e 1 = .ok (.sipush 1023, 3) := by decide +kernel
theorem dJ11_lowSurrogate_5068e_4 : decode cJ11_lowSurrogate_5068e 4 = .ok (.iand, 1) := by decide +kernel
theorem dJ11_lowSurrogate_5068e_5 : decode cJ11_lowSurrogate_5068e 5 = .ok (.ldc 76, 2) := by decide +kernel
theorem dJ11_lowSurrogate_5068e_7 : decode cJ11_lowSurrogate_5068e 7 = .ok (.iadd, 1) := by decide +kernel
theorem dJ11_lowSurrogate_5068e_8 : decode cJ11_lowSurrogate_5068e 8 = .ok (.i2c, 1) := by decide +kernel
theorem dJ11_lowSurrogate_5068e_9 : decode cJ11_lowSurrogate_5068e 9 = .ok (.ireturn, 1) := by decide +kernel
theorem dJ9_max_7cf53_0 : decode cJ9_max_7cf53 0 = .ok (.iload_n 0, 1) := by decide +kernel
theorem dJ9_max_7cf53_1 : decode cJ9_max_7cf53 1 = .ok (.iload_n 1, 1) := by decide +kernel
theorem dJ9_max_7cf53_2 : decode cJ9_max_7cf53 2 = .ok (.if_icmp .lt 7, 3) := by decide +kernel
theorem dJ9_max_7cf53_5 : decode cJ9_max_7cf53 5 = .ok (.iload_n 0, 1) := by decide +kernel
theorem dJ9_max_7cf53_6 : decode cJ9_max_7cf53 6 = .ok (.goto 4, 3) := by decide +kernel
theorem dJ9_max_7cf53_9 : decode cJ9_max_7cf53 9 = .ok (.iload_n 1, 1) := by decide +kernel
theorem dJ9_max_7cf53_10 : decode cJ9_max_7cf53 10 = .ok (.ireturn, 1) := by decide +kernel
theorem dJ9_min_7cf53_0 : decode cJ9_min_7cf53 0 = .ok (.iload_n 0, 1) := by decide +kernel
theorem dJ9_min_7cf53_1 : decode cJ9_min_7cf53 1 = .ok (.iload_n 1, 1) := by decide +kernel
theorem dJ9_min_7cf53_2 : decode cJ9_min_7cf53 2 = .ok (.if_icmp .gt 7, 3) := by decide +kernel
theorem dJ9_min_7cf53_5 : decode cJ9_min_7cf53 5 = .ok (.iload_n 0, 1) := by decide +kernel
theorem dJ9_min_7cf53_6 : decode cJ9_min_7cf53 6 = .ok (.goto 4, 3) := by decide +kernel
theorem dJ9_min_7cf53_9 : decode cJ9_min_7cf53 9 = .ok (.iload_n 1, 1) := by decide +kernel
theorem dJ9_min_7cf53_10 : decode cJ9_min_7cf53 10 = .ok (.ireturn, 1) := by decide +kernel
theorem dJ0_length_8abf5_0 : decode cJ0_length_8abf5 0 = .ok (.aload_n 0, 1) := by decide +kernel
theorem dJ0_length_8abf5_1 : decode cJ0_length_8abf5 1 = .ok (.getfield 9, 3) := by decide +kernel
theorem dJ0_length_8abf5_4 : decode cJ0_length_8abf5 4 = .ok (.arraylength, 1) := by decide +kernel
theorem dJ0_length_8abf5_5 : decode cJ0_length_8abf5 5 = .ok (.aload_n 0, 1) := by decide +kernel
theorem dJ0_length_8abf5_6 : decode cJ0_length_8abf5 6 = .ok (.invokevirtual 335, 3) := by decide +kernel
theorem dJ0_length_8abf5_9 : decode cJ0_length_8abf5 9 = .ok (.ishr, 1) := by decide +kernel
theorem dJ0_length_8abf5_10 : decode cJ0_length_8abf5 10 = .ok (.ireturn, 1) := by decide +kernel
theorem dJ0_indexOf_0f7a4_0 : decode cJ0_indexOf_0f7a4 0 = .ok (.aload_n 0, 1) := by decide +kernel
theorem dJ0_indexOf_0f7a4_1 : decode cJ0_indexOf_0f7a4 1 = .ok (.iload_n 1, 1) := by decide +kernel
theorem dJ0_indexOf_0f7a4_2 : decode cJ0_indexOf_0f7a4 2 = .ok (.iconst 0, 1) := by decide +kernel
theorem dJ0_indexOf_0f7a4_3 : decode cJ0_indexOf_0f7a4 3 = .ok (.invokevirtual 633, 3) := by decide +kernel
theorem dJ0_indexOf_0f7a4_6 : decode cJ0_indexOf_0f7a4 6 = .ok (.ireturn, 1) := by decide +kernel
theorem dJ0_indexOf_7cf53_0 : decode cJ0_indexOf_7cf53 0 = .ok (.aload_n 0, 1) := by decide +kernel
theorem dJ0_indexOf_7cf53_1 : decode cJ0_indexOf_7cf53 1 = .ok (.invokevirtual 492, 3) := by decide +kernel
theorem dJ0_indexOf_7cf53_4 : decode cJ0_indexOf_7cf53 4 = .ok (.ifCond .eq 19, 3) := by decide +kernel
theorem dJ0_indexOf_7cf53_7 : decode cJ0_indexOf_7cf53 7 = .ok (.aload_n 0, 1) := by decide +kernel
theorem dJ0_indexOf_7cf53_8 : decode cJ0_indexOf_7cf53 8 = .ok (.getfield 9, 3) := by decide +kernel
theorem dJ0_indexOf_7cf53_11 : decode cJ0_indexOf_7cf53 11 = .ok (.iload_n 1, 1) := by decide +kernel
theorem dJ0_indexOf_7cf53_12 : decode cJ0_indexOf_7cf53 12 = .ok (.iload_n 2, 1) := by decide +kernel
theorem dJ0_indexOf_7cf53_13 : decode cJ0_indexOf_7cf53 13 = .ok (.aload_n 0, 1) := by decide +kernel
theorem dJ0_indexOf_7cf53_14 : decode cJ0_indexOf_7cf53 14 = .ok (.invokevirtual 505, 3) := by decide +kernel
theorem dJ0_indexOf_7cf53_17 : decode cJ0_indexOf_7cf53 17 = .ok (.invokestatic 637, 3) := by decide +kernel
theorem dJ0_indexOf_7cf53_20 : decode cJ0_indexOf_7cf53 20 = .ok (.goto 16, 3) := by decide +kernel
theorem dJ0_indexOf_7cf53_23 : decode cJ0_indexOf_7cf53 23 = .ok (.aload_n 0, 1) := by decide +kernel
theorem dJ0_indexOf_7cf53_24 : decode cJ0_indexOf_7cf53 24 = .ok (.getfield 9, 3) := by decide +kernel
theorem dJ0_indexOf_7cf53_27 : decode cJ0_indexOf_7cf53 27 = .ok (.iload_n 1, 1) := by decide +kernel
theorem dJ0_indexOf_7cf53_28 : decode cJ0_indexOf_7cf53 28 = .ok (.iload_n 2, 1) := by decide +kernel
theorem dJ0_indexOf_7cf53_29 : decode cJ0_indexOf_7cf53 29 = .ok (.aload_n 0, 1) := by decide +kernel
theorem dJ0_indexOf_7cf53_30 : decode cJ0_indexOf_7cf53 30 = .ok (.invokevirtual 505, 3) := by decide +kernel
theorem dJ0_indexOf_7cf53_33 : decode cJ0_indexOf_7cf53 33 = .ok (.invokestatic 640, 3) := by decide +kernel
theorem dJ0_indexOf_7cf53_36 : decode cJ0_indexOf_7cf53 36 = .ok (.ireturn, 1) := by decide +kernel
theorem dJ0_coder_7d493_0 : decode cJ0_coder_7d493 0 = .ok (.getstatic 38, 3) := by decide +kernel
theorem dJ0_coder_7d493_3 : decode cJ0_coder_7d493 3 = .ok (.ifCond .eq 10, 3) := by decide +kernel
theorem dJ0_coder_7d493_6 : decode cJ0_coder_7d493 6 = .ok (.aload_n 0, 1) := by decide +kernel
theorem dJ0_coder_7d493_7 : decode cJ0_coder_7d493 7 = .ok (.getfield 15, 3) := by decide +kernel
theorem dJ0_coder_7d493_10 : decode cJ0_coder_7d493 10 = .ok (.goto 4, 3) := by decide +kernel
theorem dJ0_coder_7d493_13 : decode cJ0_coder_7d493 13 = .ok (.iconst 1, 1) := by decide +kernel
theorem dJ0_coder_7d493_14 : decode cJ0_coder_7d493 14 = .ok (.ireturn, 1) := by decide +kernel
theorem dJ0_isLatin1_aae02_0 : decode cJ0_isLatin1_aae02 0 = .ok (.getstatic 38, 3) := by decide +kernel
theorem dJ0_isLatin1_aae02_3 : decode cJ0_isLatin1_aae02 3 = .ok (.ifCond .eq 14, 3) := by decide +kernel
theorem dJ0_isLatin1_aae02_6 : decode cJ0_isLatin1_aae02 6 = .ok (.aload_n 0, 1) := by decide +kernel
theorem dJ0_isLatin1_aae02_7 : decode cJ0_isLatin1_aae02 7 = .ok (.getfield 15, 3) := by decide +kernel
theorem dJ0_isLatin1_aae02_10 : decode cJ0_isLatin1_aae02 10 = .ok (.ifCond .ne 7, 3) := by decide +kernel
theorem dJ0_isLatin1_aae02_13 : decode cJ0_isLatin1_aae02 13 = .ok (.iconst 1, 1) := by decide +kernel
theorem dJ0_isLatin1_aae02_14 : decode cJ0_isLatin1_aae02 14 = .ok (.goto 4, 3) := by decide +kernel
theorem dJ0_isLatin1_aae02_17 : decode cJ0_isLatin1_aae02 17 = .ok (.iconst 0, 1) := by decide +kernel
theorem dJ0_isLatin1_aae02_18 : decode cJ0_isLatin1_aae02 18 = .ok (.ireturn, 1) := by decide +kernel
theorem dJ0_checkBoundsBeginEnd_23922_0 : decode cJ0_checkBoundsBeginEnd_23922 0 = .ok (.iload_n 0, 1) := by decide +kernel
theorem dJ0_checkBoundsBeginEnd_23922_1 : decode cJ0_checkBoundsBeginEnd_23922 1 = .ok (.iload_n 1, 1) := by decide +kernel
theorem dJ0_checkBoundsBeginEnd_23922_2 : decode cJ0_checkBoundsBeginEnd_23922 2 = .ok (.iload_n 2, 1) := by decide +kernel
theorem dJ0_checkBoundsBeginEnd_23922_3 : decode cJ0_checkBoundsBeginEnd_23922 3 = .ok (.getstatic 1053, 3) := by decide +kernel
theorem dJ0_checkBoundsBeginEnd_23922_6 : decode cJ0_checkBoundsBeginEnd_23922 6 = .ok (.invokestatic 1062, 3) := by decide +kernel
theorem dJ0_checkBoundsBeginEnd_23922_9 : decode cJ0_checkBoundsBeginEnd_23922 9 = .ok (.pop, 1) := by decide +kernel
theorem dJ0_checkBoundsBeginEnd_23922_10 : decode cJ0_checkBoundsBeginEnd_23922 10 = .ok (.return_, 1) := by decide +kernel
theorem dJ1_canEncode_9a6ad_0 : decode cJ1_canEncode_9a6ad 0 = .ok (.iload_n 0, 1) := by decide +kernel
theorem dJ1_canEncode_9a6ad_1 : decode cJ1_canEncode_9a6ad 1 = .ok (.ifCond .lt 14, 3) := by decide +kernel
theorem dJ1_canEncode_9a6ad_4 : decode cJ1_canEncode_9a6ad 4 = .ok (.iload_n 0, 1) := by decide +kernel
theorem dJ1_canEncode_9a6ad_5 : decode cJ1_canEncode_9a6ad 5 = .ok (.sipush 255, 3) := by decide +kernel
theorem dJ1_canEncode_9a6ad_8 : decode cJ1_canEncode_9a6ad 8 = .ok (.if_icmp .gt 7, 3) := by decide +kernel
theorem dJ1_canEncode_9a6ad_11 : decode cJ1_canEncode_9a6ad 11 = .ok (.iconst 1, 1) := by decide +kernel
theorem dJ1_canEncode_9a6ad_12 : decode cJ1_canEncode_9a6ad 12 = .ok (.goto 4, 3) := by decide +kernel
theorem dJ1_canEncode_9a6ad_15 : decode cJ1_canEncode_9a6ad 15 = .ok (.iconst 0, 1) := by decide +kernel
theorem dJ1_canEncode_9a6ad_16 : decode cJ1_canEncode_9a6ad 16 = .ok (.ireturn, 1) := by decide +kernel
theorem dJ1_indexOf_4cfef_0 : decode cJ1_indexOf_4cfef 0 = .ok (.iload_n 1, 1) := by decide +kernel
theorem dJ1_indexOf_4cfef_1 : decode cJ1_indexOf_4cfef 1 = .ok (.invokestatic 88, 3) := by decide +kernel
theorem dJ1_indexOf_4cfef_4 : decode cJ1_indexOf_4cfef 4 = .ok (.ifCond .ne 5, 3) := by decide +kernel
theorem dJ1_indexOf_4cfef_7 : decode cJ1_indexOf_4cfef 7 = .ok (.iconst (-1), 1) := by decide +kernel
theorem dJ1_indexOf_4cfef_8 : decode cJ1_indexOf_4cfef 8 = .ok (.ireturn, 1) := by decide +kernel
theorem dJ1_indexOf_4cfef_9 : decode cJ1_indexOf_4cfef 9 = .ok (.iload_n 2, 1) := by decide +kernel
theorem dJ1_indexOf_4cfef_10 : decode cJ1_indexOf_4cfef 10 = .ok (.iconst 0, 1) := by decide +kernel
theorem dJ1_indexOf_4cfef_11 : decode cJ1_indexOf_4cfef 11 = .ok (.invokestatic 92, 3) := by decide +kernel
theorem dJ1_indexOf_4cfef_14 : decode cJ1_indexOf_4cfef 14 = .ok (.istore_n 2, 1) := by decide +kernel
theorem dJ1_indexOf_4cfef_15 : decode cJ1_indexOf_4cfef 15 = .ok (.iload_n 3, 1) := by decide +kernel
theorem dJ1_indexOf_4cfef_16 : decode cJ1_indexOf_4cfef 16 = .ok (.aload_n 0, 1) := by decide +kernel
theorem dJ1_indexOf_4cfef_17 : decode cJ1_indexOf_4cfef 17 = .ok (.arraylength, 1) := by decide +kernel
theorem dJ1_indexOf_4cfef_18 : decode cJ1_indexOf_4cfef 18 = .ok (.invokestatic 38, 3) := by decide +kernel
theorem dJ1_indexOf_4cfef_21 : decode cJ1_indexOf_4cfef 21 = .ok (.istore_n 3, 1) := by decide +kernel
end
section
theorem dJ1_indexOf_4cfef_22 : decode cJ1_indexOf_4cfef 22 = .ok (.iload_n 2, 1) := by decide +kernel
theorem dJ1_indexOf_4cfef_23 : decode cJ1_indexOf_4cfef 23 = .ok (.iload_n 3, 1) := by decide +kernel
theorem dJ1_indexOf_4cfef_24 : decode cJ1_indexOf_4cfef 24 = .ok (.if_icmp .lt 5, 3) := by decide +kernel
theorem dJ1_indexOf_4cfef_27 : decode cJ1_indexOf_4cfef 27 = .ok (.iconst (-1), 1) := by decide +kernel
theorem dJ1_indexOf_4cfef_28 : decode cJ1_indexOf_4cfef 28 = .ok (.ireturn, 1) := by decide +kernel
theorem dJ1_indexOf_4cfef_29 : decode cJ1_indexOf_4cfef 29 = .ok (.aload_n 0, 1) := by decide +kernel
theorem dJ1_indexOf_4cfef_30 : decode cJ1_indexOf_4cfef 30 = .ok (.iload_n 1, 1) := by decide +kernel
theorem dJ1_indexOf_4cfef_31 : decode cJ1_indexOf_4cfef 31 = .ok (.iload_n 2, 1) := by decide +kernel
theorem dJ1_indexOf_4cfef_32 : decode cJ1_indexOf_4cfef 32 = .ok (.iload_n 3, 1) := by decide +kernel
theorem dJ1_indexOf_4cfef_33 : decode cJ1_indexOf_4cfef 33 = .ok (.invokestatic 95, 3) := by decide +kernel
theorem dJ1_indexOf_4cfef_36 : decode cJ1_indexOf_4cfef 36 = .ok (.ireturn, 1) := by decide +kernel
theorem dJ1_indexOfChar_4cfef_0 : decode cJ1_indexOfChar_4cfef 0 = .ok (.iload_n 1, 1) := by decide +kernel
theorem dJ1_indexOfChar_4cfef_1 : decode cJ1_indexOfChar_4cfef 1 = .ok (.i2b, 1) := by decide +kernel
theorem dJ1_indexOfChar_4cfef_2 : decode cJ1_indexOfChar_4cfef 2 = .ok (.istore 4, 2) := by decide +kernel
theorem dJ1_indexOfChar_4cfef_4 : decode cJ1_indexOfChar_4cfef 4 = .ok (.iload_n 2, 1) := by decide +kernel
theorem dJ1_indexOfChar_4cfef_5 : decode cJ1_indexOfChar_4cfef 5 = .ok (.istore 5, 2) := by decide +kernel
theorem dJ1_indexOfChar_4cfef_7 : decode cJ1_indexOfChar_4cfef 7 = .ok (.iload 5, 2) := by decide +kernel
theorem dJ1_indexOfChar_4cfef_9 : decode cJ1_indexOfChar_4cfef 9 = .ok (.iload_n 3, 1) := by decide +kernel
theorem dJ1_indexOfChar_4cfef_10 : decode cJ1_indexOfChar_4cfef 10 = .ok (.if_icmp .ge 21, 3) := by decide +kernel
theorem dJ1_indexOfChar_4cfef_13 : decode cJ1_indexOfChar_4cfef 13 = .ok (.aload_n 0, 1) := by decide +kernel
theorem dJ1_indexOfChar_4cfef_14 : decode cJ1_indexOfChar_4cfef 14 = .ok (.iload 5, 2) := by decide +kernel
theorem dJ1_indexOfChar_4cfef_16 : decode cJ1_indexOfChar_4cfef 16 = .ok (.baload, 1) := by decide +kernel
theorem dJ1_indexOfChar_4cfef_17 : decode cJ1_indexOfChar_4cfef 17 = .ok (.iload 4, 2) := by decide +kernel
theorem dJ1_indexOfChar_4cfef_19 : decode cJ1_indexOfChar_4cfef 19 = .ok (.if_icmp .ne 6, 3) := by decide +kernel
theorem dJ1_indexOfChar_4cfef_22 : decode cJ1_indexOfChar_4cfef 22 = .ok (.iload 5, 2) := by decide +kernel
theorem dJ1_indexOfChar_4cfef_24 : decode cJ1_indexOfChar_4cfef 24 = .ok (.ireturn, 1) := by decide +kernel
theorem dJ1_indexOfChar_4cfef_25 : decode cJ1_indexOfChar_4cfef 25 = .ok (.iinc 5 1, 3) := by decide +kernel
theorem dJ1_indexOfChar_4cfef_28 : decode cJ1_indexOfChar_4cfef 28 = .ok (.goto (-21), 3) := by decide +kernel
theorem dJ1_indexOfChar_4cfef_31 : decode cJ1_indexOfChar_4cfef 31 = .ok (.iconst (-1), 1) := by decide +kernel
theorem dJ1_indexOfChar_4cfef_32 : decode cJ1_indexOfChar_4cfef 32 = .ok (.ireturn, 1) := by decide +kernel
theorem dJ2_getChar_3b067_0 : decode cJ2_getChar_3b067 0 = .ok (.getstatic 44, 3) := by decide +kernel
theorem dJ2_getChar_3b067_3 : decode cJ2_getChar_3b067 3 = .ok (.ifCond .ne 25, 3) := by decide +kernel
theorem dJ2_getChar_3b067_6 : decode cJ2_getChar_3b067 6 = .ok (.iload_n 1, 1) := by decide +kernel
theorem dJ2_getChar_3b067_7 : decode cJ2_getChar_3b067 7 = .ok (.ifCond .lt 11, 3) := by decide +kernel
theorem dJ2_getChar_3b067_10 : decode cJ2_getChar_3b067 10 = .ok (.iload_n 1, 1) := by decide +kernel
theorem dJ2_getChar_3b067_11 : decode cJ2_getChar_3b067 11 = .ok (.aload_n 0, 1) := by decide +kernel
theorem dJ2_getChar_3b067_12 : decode cJ2_getChar_3b067 12 = .ok (.invokestatic 48, 3) := by decide +kernel
theorem dJ2_getChar_3b067_15 : decode cJ2_getChar_3b067 15 = .ok (.if_icmp .lt 13, 3) := by decide +kernel
theorem dJ2_getChar_3b067_18 : decode cJ2_getChar_3b067 18 = .ok (.new 52, 3) := by decide +kernel
theorem dJ2_getChar_3b067_21 : decode cJ2_getChar_3b067 21 = .ok (.dup, 1) := by decide +kernel
theorem dJ2_getChar_3b067_22 : decode cJ2_getChar_3b067 22 = .ok (.ldc 54, 2) := by decide +kernel
theorem dJ2_getChar_3b067_24 : decode cJ2_getChar_3b067 24 = .ok (.invokespecial 56, 3) := by decide +kernel
theorem dJ2_getChar_3b067_27 : decode cJ2_getChar_3b067 27 = .ok (.athrow, 1) := by decide +kernel
theorem dJ2_getChar_3b067_28 : decode cJ2_getChar_3b067 28 = .ok (.iload_n 1, 1) := by decide +kernel
theorem dJ2_getChar_3b067_29 : decode cJ2_getChar_3b067 29 = .ok (.iconst 1, 1) := by decide +kernel
theorem dJ2_getChar_3b067_30 : decode cJ2_getChar_3b067 30 = .ok (.ishl, 1) := by decide +kernel
theorem dJ2_getChar_3b067_31 : decode cJ2_getChar_3b067 31 = .ok (.istore_n 1, 1) := by decide +kernel
theorem dJ2_getChar_3b067_32 : decode cJ2_getChar_3b067 32 = .ok (.aload_n 0, 1) := by decide +kernel
theorem dJ2_getChar_3b067_33 : decode cJ2_getChar_3b067 33 = .ok (.iload_n 1, 1) := by decide +kernel
theorem dJ2_getChar_3b067_34 : decode cJ2_getChar_3b067 34 = .ok (.iinc 1 1, 3) := by decide +kernel
theorem dJ2_getChar_3b067_37 : decode cJ2_getChar_3b067 37 = .ok (.baload, 1) := by decide +kernel
theorem dJ2_getChar_3b067_38 : decode cJ2_getChar_3b067 38 = .ok (.sipush 255, 3) := by decide +kernel
theorem dJ2_getChar_3b067_41 : decode cJ2_getChar_3b067 41 = .ok (.iand, 1) := by decide +kernel
theorem dJ2_getChar_3b067_42 : decode cJ2_getChar_3b067 42 = .ok (.getstatic 59, 3) := by decide +kernel
theorem dJ2_getChar_3b067_45 : decode cJ2_getChar_3b067 45 = .ok (.ishl, 1) := by decide +kernel
theorem dJ2_getChar_3b067_46 : decode cJ2_getChar_3b067 46 = .ok (.aload_n 0, 1) := by decide +kernel
theorem dJ2_getChar_3b067_47 : decode cJ2_getChar_3b067 47 = .ok (.iload_n 1, 1) := by decide +kernel
theorem dJ2_getChar_3b067_48 : decode cJ2_getChar_3b067 48 = .ok (.baload, 1) := by decide +kernel
theorem dJ2_getChar_3b067_49 : decode cJ2_getChar_3b067 49 = .ok (.sipush 255, 3) := by decide +kernel
theorem dJ2_getChar_3b067_52 : decode cJ2_getChar_3b067 52 = .ok (.iand, 1) := by decide +kernel
theorem dJ2_getChar_3b067_53 : decode cJ2_getChar_3b067 53 = .ok (.getstatic 63, 3) := by decide +kernel
theorem dJ2_getChar_3b067_56 : decode cJ2_getChar_3b067 56 = .ok (.ishl, 1) := by decide +kernel
theorem dJ2_getChar_3b067_57 : decode cJ2_getChar_3b067 57 = .ok (.ior, 1) := by decide +kernel
theorem dJ2_getChar_3b067_58 : decode cJ2_getChar_3b067 58 = .ok (.i2c, 1) := by decide +kernel
theorem dJ2_getChar_3b067_59 : decode cJ2_getChar_3b067 59 = .ok (.ireturn, 1) := by decide +kernel
theorem dJ2_length_9d52b_0 : decode cJ2_length_9d52b 0 = .ok (.aload_n 0, 1) := by decide +kernel
theorem dJ2_length_9d52b_1 : decode cJ2_length_9d52b 1 = .ok (.arraylength, 1) := by decide +kernel
theorem dJ2_length_9d52b_2 : decode cJ2_length_9d52b 2 = .ok (.iconst 1, 1) := by decide +kernel
theorem dJ2_length_9d52b_3 : decode cJ2_length_9d52b 3 = .ok (.ishr, 1) := by decide +kernel
theorem dJ2_length_9d52b_4 : decode cJ2_length_9d52b 4 = .ok (.ireturn, 1) := by decide +kernel
theorem dJ2_indexOf_4cfef_0 : decode cJ2_indexOf_4cfef 0 = .ok (.iload_n 2, 1) := by decide +kernel
theorem dJ2_indexOf_4cfef_1 : decode cJ2_indexOf_4cfef 1 = .ok (.iconst 0, 1) := by decide +kernel
theorem dJ2_indexOf_4cfef_2 : decode cJ2_indexOf_4cfef 2 = .ok (.invokestatic 224, 3) := by decide +kernel
theorem dJ2_indexOf_4cfef_5 : decode cJ2_indexOf_4cfef 5 = .ok (.istore_n 2, 1) := by decide +kernel
theorem dJ2_indexOf_4cfef_6 : decode cJ2_indexOf_4cfef 6 = .ok (.iload_n 3, 1) := by decide +kernel
theorem dJ2_indexOf_4cfef_7 : decode cJ2_indexOf_4cfef 7 = .ok (.aload_n 0, 1) := by decide +kernel
theorem dJ2_indexOf_4cfef_8 : decode cJ2_indexOf_4cfef 8 = .ok (.arraylength, 1) := by decide +kernel
theorem dJ2_indexOf_4cfef_9 : decode cJ2_indexOf_4cfef 9 = .ok (.iconst 1, 1) := by decide +kernel
theorem dJ2_indexOf_4cfef_10 : decode cJ2_indexOf_4cfef 10 = .ok (.ishr, 1) := by decide +kernel
theorem dJ2_indexOf_4cfef_11 : decode cJ2_indexOf_4cfef 11 = .ok (.invokestatic 183, 3) := by decide +kernel
theorem dJ2_indexOf_4cfef_14 : decode cJ2_indexOf_4cfef 14 = .ok (.istore_n 3, 1) := by decide +kernel
theorem dJ2_indexOf_4cfef_15 : decode cJ2_indexOf_4cfef 15 = .ok (.iload_n 2, 1) := by decide +kernel
theorem dJ2_indexOf_4cfef_16 : decode cJ2_indexOf_4cfef 16 = .ok (.iload_n 3, 1) := by decide +kernel
theorem dJ2_indexOf_4cfef_17 : decode cJ2_indexOf_4cfef 17 = .ok (.if_icmp .lt 5, 3) := by decide +kernel
theorem dJ2_indexOf_4cfef_20 : decode cJ2_indexOf_4cfef 20 = .ok (.iconst (-1), 1) := by decide +kernel
theorem dJ2_indexOf_4cfef_21 : decode cJ2_indexOf_4cfef 21 = .ok (.ireturn, 1) := by decide +kernel
theorem dJ2_indexOf_4cfef_22 : decode cJ2_indexOf_4cfef 22 = .ok (.iload_n 1, 1) := by decide +kernel
theorem dJ2_indexOf_4cfef_23 : decode cJ2_indexOf_4cfef 23 = .ok (.ldc 227, 2) := by decide +kernel
theorem dJ2_indexOf_4cfef_25 : decode cJ2_indexOf_4cfef 25 = .ok (.if_icmp .ge 11, 3) := by decide +kernel
theorem dJ2_indexOf_4cfef_28 : decode cJ2_indexOf_4cfef 28 = .ok (.aload_n 0, 1) := by decide +kernel
theorem dJ2_indexOf_4cfef_29 : decode cJ2_indexOf_4cfef 29 = .ok (.iload_n 1, 1) := by decide +kernel
theorem dJ2_indexOf_4cfef_30 : decode cJ2_indexOf_4cfef 30 = .ok (.iload_n 2, 1) := by decide +kernel
theorem dJ2_indexOf_4cfef_31 : decode cJ2_indexOf_4cfef 31 = .ok (.iload_n 3, 1) := by decide +kernel
theorem dJ2_indexOf_4cfef_32 : decode cJ2_indexOf_4cfef 32 = .ok (.invokestatic 228, 3) := by decide +kernel
theorem dJ2_indexOf_4cfef_35 : decode cJ2_indexOf_4cfef 35 = .ok (.ireturn, 1) := by decide +kernel
theorem dJ2_indexOf_4cfef_36 : decode cJ2_indexOf_4cfef 36 = .ok (.aload_n 0, 1) := by decide +kernel
theorem dJ2_indexOf_4cfef_37 : decode cJ2_indexOf_4cfef 37 = .ok (.iload_n 1, 1) := by decide +kernel
theorem dJ2_indexOf_4cfef_38 : decode cJ2_indexOf_4cfef 38 = .ok (.iload_n 2, 1) := by decide +kernel
theorem dJ2_indexOf_4cfef_39 : decode cJ2_indexOf_4cfef 39 = .ok (.iload_n 3, 1) := by decide +kernel
theorem dJ2_indexOf_4cfef_40 : decode cJ2_indexOf_4cfef 40 = .ok (.invokestatic 232, 3) := by decide +kernel
theorem dJ2_indexOf_4cfef_43 : decode cJ2_indexOf_4cfef 43 = .ok (.ireturn, 1) := by decide +kernel
theorem dJ2_indexOfChar_4cfef_0 : decode cJ2_indexOfChar_4cfef 0 = .ok (.iload_n 2, 1) := by decide +kernel
theorem dJ2_indexOfChar_4cfef_1 : decode cJ2_indexOfChar_4cfef 1 = .ok (.iload_n 3, 1) := by decide +kernel
theorem dJ2_indexOfChar_4cfef_2 : decode cJ2_indexOfChar_4cfef 2 = .ok (.aload_n 0, 1) := by decide +kernel
theorem dJ2_indexOfChar_4cfef_3 : decode cJ2_indexOfChar_4cfef 3 = .ok (.invokestatic 96, 3) := by decide +kernel
theorem dJ2_indexOfChar_4cfef_6 : decode cJ2_indexOfChar_4cfef 6 = .ok (.aload_n 0, 1) := by decide +kernel
theorem dJ2_indexOfChar_4cfef_7 : decode cJ2_indexOfChar_4cfef 7 = .ok (.iload_n 1, 1) := by decide +kernel
theorem dJ2_indexOfChar_4cfef_8 : decode cJ2_indexOfChar_4cfef 8 = .ok (.iload_n 2, 1) := by decide +kernel
theorem dJ2_indexOfChar_4cfef_9 : decode cJ2_indexOfChar_4cfef 9 = .ok (.iload_n 3, 1) := by decide +kernel
theorem dJ2_indexOfChar_4cfef_10 : decode cJ2_indexOfChar_4cfef 10 = .ok (.invokestatic 244, 3) := by decide +kernel
theorem dJ2_indexOfChar_4cfef_13 : decode cJ2_indexOfChar_4cfef 13 = .ok (.ireturn, 1) := by decide +kernel
theorem dJ2_indexOfCharUnsafe_4cfef_0 : decode cJ2_indexOfCharUnsafe_4cfef 0 = .ok (.iload_n 2, 1) := by decide +kernel
theorem dJ2_indexOfCharUnsafe_4cfef_1 : decode cJ2_indexOfCharUnsafe_4cfef 1 = .ok (.istore 4, 2) := by decide +kernel
theorem dJ2_indexOfCharUnsafe_4cfef_3 : decode cJ2_indexOfCharUnsafe_4cfef 3 = .ok (.iload 4, 2) := by decide +kernel
theorem dJ2_indexOfCharUnsafe_4cfef_5 : decode cJ2_indexOfCharUnsafe_4cfef 5 = .ok (.iload_n 3, 1) := by decide +kernel
theorem dJ2_indexOfCharUnsafe_4cfef_6 : decode cJ2_indexOfCharUnsafe_4cfef 6 = .ok (.if_icmp .ge 22, 3) := by decide +kernel
theorem dJ2_indexOfCharUnsafe_4cfef_9 : decode cJ2_indexOfCharUnsafe_4cfef 9 = .ok (.aload_n 0, 1) := by decide +kernel
theorem dJ2_indexOfCharUnsafe_4cfef_10 : decode cJ2_indexOfCharUnsafe_4cfef 10 = .ok (.iload 4, 2) := by decide +kernel
theorem dJ2_indexOfCharUnsafe_4cfef_12 : decode cJ2_indexOfCharUnsafe_4cfef 12 = .ok (.invokestatic 71, 3) := by decide +kernel
theorem dJ2_indexOfCharUnsafe_4cfef_15 : decode cJ2_indexOfCharUnsafe_4cfef 15 = .ok (.iload_n 1, 1) := by decide +kernel
theorem dJ2_indexOfCharUnsafe_4cfef_16 : decode cJ2_indexOfCharUnsafe_4cfef 16 = .ok (.if_icmp .ne 6, 3) := by decide +kernel
theorem dJ2_indexOfCharUnsafe_4cfef_19 : decode cJ2_indexOfCharUnsafe_4cfef 19 = .ok (.iload 4, 2) := by decide +kernel
theorem dJ2_indexOfCharUnsafe_4cfef_21 : decode cJ2_indexOfCharUnsafe_4cfef 21 = .ok (.ireturn, 1) := by decide +kernel
theorem dJ2_indexOfCharUnsafe_4cfef_22 : decode cJ2_indexOfCharUnsafe_4cfef 22 = .ok (.iinc 4 1, 3) := by decide +kernel
theorem dJ2_indexOfCharUnsafe_4cfef_25 : decode cJ2_indexOfCharUnsafe_4cfef 25 = .ok (.goto (-22), 3) := by decide +kernel
theorem dJ2_indexOfCharUnsafe_4cfef_28 : decode cJ2_indexOfCharUnsafe_4cfef 28 = .ok (.iconst (-1), 1) := by decide +kernel
theorem dJ2_indexOfCharUnsafe_4cfef_29 : decode cJ2_indexOfCharUnsafe_4cfef 29 = .ok (.ireturn, 1) := by decide +kernel
theorem dJ2_indexOfSupplementary_4cfef_0 : decode cJ2_indexOfSupplementary_4cfef 0 = .ok (.iload_n 1, 1) := by decide +kernel
theorem dJ2_indexOfSupplementary_4cfef_1 : decode cJ2_indexOfSupplementary_4cfef 1 = .ok (.invokestatic 164, 3) := by decide +kernel
theorem dJ2_indexOfSupplementary_4cfef_4 : decode cJ2_indexOfSupplementary_4cfef 4 = .ok (.ifCond .eq 65, 3) := by decide +kernel
theorem dJ2_indexOfSupplementary_4cfef_7 : decode cJ2_indexOfSupplementary_4cfef 7 = .ok (.iload_n 1, 1) := by decide +kernel
theorem dJ2_indexOfSupplementary_4cfef_8 : decode cJ2_indexOfSupplementary_4cfef 8 = .ok (.invokestatic 157, 3) := by decide +kernel
theorem dJ2_indexOfSupplementary_4cfef_11 : decode cJ2_indexOfSupplementary_4cfef 11 = .ok (.istore 4, 2) := by decide +kernel
theorem dJ2_indexOfSupplementary_4cfef_13 : decode cJ2_indexOfSupplementary_4cfef 13 = .ok (.iload_n 1, 1) := by decide +kernel
theorem dJ2_indexOfSupplementary_4cfef_14 : decode cJ2_indexOfSupplementary_4cfef 14 = .ok (.invokestatic 161, 3) := by decide +kernel
theorem dJ2_indexOfSupplementary_4cfef_17 : decode cJ2_indexOfSupplementary_4cfef 17 = .ok (.istore 5, 2) := by decide +kernel
theorem dJ2_indexOfSupplementary_4cfef_19 : decode cJ2_indexOfSupplementary_4cfef 19 = .ok (.iload_n 2, 1) := by decide +kernel
theorem dJ2_indexOfSupplementary_4cfef_20 : decode cJ2_indexOfSupplementary_4cfef 20 = .ok (.iload_n 3, 1) := by decide +kernel
theorem dJ2_indexOfSupplementary_4cfef_21 : decode cJ2_indexOfSupplementary_4cfef 21 = .ok (.aload_n 0, 1) := by decide +kernel
theorem dJ2_indexOfSupplementary_4cfef_22 : decode cJ2_indexOfSupplementary_4cfef 22 = .ok (.invokestatic 96, 3) := by decide +kernel
theorem dJ2_indexOfSupplementary_4cfef_25 : decode cJ2_indexOfSupplementary_4cfef 25 = .ok (.iload_n 2, 1) := by decide +kernel
theorem dJ2_indexOfSupplementary_4cfef_26 : decode cJ2_indexOfSupplementary_4cfef 26 = .ok (.istore 6, 2) := by decide +kernel
theorem dJ2_indexOfSupplementary_4cfef_28 : decode cJ2_indexOfSupplementary_4cfef 28 = .ok (.iload 6, 2) := by decide +kernel
theorem dJ2_indexOfSupplementary_4cfef_30 : decode cJ2_indexOfSupplementary_4cfef 30 = .ok (.iload_n 3, 1) := by decide +kernel
theorem dJ2_indexOfSupplementary_4cfef_31 : decode cJ2_indexOfSupplementary_4cfef 31 = .ok (.iconst 1, 1) := by decide +kernel
theorem dJ2_indexOfSupplementary_4cfef_32 : decode cJ2_indexOfSupplementary_4cfef 32 = .ok (.isub, 1) := by decide +kernel
theorem dJ2_indexOfSupplementary_4cfef_33 : decode cJ2_indexOfSupplementary_4cfef 33 = .ok (.if_icmp .ge 36, 3) := by decide +kernel
theorem dJ2_indexOfSupplementary_4cfef_36 : decode cJ2_indexOfSupplementary_4cfef 36 = .ok (.aload_n 0, 1) := by decide +kernel
theorem dJ2_indexOfSupplementary_4cfef_37 : decode cJ2_indexOfSupplementary_4cfef 37 = .ok (.iload 6, 2) := by decide +kernel
theorem dJ2_indexOfSupplementary_4cfef_39 : decode cJ2_indexOfSupplementary_4cfef 39 = .ok (.invokestatic 71, 3) := by decide +kernel
theorem dJ2_indexOfSupplementary_4cfef_42 : decode cJ2_indexOfSupplementary_4cfef 42 = .ok (.iload 4, 2) := by decide +kernel
theorem dJ2_indexOfSupplementary_4cfef_44 : decode cJ2_indexOfSupplementary_4cfef 44 = .ok (.if_icmp .ne 19, 3) := by decide +kernel
theorem dJ2_indexOfSupplementary_4cfef_47 : decode cJ2_indexOfSupplementary_4cfef 47 = .ok (.aload_n 0, 1) := by decide +kernel
theorem dJ2_indexOfSupplementary_4cfef_48 : decode cJ2_indexOfSupplementary_4cfef 48 = .ok (.iload 6, 2) := by decide +kernel
theorem dJ2_indexOfSupplementary_4cfef_50 : decode cJ2_indexOfSupplementary_4cfef 50 = .ok (.iconst 1, 1) := by decide +kernel
theorem dJ2_indexOfSupplementary_4cfef_51 : decode cJ2_indexOfSupplementary_4cfef 51 = .ok (.iadd, 1) := by decide +kernel
theorem dJ2_indexOfSupplementary_4cfef_52 : decode cJ2_indexOfSupplementary_4cfef 52 = .ok (.invokestatic 71, 3) := by decide +kernel
theorem dJ2_indexOfSupplementary_4cfef_55 : decode cJ2_indexOfSupplementary_4cfef 55 = .ok (.iload 5, 2) := by decide +kernel
theorem dJ2_indexOfSupplementary_4cfef_57 : decode cJ2_indexOfSupplementary_4cfef 57 = .ok (.if_icmp .ne 6, 3) := by decide +kernel
theorem dJ2_indexOfSupplementary_4cfef_60 : decode cJ2_indexOfSupplementary_4cfef 60 = .ok (.iload 6, 2) := by decide +kernel
theorem dJ2_indexOfSupplementary_4cfef_62 : decode cJ2_indexOfSupplementary_4cfef 62 = .ok (.ireturn, 1) := by decide +kernel
theorem dJ2_indexOfSupplementary_4cfef_63 : decode cJ2_indexOfSupplementary_4cfef 63 = .ok (.iinc 6 1, 3) := by decide +kernel
theorem dJ2_indexOfSupplementary_4cfef_66 : decode cJ2_indexOfSupplementary_4cfef 66 = .ok (.goto (-38), 3) := by decide +kernel
theorem dJ2_indexOfSupplementary_4cfef_69 : decode cJ2_indexOfSupplementary_4cfef 69 = .ok (.iconst (-1), 1) := by decide +kernel
theorem dJ2_indexOfSupplementary_4cfef_70 : decode cJ2_indexOfSupplementary_4cfef 70 = .ok (.ireturn, 1) := by decide +kernel
theorem dJ2_checkBoundsBeginEnd_d044e_0 : decode cJ2_checkBoundsBeginEnd_d044e 0 = .ok (.iload_n 0, 1) := by decide +kernel
theorem dJ2_checkBoundsBeginEnd_d044e_1 : decode cJ2_checkBoundsBeginEnd_d044e 1 = .ok (.iload_n 1, 1) := by decide +kernel
theorem dJ2_checkBoundsBeginEnd_d044e_2 : decode cJ2_checkBoundsBeginEnd_d044e 2 = .ok (.aload_n 2, 1) := by decide +kernel
theorem dJ2_checkBoundsBeginEnd_d044e_3 : decode cJ2_checkBoundsBeginEnd_d044e 3 = .ok (.invokestatic 48, 3) := by decide +kernel
theorem dJ2_checkBoundsBeginEnd_d044e_6 : decode cJ2_checkBoundsBeginEnd_d044e 6 = .ok (.invokestatic 241, 3) := by decide +kernel
theorem dJ2_checkBoundsBeginEnd_d044e_9 : decode cJ2_checkBoundsBeginEnd_d044e 9 = .ok (.return_, 1) := by decide +kernel
theorem dJ3_checkFromToIndex_8c36e_0 : decode cJ3_checkFromToIndex_8c36e 0 = .ok (.iload_n 0, 1) := by decide +kernel
theorem dJ3_checkFromToIndex_8c36e_1 : decode cJ3_checkFromToIndex_8c36e 1 = .ok (.ifCond .lt 13, 3) := by decide +kernel
theorem dJ3_checkFromToIndex_8c36e_4 : decode cJ3_checkFromToIndex_8c36e 4 = .ok (.iload_n 0, 1) := by decide +kernel
theorem dJ3_checkFromToIndex_8c36e_5 : decode cJ3_checkFromToIndex_8c36e 5 = .ok (.iload_n 1, 1) := by decide +kernel
theorem dJ3_checkFromToIndex_8c36e_6 : decode cJ3_checkFromToIndex_8c36e 6 = .ok (.if_icmp .gt 8, 3) := by decide +kernel
theorem dJ3_checkFromToIndex_8c36e_9 : decode cJ3_checkFromToIndex_8c36e 9 = .ok (.iload_n 1, 1) := by decide +kernel
theorem dJ3_checkFromToIndex_8c36e_10 : decode cJ3_checkFromToIndex_8c36e 10 = .ok (.iload_n 2, 1) := by decide +kernel
theorem dJ3_checkFromToIndex_8c36e_11 : decode cJ3_checkFromToIndex_8c36e 11 = .ok (.if_icmp .le 11, 3) := by decide +kernel
theorem dJ3_checkFromToIndex_8c36e_14 : decode cJ3_checkFromToIndex_8c36e 14 = .ok (.aload_n 3, 1) := by decide +kernel
theorem dJ3_checkFromToIndex_8c36e_15 : decode cJ3_checkFromToIndex_8c36e 15 = .ok (.iload_n 0, 1) := by decide +kernel
theorem dJ3_checkFromToIndex_8c36e_16 : decode cJ3_checkFromToIndex_8c36e 16 = .ok (.iload_n 1, 1) := by decide +kernel
theorem dJ3_checkFromToIndex_8c36e_17 : decode cJ3_checkFromToIndex_8c36e 17 = .ok (.iload_n 2, 1) := by decide +kernel
theorem dJ3_checkFromToIndex_8c36e_18 : decode cJ3_checkFromToIndex_8c36e 18 = .ok (.invokestatic 99, 3) := by decide +kernel
theorem dJ3_checkFromToIndex_8c36e_21 : decode cJ3_checkFromToIndex_8c36e 21 = .ok (.athrow, 1) := by decide +kernel
theorem dJ3_checkFromToIndex_8c36e_22 : decode cJ3_checkFromToIndex_8c36e 22 = .ok (.iload_n 0, 1) := by decide +kernel
theorem dJ3_checkFromToIndex_8c36e_23 : decode cJ3_checkFromToIndex_8c36e 23 = .ok (.ireturn, 1) := by decide +kernel
theorem dL_law_0 : decode cL_law 0 = .ok (.new 7, 3) := by decide +kernel
theorem dL_law_3 : decode cL_law 3 = .ok (.dup, 1) := by decide +kernel
theorem dL_law_4 : decode cL_law 4 = .ok (.invokespecial 9, 3) := by decide +kernel
theorem dL_law_7 : decode cL_law 7 = .ok (.astore_n 1, 1) := by decide +kernel
theorem dL_law_8 : decode cL_law 8 = .ok (.new 10, 3) := by decide +kernel
theorem dL_law_11 : decode cL_law 11 = .ok (.dup, 1) := by decide +kernel
theorem dL_law_12 : decode cL_law 12 = .ok (.invokespecial 12, 3) := by decide +kernel
theorem dL_law_15 : decode cL_law 15 = .ok (.astore_n 2, 1) := by decide +kernel
theorem dL_law_16 : decode cL_law 16 = .ok (.iconst 0, 1) := by decide +kernel
theorem dL_law_17 : decode cL_law 17 = .ok (.istore_n 3, 1) := by decide +kernel
theorem dL_law_18 : decode cL_law 18 = .ok (.iload_n 3, 1) := by decide +kernel
theorem dL_law_19 : decode cL_law 19 = .ok (.aload_n 0, 1) := by decide +kernel
theorem dL_law_20 : decode cL_law 20 = .ok (.arraylength, 1) := by decide +kernel
theorem dL_law_21 : decode cL_law 21 = .ok (.bipush 6, 2) := by decide +kernel
theorem dL_law_23 : decode cL_law 23 = .ok (.isub, 1) := by decide +kernel
theorem dL_law_24 : decode cL_law 24 = .ok (.if_icmp .gt 1366, 3) := by decide +kernel
theorem dL_law_27 : decode cL_law 27 = .ok (.aload_n 0, 1) := by decide +kernel
theorem dL_law_28 : decode cL_law 28 = .ok (.iload_n 3, 1) := by decide +kernel
theorem dL_law_29 : decode cL_law 29 = .ok (.iaload, 1) := by decide +kernel
theorem dL_law_30 : decode cL_law 30 = .ok (.bipush 63, 2) := by decide +kernel
theorem dL_law_32 : decode cL_law 32 = .ok (.iand, 1) := by decide +kernel
theorem dL_law_33 : decode cL_law 33 = .ok (.tableswitch 1351 0 37 #[167, 210, 243, 286, 319, 352, 385, 418, 481, 504, 557, 580, 603, 636, 669, 682, 705, 728, 751, 794, 827, 860, 883, 906, 959, 982, 1025, 1048, 1091, 1134, 1197, 1220, 1243, 1256, 1269, 1292, 1305, 1328], 167) := by decide +kernel
theorem dL_law_200 : decode cL_law 200 = .ok (.aload_n 1, 1) := by decide +kernel
theorem dL_law_201 : decode cL_law 201 = .ok (.aload_n 0, 1) := by decide +kernel
theorem dL_law_202 : decode cL_law 202 = .ok (.iload_n 3, 1) := by decide +kernel
theorem dL_law_203 : decode cL_law 203 = .ok (.iconst 1, 1) := by decide +kernel
theorem dL_law_204 : decode cL_law 204 = .ok (.iadd, 1) := by decide +kernel
theorem dL_law_205 : decode cL_law 205 = .ok (.iaload, 1) := by decide +kernel
theorem dL_law_206 : decode cL_law 206 = .ok (.aload_n 0, 1) := by decide +kernel
theorem dL_law_207 : decode cL_law 207 = .ok (.iload_n 3, 1) := by decide +kernel
theorem dL_law_208 : decode cL_law 208 = .ok (.iconst 2, 1) := by decide +kernel
theorem dL_law_209 : decode cL_law 209 = .ok (.iadd, 1) := by decide +kernel
theorem dL_law_210 : decode cL_law 210 = .ok (.iaload, 1) := by decide +kernel
theorem dL_law_211 : decode cL_law 211 = .ok (.aload_n 0, 1) := by decide +kernel
theorem dL_law_212 : decode cL_law 212 = .ok (.iload_n 3, 1) := by decide +kernel
theorem dL_law_213 : decode cL_law 213 = .ok (.iconst 3, 1) := by decide +kernel
theorem dL_law_214 : decode cL_law 214 = .ok (.iadd, 1) := by decide +kernel
theorem dL_law_215 : decode cL_law 215 = .ok (.iaload, 1) := by decide +kernel
theorem dL_law_216 : decode cL_law 216 = .ok (.invokevirtual 13, 3) := by decide +kernel
theorem dL_law_219 : decode cL_law 219 = .ok (.aload_n 2, 1) := by decide +kernel
theorem dL_law_220 : decode cL_law 220 = .ok (.aload_n 0, 1) := by decide +kernel
theorem dL_law_221 : decode cL_law 221 = .ok (.iload_n 3, 1) := by decide +kernel
theorem dL_law_222 : decode cL_law 222 = .ok (.iconst 1, 1) := by decide +kernel
theorem dL_law_223 : decode cL_law 223 = .ok (.iadd, 1) := by decide +kernel
theorem dL_law_224 : decode cL_law 224 = .ok (.iaload, 1) := by decide +kernel
theorem dL_law_225 : decode cL_law 225 = .ok (.aload_n 0, 1) := by decide +kernel
theorem dL_law_226 : decode cL_law 226 = .ok (.iload_n 3, 1) := by decide +kernel
theorem dL_law_227 : decode cL_law 227 = .ok (.iconst 2, 1) := by decide +kernel
theorem dL_law_228 : decode cL_law 228 = .ok (.iadd, 1) := by decide +kernel
theorem dL_law_229 : decode cL_law 229 = .ok (.iaload, 1) := by decide +kernel
theorem dL_law_230 : decode cL_law 230 = .ok (.aload_n 0, 1) := by decide +kernel
theorem dL_law_231 : decode cL_law 231 = .ok (.iload_n 3, 1) := by decide +kernel
theorem dL_law_232 : decode cL_law 232 = .ok (.iconst 3, 1) := by decide +kernel
theorem dL_law_233 : decode cL_law 233 = .ok (.iadd, 1) := by decide +kernel
theorem dL_law_234 : decode cL_law 234 = .ok (.iaload, 1) := by decide +kernel
theorem dL_law_235 : decode cL_law 235 = .ok (.invokevirtual 17, 3) := by decide +kernel
theorem dL_law_238 : decode cL_law 238 = .ok (.if_icmp .eq 1146, 3) := by decide +kernel
theorem dL_law_241 : decode cL_law 241 = .ok (.iconst 0, 1) := by decide +kernel
theorem dL_law_242 : decode cL_law 242 = .ok (.ireturn, 1) := by decide +kernel
theorem dL_law_243 : decode cL_law 243 = .ok (.aload_n 1, 1) := by decide +kernel
theorem dL_law_244 : decode cL_law 244 = .ok (.aload_n 0, 1) := by decide +kernel
theorem dL_law_245 : decode cL_law 245 = .ok (.iload_n 3, 1) := by decide +kernel
theorem dL_law_246 : decode cL_law 246 = .ok (.iconst 1, 1) := by decide +kernel
theorem dL_law_247 : decode cL_law 247 = .ok (.iadd, 1) := by decide +kernel
theorem dL_law_248 : decode cL_law 248 = .ok (.iaload, 1) := by decide +kernel
theorem dL_law_249 : decode cL_law 249 = .ok (.aload_n 0, 1) := by decide +kernel
theorem dL_law_250 : decode cL_law 250 = .ok (.iload_n 3, 1) := by decide +kernel
theorem dL_law_251 : decode cL_law 251 = .ok (.iconst 2, 1) := by decide +kernel
theorem dL_law_252 : decode cL_law 252 = .ok (.iadd, 1) := by decide +kernel
theorem dL_law_253 : decode cL_law 253 = .ok (.iaload, 1) := by decide +kernel
theorem dL_law_254 : decode cL_law 254 = .ok (.invokevirtual 18, 3) := by decide +kernel
theorem dL_law_257 : decode cL_law 257 = .ok (.aload_n 2, 1) := by decide +kernel
theorem dL_law_258 : decode cL_law 258 = .ok (.aload_n 0, 1) := by decide +kernel
theorem dL_law_259 : decode cL_law 259 = .ok (.iload_n 3, 1) := by decide +kernel
theorem dL_law_260 : decode cL_law 260 = .ok (.iconst 1, 1) := by decide +kernel
theorem dL_law_261 : decode cL_law 261 = .ok (.iadd, 1) := by decide +kernel
theorem dL_law_262 : decode cL_law 262 = .ok (.iaload, 1) := by decide +kernel
theorem dL_law_263 : decode cL_law 263 = .ok (.aload_n 0, 1) := by decide +kernel
theorem dL_law_264 : decode cL_law 264 = .ok (.iload_n 3, 1) := by decide +kernel
theorem dL_law_265 : decode cL_law 265 = .ok (.iconst 2, 1) := by decide +kernel
theorem dL_law_266 : decode cL_law 266 = .ok (.iadd, 1) := by decide +kernel
theorem dL_law_267 : decode cL_law 267 = .ok (.iaload, 1) := by decide +kernel
theorem dL_law_268 : decode cL_law 268 = .ok (.invokevirtual 22, 3) := by decide +kernel
theorem dL_law_271 : decode cL_law 271 = .ok (.if_icmp .eq 1113, 3) := by decide +kernel
theorem dL_law_274 : decode cL_law 274 = .ok (.iconst 0, 1) := by decide +kernel
theorem dL_law_275 : decode cL_law 275 = .ok (.ireturn, 1) := by decide +kernel
theorem dL_law_276 : decode cL_law 276 = .ok (.aload_n 1, 1) := by decide +kernel
theorem dL_law_277 : decode cL_law 277 = .ok (.aload_n 0, 1) := by decide +kernel
theorem dL_law_278 : decode cL_law 278 = .ok (.iload_n 3, 1) := by decide +kernel
theorem dL_law_279 : decode cL_law 279 = .ok (.iconst 1, 1) := by decide +kernel
theorem dL_law_280 : decode cL_law 280 = .ok (.iadd, 1) := by decide +kernel
theorem dL_law_281 : decode cL_law 281 = .ok (.iaload, 1) := by decide +kernel
theorem dL_law_282 : decode cL_law 282 = .ok (.aload_n 0, 1) := by decide +kernel
theorem dL_law_283 : decode cL_law 283 = .ok (.iload_n 3, 1) := by decide +kernel
theorem dL_law_284 : decode cL_law 284 = .ok (.iconst 2, 1) := by decide +kernel
theorem dL_law_285 : decode cL_law 285 = .ok (.iadd, 1) := by decide +kernel
theorem dL_law_286 : decode cL_law 286 = .ok (.iaload, 1) := by decide +kernel
theorem dL_law_287 : decode cL_law 287 = .ok (.aload_n 0, 1) := by decide +kernel
theorem dL_law_288 : decode cL_law 288 = .ok (.iload_n 3, 1) := by decide +kernel
theorem dL_law_289 : decode cL_law 289 = .ok (.iconst 3, 1) := by decide +kernel
theorem dL_law_290 : decode cL_law 290 = .ok (.iadd, 1) := by decide +kernel
theorem dL_law_291 : decode cL_law 291 = .ok (.iaload, 1) := by decide +kernel
theorem dL_law_292 : decode cL_law 292 = .ok (.invokevirtual 23, 3) := by decide +kernel
theorem dL_law_295 : decode cL_law 295 = .ok (.aload_n 2, 1) := by decide +kernel
theorem dL_law_296 : decode cL_law 296 = .ok (.aload_n 0, 1) := by decide +kernel
theorem dL_law_297 : decode cL_law 297 = .ok (.iload_n 3, 1) := by decide +kernel
theorem dL_law_298 : decode cL_law 298 = .ok (.iconst 1, 1) := by decide +kernel
theorem dL_law_299 : decode cL_law 299 = .ok (.iadd, 1) := by decide +kernel
theorem dL_law_300 : decode cL_law 300 = .ok (.iaload, 1) := by decide +kernel
theorem dL_law_301 : decode cL_law 301 = .ok (.aload_n 0, 1) := by decide +kernel
theorem dL_law_302 : decode cL_law 302 = .ok (.iload_n 3, 1) := by decide +kernel
theorem dL_law_303 : decode cL_law 303 = .ok (.iconst 2, 1) := by decide +kernel
theorem dL_law_304 : decode cL_law 304 = .ok (.iadd, 1) := by decide +kernel
theorem dL_law_305 : decode cL_law 305 = .ok (.iaload, 1) := by decide +kernel
theorem dL_law_306 : decode cL_law 306 = .ok (.aload_n 0, 1) := by decide +kernel
theorem dL_law_307 : decode cL_law 307 = .ok (.iload_n 3, 1) := by decide +kernel
theorem dL_law_308 : decode cL_law 308 = .ok (.iconst 3, 1) := by decide +kernel
theorem dL_law_309 : decode cL_law 309 = .ok (.iadd, 1) := by decide +kernel
theorem dL_law_310 : decode cL_law 310 = .ok (.iaload, 1) := by decide +kernel
theorem dL_law_311 : decode cL_law 311 = .ok (.invokevirtual 26, 3) := by decide +kernel
theorem dL_law_314 : decode cL_law 314 = .ok (.if_icmp .eq 1070, 3) := by decide +kernel
theorem dL_law_317 : decode cL_law 317 = .ok (.iconst 0, 1) := by decide +kernel
theorem dL_law_318 : decode cL_law 318 = .ok (.ireturn, 1) := by decide +kernel
theorem dL_law_319 : decode cL_law 319 = .ok (.aload_n 1, 1) := by decide +kernel
theorem dL_law_320 : decode cL_law 320 = .ok (.aload_n 0, 1) := by decide +kernel
theorem dL_law_321 : decode cL_law 321 = .ok (.iload_n 3, 1) := by decide +kernel
theorem dL_law_322 : decode cL_law 322 = .ok (.iconst 1, 1) := by decide +kernel
theorem dL_law_323 : decode cL_law 323 = .ok (.iadd, 1) := by decide +kernel
theorem dL_law_324 : decode cL_law 324 = .ok (.iaload, 1) := by decide +kernel
theorem dL_law_325 : decode cL_law 325 = .ok (.aload_n 0, 1) := by decide +kernel
theorem dL_law_326 : decode cL_law 326 = .ok (.iload_n 3, 1) := by decide +kernel
theorem dL_law_327 : decode cL_law 327 = .ok (.iconst 2, 1) := by decide +kernel
theorem dL_law_328 : decode cL_law 328 = .ok (.iadd, 1) := by decide +kernel
theorem dL_law_329 : decode cL_law 329 = .ok (.iaload, 1) := by decide +kernel
theorem dL_law_330 : decode cL_law 330 = .ok (.invokevirtual 27, 3) := by decide +kernel
theorem dL_law_333 : decode cL_law 333 = .ok (.aload_n 2, 1) := by decide +kernel
theorem dL_law_334 : decode cL_law 334 = .ok (.aload_n 0, 1) := by decide +kernel
theorem dL_law_335 : decode cL_law 335 = .ok (.iload_n 3, 1) := by decide +kernel
theorem dL_law_336 : decode cL_law 336 = .ok (.iconst 1, 1) := by decide +kernel
theorem dL_law_337 : decode cL_law 337 = .ok (.iadd, 1) := by decide +kernel
theorem dL_law_338 : decode cL_law 338 = .ok (.iaload, 1) := by decide +kernel
theorem dL_law_339 : decode cL_law 339 = .ok (.aload_n 0, 1) := by decide +kernel
theorem dL_law_340 : decode cL_law 340 = .ok (.iload_n 3, 1) := by decide +kernel
theorem dL_law_341 : decode cL_law 341 = .ok (.iconst 2, 1) := by decide +kernel
theorem dL_law_342 : decode cL_law 342 = .ok (.iadd, 1) := by decide +kernel
theorem dL_law_343 : decode cL_law 343 = .ok (.iaload, 1) := by decide +kernel
theorem dL_law_344 : decode cL_law 344 = .ok (.invokevirtual 30, 3) := by decide +kernel
theorem dL_law_347 : decode cL_law 347 = .ok (.if_icmp .eq 1037, 3) := by decide +kernel
theorem dL_law_350 : decode cL_law 350 = .ok (.iconst 0, 1) := by decide +kernel
theorem dL_law_351 : decode cL_law 351 = .ok (.ireturn, 1) := by decide +kernel
theorem dL_law_352 : decode cL_law 352 = .ok (.aload_n 1, 1) := by decide +kernel
theorem dL_law_353 : decode cL_law 353 = .ok (.aload_n 0, 1) := by decide +kernel
theorem dL_law_354 : decode cL_law 354 = .ok (.iload_n 3, 1) := by decide +kernel
theorem dL_law_355 : decode cL_law 355 = .ok (.iconst 1, 1) := by decide +kernel
theorem dL_law_356 : decode cL_law 356 = .ok (.iadd, 1) := by decide +kernel
theorem dL_law_357 : decode cL_law 357 = .ok (.iaload, 1) := by decide +kernel
theorem dL_law_358 : decode cL_law 358 = .ok (.aload_n 0, 1) := by decide +kernel
theorem dL_law_359 : decode cL_law 359 = .ok (.iload_n 3, 1) := by decide +kernel
theorem dL_law_360 : decode cL_law 360 = .ok (.iconst 2, 1) := by decide +kernel
theorem dL_law_361 : decode cL_law 361 = .ok (.iadd, 1) := by decide +kernel
theorem dL_law_362 : decode cL_law 362 = .ok (.iaload, 1) := by decide +kernel
theorem dL_law_363 : decode cL_law 363 = .ok (.invokevirtual 31, 3) := by decide +kernel
theorem dL_law_366 : decode cL_law 366 = .ok (.aload_n 2, 1) := by decide +kernel
theorem dL_law_367 : decode cL_law 367 = .ok (.aload_n 0, 1) := by decide +kernel
theorem dL_law_368 : decode cL_law 368 = .ok (.iload_n 3, 1) := by decide +kernel
theorem dL_law_369 : decode cL_law 369 = .ok (.iconst 1, 1) := by decide +kernel
theorem dL_law_370 : decode cL_law 370 = .ok (.iadd, 1) := by decide +kernel
theorem dL_law_371 : decode cL_law 371 = .ok (.iaload, 1) := by decide +kernel
theorem dL_law_372 : decode cL_law 372 = .ok (.aload_n 0, 1) := by decide +kernel
theorem dL_law_373 : decode cL_law 373 = .ok (.iload_n 3, 1) := by decide +kernel
theorem dL_law_374 : decode cL_law 374 = .ok (.iconst 2, 1) := by decide +kernel
theorem dL_law_375 : decode cL_law 375 = .ok (.iadd, 1) := by decide +kernel
theorem dL_law_376 : decode cL_law 376 = .ok (.iaload, 1) := by decide +kernel
theorem dL_law_377 : decode cL_law 377 = .ok (.invokevirtual 34, 3) := by decide +kernel
theorem dL_law_380 : decode cL_law 380 = .ok (.if_icmp .eq 1004, 3) := by decide +kernel
theorem dL_law_383 : decode cL_law 383 = .ok (.iconst 0, 1) := by decide +kernel
theorem dL_law_384 : decode cL_law 384 = .ok (.ireturn, 1) := by decide +kernel
theorem dL_law_385 : decode cL_law 385 = .ok (.aload_n 1, 1) := by decide +kernel
theorem dL_law_386 : decode cL_law 386 = .ok (.aload_n 0, 1) := by decide +kernel
theorem dL_law_387 : decode cL_law 387 = .ok (.iload_n 3, 1) := by decide +kernel
theorem dL_law_388 : decode cL_law 388 = .ok (.iconst 1, 1) := by decide +kernel
theorem dL_law_389 : decode cL_law 389 = .ok (.iadd, 1) := by decide +kernel
theorem dL_law_390 : decode cL_law 390 = .ok (.iaload, 1) := by decide +kernel
theorem dL_law_391 : decode cL_law 391 = .ok (.aload_n 0, 1) := by decide +kernel
theorem dL_law_392 : decode cL_law 392 = .ok (.iload_n 3, 1) := by decide +kernel
theorem dL_law_393 : decode cL_law 393 = .ok (.iconst 2, 1) := by decide +kernel
theorem dL_law_394 : decode cL_law 394 = .ok (.iadd, 1) := by decide +kernel
theorem dL_law_395 : decode cL_law 395 = .ok (.iaload, 1) := by decide +kernel
theorem dL_law_396 : decode cL_law 396 = .ok (.invokevirtual 35, 3) := by decide +kernel
theorem dL_law_399 : decode cL_law 399 = .ok (.aload_n 2, 1) := by decide +kernel
theorem dL_law_400 : decode cL_law 400 = .ok (.aload_n 0, 1) := by decide +kernel
theorem dL_law_401 : decode cL_law 401 = .ok (.iload_n 3, 1) := by decide +kernel
theorem dL_law_402 : decode cL_law 402 = .ok (.iconst 1, 1) := by decide +kernel
theorem dL_law_403 : decode cL_law 403 = .ok (.iadd, 1) := by decide +kernel
theorem dL_law_404 : decode cL_law 404 = .ok (.iaload, 1) := by decide +kernel
theorem dL_law_405 : decode cL_law 405 = .ok (.aload_n 0, 1) := by decide +kernel
theorem dL_law_406 : decode cL_law 406 = .ok (.iload_n 3, 1) := by decide +kernel
theorem dL_law_407 : decode cL_law 407 = .ok (.iconst 2, 1) := by decide +kernel
theorem dL_law_408 : decode cL_law 408 = .ok (.iadd, 1) := by decide +kernel
theorem dL_law_409 : decode cL_law 409 = .ok (.iaload, 1) := by decide +kernel
theorem dL_law_410 : decode cL_law 410 = .ok (.invokevirtual 38, 3) := by decide +kernel
theorem dL_law_413 : decode cL_law 413 = .ok (.if_icmp .eq 971, 3) := by decide +kernel
theorem dL_law_416 : decode cL_law 416 = .ok (.iconst 0, 1) := by decide +kernel
theorem dL_law_417 : decode cL_law 417 = .ok (.ireturn, 1) := by decide +kernel
theorem dL_law_418 : decode cL_law 418 = .ok (.aload_n 1, 1) := by decide +kernel
theorem dL_law_419 : decode cL_law 419 = .ok (.aload_n 0, 1) := by decide +kernel
theorem dL_law_420 : decode cL_law 420 = .ok (.iload_n 3, 1) := by decide +kernel
theorem dL_law_421 : decode cL_law 421 = .ok (.iconst 1, 1) := by decide +kernel
theorem dL_law_422 : decode cL_law 422 = .ok (.iadd, 1) := by decide +kernel
theorem dL_law_423 : decode cL_law 423 = .ok (.iaload, 1) := by decide +kernel
theorem dL_law_424 : decode cL_law 424 = .ok (.aload_n 0, 1) := by decide +kernel
theorem dL_law_425 : decode cL_law 425 = .ok (.iload_n 3, 1) := by decide +kernel
theorem dL_law_426 : decode cL_law 426 = .ok (.iconst 2, 1) := by decide +kernel
theorem dL_law_427 : decode cL_law 427 = .ok (.iadd, 1) := by decide +kernel
theorem dL_law_428 : decode cL_law 428 = .ok (.iaload, 1) := by decide +kernel
theorem dL_law_429 : decode cL_law 429 = .ok (.invokevirtual 39, 3) := by decide +kernel
theorem dL_law_432 : decode cL_law 432 = .ok (.aload_n 2, 1) := by decide +kernel
theorem dL_law_433 : decode cL_law 433 = .ok (.aload_n 0, 1) := by decide +kernel
theorem dL_law_434 : decode cL_law 434 = .ok (.iload_n 3, 1) := by decide +kernel
theorem dL_law_435 : decode cL_law 435 = .ok (.iconst 1, 1) := by decide +kernel
theorem dL_law_436 : decode cL_law 436 = .ok (.iadd, 1) := by decide +kernel
theorem dL_law_437 : decode cL_law 437 = .ok (.iaload, 1) := by decide +kernel
theorem dL_law_438 : decode cL_law 438 = .ok (.aload_n 0, 1) := by decide +kernel
theorem dL_law_439 : decode cL_law 439 = .ok (.iload_n 3, 1) := by decide +kernel
theorem dL_law_440 : decode cL_law 440 = .ok (.iconst 2, 1) := by decide +kernel
theorem dL_law_441 : decode cL_law 441 = .ok (.iadd, 1) := by decide +kernel
theorem dL_law_442 : decode cL_law 442 = .ok (.iaload, 1) := by decide +kernel
theorem dL_law_443 : decode cL_law 443 = .ok (.invokevirtual 42, 3) := by decide +kernel
theorem dL_law_446 : decode cL_law 446 = .ok (.if_icmp .eq 938, 3) := by decide +kernel
theorem dL_law_449 : decode cL_law 449 = .ok (.iconst 0, 1) := by decide +kernel
theorem dL_law_450 : decode cL_law 450 = .ok (.ireturn, 1) := by decide +kernel
theorem dL_law_451 : decode cL_law 451 = .ok (.aload_n 1, 1) := by decide +kernel
theorem dL_law_452 : decode cL_law 452 = .ok (.aload_n 0, 1) := by decide +kernel
theorem dL_law_453 : decode cL_law 453 = .ok (.iload_n 3, 1) := by decide +kernel
theorem dL_law_454 : decode cL_law 454 = .ok (.iconst 1, 1) := by decide +kernel
theorem dL_law_455 : decode cL_law 455 = .ok (.iadd, 1) := by decide +kernel
theorem dL_law_456 : decode cL_law 456 = .ok (.iaload, 1) := by decide +kernel
theorem dL_law_457 : decode cL_law 457 = .ok (.i2l, 1) := by decide +kernel
theorem dL_law_458 : decode cL_law 458 = .ok (.bipush 32, 2) := by decide +kernel
theorem dL_law_460 : decode cL_law 460 = .ok (.lshl, 1) := by decide +kernel
theorem dL_law_461 : decode cL_law 461 = .ok (.aload_n 0, 1) := by decide +kernel
theorem dL_law_462 : decode cL_law 462 = .ok (.iload_n 3, 1) := by decide +kernel
theorem dL_law_463 : decode cL_law 463 = .ok (.iconst 2, 1) := by decide +kernel
theorem dL_law_464 : decode cL_law 464 = .ok (.iadd, 1) := by decide +kernel
theorem dL_law_465 : decode cL_law 465 = .ok (.iaload, 1) := by decide +kernel
theorem dL_law_466 : decode cL_law 466 = .ok (.i2l, 1) := by decide +kernel
theorem dL_law_467 : decode cL_law 467 = .ok (.ldc2_w 43, 3) := by decide +kernel
theorem dL_law_470 : decode cL_law 470 = .ok (.land, 1) := by decide +kernel
theorem dL_law_471 : decode cL_law 471 = .ok (.lor, 1) := by decide +kernel
theorem dL_law_472 : decode cL_law 472 = .ok (.aload_n 0, 1) := by decide +kernel
theorem dL_law_473 : decode cL_law 473 = .ok (.iload_n 3, 1) := by decide +kernel
theorem dL_law_474 : decode cL_law 474 = .ok (.iconst 3, 1) := by decide +kernel
theorem dL_law_475 : decode cL_law 475 = .ok (.iadd, 1) := by decide +kernel
theorem dL_law_476 : decode cL_law 476 = .ok (.iaload, 1) := by decide +kernel
theorem dL_law_477 : decode cL_law 477 = .ok (.invokevirtual 45, 3) := by decide +kernel
theorem dL_law_480 : decode cL_law 480 = .ok (.aload_n 2, 1) := by decide +kernel
theorem dL_law_481 : decode cL_law 481 = .ok (.aload_n 0, 1) := by decide +kernel
theorem dL_law_482 : decode cL_law 482 = .ok (.iload_n 3, 1) := by decide +kernel
theorem dL_law_483 : decode cL_law 483 = .ok (.iconst 1, 1) := by decide +kernel
theorem dL_law_484 : decode cL_law 484 = .ok (.iadd, 1) := by decide +kernel
theorem dL_law_485 : decode cL_law 485 = .ok (.iaload, 1) := by decide +kernel
theorem dL_law_486 : decode cL_law 486 = .ok (.i2l, 1) := by decide +kernel
theorem dL_law_487 : decode cL_law 487 = .ok (.bipush 32, 2) := by decide +kernel
theorem dL_law_489 : decode cL_law 489 = .ok (.lshl, 1) := by decide +kernel
theorem dL_law_490 : decode cL_law 490 = .ok (.aload_n 0, 1) := by decide +kernel
theorem dL_law_491 : decode cL_law 491 = .ok (.iload_n 3, 1) := by decide +kernel
theorem dL_law_492 : decode cL_law 492 = .ok (.iconst 2, 1) := by decide +kernel
theorem dL_law_493 : decode cL_law 493 = .ok (.iadd, 1) := by decide +kernel
theorem dL_law_494 : decode cL_law 494 = .ok (.iaload, 1) := by decide +kernel
theorem dL_law_495 : decode cL_law 495 = .ok (.i2l, 1) := by decide +kernel
theorem dL_law_496 : decode cL_law 496 = .ok (.ldc2_w 43, 3) := by decide +kernel
theorem dL_law_499 : decode cL_law 499 = .ok (.land, 1) := by decide +kernel
theorem dL_law_500 : decode cL_law 500 = .ok (.lor, 1) := by decide +kernel
theorem dL_law_501 : decode cL_law 501 = .ok (.aload_n 0, 1) := by decide +kernel
theorem dL_law_502 : decode cL_law 502 = .ok (.iload_n 3, 1) := by decide +kernel
theorem dL_law_503 : decode cL_law 503 = .ok (.iconst 3, 1) := by decide +kernel
theorem dL_law_504 : decode cL_law 504 = .ok (.iadd, 1) := by decide +kernel
theorem dL_law_505 : decode cL_law 505 = .ok (.iaload, 1) := by decide +kernel
theorem dL_law_506 : decode cL_law 506 = .ok (.invokevirtual 49, 3) := by decide +kernel
theorem dL_law_509 : decode cL_law 509 = .ok (.if_icmp .eq 875, 3) := by decide +kernel
theorem dL_law_512 : decode cL_law 512 = .ok (.iconst 0, 1) := by decide +kernel
theorem dL_law_513 : decode cL_law 513 = .ok (.ireturn, 1) := by decide +kernel
theorem dL_law_514 : decode cL_law 514 = .ok (.aload_n 1, 1) := by decide +kernel
theorem dL_law_515 : decode cL_law 515 = .ok (.aload_n 0, 1) := by decide +kernel
theorem dL_law_516 : decode cL_law 516 = .ok (.iload_n 3, 1) := by decide +kernel
theorem dL_law_517 : decode cL_law 517 = .ok (.iconst 1, 1) := by decide +kernel
theorem dL_law_518 : decode cL_law 518 = .ok (.iadd, 1) := by decide +kernel
theorem dL_law_519 : decode cL_law 519 = .ok (.iaload, 1) := by decide +kernel
theorem dL_law_520 : decode cL_law 520 = .ok (.invokevirtual 50, 3) := by decide +kernel
theorem dL_law_523 : decode cL_law 523 = .ok (.aload_n 2, 1) := by decide +kernel
theorem dL_law_524 : decode cL_law 524 = .ok (.aload_n 0, 1) := by decide +kernel
theorem dL_law_525 : decode cL_law 525 = .ok (.iload_n 3, 1) := by decide +kernel
theorem dL_law_526 : decode cL_law 526 = .ok (.iconst 1, 1) := by decide +kernel
theorem dL_law_527 : decode cL_law 527 = .ok (.iadd, 1) := by decide +kernel
theorem dL_law_528 : decode cL_law 528 = .ok (.iaload, 1) := by decide +kernel
theorem dL_law_529 : decode cL_law 529 = .ok (.invokevirtual 54, 3) := by decide +kernel
theorem dL_law_532 : decode cL_law 532 = .ok (.if_icmp .eq 852, 3) := by decide +kernel
theorem dL_law_535 : decode cL_law 535 = .ok (.iconst 0, 1) := by decide +kernel
theorem dL_law_536 : decode cL_law 536 = .ok (.ireturn, 1) := by decide +kernel
theorem dL_law_537 : decode cL_law 537 = .ok (.aload_n 1, 1) := by decide +kernel
theorem dL_law_538 : decode cL_law 538 = .ok (.aload_n 0, 1) := by decide +kernel
theorem dL_law_539 : decode cL_law 539 = .ok (.iload_n 3, 1) := by decide +kernel
theorem dL_law_540 : decode cL_law 540 = .ok (.iconst 1, 1) := by decide +kernel
theorem dL_law_541 : decode cL_law 541 = .ok (.iadd, 1) := by decide +kernel
theorem dL_law_542 : decode cL_law 542 = .ok (.iaload, 1) := by decide +kernel
theorem dL_law_543 : decode cL_law 543 = .ok (.aload_n 0, 1) := by decide +kernel
theorem dL_law_544 : decode cL_law 544 = .ok (.iload_n 3, 1) := by decide +kernel
theorem dL_law_545 : decode cL_law 545 = .ok (.iconst 2, 1) := by decide +kernel
theorem dL_law_546 : decode cL_law 546 = .ok (.iadd, 1) := by decide +kernel
theorem dL_law_547 : decode cL_law 547 = .ok (.iaload, 1) := by decide +kernel
theorem dL_law_548 : decode cL_law 548 = .ok (.aload_n 0, 1) := by decide +kernel
theorem dL_law_549 : decode cL_law 549 = .ok (.iload_n 3, 1) := by decide +kernel
theorem dL_law_550 : decode cL_law 550 = .ok (.iconst 3, 1) := by decide +kernel
theorem dL_law_551 : decode cL_law 551 = .ok (.iadd, 1) := by decide +kernel
theorem dL_law_552 : decode cL_law 552 = .ok (.iaload, 1) := by decide +kernel
theorem dL_law_553 : decode cL_law 553 = .ok (.aload_n 0, 1) := by decide +kernel
theorem dL_law_554 : decode cL_law 554 = .ok (.iload_n 3, 1) := by decide +kernel
theorem dL_law_555 : decode cL_law 555 = .ok (.iconst 4, 1) := by decide +kernel
theorem dL_law_556 : decode cL_law 556 = .ok (.iadd, 1) := by decide +kernel
theorem dL_law_557 : decode cL_law 557 = .ok (.iaload, 1) := by decide +kernel
theorem dL_law_558 : decode cL_law 558 = .ok (.invokevirtual 55, 3) := by decide +kernel
theorem dL_law_561 : decode cL_law 561 = .ok (.aload_n 2, 1) := by decide +kernel
theorem dL_law_562 : decode cL_law 562 = .ok (.aload_n 0, 1) := by decide +kernel
theorem dL_law_563 : decode cL_law 563 = .ok (.iload_n 3, 1) := by decide +kernel
theorem dL_law_564 : decode cL_law 564 = .ok (.iconst 1, 1) := by decide +kernel
theorem dL_law_565 : decode cL_law 565 = .ok (.iadd, 1) := by decide +kernel
theorem dL_law_566 : decode cL_law 566 = .ok (.iaload, 1) := by decide +kernel
theorem dL_law_567 : decode cL_law 567 = .ok (.aload_n 0, 1) := by decide +kernel
theorem dL_law_568 : decode cL_law 568 = .ok (.iload_n 3, 1) := by decide +kernel
theorem dL_law_569 : decode cL_law 569 = .ok (.iconst 2, 1) := by decide +kernel
theorem dL_law_570 : decode cL_law 570 = .ok (.iadd, 1) := by decide +kernel
theorem dL_law_571 : decode cL_law 571 = .ok (.iaload, 1) := by decide +kernel
theorem dL_law_572 : decode cL_law 572 = .ok (.aload_n 0, 1) := by decide +kernel
theorem dL_law_573 : decode cL_law 573 = .ok (.iload_n 3, 1) := by decide +kernel
theorem dL_law_574 : decode cL_law 574 = .ok (.iconst 3, 1) := by decide +kernel
theorem dL_law_575 : decode cL_law 575 = .ok (.iadd, 1) := by decide +kernel
theorem dL_law_576 : decode cL_law 576 = .ok (.iaload, 1) := by decide +kernel
theorem dL_law_577 : decode cL_law 577 = .ok (.aload_n 0, 1) := by decide +kernel
theorem dL_law_578 : decode cL_law 578 = .ok (.iload_n 3, 1) := by decide +kernel
theorem dL_law_579 : decode cL_law 579 = .ok (.iconst 4, 1) := by decide +kernel
theorem dL_law_580 : decode cL_law 580 = .ok (.iadd, 1) := by decide +kernel
theorem dL_law_581 : decode cL_law 581 = .ok (.iaload, 1) := by decide +kernel
theorem dL_law_582 : decode cL_law 582 = .ok (.invokevirtual 59, 3) := by decide +kernel
theorem dL_law_585 : decode cL_law 585 = .ok (.if_icmp .eq 799, 3) := by decide +kernel
theorem dL_law_588 : decode cL_law 588 = .ok (.iconst 0, 1) := by decide +kernel
theorem dL_law_589 : decode cL_law 589 = .ok (.ireturn, 1) := by decide +kernel
theorem dL_law_590 : decode cL_law 590 = .ok (.aload_n 1, 1) := by decide +kernel
theorem dL_law_591 : decode cL_law 591 = .ok (.aload_n 0, 1) := by decide +kernel
theorem dL_law_592 : decode cL_law 592 = .ok (.iload_n 3, 1) := by decide +kernel
theorem dL_law_593 : decode cL_law 593 = .ok (.iconst 1, 1) := by decide +kernel
theorem dL_law_594 : decode cL_law 594 = .ok (.iadd, 1) := by decide +kernel
theorem dL_law_595 : decode cL_law 595 = .ok (.iaload, 1) := by decide +kernel
theorem dL_law_596 : decode cL_law 596 = .ok (.invokevirtual 60, 3) := by decide +kernel
theorem dL_law_599 : decode cL_law 599 = .ok (.aload_n 2, 1) := by decide +kernel
theorem dL_law_600 : decode cL_law 600 = .ok (.aload_n 0, 1) := by decide +kernel
theorem dL_law_601 : decode cL_law 601 = .ok (.iload_n 3, 1) := by decide +kernel
theorem dL_law_602 : decode cL_law 602 = .ok (.iconst 1, 1) := by decide +kernel
theorem dL_law_603 : decode cL_law 603 = .ok (.iadd, 1) := by decide +kernel
theorem dL_law_604 : decode cL_law 604 = .ok (.iaload, 1) := by decide +kernel
theorem dL_law_605 : decode cL_law 605 = .ok (.invokevirtual 63, 3) := by decide +kernel
theorem dL_law_608 : decode cL_law 608 = .ok (.if_icmp .eq 776, 3) := by decide +kernel
theorem dL_law_611 : decode cL_law 611 = .ok (.iconst 0, 1) := by decide +kernel
theorem dL_law_612 : decode cL_law 612 = .ok (.ireturn, 1) := by decide +kernel
theorem dL_law_613 : decode cL_law 613 = .ok (.aload_n 1, 1) := by decide +kernel
theorem dL_law_614 : decode cL_law 614 = .ok (.aload_n 0, 1) := by decide +kernel
theorem dL_law_615 : decode cL_law 615 = .ok (.iload_n 3, 1) := by decide +kernel
theorem dL_law_616 : decode cL_law 616 = .ok (.iconst 1, 1) := by decide +kernel
theorem dL_law_617 : decode cL_law 617 = .ok (.iadd, 1) := by decide +kernel
theorem dL_law_618 : decode cL_law 618 = .ok (.iaload, 1) := by decide +kernel
theorem dL_law_619 : decode cL_law 619 = .ok (.invokevirtual 64, 3) := by decide +kernel
theorem dL_law_622 : decode cL_law 622 = .ok (.aload_n 2, 1) := by decide +kernel
theorem dL_law_623 : decode cL_law 623 = .ok (.aload_n 0, 1) := by decide +kernel
theorem dL_law_624 : decode cL_law 624 = .ok (.iload_n 3, 1) := by decide +kernel
theorem dL_law_625 : decode cL_law 625 = .ok (.iconst 1, 1) := by decide +kernel
theorem dL_law_626 : decode cL_law 626 = .ok (.iadd, 1) := by decide +kernel
theorem dL_law_627 : decode cL_law 627 = .ok (.iaload, 1) := by decide +kernel
theorem dL_law_628 : decode cL_law 628 = .ok (.invokevirtual 67, 3) := by decide +kernel
theorem dL_law_631 : decode cL_law 631 = .ok (.if_icmp .eq 753, 3) := by decide +kernel
theorem dL_law_634 : decode cL_law 634 = .ok (.iconst 0, 1) := by decide +kernel
theorem dL_law_635 : decode cL_law 635 = .ok (.ireturn, 1) := by decide +kernel
theorem dL_law_636 : decode cL_law 636 = .ok (.aload_n 1, 1) := by decide +kernel
theorem dL_law_637 : decode cL_law 637 = .ok (.aload_n 0, 1) := by decide +kernel
theorem dL_law_638 : decode cL_law 638 = .ok (.iload_n 3, 1) := by decide +kernel
theorem dL_law_639 : decode cL_law 639 = .ok (.iconst 1, 1) := by decide +kernel
theorem dL_law_640 : decode cL_law 640 = .ok (.iadd, 1) := by decide +kernel
theorem dL_law_641 : decode cL_law 641 = .ok (.iaload, 1) := by decide +kernel
theorem dL_law_642 : decode cL_law 642 = .ok (.aload_n 0, 1) := by decide +kernel
theorem dL_law_643 : decode cL_law 643 = .ok (.iload_n 3, 1) := by decide +kernel
theorem dL_law_644 : decode cL_law 644 = .ok (.iconst 2, 1) := by decide +kernel
theorem dL_law_645 : decode cL_law 645 = .ok (.iadd, 1) := by decide +kernel
theorem dL_law_646 : decode cL_law 646 = .ok (.iaload, 1) := by decide +kernel
theorem dL_law_647 : decode cL_law 647 = .ok (.invokevirtual 68, 3) := by decide +kernel
theorem dL_law_650 : decode cL_law 650 = .ok (.aload_n 2, 1) := by decide +kernel
theorem dL_law_651 : decode cL_law 651 = .ok (.aload_n 0, 1) := by decide +kernel
theorem dL_law_652 : decode cL_law 652 = .ok (.iload_n 3, 1) := by decide +kernel
theorem dL_law_653 : decode cL_law 653 = .ok (.iconst 1, 1) := by decide +kernel
theorem dL_law_654 : decode cL_law 654 = .ok (.iadd, 1) := by decide +kernel
theorem dL_law_655 : decode cL_law 655 = .ok (.iaload, 1) := by decide +kernel
theorem dL_law_656 : decode cL_law 656 = .ok (.aload_n 0, 1) := by decide +kernel
theorem dL_law_657 : decode cL_law 657 = .ok (.iload_n 3, 1) := by decide +kernel
theorem dL_law_658 : decode cL_law 658 = .ok (.iconst 2, 1) := by decide +kernel
theorem dL_law_659 : decode cL_law 659 = .ok (.iadd, 1) := by decide +kernel
theorem dL_law_660 : decode cL_law 660 = .ok (.iaload, 1) := by decide +kernel
theorem dL_law_661 : decode cL_law 661 = .ok (.invokevirtual 71, 3) := by decide +kernel
theorem dL_law_664 : decode cL_law 664 = .ok (.if_icmp .eq 720, 3) := by decide +kernel
theorem dL_law_667 : decode cL_law 667 = .ok (.iconst 0, 1) := by decide +kernel
theorem dL_law_668 : decode cL_law 668 = .ok (.ireturn, 1) := by decide +kernel
theorem dL_law_669 : decode cL_law 669 = .ok (.aload_n 1, 1) := by decide +kernel
theorem dL_law_670 : decode cL_law 670 = .ok (.aload_n 0, 1) := by decide +kernel
theorem dL_law_671 : decode cL_law 671 = .ok (.iload_n 3, 1) := by decide +kernel
theorem dL_law_672 : decode cL_law 672 = .ok (.iconst 1, 1) := by decide +kernel
theorem dL_law_673 : decode cL_law 673 = .ok (.iadd, 1) := by decide +kernel
theorem dL_law_674 : decode cL_law 674 = .ok (.iaload, 1) := by decide +kernel
theorem dL_law_675 : decode cL_law 675 = .ok (.aload_n 0, 1) := by decide +kernel
theorem dL_law_676 : decode cL_law 676 = .ok (.iload_n 3, 1) := by decide +kernel
theorem dL_law_677 : decode cL_law 677 = .ok (.iconst 2, 1) := by decide +kernel
theorem dL_law_678 : decode cL_law 678 = .ok (.iadd, 1) := by decide +kernel
theorem dL_law_679 : decode cL_law 679 = .ok (.iaload, 1) := by decide +kernel
theorem dL_law_680 : decode cL_law 680 = .ok (.invokevirtual 72, 3) := by decide +kernel
theorem dL_law_683 : decode cL_law 683 = .ok (.aload_n 2, 1) := by decide +kernel
theorem dL_law_684 : decode cL_law 684 = .ok (.aload_n 0, 1) := by decide +kernel
theorem dL_law_685 : decode cL_law 685 = .ok (.iload_n 3, 1) := by decide +kernel
theorem dL_law_686 : decode cL_law 686 = .ok (.iconst 1, 1) := by decide +kernel
theorem dL_law_687 : decode cL_law 687 = .ok (.iadd, 1) := by decide +kernel
theorem dL_law_688 : decode cL_law 688 = .ok (.iaload, 1) := by decide +kernel
theorem dL_law_689 : decode cL_law 689 = .ok (.aload_n 0, 1) := by decide +kernel
theorem dL_law_690 : decode cL_law 690 = .ok (.iload_n 3, 1) := by decide +kernel
theorem dL_law_691 : decode cL_law 691 = .ok (.iconst 2, 1) := by decide +kernel
theorem dL_law_692 : decode cL_law 692 = .ok (.iadd, 1) := by decide +kernel
theorem dL_law_693 : decode cL_law 693 = .ok (.iaload, 1) := by decide +kernel
theorem dL_law_694 : decode cL_law 694 = .ok (.invokevirtual 75, 3) := by decide +kernel
theorem dL_law_697 : decode cL_law 697 = .ok (.if_icmp .eq 687, 3) := by decide +kernel
theorem dL_law_700 : decode cL_law 700 = .ok (.iconst 0, 1) := by decide +kernel
theorem dL_law_701 : decode cL_law 701 = .ok (.ireturn, 1) := by decide +kernel
theorem dL_law_702 : decode cL_law 702 = .ok (.aload_n 1, 1) := by decide +kernel
theorem dL_law_703 : decode cL_law 703 = .ok (.invokevirtual 76, 3) := by decide +kernel
theorem dL_law_706 : decode cL_law 706 = .ok (.aload_n 2, 1) := by decide +kernel
theorem dL_law_707 : decode cL_law 707 = .ok (.invokevirtual 80, 3) := by decide +kernel
theorem dL_law_710 : decode cL_law 710 = .ok (.if_icmp .eq 674, 3) := by decide +kernel
theorem dL_law_713 : decode cL_law 713 = .ok (.iconst 0, 1) := by decide +kernel
theorem dL_law_714 : decode cL_law 714 = .ok (.ireturn, 1) := by decide +kernel
theorem dL_law_715 : decode cL_law 715 = .ok (.aload_n 1, 1) := by decide +kernel
theorem dL_law_716 : decode cL_law 716 = .ok (.aload_n 0, 1) := by decide +kernel
theorem dL_law_717 : decode cL_law 717 = .ok (.iload_n 3, 1) := by decide +kernel
theorem dL_law_718 : decode cL_law 718 = .ok (.iconst 1, 1) := by decide +kernel
theorem dL_law_719 : decode cL_law 719 = .ok (.iadd, 1) := by decide +kernel
theorem dL_law_720 : decode cL_law 720 = .ok (.iaload, 1) := by decide +kernel
theorem dL_law_721 : decode cL_law 721 = .ok (.invokevirtual 81, 3) := by decide +kernel
theorem dL_law_724 : decode cL_law 724 = .ok (.aload_n 2, 1) := by decide +kernel
theorem dL_law_725 : decode cL_law 725 = .ok (.aload_n 0, 1) := by decide +kernel
theorem dL_law_726 : decode cL_law 726 = .ok (.iload_n 3, 1) := by decide +kernel
theorem dL_law_727 : decode cL_law 727 = .ok (.iconst 1, 1) := by decide +kernel
theorem dL_law_728 : decode cL_law 728 = .ok (.iadd, 1) := by decide +kernel
theorem dL_law_729 : decode cL_law 729 = .ok (.iaload, 1) := by decide +kernel
theorem dL_law_730 : decode cL_law 730 = .ok (.invokevirtual 84, 3) := by decide +kernel
theorem dL_law_733 : decode cL_law 733 = .ok (.if_icmp .eq 651, 3) := by decide +kernel
theorem dL_law_736 : decode cL_law 736 = .ok (.iconst 0, 1) := by decide +kernel
theorem dL_law_737 : decode cL_law 737 = .ok (.ireturn, 1) := by decide +kernel
theorem dL_law_738 : decode cL_law 738 = .ok (.aload_n 1, 1) := by decide +kernel
theorem dL_law_739 : decode cL_law 739 = .ok (.aload_n 0, 1) := by decide +kernel
theorem dL_law_740 : decode cL_law 740 = .ok (.iload_n 3, 1) := by decide +kernel
theorem dL_law_741 : decode cL_law 741 = .ok (.iconst 1, 1) := by decide +kernel
theorem dL_law_742 : decode cL_law 742 = .ok (.iadd, 1) := by decide +kernel
theorem dL_law_743 : decode cL_law 743 = .ok (.iaload, 1) := by decide +kernel
theorem dL_law_744 : decode cL_law 744 = .ok (.invokevirtual 85, 3) := by decide +kernel
theorem dL_law_747 : decode cL_law 747 = .ok (.aload_n 2, 1) := by decide +kernel
theorem dL_law_748 : decode cL_law 748 = .ok (.aload_n 0, 1) := by decide +kernel
theorem dL_law_749 : decode cL_law 749 = .ok (.iload_n 3, 1) := by decide +kernel
theorem dL_law_750 : decode cL_law 750 = .ok (.iconst 1, 1) := by decide +kernel
theorem dL_law_751 : decode cL_law 751 = .ok (.iadd, 1) := by decide +kernel
theorem dL_law_752 : decode cL_law 752 = .ok (.iaload, 1) := by decide +kernel
theorem dL_law_753 : decode cL_law 753 = .ok (.invokevirtual 88, 3) := by decide +kernel
theorem dL_law_756 : decode cL_law 756 = .ok (.if_icmp .eq 628, 3) := by decide +kernel
theorem dL_law_759 : decode cL_law 759 = .ok (.iconst 0, 1) := by decide +kernel
theorem dL_law_760 : decode cL_law 760 = .ok (.ireturn, 1) := by decide +kernel
theorem dL_law_761 : decode cL_law 761 = .ok (.aload_n 1, 1) := by decide +kernel
theorem dL_law_762 : decode cL_law 762 = .ok (.aload_n 0, 1) := by decide +kernel
theorem dL_law_763 : decode cL_law 763 = .ok (.iload_n 3, 1) := by decide +kernel
theorem dL_law_764 : decode cL_law 764 = .ok (.iconst 1, 1) := by decide +kernel
theorem dL_law_765 : decode cL_law 765 = .ok (.iadd, 1) := by decide +kernel
theorem dL_law_766 : decode cL_law 766 = .ok (.iaload, 1) := by decide +kernel
theorem dL_law_767 : decode cL_law 767 = .ok (.invokevirtual 89, 3) := by decide +kernel
theorem dL_law_770 : decode cL_law 770 = .ok (.aload_n 2, 1) := by decide +kernel
theorem dL_law_771 : decode cL_law 771 = .ok (.aload_n 0, 1) := by decide +kernel
theorem dL_law_772 : decode cL_law 772 = .ok (.iload_n 3, 1) := by decide +kernel
theorem dL_law_773 : decode cL_law 773 = .ok (.iconst 1, 1) := by decide +kernel
theorem dL_law_774 : decode cL_law 774 = .ok (.iadd, 1) := by decide +kernel
theorem dL_law_775 : decode cL_law 775 = .ok (.iaload, 1) := by decide +kernel
theorem dL_law_776 : decode cL_law 776 = .ok (.invokevirtual 92, 3) := by decide +kernel
theorem dL_law_779 : decode cL_law 779 = .ok (.if_icmp .eq 605, 3) := by decide +kernel
theorem dL_law_782 : decode cL_law 782 = .ok (.iconst 0, 1) := by decide +kernel
theorem dL_law_783 : decode cL_law 783 = .ok (.ireturn, 1) := by decide +kernel
theorem dL_law_784 : decode cL_law 784 = .ok (.aload_n 1, 1) := by decide +kernel
theorem dL_law_785 : decode cL_law 785 = .ok (.aload_n 0, 1) := by decide +kernel
theorem dL_law_786 : decode cL_law 786 = .ok (.iload_n 3, 1) := by decide +kernel
theorem dL_law_787 : decode cL_law 787 = .ok (.iconst 1, 1) := by decide +kernel
theorem dL_law_788 : decode cL_law 788 = .ok (.iadd, 1) := by decide +kernel
theorem dL_law_789 : decode cL_law 789 = .ok (.iaload, 1) := by decide +kernel
theorem dL_law_790 : decode cL_law 790 = .ok (.aload_n 0, 1) := by decide +kernel
theorem dL_law_791 : decode cL_law 791 = .ok (.iload_n 3, 1) := by decide +kernel
theorem dL_law_792 : decode cL_law 792 = .ok (.iconst 2, 1) := by decide +kernel
theorem dL_law_793 : decode cL_law 793 = .ok (.iadd, 1) := by decide +kernel
theorem dL_law_794 : decode cL_law 794 = .ok (.iaload, 1) := by decide +kernel
theorem dL_law_795 : decode cL_law 795 = .ok (.aload_n 0, 1) := by decide +kernel
theorem dL_law_796 : decode cL_law 796 = .ok (.iload_n 3, 1) := by decide +kernel
theorem dL_law_797 : decode cL_law 797 = .ok (.iconst 3, 1) := by decide +kernel
theorem dL_law_798 : decode cL_law 798 = .ok (.iadd, 1) := by decide +kernel
theorem dL_law_799 : decode cL_law 799 = .ok (.iaload, 1) := by decide +kernel
theorem dL_law_800 : decode cL_law 800 = .ok (.invokevirtual 93, 3) := by decide +kernel
theorem dL_law_803 : decode cL_law 803 = .ok (.aload_n 2, 1) := by decide +kernel
theorem dL_law_804 : decode cL_law 804 = .ok (.aload_n 0, 1) := by decide +kernel
theorem dL_law_805 : decode cL_law 805 = .ok (.iload_n 3, 1) := by decide +kernel
theorem dL_law_806 : decode cL_law 806 = .ok (.iconst 1, 1) := by decide +kernel
theorem dL_law_807 : decode cL_law 807 = .ok (.iadd, 1) := by decide +kernel
theorem dL_law_808 : decode cL_law 808 = .ok (.iaload, 1) := by decide +kernel
theorem dL_law_809 : decode cL_law 809 = .ok (.aload_n 0, 1) := by decide +kernel
theorem dL_law_810 : decode cL_law 810 = .ok (.iload_n 3, 1) := by decide +kernel
theorem dL_law_811 : decode cL_law 811 = .ok (.iconst 2, 1) := by decide +kernel
theorem dL_law_812 : decode cL_law 812 = .ok (.iadd, 1) := by decide +kernel
theorem dL_law_813 : decode cL_law 813 = .ok (.iaload, 1) := by decide +kernel
theorem dL_law_814 : decode cL_law 814 = .ok (.aload_n 0, 1) := by decide +kernel
theorem dL_law_815 : decode cL_law 815 = .ok (.iload_n 3, 1) := by decide +kernel
theorem dL_law_816 : decode cL_law 816 = .ok (.iconst 3, 1) := by decide +kernel
theorem dL_law_817 : decode cL_law 817 = .ok (.iadd, 1) := by decide +kernel
theorem dL_law_818 : decode cL_law 818 = .ok (.iaload, 1) := by decide +kernel
theorem dL_law_819 : decode cL_law 819 = .ok (.invokevirtual 96, 3) := by decide +kernel
theorem dL_law_822 : decode cL_law 822 = .ok (.if_icmp .eq 562, 3) := by decide +kernel
theorem dL_law_825 : decode cL_law 825 = .ok (.iconst 0, 1) := by decide +kernel
theorem dL_law_826 : decode cL_law 826 = .ok (.ireturn, 1) := by decide +kernel
theorem dL_law_827 : decode cL_law 827 = .ok (.aload_n 1, 1) := by decide +kernel
theorem dL_law_828 : decode cL_law 828 = .ok (.aload_n 0, 1) := by decide +kernel
theorem dL_law_829 : decode cL_law 829 = .ok (.iload_n 3, 1) := by decide +kernel
theorem dL_law_830 : decode cL_law 830 = .ok (.iconst 1, 1) := by decide +kernel
theorem dL_law_831 : decode cL_law 831 = .ok (.iadd, 1) := by decide +kernel
theorem dL_law_832 : decode cL_law 832 = .ok (.iaload, 1) := by decide +kernel
theorem dL_law_833 : decode cL_law 833 = .ok (.aload_n 0, 1) := by decide +kernel
theorem dL_law_834 : decode cL_law 834 = .ok (.iload_n 3, 1) := by decide +kernel
theorem dL_law_835 : decode cL_law 835 = .ok (.iconst 2, 1) := by decide +kernel
theorem dL_law_836 : decode cL_law 836 = .ok (.iadd, 1) := by decide +kernel
theorem dL_law_837 : decode cL_law 837 = .ok (.iaload, 1) := by decide +kernel
theorem dL_law_838 : decode cL_law 838 = .ok (.invokevirtual 97, 3) := by decide +kernel
theorem dL_law_841 : decode cL_law 841 = .ok (.aload_n 2, 1) := by decide +kernel
theorem dL_law_842 : decode cL_law 842 = .ok (.aload_n 0, 1) := by decide +kernel
theorem dL_law_843 : decode cL_law 843 = .ok (.iload_n 3, 1) := by decide +kernel
theorem dL_law_844 : decode cL_law 844 = .ok (.iconst 1, 1) := by decide +kernel
theorem dL_law_845 : decode cL_law 845 = .ok (.iadd, 1) := by decide +kernel
theorem dL_law_846 : decode cL_law 846 = .ok (.iaload, 1) := by decide +kernel
theorem dL_law_847 : decode cL_law 847 = .ok (.aload_n 0, 1) := by decide +kernel
theorem dL_law_848 : decode cL_law 848 = .ok (.iload_n 3, 1) := by decide +kernel
theorem dL_law_849 : decode cL_law 849 = .ok (.iconst 2, 1) := by decide +kernel
theorem dL_law_850 : decode cL_law 850 = .ok (.iadd, 1) := by decide +kernel
theorem dL_law_851 : decode cL_law 851 = .ok (.iaload, 1) := by decide +kernel
theorem dL_law_852 : decode cL_law 852 = .ok (.invokevirtual 100, 3) := by decide +kernel
theorem dL_law_855 : decode cL_law 855 = .ok (.if_icmp .eq 529, 3) := by decide +kernel
theorem dL_law_858 : decode cL_law 858 = .ok (.iconst 0, 1) := by decide +kernel
theorem dL_law_859 : decode cL_law 859 = .ok (.ireturn, 1) := by decide +kernel
theorem dL_law_860 : decode cL_law 860 = .ok (.aload_n 1, 1) := by decide +kernel
theorem dL_law_861 : decode cL_law 861 = .ok (.aload_n 0, 1) := by decide +kernel
theorem dL_law_862 : decode cL_law 862 = .ok (.iload_n 3, 1) := by decide +kernel
theorem dL_law_863 : decode cL_law 863 = .ok (.iconst 1, 1) := by decide +kernel
theorem dL_law_864 : decode cL_law 864 = .ok (.iadd, 1) := by decide +kernel
theorem dL_law_865 : decode cL_law 865 = .ok (.iaload, 1) := by decide +kernel
theorem dL_law_866 : decode cL_law 866 = .ok (.aload_n 0, 1) := by decide +kernel
theorem dL_law_867 : decode cL_law 867 = .ok (.iload_n 3, 1) := by decide +kernel
theorem dL_law_868 : decode cL_law 868 = .ok (.iconst 2, 1) := by decide +kernel
theorem dL_law_869 : decode cL_law 869 = .ok (.iadd, 1) := by decide +kernel
theorem dL_law_870 : decode cL_law 870 = .ok (.iaload, 1) := by decide +kernel
theorem dL_law_871 : decode cL_law 871 = .ok (.invokevirtual 101, 3) := by decide +kernel
theorem dL_law_874 : decode cL_law 874 = .ok (.aload_n 2, 1) := by decide +kernel
theorem dL_law_875 : decode cL_law 875 = .ok (.aload_n 0, 1) := by decide +kernel
theorem dL_law_876 : decode cL_law 876 = .ok (.iload_n 3, 1) := by decide +kernel
theorem dL_law_877 : decode cL_law 877 = .ok (.iconst 1, 1) := by decide +kernel
theorem dL_law_878 : decode cL_law 878 = .ok (.iadd, 1) := by decide +kernel
theorem dL_law_879 : decode cL_law 879 = .ok (.iaload, 1) := by decide +kernel
theorem dL_law_880 : decode cL_law 880 = .ok (.aload_n 0, 1) := by decide +kernel
theorem dL_law_881 : decode cL_law 881 = .ok (.iload_n 3, 1) := by decide +kernel
theorem dL_law_882 : decode cL_law 882 = .ok (.iconst 2, 1) := by decide +kernel
theorem dL_law_883 : decode cL_law 883 = .ok (.iadd, 1) := by decide +kernel
theorem dL_law_884 : decode cL_law 884 = .ok (.iaload, 1) := by decide +kernel
theorem dL_law_885 : decode cL_law 885 = .ok (.invokevirtual 104, 3) := by decide +kernel
theorem dL_law_888 : decode cL_law 888 = .ok (.if_icmp .eq 496, 3) := by decide +kernel
theorem dL_law_891 : decode cL_law 891 = .ok (.iconst 0, 1) := by decide +kernel
theorem dL_law_892 : decode cL_law 892 = .ok (.ireturn, 1) := by decide +kernel
theorem dL_law_893 : decode cL_law 893 = .ok (.aload_n 1, 1) := by decide +kernel
theorem dL_law_894 : decode cL_law 894 = .ok (.aload_n 0, 1) := by decide +kernel
theorem dL_law_895 : decode cL_law 895 = .ok (.iload_n 3, 1) := by decide +kernel
theorem dL_law_896 : decode cL_law 896 = .ok (.iconst 1, 1) := by decide +kernel
theorem dL_law_897 : decode cL_law 897 = .ok (.iadd, 1) := by decide +kernel
theorem dL_law_898 : decode cL_law 898 = .ok (.iaload, 1) := by decide +kernel
theorem dL_law_899 : decode cL_law 899 = .ok (.invokevirtual 105, 3) := by decide +kernel
theorem dL_law_902 : decode cL_law 902 = .ok (.aload_n 2, 1) := by decide +kernel
theorem dL_law_903 : decode cL_law 903 = .ok (.aload_n 0, 1) := by decide +kernel
theorem dL_law_904 : decode cL_law 904 = .ok (.iload_n 3, 1) := by decide +kernel
theorem dL_law_905 : decode cL_law 905 = .ok (.iconst 1, 1) := by decide +kernel
theorem dL_law_906 : decode cL_law 906 = .ok (.iadd, 1) := by decide +kernel
theorem dL_law_907 : decode cL_law 907 = .ok (.iaload, 1) := by decide +kernel
theorem dL_law_908 : decode cL_law 908 = .ok (.invokevirtual 108, 3) := by decide +kernel
theorem dL_law_911 : decode cL_law 911 = .ok (.if_icmp .eq 473, 3) := by decide +kernel
theorem dL_law_914 : decode cL_law 914 = .ok (.iconst 0, 1) := by decide +kernel
theorem dL_law_915 : decode cL_law 915 = .ok (.ireturn, 1) := by decide +kernel
theorem dL_law_916 : decode cL_law 916 = .ok (.aload_n 1, 1) := by decide +kernel
theorem dL_law_917 : decode cL_law 917 = .ok (.aload_n 0, 1) := by decide +kernel
theorem dL_law_918 : decode cL_law 918 = .ok (.iload_n 3, 1) := by decide +kernel
theorem dL_law_919 : decode cL_law 919 = .ok (.iconst 1, 1) := by decide +kernel
theorem dL_law_920 : decode cL_law 920 = .ok (.iadd, 1) := by decide +kernel
theorem dL_law_921 : decode cL_law 921 = .ok (.iaload, 1) := by decide +kernel
theorem dL_law_922 : decode cL_law 922 = .ok (.invokevirtual 109, 3) := by decide +kernel
theorem dL_law_925 : decode cL_law 925 = .ok (.aload_n 2, 1) := by decide +kernel
theorem dL_law_926 : decode cL_law 926 = .ok (.aload_n 0, 1) := by decide +kernel
theorem dL_law_927 : decode cL_law 927 = .ok (.iload_n 3, 1) := by decide +kernel
theorem dL_law_928 : decode cL_law 928 = .ok (.iconst 1, 1) := by decide +kernel
theorem dL_law_929 : decode cL_law 929 = .ok (.iadd, 1) := by decide +kernel
theorem dL_law_930 : decode cL_law 930 = .ok (.iaload, 1) := by decide +kernel
theorem dL_law_931 : decode cL_law 931 = .ok (.invokevirtual 112, 3) := by decide +kernel
theorem dL_law_934 : decode cL_law 934 = .ok (.if_icmp .eq 450, 3) := by decide +kernel
theorem dL_law_937 : decode cL_law 937 = .ok (.iconst 0, 1) := by decide +kernel
theorem dL_law_938 : decode cL_law 938 = .ok (.ireturn, 1) := by decide +kernel
theorem dL_law_939 : decode cL_law 939 = .ok (.aload_n 1, 1) := by decide +kernel
theorem dL_law_940 : decode cL_law 940 = .ok (.aload_n 0, 1) := by decide +kernel
theorem dL_law_941 : decode cL_law 941 = .ok (.iload_n 3, 1) := by decide +kernel
theorem dL_law_942 : decode cL_law 942 = .ok (.iconst 1, 1) := by decide +kernel
theorem dL_law_943 : decode cL_law 943 = .ok (.iadd, 1) := by decide +kernel
theorem dL_law_944 : decode cL_law 944 = .ok (.iaload, 1) := by decide +kernel
theorem dL_law_945 : decode cL_law 945 = .ok (.aload_n 0, 1) := by decide +kernel
theorem dL_law_946 : decode cL_law 946 = .ok (.iload_n 3, 1) := by decide +kernel
theorem dL_law_947 : decode cL_law 947 = .ok (.iconst 2, 1) := by decide +kernel
theorem dL_law_948 : decode cL_law 948 = .ok (.iadd, 1) := by decide +kernel
theorem dL_law_949 : decode cL_law 949 = .ok (.iaload, 1) := by decide +kernel
theorem dL_law_950 : decode cL_law 950 = .ok (.aload_n 0, 1) := by decide +kernel
theorem dL_law_951 : decode cL_law 951 = .ok (.iload_n 3, 1) := by decide +kernel
theorem dL_law_952 : decode cL_law 952 = .ok (.iconst 3, 1) := by decide +kernel
theorem dL_law_953 : decode cL_law 953 = .ok (.iadd, 1) := by decide +kernel
theorem dL_law_954 : decode cL_law 954 = .ok (.iaload, 1) := by decide +kernel
theorem dL_law_955 : decode cL_law 955 = .ok (.aload_n 0, 1) := by decide +kernel
theorem dL_law_956 : decode cL_law 956 = .ok (.iload_n 3, 1) := by decide +kernel
theorem dL_law_957 : decode cL_law 957 = .ok (.iconst 4, 1) := by decide +kernel
theorem dL_law_958 : decode cL_law 958 = .ok (.iadd, 1) := by decide +kernel
theorem dL_law_959 : decode cL_law 959 = .ok (.iaload, 1) := by decide +kernel
theorem dL_law_960 : decode cL_law 960 = .ok (.invokevirtual 113, 3) := by decide +kernel
theorem dL_law_963 : decode cL_law 963 = .ok (.aload_n 2, 1) := by decide +kernel
theorem dL_law_964 : decode cL_law 964 = .ok (.aload_n 0, 1) := by decide +kernel
theorem dL_law_965 : decode cL_law 965 = .ok (.iload_n 3, 1) := by decide +kernel
theorem dL_law_966 : decode cL_law 966 = .ok (.iconst 1, 1) := by decide +kernel
theorem dL_law_967 : decode cL_law 967 = .ok (.iadd, 1) := by decide +kernel
theorem dL_law_968 : decode cL_law 968 = .ok (.iaload, 1) := by decide +kernel
theorem dL_law_969 : decode cL_law 969 = .ok (.aload_n 0, 1) := by decide +kernel
theorem dL_law_970 : decode cL_law 970 = .ok (.iload_n 3, 1) := by decide +kernel
theorem dL_law_971 : decode cL_law 971 = .ok (.iconst 2, 1) := by decide +kernel
theorem dL_law_972 : decode cL_law 972 = .ok (.iadd, 1) := by decide +kernel
theorem dL_law_973 : decode cL_law 973 = .ok (.iaload, 1) := by decide +kernel
theorem dL_law_974 : decode cL_law 974 = .ok (.aload_n 0, 1) := by decide +kernel
theorem dL_law_975 : decode cL_law 975 = .ok (.iload_n 3, 1) := by decide +kernel
theorem dL_law_976 : decode cL_law 976 = .ok (.iconst 3, 1) := by decide +kernel
theorem dL_law_977 : decode cL_law 977 = .ok (.iadd, 1) := by decide +kernel
theorem dL_law_978 : decode cL_law 978 = .ok (.iaload, 1) := by decide +kernel
theorem dL_law_979 : decode cL_law 979 = .ok (.aload_n 0, 1) := by decide +kernel
theorem dL_law_980 : decode cL_law 980 = .ok (.iload_n 3, 1) := by decide +kernel
theorem dL_law_981 : decode cL_law 981 = .ok (.iconst 4, 1) := by decide +kernel
theorem dL_law_982 : decode cL_law 982 = .ok (.iadd, 1) := by decide +kernel
theorem dL_law_983 : decode cL_law 983 = .ok (.iaload, 1) := by decide +kernel
theorem dL_law_984 : decode cL_law 984 = .ok (.invokevirtual 116, 3) := by decide +kernel
theorem dL_law_987 : decode cL_law 987 = .ok (.if_icmp .eq 397, 3) := by decide +kernel
theorem dL_law_990 : decode cL_law 990 = .ok (.iconst 0, 1) := by decide +kernel
theorem dL_law_991 : decode cL_law 991 = .ok (.ireturn, 1) := by decide +kernel
theorem dL_law_992 : decode cL_law 992 = .ok (.aload_n 1, 1) := by decide +kernel
theorem dL_law_993 : decode cL_law 993 = .ok (.aload_n 0, 1) := by decide +kernel
theorem dL_law_994 : decode cL_law 994 = .ok (.iload_n 3, 1) := by decide +kernel
theorem dL_law_995 : decode cL_law 995 = .ok (.iconst 1, 1) := by decide +kernel
theorem dL_law_996 : decode cL_law 996 = .ok (.iadd, 1) := by decide +kernel
theorem dL_law_997 : decode cL_law 997 = .ok (.iaload, 1) := by decide +kernel
theorem dL_law_998 : decode cL_law 998 = .ok (.invokevirtual 117, 3) := by decide +kernel
theorem dL_law_1001 : decode cL_law 1001 = .ok (.aload_n 2, 1) := by decide +kernel
theorem dL_law_1002 : decode cL_law 1002 = .ok (.aload_n 0, 1) := by decide +kernel
theorem dL_law_1003 : decode cL_law 1003 = .ok (.iload_n 3, 1) := by decide +kernel
theorem dL_law_1004 : decode cL_law 1004 = .ok (.iconst 1, 1) := by decide +kernel
theorem dL_law_1005 : decode cL_law 1005 = .ok (.iadd, 1) := by decide +kernel
theorem dL_law_1006 : decode cL_law 1006 = .ok (.iaload, 1) := by decide +kernel
theorem dL_law_1007 : decode cL_law 1007 = .ok (.invokevirtual 120, 3) := by decide +kernel
theorem dL_law_1010 : decode cL_law 1010 = .ok (.if_icmp .eq 374, 3) := by decide +kernel
theorem dL_law_1013 : decode cL_law 1013 = .ok (.iconst 0, 1) := by decide +kernel
theorem dL_law_1014 : decode cL_law 1014 = .ok (.ireturn, 1) := by decide +kernel
theorem dL_law_1015 : decode cL_law 1015 = .ok (.aload_n 1, 1) := by decide +kernel
theorem dL_law_1016 : decode cL_law 1016 = .ok (.aload_n 0, 1) := by decide +kernel
theorem dL_law_1017 : decode cL_law 1017 = .ok (.iload_n 3, 1) := by decide +kernel
theorem dL_law_1018 : decode cL_law 1018 = .ok (.iconst 1, 1) := by decide +kernel
theorem dL_law_1019 : decode cL_law 1019 = .ok (.iadd, 1) := by decide +kernel
theorem dL_law_1020 : decode cL_law 1020 = .ok (.iaload, 1) := by decide +kernel
theorem dL_law_1021 : decode cL_law 1021 = .ok (.aload_n 0, 1) := by decide +kernel
theorem dL_law_1022 : decode cL_law 1022 = .ok (.iload_n 3, 1) := by decide +kernel
theorem dL_law_1023 : decode cL_law 1023 = .ok (.iconst 2, 1) := by decide +kernel
theorem dL_law_1024 : decode cL_law 1024 = .ok (.iadd, 1) := by decide +kernel
theorem dL_law_1025 : decode cL_law 1025 = .ok (.iaload, 1) := by decide +kernel
theorem dL_law_1026 : decode cL_law 1026 = .ok (.aload_n 0, 1) := by decide +kernel
theorem dL_law_1027 : decode cL_law 1027 = .ok (.iload_n 3, 1) := by decide +kernel
theorem dL_law_1028 : decode cL_law 1028 = .ok (.iconst 3, 1) := by decide +kernel
theorem dL_law_1029 : decode cL_law 1029 = .ok (.iadd, 1) := by decide +kernel
theorem dL_law_1030 : decode cL_law 1030 = .ok (.iaload, 1) := by decide +kernel
theorem dL_law_1031 : decode cL_law 1031 = .ok (.invokevirtual 121, 3) := by decide +kernel
theorem dL_law_1034 : decode cL_law 1034 = .ok (.aload_n 2, 1) := by decide +kernel
theorem dL_law_1035 : decode cL_law 1035 = .ok (.aload_n 0, 1) := by decide +kernel
theorem dL_law_1036 : decode cL_law 1036 = .ok (.iload_n 3, 1) := by decide +kernel
theorem dL_law_1037 : decode cL_law 1037 = .ok (.iconst 1, 1) := by decide +kernel
theorem dL_law_1038 : decode cL_law 1038 = .ok (.iadd, 1) := by decide +kernel
theorem dL_law_1039 : decode cL_law 1039 = .ok (.iaload, 1) := by decide +kernel
theorem dL_law_1040 : decode cL_law 1040 = .ok (.aload_n 0, 1) := by decide +kernel
theorem dL_law_1041 : decode cL_law 1041 = .ok (.iload_n 3, 1) := by decide +kernel
theorem dL_law_1042 : decode cL_law 1042 = .ok (.iconst 2, 1) := by decide +kernel
theorem dL_law_1043 : decode cL_law 1043 = .ok (.iadd, 1) := by decide +kernel
theorem dL_law_1044 : decode cL_law 1044 = .ok (.iaload, 1) := by decide +kernel
theorem dL_law_1045 : decode cL_law 1045 = .ok (.aload_n 0, 1) := by decide +kernel
theorem dL_law_1046 : decode cL_law 1046 = .ok (.iload_n 3, 1) := by decide +kernel
theorem dL_law_1047 : decode cL_law 1047 = .ok (.iconst 3, 1) := by decide +kernel
theorem dL_law_1048 : decode cL_law 1048 = .ok (.iadd, 1) := by decide +kernel
theorem dL_law_1049 : decode cL_law 1049 = .ok (.iaload, 1) := by decide +kernel
theorem dL_law_1050 : decode cL_law 1050 = .ok (.invokevirtual 124, 3) := by decide +kernel
theorem dL_law_1053 : decode cL_law 1053 = .ok (.if_icmp .eq 331, 3) := by decide +kernel
theorem dL_law_1056 : decode cL_law 1056 = .ok (.iconst 0, 1) := by decide +kernel
theorem dL_law_1057 : decode cL_law 1057 = .ok (.ireturn, 1) := by decide +kernel
theorem dL_law_1058 : decode cL_law 1058 = .ok (.aload_n 1, 1) := by decide +kernel
theorem dL_law_1059 : decode cL_law 1059 = .ok (.aload_n 0, 1) := by decide +kernel
theorem dL_law_1060 : decode cL_law 1060 = .ok (.iload_n 3, 1) := by decide +kernel
theorem dL_law_1061 : decode cL_law 1061 = .ok (.iconst 1, 1) := by decide +kernel
theorem dL_law_1062 : decode cL_law 1062 = .ok (.iadd, 1) := by decide +kernel
theorem dL_law_1063 : decode cL_law 1063 = .ok (.iaload, 1) := by decide +kernel
theorem dL_law_1064 : decode cL_law 1064 = .ok (.invokevirtual 125, 3) := by decide +kernel
theorem dL_law_1067 : decode cL_law 1067 = .ok (.aload_n 2, 1) := by decide +kernel
theorem dL_law_1068 : decode cL_law 1068 = .ok (.aload_n 0, 1) := by decide +kernel
theorem dL_law_1069 : decode cL_law 1069 = .ok (.iload_n 3, 1) := by decide +kernel
theorem dL_law_1070 : decode cL_law 1070 = .ok (.iconst 1, 1) := by decide +kernel
theorem dL_law_1071 : decode cL_law 1071 = .ok (.iadd, 1) := by decide +kernel
theorem dL_law_1072 : decode cL_law 1072 = .ok (.iaload, 1) := by decide +kernel
theorem dL_law_1073 : decode cL_law 1073 = .ok (.invokevirtual 128, 3) := by decide +kernel
theorem dL_law_1076 : decode cL_law 1076 = .ok (.if_icmp .eq 308, 3) := by decide +kernel
theorem dL_law_1079 : decode cL_law 1079 = .ok (.iconst 0, 1) := by decide +kernel
theorem dL_law_1080 : decode cL_law 1080 = .ok (.ireturn, 1) := by decide +kernel
theorem dL_law_1081 : decode cL_law 1081 = .ok (.aload_n 1, 1) := by decide +kernel
theorem dL_law_1082 : decode cL_law 1082 = .ok (.aload_n 0, 1) := by decide +kernel
theorem dL_law_1083 : decode cL_law 1083 = .ok (.iload_n 3, 1) := by decide +kernel
theorem dL_law_1084 : decode cL_law 1084 = .ok (.iconst 1, 1) := by decide +kernel
theorem dL_law_1085 : decode cL_law 1085 = .ok (.iadd, 1) := by decide +kernel
theorem dL_law_1086 : decode cL_law 1086 = .ok (.iaload, 1) := by decide +kernel
theorem dL_law_1087 : decode cL_law 1087 = .ok (.aload_n 0, 1) := by decide +kernel
theorem dL_law_1088 : decode cL_law 1088 = .ok (.iload_n 3, 1) := by decide +kernel
theorem dL_law_1089 : decode cL_law 1089 = .ok (.iconst 2, 1) := by decide +kernel
theorem dL_law_1090 : decode cL_law 1090 = .ok (.iadd, 1) := by decide +kernel
theorem dL_law_1091 : decode cL_law 1091 = .ok (.iaload, 1) := by decide +kernel
theorem dL_law_1092 : decode cL_law 1092 = .ok (.aload_n 0, 1) := by decide +kernel
theorem dL_law_1093 : decode cL_law 1093 = .ok (.iload_n 3, 1) := by decide +kernel
theorem dL_law_1094 : decode cL_law 1094 = .ok (.iconst 3, 1) := by decide +kernel
theorem dL_law_1095 : decode cL_law 1095 = .ok (.iadd, 1) := by decide +kernel
theorem dL_law_1096 : decode cL_law 1096 = .ok (.iaload, 1) := by decide +kernel
theorem dL_law_1097 : decode cL_law 1097 = .ok (.invokevirtual 129, 3) := by decide +kernel
theorem dL_law_1100 : decode cL_law 1100 = .ok (.aload_n 2, 1) := by decide +kernel
theorem dL_law_1101 : decode cL_law 1101 = .ok (.aload_n 0, 1) := by decide +kernel
theorem dL_law_1102 : decode cL_law 1102 = .ok (.iload_n 3, 1) := by decide +kernel
theorem dL_law_1103 : decode cL_law 1103 = .ok (.iconst 1, 1) := by decide +kernel
theorem dL_law_1104 : decode cL_law 1104 = .ok (.iadd, 1) := by decide +kernel
theorem dL_law_1105 : decode cL_law 1105 = .ok (.iaload, 1) := by decide +kernel
theorem dL_law_1106 : decode cL_law 1106 = .ok (.aload_n 0, 1) := by decide +kernel
theorem dL_law_1107 : decode cL_law 1107 = .ok (.iload_n 3, 1) := by decide +kernel
theorem dL_law_1108 : decode cL_law 1108 = .ok (.iconst 2, 1) := by decide +kernel
theorem dL_law_1109 : decode cL_law 1109 = .ok (.iadd, 1) := by decide +kernel
theorem dL_law_1110 : decode cL_law 1110 = .ok (.iaload, 1) := by decide +kernel
theorem dL_law_1111 : decode cL_law 1111 = .ok (.aload_n 0, 1) := by decide +kernel
theorem dL_law_1112 : decode cL_law 1112 = .ok (.iload_n 3, 1) := by decide +kernel
theorem dL_law_1113 : decode cL_law 1113 = .ok (.iconst 3, 1) := by decide +kernel
theorem dL_law_1114 : decode cL_law 1114 = .ok (.iadd, 1) := by decide +kernel
theorem dL_law_1115 : decode cL_law 1115 = .ok (.iaload, 1) := by decide +kernel
theorem dL_law_1116 : decode cL_law 1116 = .ok (.invokevirtual 132, 3) := by decide +kernel
theorem dL_law_1119 : decode cL_law 1119 = .ok (.if_icmp .eq 265, 3) := by decide +kernel
theorem dL_law_1122 : decode cL_law 1122 = .ok (.iconst 0, 1) := by decide +kernel
theorem dL_law_1123 : decode cL_law 1123 = .ok (.ireturn, 1) := by decide +kernel
theorem dL_law_1124 : decode cL_law 1124 = .ok (.aload_n 1, 1) := by decide +kernel
theorem dL_law_1125 : decode cL_law 1125 = .ok (.aload_n 0, 1) := by decide +kernel
theorem dL_law_1126 : decode cL_law 1126 = .ok (.iload_n 3, 1) := by decide +kernel
theorem dL_law_1127 : decode cL_law 1127 = .ok (.iconst 1, 1) := by decide +kernel
theorem dL_law_1128 : decode cL_law 1128 = .ok (.iadd, 1) := by decide +kernel
theorem dL_law_1129 : decode cL_law 1129 = .ok (.iaload, 1) := by decide +kernel
theorem dL_law_1130 : decode cL_law 1130 = .ok (.aload_n 0, 1) := by decide +kernel
theorem dL_law_1131 : decode cL_law 1131 = .ok (.iload_n 3, 1) := by decide +kernel
theorem dL_law_1132 : decode cL_law 1132 = .ok (.iconst 2, 1) := by decide +kernel
theorem dL_law_1133 : decode cL_law 1133 = .ok (.iadd, 1) := by decide +kernel
theorem dL_law_1134 : decode cL_law 1134 = .ok (.iaload, 1) := by decide +kernel
theorem dL_law_1135 : decode cL_law 1135 = .ok (.aload_n 0, 1) := by decide +kernel
theorem dL_law_1136 : decode cL_law 1136 = .ok (.iload_n 3, 1) := by decide +kernel
theorem dL_law_1137 : decode cL_law 1137 = .ok (.iconst 3, 1) := by decide +kernel
theorem dL_law_1138 : decode cL_law 1138 = .ok (.iadd, 1) := by decide +kernel
theorem dL_law_1139 : decode cL_law 1139 = .ok (.iaload, 1) := by decide +kernel
theorem dL_law_1140 : decode cL_law 1140 = .ok (.invokevirtual 133, 3) := by decide +kernel
theorem dL_law_1143 : decode cL_law 1143 = .ok (.aload_n 2, 1) := by decide +kernel
theorem dL_law_1144 : decode cL_law 1144 = .ok (.aload_n 0, 1) := by decide +kernel
theorem dL_law_1145 : decode cL_law 1145 = .ok (.iload_n 3, 1) := by decide +kernel
theorem dL_law_1146 : decode cL_law 1146 = .ok (.iconst 1, 1) := by decide +kernel
theorem dL_law_1147 : decode cL_law 1147 = .ok (.iadd, 1) := by decide +kernel
theorem dL_law_1148 : decode cL_law 1148 = .ok (.iaload, 1) := by decide +kernel
theorem dL_law_1149 : decode cL_law 1149 = .ok (.aload_n 0, 1) := by decide +kernel
theorem dL_law_1150 : decode cL_law 1150 = .ok (.iload_n 3, 1) := by decide +kernel
theorem dL_law_1151 : decode cL_law 1151 = .ok (.iconst 2, 1) := by decide +kernel
theorem dL_law_1152 : decode cL_law 1152 = .ok (.iadd, 1) := by decide +kernel
theorem dL_law_1153 : decode cL_law 1153 = .ok (.iaload, 1) := by decide +kernel
theorem dL_law_1154 : decode cL_law 1154 = .ok (.aload_n 0, 1) := by decide +kernel
theorem dL_law_1155 : decode cL_law 1155 = .ok (.iload_n 3, 1) := by decide +kernel
theorem dL_law_1156 : decode cL_law 1156 = .ok (.iconst 3, 1) := by decide +kernel
theorem dL_law_1157 : decode cL_law 1157 = .ok (.iadd, 1) := by decide +kernel
theorem dL_law_1158 : decode cL_law 1158 = .ok (.iaload, 1) := by decide +kernel
theorem dL_law_1159 : decode cL_law 1159 = .ok (.invokevirtual 136, 3) := by decide +kernel
theorem dL_law_1162 : decode cL_law 1162 = .ok (.if_icmp .eq 222, 3) := by decide +kernel
theorem dL_law_1165 : decode cL_law 1165 = .ok (.iconst 0, 1) := by decide +kernel
theorem dL_law_1166 : decode cL_law 1166 = .ok (.ireturn, 1) := by decide +kernel
theorem dL_law_1167 : decode cL_law 1167 = .ok (.aload_n 1, 1) := by decide +kernel
theorem dL_law_1168 : decode cL_law 1168 = .ok (.aload_n 0, 1) := by decide +kernel
theorem dL_law_1169 : decode cL_law 1169 = .ok (.iload_n 3, 1) := by decide +kernel
theorem dL_law_1170 : decode cL_law 1170 = .ok (.iconst 1, 1) := by decide +kernel
theorem dL_law_1171 : decode cL_law 1171 = .ok (.iadd, 1) := by decide +kernel
theorem dL_law_1172 : decode cL_law 1172 = .ok (.iaload, 1) := by decide +kernel
theorem dL_law_1173 : decode cL_law 1173 = .ok (.aload_n 0, 1) := by decide +kernel
theorem dL_law_1174 : decode cL_law 1174 = .ok (.iload_n 3, 1) := by decide +kernel
theorem dL_law_1175 : decode cL_law 1175 = .ok (.iconst 2, 1) := by decide +kernel
theorem dL_law_1176 : decode cL_law 1176 = .ok (.iadd, 1) := by decide +kernel
theorem dL_law_1177 : decode cL_law 1177 = .ok (.iaload, 1) := by decide +kernel
theorem dL_law_1178 : decode cL_law 1178 = .ok (.aload_n 0, 1) := by decide +kernel
theorem dL_law_1179 : decode cL_law 1179 = .ok (.iload_n 3, 1) := by decide +kernel
theorem dL_law_1180 : decode cL_law 1180 = .ok (.iconst 3, 1) := by decide +kernel
theorem dL_law_1181 : decode cL_law 1181 = .ok (.iadd, 1) := by decide +kernel
theorem dL_law_1182 : decode cL_law 1182 = .ok (.iaload, 1) := by decide +kernel
theorem dL_law_1183 : decode cL_law 1183 = .ok (.aload_n 0, 1) := by decide +kernel
theorem dL_law_1184 : decode cL_law 1184 = .ok (.iload_n 3, 1) := by decide +kernel
theorem dL_law_1185 : decode cL_law 1185 = .ok (.iconst 4, 1) := by decide +kernel
theorem dL_law_1186 : decode cL_law 1186 = .ok (.iadd, 1) := by decide +kernel
theorem dL_law_1187 : decode cL_law 1187 = .ok (.iaload, 1) := by decide +kernel
theorem dL_law_1188 : decode cL_law 1188 = .ok (.aload_n 0, 1) := by decide +kernel
theorem dL_law_1189 : decode cL_law 1189 = .ok (.iload_n 3, 1) := by decide +kernel
theorem dL_law_1190 : decode cL_law 1190 = .ok (.iconst 5, 1) := by decide +kernel
theorem dL_law_1191 : decode cL_law 1191 = .ok (.iadd, 1) := by decide +kernel
theorem dL_law_1192 : decode cL_law 1192 = .ok (.iaload, 1) := by decide +kernel
theorem dL_law_1193 : decode cL_law 1193 = .ok (.invokevirtual 137, 3) := by decide +kernel
theorem dL_law_1196 : decode cL_law 1196 = .ok (.aload_n 2, 1) := by decide +kernel
theorem dL_law_1197 : decode cL_law 1197 = .ok (.aload_n 0, 1) := by decide +kernel
theorem dL_law_1198 : decode cL_law 1198 = .ok (.iload_n 3, 1) := by decide +kernel
theorem dL_law_1199 : decode cL_law 1199 = .ok (.iconst 1, 1) := by decide +kernel
theorem dL_law_1200 : decode cL_law 1200 = .ok (.iadd, 1) := by decide +kernel
theorem dL_law_1201 : decode cL_law 1201 = .ok (.iaload, 1) := by decide +kernel
theorem dL_law_1202 : decode cL_law 1202 = .ok (.aload_n 0, 1) := by decide +kernel
theorem dL_law_1203 : decode cL_law 1203 = .ok (.iload_n 3, 1) := by decide +kernel
theorem dL_law_1204 : decode cL_law 1204 = .ok (.iconst 2, 1) := by decide +kernel
theorem dL_law_1205 : decode cL_law 1205 = .ok (.iadd, 1) := by decide +kernel
theorem dL_law_1206 : decode cL_law 1206 = .ok (.iaload, 1) := by decide +kernel
theorem dL_law_1207 : decode cL_law 1207 = .ok (.aload_n 0, 1) := by decide +kernel
theorem dL_law_1208 : decode cL_law 1208 = .ok (.iload_n 3, 1) := by decide +kernel
theorem dL_law_1209 : decode cL_law 1209 = .ok (.iconst 3, 1) := by decide +kernel
theorem dL_law_1210 : decode cL_law 1210 = .ok (.iadd, 1) := by decide +kernel
theorem dL_law_1211 : decode cL_law 1211 = .ok (.iaload, 1) := by decide +kernel
theorem dL_law_1212 : decode cL_law 1212 = .ok (.aload_n 0, 1) := by decide +kernel
theorem dL_law_1213 : decode cL_law 1213 = .ok (.iload_n 3, 1) := by decide +kernel
theorem dL_law_1214 : decode cL_law 1214 = .ok (.iconst 4, 1) := by decide +kernel
theorem dL_law_1215 : decode cL_law 1215 = .ok (.iadd, 1) := by decide +kernel
theorem dL_law_1216 : decode cL_law 1216 = .ok (.iaload, 1) := by decide +kernel
theorem dL_law_1217 : decode cL_law 1217 = .ok (.aload_n 0, 1) := by decide +kernel
theorem dL_law_1218 : decode cL_law 1218 = .ok (.iload_n 3, 1) := by decide +kernel
theorem dL_law_1219 : decode cL_law 1219 = .ok (.iconst 5, 1) := by decide +kernel
theorem dL_law_1220 : decode cL_law 1220 = .ok (.iadd, 1) := by decide +kernel
theorem dL_law_1221 : decode cL_law 1221 = .ok (.iaload, 1) := by decide +kernel
theorem dL_law_1222 : decode cL_law 1222 = .ok (.invokevirtual 141, 3) := by decide +kernel
theorem dL_law_1225 : decode cL_law 1225 = .ok (.if_icmp .eq 159, 3) := by decide +kernel
theorem dL_law_1228 : decode cL_law 1228 = .ok (.iconst 0, 1) := by decide +kernel
theorem dL_law_1229 : decode cL_law 1229 = .ok (.ireturn, 1) := by decide +kernel
theorem dL_law_1230 : decode cL_law 1230 = .ok (.aload_n 1, 1) := by decide +kernel
theorem dL_law_1231 : decode cL_law 1231 = .ok (.aload_n 0, 1) := by decide +kernel
theorem dL_law_1232 : decode cL_law 1232 = .ok (.iload_n 3, 1) := by decide +kernel
theorem dL_law_1233 : decode cL_law 1233 = .ok (.iconst 1, 1) := by decide +kernel
theorem dL_law_1234 : decode cL_law 1234 = .ok (.iadd, 1) := by decide +kernel
theorem dL_law_1235 : decode cL_law 1235 = .ok (.iaload, 1) := by decide +kernel
theorem dL_law_1236 : decode cL_law 1236 = .ok (.invokevirtual 142, 3) := by decide +kernel
theorem dL_law_1239 : decode cL_law 1239 = .ok (.aload_n 2, 1) := by decide +kernel
theorem dL_law_1240 : decode cL_law 1240 = .ok (.aload_n 0, 1) := by decide +kernel
theorem dL_law_1241 : decode cL_law 1241 = .ok (.iload_n 3, 1) := by decide +kernel
theorem dL_law_1242 : decode cL_law 1242 = .ok (.iconst 1, 1) := by decide +kernel
theorem dL_law_1243 : decode cL_law 1243 = .ok (.iadd, 1) := by decide +kernel
theorem dL_law_1244 : decode cL_law 1244 = .ok (.iaload, 1) := by decide +kernel
theorem dL_law_1245 : decode cL_law 1245 = .ok (.invokevirtual 145, 3) := by decide +kernel
theorem dL_law_1248 : decode cL_law 1248 = .ok (.if_icmp .eq 136, 3) := by decide +kernel
theorem dL_law_1251 : decode cL_law 1251 = .ok (.iconst 0, 1) := by decide +kernel
theorem dL_law_1252 : decode cL_law 1252 = .ok (.ireturn, 1) := by decide +kernel
theorem dL_law_1253 : decode cL_law 1253 = .ok (.aload_n 1, 1) := by decide +kernel
theorem dL_law_1254 : decode cL_law 1254 = .ok (.aload_n 0, 1) := by decide +kernel
theorem dL_law_1255 : decode cL_law 1255 = .ok (.iload_n 3, 1) := by decide +kernel
theorem dL_law_1256 : decode cL_law 1256 = .ok (.iconst 1, 1) := by decide +kernel
theorem dL_law_1257 : decode cL_law 1257 = .ok (.iadd, 1) := by decide +kernel
theorem dL_law_1258 : decode cL_law 1258 = .ok (.iaload, 1) := by decide +kernel
theorem dL_law_1259 : decode cL_law 1259 = .ok (.invokevirtual 146, 3) := by decide +kernel
theorem dL_law_1262 : decode cL_law 1262 = .ok (.aload_n 2, 1) := by decide +kernel
theorem dL_law_1263 : decode cL_law 1263 = .ok (.aload_n 0, 1) := by decide +kernel
theorem dL_law_1264 : decode cL_law 1264 = .ok (.iload_n 3, 1) := by decide +kernel
theorem dL_law_1265 : decode cL_law 1265 = .ok (.iconst 1, 1) := by decide +kernel
theorem dL_law_1266 : decode cL_law 1266 = .ok (.iadd, 1) := by decide +kernel
theorem dL_law_1267 : decode cL_law 1267 = .ok (.iaload, 1) := by decide +kernel
theorem dL_law_1268 : decode cL_law 1268 = .ok (.invokevirtual 149, 3) := by decide +kernel
theorem dL_law_1271 : decode cL_law 1271 = .ok (.if_icmp .eq 113, 3) := by decide +kernel
theorem dL_law_1274 : decode cL_law 1274 = .ok (.iconst 0, 1) := by decide +kernel
theorem dL_law_1275 : decode cL_law 1275 = .ok (.ireturn, 1) := by decide +kernel
theorem dL_law_1276 : decode cL_law 1276 = .ok (.aload_n 1, 1) := by decide +kernel
theorem dL_law_1277 : decode cL_law 1277 = .ok (.invokevirtual 150, 3) := by decide +kernel
theorem dL_law_1280 : decode cL_law 1280 = .ok (.aload_n 2, 1) := by decide +kernel
theorem dL_law_1281 : decode cL_law 1281 = .ok (.invokevirtual 153, 3) := by decide +kernel
theorem dL_law_1284 : decode cL_law 1284 = .ok (.if_icmp .eq 100, 3) := by decide +kernel
theorem dL_law_1287 : decode cL_law 1287 = .ok (.iconst 0, 1) := by decide +kernel
theorem dL_law_1288 : decode cL_law 1288 = .ok (.ireturn, 1) := by decide +kernel
theorem dL_law_1289 : decode cL_law 1289 = .ok (.aload_n 1, 1) := by decide +kernel
theorem dL_law_1290 : decode cL_law 1290 = .ok (.invokevirtual 154, 3) := by decide +kernel
theorem dL_law_1293 : decode cL_law 1293 = .ok (.aload_n 2, 1) := by decide +kernel
theorem dL_law_1294 : decode cL_law 1294 = .ok (.invokevirtual 157, 3) := by decide +kernel
theorem dL_law_1297 : decode cL_law 1297 = .ok (.if_icmp .eq 87, 3) := by decide +kernel
theorem dL_law_1300 : decode cL_law 1300 = .ok (.iconst 0, 1) := by decide +kernel
theorem dL_law_1301 : decode cL_law 1301 = .ok (.ireturn, 1) := by decide +kernel
theorem dL_law_1302 : decode cL_law 1302 = .ok (.aload_n 1, 1) := by decide +kernel
theorem dL_law_1303 : decode cL_law 1303 = .ok (.aload_n 0, 1) := by decide +kernel
theorem dL_law_1304 : decode cL_law 1304 = .ok (.iload_n 3, 1) := by decide +kernel
theorem dL_law_1305 : decode cL_law 1305 = .ok (.iconst 1, 1) := by decide +kernel
theorem dL_law_1306 : decode cL_law 1306 = .ok (.iadd, 1) := by decide +kernel
theorem dL_law_1307 : decode cL_law 1307 = .ok (.iaload, 1) := by decide +kernel
theorem dL_law_1308 : decode cL_law 1308 = .ok (.invokevirtual 158, 3) := by decide +kernel
theorem dL_law_1311 : decode cL_law 1311 = .ok (.aload_n 2, 1) := by decide +kernel
theorem dL_law_1312 : decode cL_law 1312 = .ok (.aload_n 0, 1) := by decide +kernel
theorem dL_law_1313 : decode cL_law 1313 = .ok (.iload_n 3, 1) := by decide +kernel
theorem dL_law_1314 : decode cL_law 1314 = .ok (.iconst 1, 1) := by decide +kernel
theorem dL_law_1315 : decode cL_law 1315 = .ok (.iadd, 1) := by decide +kernel
theorem dL_law_1316 : decode cL_law 1316 = .ok (.iaload, 1) := by decide +kernel
theorem dL_law_1317 : decode cL_law 1317 = .ok (.invokevirtual 161, 3) := by decide +kernel
theorem dL_law_1320 : decode cL_law 1320 = .ok (.if_icmp .eq 64, 3) := by decide +kernel
theorem dL_law_1323 : decode cL_law 1323 = .ok (.iconst 0, 1) := by decide +kernel
theorem dL_law_1324 : decode cL_law 1324 = .ok (.ireturn, 1) := by decide +kernel
theorem dL_law_1325 : decode cL_law 1325 = .ok (.aload_n 1, 1) := by decide +kernel
theorem dL_law_1326 : decode cL_law 1326 = .ok (.invokevirtual 162, 3) := by decide +kernel
theorem dL_law_1329 : decode cL_law 1329 = .ok (.aload_n 2, 1) := by decide +kernel
theorem dL_law_1330 : decode cL_law 1330 = .ok (.invokevirtual 165, 3) := by decide +kernel
theorem dL_law_1333 : decode cL_law 1333 = .ok (.if_icmp .eq 51, 3) := by decide +kernel
theorem dL_law_1336 : decode cL_law 1336 = .ok (.iconst 0, 1) := by decide +kernel
theorem dL_law_1337 : decode cL_law 1337 = .ok (.ireturn, 1) := by decide +kernel
theorem dL_law_1338 : decode cL_law 1338 = .ok (.aload_n 1, 1) := by decide +kernel
theorem dL_law_1339 : decode cL_law 1339 = .ok (.aload_n 0, 1) := by decide +kernel
theorem dL_law_1340 : decode cL_law 1340 = .ok (.iload_n 3, 1) := by decide +kernel
theorem dL_law_1341 : decode cL_law 1341 = .ok (.iconst 1, 1) := by decide +kernel
theorem dL_law_1342 : decode cL_law 1342 = .ok (.iadd, 1) := by decide +kernel
theorem dL_law_1343 : decode cL_law 1343 = .ok (.iaload, 1) := by decide +kernel
theorem dL_law_1344 : decode cL_law 1344 = .ok (.invokevirtual 166, 3) := by decide +kernel
theorem dL_law_1347 : decode cL_law 1347 = .ok (.aload_n 2, 1) := by decide +kernel
theorem dL_law_1348 : decode cL_law 1348 = .ok (.aload_n 0, 1) := by decide +kernel
theorem dL_law_1349 : decode cL_law 1349 = .ok (.iload_n 3, 1) := by decide +kernel
theorem dL_law_1350 : decode cL_law 1350 = .ok (.iconst 1, 1) := by decide +kernel
theorem dL_law_1351 : decode cL_law 1351 = .ok (.iadd, 1) := by decide +kernel
theorem dL_law_1352 : decode cL_law 1352 = .ok (.iaload, 1) := by decide +kernel
theorem dL_law_1353 : decode cL_law 1353 = .ok (.invokevirtual 169, 3) := by decide +kernel
theorem dL_law_1356 : decode cL_law 1356 = .ok (.if_icmp .eq 28, 3) := by decide +kernel
theorem dL_law_1359 : decode cL_law 1359 = .ok (.iconst 0, 1) := by decide +kernel
theorem dL_law_1360 : decode cL_law 1360 = .ok (.ireturn, 1) := by decide +kernel
theorem dL_law_1361 : decode cL_law 1361 = .ok (.aload_n 1, 1) := by decide +kernel
theorem dL_law_1362 : decode cL_law 1362 = .ok (.aload_n 0, 1) := by decide +kernel
theorem dL_law_1363 : decode cL_law 1363 = .ok (.iload_n 3, 1) := by decide +kernel
theorem dL_law_1364 : decode cL_law 1364 = .ok (.iconst 1, 1) := by decide +kernel
theorem dL_law_1365 : decode cL_law 1365 = .ok (.iadd, 1) := by decide +kernel
theorem dL_law_1366 : decode cL_law 1366 = .ok (.iaload, 1) := by decide +kernel
theorem dL_law_1367 : decode cL_law 1367 = .ok (.invokevirtual 170, 3) := by decide +kernel
theorem dL_law_1370 : decode cL_law 1370 = .ok (.aload_n 2, 1) := by decide +kernel
theorem dL_law_1371 : decode cL_law 1371 = .ok (.aload_n 0, 1) := by decide +kernel
theorem dL_law_1372 : decode cL_law 1372 = .ok (.iload_n 3, 1) := by decide +kernel
theorem dL_law_1373 : decode cL_law 1373 = .ok (.iconst 1, 1) := by decide +kernel
theorem dL_law_1374 : decode cL_law 1374 = .ok (.iadd, 1) := by decide +kernel
theorem dL_law_1375 : decode cL_law 1375 = .ok (.iaload, 1) := by decide +kernel
theorem dL_law_1376 : decode cL_law 1376 = .ok (.invokevirtual 173, 3) := by decide +kernel
theorem dL_law_1379 : decode cL_law 1379 = .ok (.if_icmp .eq 5, 3) := by decide +kernel
theorem dL_law_1382 : decode cL_law 1382 = .ok (.iconst 0, 1) := by decide +kernel
theorem dL_law_1383 : decode cL_law 1383 = .ok (.ireturn, 1) := by decide +kernel
theorem dL_law_1384 : decode cL_law 1384 = .ok (.iinc 3 6, 3) := by decide +kernel
theorem dL_law_1387 : decode cL_law 1387 = .ok (.goto (-1369), 3) := by decide +kernel
theorem dL_law_1390 : decode cL_law 1390 = .ok (.iconst 1, 1) := by decide +kernel
theorem dL_law_1391 : decode cL_law 1391 = .ok (.ireturn, 1) := by decide +kernel
end
section

/-! the bundled judgement: G cells slots world locals pc stack; IsG says that G is the machine's W of a method with its context hidden -/
abbrev GT : Type := Nat → Nat → va_W → List (Nat × Value) → Nat → List Value → Prop
/-- (class numbers and slots), classes of arrays (0 int[], 1 YardKind[], 2 int[][]), where the new heap begins, addresses of what lay there before -/
abbrev GP : Type := va_G × (Nat → ClassId) × Nat × (Nat → Nat)
def gA (g : GP) : Nat → Prop := fun q => g.2.2.1 ≤ q
def gT (g : GP) : List (ClassId × FieldType) := [(g.2.1 0, .int), (g.2.1 1, .object "SweptRound$YardKind"), (g.2.1 2, .array .int)]
def gKab (j : Nat) : Value := .int (([-1, 0, 0, 0, 1, 2, 3] : List Int32).getD j 0)
def isNest : Cond → Bool
  | .fieldLinkNest .. => true
  | .methodLinkNest .. => true
  | _ => false
def gtb : List Cond := lw_tbl.filter goodWord
theorem gtb_of {w : Cond} (h : w ∈ lw_tbl) (hg : goodWord w = true) : w ∈ gtb := List.mem_filter.mpr ⟨h, hg⟩
def gN (U : State) : Prop := ∀ w ∈ lw_tbl, isNest w = true → va_Nw w U
theorem gN.warm {s U : State} (hW : s.WarmedH U.vm) (h : gN s) : gN U := by
  intro w hw hn
  have h1 := h w hw hn
  cases w <;> first | exact h1.warmF hW | exact h1.warmM hW | cases hn
theorem gN.same {s U : State} (hv : s.vm = U.vm) (h : gN s) : gN U := by
  intro w hw hn
  refine va_Nw.same ?_ hv (h w hw hn)
  cases w <;> first | rfl | cases hn
def gStr (g : GP) (U : State) : Prop := vk_R "SweptRound$Reader" 81 "ydx" (g.2.2.2 1) U ∧ vk_R "SweptRound$Reader" 83 "sde" (g.2.2.2 2) U ∧ vk_S 2 [3, 3] [[121, 100, 120], [115, 100, 101]] (fun i => g.2.2.2 (1 + i)) (fun i => g.2.2.2 (3 + i)) (gA g) U U.heap
def gS (g : GP) (U : State) : Prop := gN U ∧ va_AO "SweptRound$YardKind" U ∧ gStr g U ∧ va_Z "SweptRound" "KIND_ABOVE" "[I" (.ref (g.2.2.2 0)) (gA g) U U.heap ∧ va_T .int (g.2.2.2 0) 7 gKab (gA g) U U.heap
def gK (g : GP) (U : State) : Prop := va_K g.1 vwCl (gT g) U ∧ g.2.2.1 ≤ U.heap.size ∧ gS g U
def gB (g : GP) (hp : va_W) (t : State) : Prop := va_P g.1 vwCl hp t.heap ∧ va_D (gA g) hp ∧ gK g t
theorem gK.moved {g : GP} {s U : State} (h : gK g s) (hW : s.WarmedH U.vm) (hz : s.heap.size ≤ U.heap.size) (hq : ∀ q : Nat, q < s.heap.size → ¬ gA g q → U.heap[q]? = s.heap[q]?) : gK g U := by
  obtain ⟨h1, h2, n, ao, ⟨r1, r2, r3⟩, z, t⟩ := h
  exact ⟨h1.moved hW.alike, Nat.le_trans h2 hz, n.warm hW, ao.moved hW.alike, ⟨r1.warm hW, r2.warm hW, (r3.moved hW.alike).kept hq⟩, (z.moved hW.alike).kept hq, (t.moved hW.alike).kept hq⟩
theorem gK.same {g : GP} {s U : State} (h : gK g s) (hv : s.vm = U.vm) (hh : U.heap = s.heap) : gK g U := by
  obtain ⟨h1, h2, n, ao, ⟨r1, r2, r3⟩, z, t⟩ := h
  have ha : s.vm.Alike U.vm := by rw [hv]; exact Vm.Alike.refl _
  exact ⟨h1.moved ha, by rw [hh]; exact h2, n.same hv, ao.moved ha, ⟨r1.same hv.symm, r2.same hv.symm, by rw [hh]; exact r3.moved ha⟩, by rw [hh]; exact z.moved ha, by rw [hh]; exact t.moved ha⟩
theorem gA_new {g : GP} {s : State} (h : gK g s) : ∀ q, s.heap.size ≤ q → gA g q := fun _ hq => Nat.le_trans h.2.1 hq
def BW (g : GP) (p : Program) (l : Launch) (e : Env) (R : Room) (s : State) (m : MethodId) (args : Array Value) (below : List Frame) (meth : Method) (c : Code) (Q : State → Prop) (nL : Nat) : GT := fun cells slots hp L pc st =>
  ∀ (H : Heap) (locs : List Loc) (ls : Array Slot), va_P g.1 vwCl hp H → va_D (gA g) hp → va_S (gA g) s.heap H locs → lv_has ls nL L → W p l e R s m args below meth c H locs cells slots Q (F0 m pc ls st)
def IsG (g : GP) (l : Launch) (y : MethodName) (cc : ByteArray) (nL : Nat) (R : Room) (G : GT) : Prop :=
  ∃ (p : Program) (e : Env) (s : State) (m : MethodId) (args : Array Value) (below : List Frame) (meth : Method) (c : Code) (Q : State → Prop), p.tables.exec = Jvm.exec ∧ c.code = cc ∧ c.maxLocals = nL ∧ s.vm.findClass y.cls = some m.cls ∧ (∀ w ∈ gtb, w.before args s = true) ∧ gK g s ∧ meth.locks = false ∧ meth.name = y.name ∧ G = BW g p l e R s m args below meth c Q nL
def llk (k : Nat) : List (Nat × Value) → Option Value
  | [] => none
  | (j, v) :: t => if j == k then some v else llk k t
def lst (k : Nat) (v : Value) (L : List (Nat × Value)) : List (Nat × Value) := (k, v) :: L.filter (fun q => !(q.1 == k) && !(q.1 + 1 == k && q.2.category == 2))
theorem llk_mem {k : Nat} {v : Value} : ∀ {L : List (Nat × Value)}, llk k L = some v → (k, v) ∈ L
  | [], h => by cases h
  | (j, w) :: t, h => by
    unfold llk at h
    by_cases e : (j == k) = true
    · rw [if_pos e] at h
      cases h
      rw [beq_iff_eq] at e
      subst e
      exact List.mem_cons_self
    · rw [if_neg e] at h
      exact List.mem_cons_of_mem _ (llk_mem h)
theorem llk_at {ls : Array Slot} {n k : Nat} {L : List (Nat × Value)} {v : Value} (hl : lv_has ls n L) (h : llk k L = some v) : ls[k]? = some (.val v) := hl.2.2 (k, v) (llk_mem h)
theorem llk_ix {k : Nat} {v : Value} {L : List (Nat × Value)} (h : llk k L = some v) : ∃ i : Nat, L[i]? = some (k, v) := List.getElem?_of_mem (llk_mem h)
section ROWS
variable {g : GP} {l : Launch} {y : MethodName} {cc : ByteArray} {nL : Nat} {R : Room} {G : GT} {ce sl pc : Nat} {hp : va_W} {L : List (Nat × Value)} {st : List Value}

theorem g_iconst (hG : IsG g l y cc nL R G) {n : Int} (d : decode cc pc = .ok (.iconst n, 1)) (k : G ce sl hp L (pc + 1) (.int (Int32.ofInt n) :: st)) : G ce sl hp L pc (st) := by
  obtain ⟨p, e, s, m, args, below, meth, c, Q, hx, hb, hml, hown, hts, hK, hlk, hnm, rfl⟩ := hG
  intro H locs ls hP hD hS hl
  exact lv_iconst hx hb d rfl (k H locs ls hP hD hS hl)

theorem g_bipush (hG : IsG g l y cc nL R G) {n : Int} (d : decode cc pc = .ok (.bipush n, 2)) (k : G ce sl hp L (pc + 2) (.int (Int8.ofInt n).toInt32 :: st)) : G ce sl hp L pc (st) := by
  obtain ⟨p, e, s, m, args, below, meth, c, Q, hx, hb, hml, hown, hts, hK, hlk, hnm, rfl⟩ := hG
  intro H locs ls hP hD hS hl
  exact lv_bipush hx hb d rfl (k H locs ls hP hD hS hl)

theorem g_sipush (hG : IsG g l y cc nL R G) {n : Int} (d : decode cc pc = .ok (.sipush n, 3)) (k : G ce sl hp L (pc + 3) (.int (Int16.ofInt n).toInt32 :: st)) : G ce sl hp L pc (st) := by
  obtain ⟨p, e, s, m, args, below, meth, c, Q, hx, hb, hml, hown, hts, hK, hlk, hnm, rfl⟩ := hG
  intro H locs ls hP hD hS hl
  exact lv_sipush hx hb d rfl (k H locs ls hP hD hS hl)

theorem g_iconstv (hG : IsG g l y cc nL R G) {n : Int} {v : Int32} (d : decode cc pc = .ok (.iconst n, 1)) (hv : Int32.ofInt n = v) (k : G ce sl hp L (pc + 1) (.int v :: st)) : G ce sl hp L pc (st) := by
  obtain ⟨p, e, s, m, args, below, meth, c, Q, hx, hb, hml, hown, hts, hK, hlk, hnm, rfl⟩ := hG
  intro H locs ls hP hD hS hl
  exact lv_iconst hx hb d hv (k H locs ls hP hD hS hl)

theorem g_bipushv (hG : IsG g l y cc nL R G) {n : Int} {v : Int32} (d : decode cc pc = .ok (.bipush n, 2)) (hv : (Int8.ofInt n).toInt32 = v) (k : G ce sl hp L (pc + 2) (.int v :: st)) : G ce sl hp L pc (st) := by
  obtain ⟨p, e, s, m, args, below, meth, c, Q, hx, hb, hml, hown, hts, hK, hlk, hnm, rfl⟩ := hG
  intro H locs ls hP hD hS hl
  exact lv_bipush hx hb d hv (k H locs ls hP hD hS hl)

theorem g_sipushv (hG : IsG g l y cc nL R G) {n : Int} {v : Int32} (d : decode cc pc = .ok (.sipush n, 3)) (hv : (Int16.ofInt n).toInt32 = v) (k : G ce sl hp L (pc + 3) (.int v :: st)) : G ce sl hp L pc (st) := by
  obtain ⟨p, e, s, m, args, below, meth, c, Q, hx, hb, hml, hown, hts, hK, hlk, hnm, rfl⟩ := hG
  intro H locs ls hP hD hS hl
  exact lv_sipush hx hb d hv (k H locs ls hP hD hS hl)

theorem g_ldc (hG : IsG g l y cc nL R G) {i : Nat} {v : Int32} (d : decode cc pc = .ok (.ldc i, 2)) (hc : Cond.constant y.cls i v ∈ gtb) (k : G ce sl hp L (pc + 2) (.int v :: st)) : G ce sl hp L pc (st) := by
  obtain ⟨p, e, s, m, args, below, meth, c, Q, hx, hb, hml, hown, hts, hK, hlk, hnm, rfl⟩ := hG
  intro H locs ls hP hD hS hl
  exact lv_ldc hx hb hown (hts _ hc) d (k H locs ls hP hD hS hl)

theorem g_iload_n (hG : IsG g l y cc nL R G) {i : Fin 4} {x : Int32} (d : decode cc pc = .ok (.iload_n i, 1)) (hv : llk i L = some (.int x)) (k : G ce sl hp L (pc + 1) (.int x :: st)) : G ce sl hp L pc (st) := by
  obtain ⟨p, e, s, m, args, below, meth, c, Q, hx, hb, hml, hown, hts, hK, hlk, hnm, rfl⟩ := hG
  intro H locs ls hP hD hS hl
  exact lv_iload_n hx hb d rfl (llk_at hl hv) (k H locs ls hP hD hS hl)

theorem g_iload (hG : IsG g l y cc nL R G) {i : Nat} {x : Int32} (d : decode cc pc = .ok (.iload i, 2)) (hv : llk i L = some (.int x)) (k : G ce sl hp L (pc + 2) (.int x :: st)) : G ce sl hp L pc (st) := by
  obtain ⟨p, e, s, m, args, below, meth, c, Q, hx, hb, hml, hown, hts, hK, hlk, hnm, rfl⟩ := hG
  intro H locs ls hP hD hS hl
  exact lv_iload hx hb d (llk_at hl hv) (k H locs ls hP hD hS hl)

theorem g_aload_n (hG : IsG g l y cc nL R G) {i : Fin 4} {x : Nat} (d : decode cc pc = .ok (.aload_n i, 1)) (hv : llk i L = some (.ref x)) (k : G ce sl hp L (pc + 1) (.ref x :: st)) : G ce sl hp L pc (st) := by
  obtain ⟨p, e, s, m, args, below, meth, c, Q, hx, hb, hml, hown, hts, hK, hlk, hnm, rfl⟩ := hG
  intro H locs ls hP hD hS hl
  exact lv_aload_n hx hb d rfl (llk_at hl hv) (k H locs ls hP hD hS hl)

theorem g_aload (hG : IsG g l y cc nL R G) {i : Nat} {x : Nat} (d : decode cc pc = .ok (.aload i, 2)) (hv : llk i L = some (.ref x)) (k : G ce sl hp L (pc + 2) (.ref x :: st)) : G ce sl hp L pc (st) := by
  obtain ⟨p, e, s, m, args, below, meth, c, Q, hx, hb, hml, hown, hts, hK, hlk, hnm, rfl⟩ := hG
  intro H locs ls hP hD hS hl
  exact lv_aload hx hb d (llk_at hl hv) (k H locs ls hP hD hS hl)

theorem g_lload_n (hG : IsG g l y cc nL R G) {i : Fin 4} {x : Int64} (d : decode cc pc = .ok (.lload_n i, 1)) (hv : llk i L = some (.long x)) (k : G ce sl hp L (pc + 1) (.long x :: st)) : G ce sl hp L pc (st) := by
  obtain ⟨p, e, s, m, args, below, meth, c, Q, hx, hb, hml, hown, hts, hK, hlk, hnm, rfl⟩ := hG
  intro H locs ls hP hD hS hl
  exact lv_lload_n hx hb d rfl (llk_at hl hv) (k H locs ls hP hD hS hl)

theorem g_istore_n (hG : IsG g l y cc nL R G) {i : Fin 4} {x : Int32} (d : decode cc pc = .ok (.istore_n i, 1)) (hn : (i : Nat) < nL) (k : G ce sl hp (lst i (.int x) L) (pc + 1) st) : G ce sl hp L pc (.int x :: st) := by
  obtain ⟨p, e, s, m, args, below, meth, c, Q, hx, hb, hml, hown, hts, hK, hlk, hnm, rfl⟩ := hG
  intro H locs ls hP hD hS hl
  exact lv_istore_n hx hb d rfl hl hn rfl (fun ls hl => k H locs ls hP hD hS hl)

theorem g_istore (hG : IsG g l y cc nL R G) {i : Nat} {x : Int32} (d : decode cc pc = .ok (.istore i, 2)) (hn : (i : Nat) < nL) (k : G ce sl hp (lst i (.int x) L) (pc + 2) st) : G ce sl hp L pc (.int x :: st) := by
  obtain ⟨p, e, s, m, args, below, meth, c, Q, hx, hb, hml, hown, hts, hK, hlk, hnm, rfl⟩ := hG
  intro H locs ls hP hD hS hl
  exact lv_istore hx hb d hl hn rfl (fun ls hl => k H locs ls hP hD hS hl)

theorem g_astore_n (hG : IsG g l y cc nL R G) {i : Fin 4} {x : Nat} (d : decode cc pc = .ok (.astore_n i, 1)) (hn : (i : Nat) < nL) (k : G ce sl hp (lst i (.ref x) L) (pc + 1) st) : G ce sl hp L pc (.ref x :: st) := by
  obtain ⟨p, e, s, m, args, below, meth, c, Q, hx, hb, hml, hown, hts, hK, hlk, hnm, rfl⟩ := hG
  intro H locs ls hP hD hS hl
  exact lv_astore_n hx hb d rfl hl hn rfl (fun ls hl => k H locs ls hP hD hS hl)

theorem g_astore (hG : IsG g l y cc nL R G) {i : Nat} {x : Nat} (d : decode cc pc = .ok (.astore i, 2)) (hn : (i : Nat) < nL) (k : G ce sl hp (lst i (.ref x) L) (pc + 2) st) : G ce sl hp L pc (.ref x :: st) := by
  obtain ⟨p, e, s, m, args, below, meth, c, Q, hx, hb, hml, hown, hts, hK, hlk, hnm, rfl⟩ := hG
  intro H locs ls hP hD hS hl
  exact lv_astore hx hb d hl hn rfl (fun ls hl => k H locs ls hP hD hS hl)

theorem g_iinc (hG : IsG g l y cc nL R G) {i : Nat} {n : Int} {x : Int32} (d : decode cc pc = .ok (.iinc i n, 3)) (hv : llk i L = some (.int x)) (hn : i < nL) (k : G ce sl hp (lst i (.int (x + Int32.ofInt n)) L) (pc + 3) st) : G ce sl hp L pc st := by
  obtain ⟨p, e, s, m, args, below, meth, c, Q, hx, hb, hml, hown, hts, hK, hlk, hnm, rfl⟩ := hG
  intro H locs ls hP hD hS hl
  obtain ⟨j, hj⟩ := llk_ix hv
  exact lv_iinc hx hb d hl hj rfl hn rfl (fun ls hl => k H locs ls hP hD hS hl)

theorem g_iadd (hG : IsG g l y cc nL R G) {x z : Int32} (d : decode cc pc = .ok (.iadd, 1)) (k : G ce sl hp L (pc + 1) (.int (x + z) :: st)) : G ce sl hp L pc (.int z :: .int x :: st) := by
  obtain ⟨p, e, s, m, args, below, meth, c, Q, hx, hb, hml, hown, hts, hK, hlk, hnm, rfl⟩ := hG
  intro H locs ls hP hD hS hl
  exact lv_iadd hx hb d (k H locs ls hP hD hS hl)

theorem g_isub (hG : IsG g l y cc nL R G) {x z : Int32} (d : decode cc pc = .ok (.isub, 1)) (k : G ce sl hp L (pc + 1) (.int (x - z) :: st)) : G ce sl hp L pc (.int z :: .int x :: st) := by
  obtain ⟨p, e, s, m, args, below, meth, c, Q, hx, hb, hml, hown, hts, hK, hlk, hnm, rfl⟩ := hG
  intro H locs ls hP hD hS hl
  exact lv_isub hx hb d (k H locs ls hP hD hS hl)

theorem g_imul (hG : IsG g l y cc nL R G) {x z : Int32} (d : decode cc pc = .ok (.imul, 1)) (k : G ce sl hp L (pc + 1) (.int (x * z) :: st)) : G ce sl hp L pc (.int z :: .int x :: st) := by
  obtain ⟨p, e, s, m, args, below, meth, c, Q, hx, hb, hml, hown, hts, hK, hlk, hnm, rfl⟩ := hG
  intro H locs ls hP hD hS hl
  exact lv_imul hx hb d (k H locs ls hP hD hS hl)

theorem g_iand (hG : IsG g l y cc nL R G) {x z : Int32} (d : decode cc pc = .ok (.iand, 1)) (k : G ce sl hp L (pc + 1) (.int (x &&& z) :: st)) : G ce sl hp L pc (.int z :: .int x :: st) := by
  obtain ⟨p, e, s, m, args, below, meth, c, Q, hx, hb, hml, hown, hts, hK, hlk, hnm, rfl⟩ := hG
  intro H locs ls hP hD hS hl
  exact lv_iand hx hb d (k H locs ls hP hD hS hl)

theorem g_ior (hG : IsG g l y cc nL R G) {x z : Int32} (d : decode cc pc = .ok (.ior, 1)) (k : G ce sl hp L (pc + 1) (.int (x ||| z) :: st)) : G ce sl hp L pc (.int z :: .int x :: st) := by
  obtain ⟨p, e, s, m, args, below, meth, c, Q, hx, hb, hml, hown, hts, hK, hlk, hnm, rfl⟩ := hG
  intro H locs ls hP hD hS hl
  exact lv_ior hx hb d (k H locs ls hP hD hS hl)

theorem g_ixor (hG : IsG g l y cc nL R G) {x z : Int32} (d : decode cc pc = .ok (.ixor, 1)) (k : G ce sl hp L (pc + 1) (.int (x ^^^ z) :: st)) : G ce sl hp L pc (.int z :: .int x :: st) := by
  obtain ⟨p, e, s, m, args, below, meth, c, Q, hx, hb, hml, hown, hts, hK, hlk, hnm, rfl⟩ := hG
  intro H locs ls hP hD hS hl
  exact lv_ixor hx hb d (k H locs ls hP hD hS hl)

theorem g_ishl (hG : IsG g l y cc nL R G) {x z : Int32} (d : decode cc pc = .ok (.ishl, 1)) (k : G ce sl hp L (pc + 1) (.int (x <<< (z &&& 31)) :: st)) : G ce sl hp L pc (.int z :: .int x :: st) := by
  obtain ⟨p, e, s, m, args, below, meth, c, Q, hx, hb, hml, hown, hts, hK, hlk, hnm, rfl⟩ := hG
  intro H locs ls hP hD hS hl
  exact lv_ishl hx hb d (k H locs ls hP hD hS hl)

theorem g_ishr (hG : IsG g l y cc nL R G) {x z : Int32} (d : decode cc pc = .ok (.ishr, 1)) (k : G ce sl hp L (pc + 1) (.int (x >>> (z &&& 31)) :: st)) : G ce sl hp L pc (.int z :: .int x :: st) := by
  obtain ⟨p, e, s, m, args, below, meth, c, Q, hx, hb, hml, hown, hts, hK, hlk, hnm, rfl⟩ := hG
  intro H locs ls hP hD hS hl
  exact lv_ishr hx hb d (k H locs ls hP hD hS hl)

theorem g_iushr (hG : IsG g l y cc nL R G) {x z : Int32} (d : decode cc pc = .ok (.iushr, 1)) (k : G ce sl hp L (pc + 1) (.int (x.toUInt32 >>> (z.toUInt32 &&& Int32.toUInt32 31)).toInt32 :: st)) : G ce sl hp L pc (.int z :: .int x :: st) := by
  obtain ⟨p, e, s, m, args, below, meth, c, Q, hx, hb, hml, hown, hts, hK, hlk, hnm, rfl⟩ := hG
  intro H locs ls hP hD hS hl
  exact lv_iushr hx hb d rfl (k H locs ls hP hD hS hl)

theorem g_ineg (hG : IsG g l y cc nL R G) {x : Int32} (d : decode cc pc = .ok (.ineg, 1)) (k : G ce sl hp L (pc + 1) (.int (-x) :: st)) : G ce sl hp L pc (.int x :: st) := by
  obtain ⟨p, e, s, m, args, below, meth, c, Q, hx, hb, hml, hown, hts, hK, hlk, hnm, rfl⟩ := hG
  intro H locs ls hP hD hS hl
  exact lv_ineg hx hb d (k H locs ls hP hD hS hl)

theorem g_idiv (hG : IsG g l y cc nL R G) {x z : Int32} (d : decode cc pc = .ok (.idiv, 1)) (hz : ¬ z = 0) (k : G ce sl hp L (pc + 1) (.int (x / z) :: st)) : G ce sl hp L pc (.int z :: .int x :: st) := by
  obtain ⟨p, e, s, m, args, below, meth, c, Q, hx, hb, hml, hown, hts, hK, hlk, hnm, rfl⟩ := hG
  intro H locs ls hP hD hS hl
  exact lv_idiv hx hb d hz (k H locs ls hP hD hS hl)

theorem g_irem (hG : IsG g l y cc nL R G) {x z : Int32} (d : decode cc pc = .ok (.irem, 1)) (hz : ¬ z = 0) (k : G ce sl hp L (pc + 1) (.int (x - x / z * z) :: st)) : G ce sl hp L pc (.int z :: .int x :: st) := by
  obtain ⟨p, e, s, m, args, below, meth, c, Q, hx, hb, hml, hown, hts, hK, hlk, hnm, rfl⟩ := hG
  intro H locs ls hP hD hS hl
  exact lv_irem hx hb d hz (k H locs ls hP hD hS hl)

theorem g_i2b (hG : IsG g l y cc nL R G) {x : Int32} (d : decode cc pc = .ok (.i2b, 1)) (k : G ce sl hp L (pc + 1) (.int x.toInt8.toInt32 :: st)) : G ce sl hp L pc (.int x :: st) := by
  obtain ⟨p, e, s, m, args, below, meth, c, Q, hx, hb, hml, hown, hts, hK, hlk, hnm, rfl⟩ := hG
  intro H locs ls hP hD hS hl
  exact lv_i2b hx hb d rfl (k H locs ls hP hD hS hl)

theorem g_i2s (hG : IsG g l y cc nL R G) {x : Int32} (d : decode cc pc = .ok (.i2s, 1)) (k : G ce sl hp L (pc + 1) (.int x.toInt16.toInt32 :: st)) : G ce sl hp L pc (.int x :: st) := by
  obtain ⟨p, e, s, m, args, below, meth, c, Q, hx, hb, hml, hown, hts, hK, hlk, hnm, rfl⟩ := hG
  intro H locs ls hP hD hS hl
  exact lv_i2s hx hb d rfl (k H locs ls hP hD hS hl)

theorem g_i2l (hG : IsG g l y cc nL R G) {x : Int32} (d : decode cc pc = .ok (.i2l, 1)) (k : G ce sl hp L (pc + 1) (.long x.toInt64 :: st)) : G ce sl hp L pc (.int x :: st) := by
  obtain ⟨p, e, s, m, args, below, meth, c, Q, hx, hb, hml, hown, hts, hK, hlk, hnm, rfl⟩ := hG
  intro H locs ls hP hD hS hl
  exact lv_i2l hx hb d rfl (k H locs ls hP hD hS hl)

theorem g_l2i (hG : IsG g l y cc nL R G) {x : Int64} (d : decode cc pc = .ok (.l2i, 1)) (k : G ce sl hp L (pc + 1) (.int x.toInt32 :: st)) : G ce sl hp L pc (.long x :: st) := by
  obtain ⟨p, e, s, m, args, below, meth, c, Q, hx, hb, hml, hown, hts, hK, hlk, hnm, rfl⟩ := hG
  intro H locs ls hP hD hS hl
  exact lv_l2i hx hb d rfl (k H locs ls hP hD hS hl)

theorem g_land (hG : IsG g l y cc nL R G) {x z : Int64} (d : decode cc pc = .ok (.land, 1)) (k : G ce sl hp L (pc + 1) (.long (x &&& z) :: st)) : G ce sl hp L pc (.long z :: .long x :: st) := by
  obtain ⟨p, e, s, m, args, below, meth, c, Q, hx, hb, hml, hown, hts, hK, hlk, hnm, rfl⟩ := hG
  intro H locs ls hP hD hS hl
  exact lv_land hx hb d (k H locs ls hP hD hS hl)

theorem g_lor (hG : IsG g l y cc nL R G) {x z : Int64} (d : decode cc pc = .ok (.lor, 1)) (k : G ce sl hp L (pc + 1) (.long (x ||| z) :: st)) : G ce sl hp L pc (.long z :: .long x :: st) := by
  obtain ⟨p, e, s, m, args, below, meth, c, Q, hx, hb, hml, hown, hts, hK, hlk, hnm, rfl⟩ := hG
  intro H locs ls hP hD hS hl
  exact lv_lor hx hb d (k H locs ls hP hD hS hl)

theorem g_lshr (hG : IsG g l y cc nL R G) {x : Int64} {z : Int32} (d : decode cc pc = .ok (.lshr, 1)) (k : G ce sl hp L (pc + 1) (.long (x >>> (z.toInt64 &&& 63)) :: st)) : G ce sl hp L pc (.int z :: .long x :: st) := by
  obtain ⟨p, e, s, m, args, below, meth, c, Q, hx, hb, hml, hown, hts, hK, hlk, hnm, rfl⟩ := hG
  intro H locs ls hP hD hS hl
  exact lv_lshr hx hb d rfl (k H locs ls hP hD hS hl)

theorem g_lshl (hG : IsG g l y cc nL R G) {x : Int64} {z : Int32} (d : decode cc pc = .ok (.lshl, 1)) (k : G ce sl hp L (pc + 1) (.long (x <<< (z.toInt64 &&& 63)) :: st)) : G ce sl hp L pc (.int z :: .long x :: st) := by
  obtain ⟨p, e, s, m, args, below, meth, c, Q, hx, hb, hml, hown, hts, hK, hlk, hnm, rfl⟩ := hG
  intro H locs ls hP hD hS hl
  exact lv_lshl hx hb d rfl (k H locs ls hP hD hS hl)

theorem g_lushr (hG : IsG g l y cc nL R G) {x : Int64} {z : Int32} (d : decode cc pc = .ok (.lushr, 1)) (k : G ce sl hp L (pc + 1) (.long (x.toUInt64 >>> (z.toInt64.toUInt64 &&& Int64.toUInt64 63)).toInt64 :: st)) : G ce sl hp L pc (.int z :: .long x :: st) := by
  obtain ⟨p, e, s, m, args, below, meth, c, Q, hx, hb, hml, hown, hts, hK, hlk, hnm, rfl⟩ := hG
  intro H locs ls hP hD hS hl
  exact lv_lushr hx hb d rfl (k H locs ls hP hD hS hl)

theorem g_ldc2 (hG : IsG g l y cc nL R G) {i : Nat} {v : Int64} (d : decode cc pc = .ok (.ldc2_w i, 3)) (hc : Cond.constantLong y.cls i v ∈ gtb) (k : G ce sl hp L (pc + 3) (.long v :: st)) : G ce sl hp L pc (st) := by
  obtain ⟨p, e, s, m, args, below, meth, c, Q, hx, hb, hml, hown, hts, hK, hlk, hnm, rfl⟩ := hG
  intro H locs ls hP hD hS hl
  exact lv_ldc2 hx hb hown (hts _ hc) d (k H locs ls hP hD hS hl)

theorem g_dup (hG : IsG g l y cc nL R G) {v : Value} (d : decode cc pc = .ok (.dup, 1)) (hv : v.category = 1) (k : G ce sl hp L (pc + 1) (v :: v :: st)) : G ce sl hp L pc (v :: st) := by
  obtain ⟨p, e, s, m, args, below, meth, c, Q, hx, hb, hml, hown, hts, hK, hlk, hnm, rfl⟩ := hG
  intro H locs ls hP hD hS hl
  exact lv_dup hx hb d hv (k H locs ls hP hD hS hl)

theorem g_dup2 (hG : IsG g l y cc nL R G) {v w : Value} (d : decode cc pc = .ok (.dup2, 1)) (hv : v.category = 1) (hw : w.category = 1) (k : G ce sl hp L (pc + 1) (v :: w :: v :: w :: st)) : G ce sl hp L pc (v :: w :: st) := by
  obtain ⟨p, e, s, m, args, below, meth, c, Q, hx, hb, hml, hown, hts, hK, hlk, hnm, rfl⟩ := hG
  intro H locs ls hP hD hS hl
  exact lv_dup2_11 hx hb d hv hw (k H locs ls hP hD hS hl)

theorem g_if_eq (hG : IsG g l y cc nL R G) {x : Int32} {off : Int} {tgt : Nat} (d : decode cc pc = .ok (.ifCond .eq off, 3)) (ht : (pc : Int) + off = (tgt : Int)) (kt : x = 0 → G ce sl hp L tgt st) (kf : ¬ x = 0 → G ce sl hp L (pc + 3) st) : G ce sl hp L pc (.int x :: st) := by
  obtain ⟨p, e, s, m, args, below, meth, c, Q, hx, hb, hml, hown, hts, hK, hlk, hnm, rfl⟩ := hG
  intro H locs ls hP hD hS hl
  exact lv_if_eq hx hb d ht (fun q => kt q H locs ls hP hD hS hl) (fun q => kf q H locs ls hP hD hS hl)

theorem g_if_ne (hG : IsG g l y cc nL R G) {x : Int32} {off : Int} {tgt : Nat} (d : decode cc pc = .ok (.ifCond .ne off, 3)) (ht : (pc : Int) + off = (tgt : Int)) (kt : ¬ x = 0 → G ce sl hp L tgt st) (kf : x = 0 → G ce sl hp L (pc + 3) st) : G ce sl hp L pc (.int x :: st) := by
  obtain ⟨p, e, s, m, args, below, meth, c, Q, hx, hb, hml, hown, hts, hK, hlk, hnm, rfl⟩ := hG
  intro H locs ls hP hD hS hl
  exact lv_if_ne hx hb d ht (fun q => kt q H locs ls hP hD hS hl) (fun q => kf q H locs ls hP hD hS hl)

theorem g_if_lt (hG : IsG g l y cc nL R G) {x : Int32} {off : Int} {tgt : Nat} (d : decode cc pc = .ok (.ifCond .lt off, 3)) (ht : (pc : Int) + off = (tgt : Int)) (kt : x < 0 → G ce sl hp L tgt st) (kf : ¬ x < 0 → G ce sl hp L (pc + 3) st) : G ce sl hp L pc (.int x :: st) := by
  obtain ⟨p, e, s, m, args, below, meth, c, Q, hx, hb, hml, hown, hts, hK, hlk, hnm, rfl⟩ := hG
  intro H locs ls hP hD hS hl
  exact lv_if_lt hx hb d ht (fun q => kt q H locs ls hP hD hS hl) (fun q => kf q H locs ls hP hD hS hl)

theorem g_if_ge (hG : IsG g l y cc nL R G) {x : Int32} {off : Int} {tgt : Nat} (d : decode cc pc = .ok (.ifCond .ge off, 3)) (ht : (pc : Int) + off = (tgt : Int)) (kt : 0 ≤ x → G ce sl hp L tgt st) (kf : ¬ 0 ≤ x → G ce sl hp L (pc + 3) st) : G ce sl hp L pc (.int x :: st) := by
  obtain ⟨p, e, s, m, args, below, meth, c, Q, hx, hb, hml, hown, hts, hK, hlk, hnm, rfl⟩ := hG
  intro H locs ls hP hD hS hl
  exact lv_if_ge hx hb d ht (fun q => kt q H locs ls hP hD hS hl) (fun q => kf q H locs ls hP hD hS hl)

theorem g_if_gt (hG : IsG g l y cc nL R G) {x : Int32} {off : Int} {tgt : Nat} (d : decode cc pc = .ok (.ifCond .gt off, 3)) (ht : (pc : Int) + off = (tgt : Int)) (kt : 0 < x → G ce sl hp L tgt st) (kf : ¬ 0 < x → G ce sl hp L (pc + 3) st) : G ce sl hp L pc (.int x :: st) := by
  obtain ⟨p, e, s, m, args, below, meth, c, Q, hx, hb, hml, hown, hts, hK, hlk, hnm, rfl⟩ := hG
  intro H locs ls hP hD hS hl
  exact lv_if_gt hx hb d ht (fun q => kt q H locs ls hP hD hS hl) (fun q => kf q H locs ls hP hD hS hl)

theorem g_if_le (hG : IsG g l y cc nL R G) {x : Int32} {off : Int} {tgt : Nat} (d : decode cc pc = .ok (.ifCond .le off, 3)) (ht : (pc : Int) + off = (tgt : Int)) (kt : x ≤ 0 → G ce sl hp L tgt st) (kf : ¬ x ≤ 0 → G ce sl hp L (pc + 3) st) : G ce sl hp L pc (.int x :: st) := by
  obtain ⟨p, e, s, m, args, below, meth, c, Q, hx, hb, hml, hown, hts, hK, hlk, hnm, rfl⟩ := hG
  intro H locs ls hP hD hS hl
  exact lv_if_le hx hb d ht (fun q => kt q H locs ls hP hD hS hl) (fun q => kf q H locs ls hP hD hS hl)

theorem g_icmp_eq (hG : IsG g l y cc nL R G) {x z : Int32} {off : Int} {tgt : Nat} (d : decode cc pc = .ok (.if_icmp .eq off, 3)) (ht : (pc : Int) + off = (tgt : Int)) (kt : x = z → G ce sl hp L tgt st) (kf : ¬ x = z → G ce sl hp L (pc + 3) st) : G ce sl hp L pc (.int z :: .int x :: st) := by
  obtain ⟨p, e, s, m, args, below, meth, c, Q, hx, hb, hml, hown, hts, hK, hlk, hnm, rfl⟩ := hG
  intro H locs ls hP hD hS hl
  exact lv_icmp_eq hx hb d ht (fun q => kt q H locs ls hP hD hS hl) (fun q => kf q H locs ls hP hD hS hl)

theorem g_icmp_ne (hG : IsG g l y cc nL R G) {x z : Int32} {off : Int} {tgt : Nat} (d : decode cc pc = .ok (.if_icmp .ne off, 3)) (ht : (pc : Int) + off = (tgt : Int)) (kt : ¬ x = z → G ce sl hp L tgt st) (kf : x = z → G ce sl hp L (pc + 3) st) : G ce sl hp L pc (.int z :: .int x :: st) := by
  obtain ⟨p, e, s, m, args, below, meth, c, Q, hx, hb, hml, hown, hts, hK, hlk, hnm, rfl⟩ := hG
  intro H locs ls hP hD hS hl
  exact lv_icmp_ne hx hb d ht (fun q => kt q H locs ls hP hD hS hl) (fun q => kf q H locs ls hP hD hS hl)

theorem g_icmp_lt (hG : IsG g l y cc nL R G) {x z : Int32} {off : Int} {tgt : Nat} (d : decode cc pc = .ok (.if_icmp .lt off, 3)) (ht : (pc : Int) + off = (tgt : Int)) (kt : x < z → G ce sl hp L tgt st) (kf : ¬ x < z → G ce sl hp L (pc + 3) st) : G ce sl hp L pc (.int z :: .int x :: st) := by
  obtain ⟨p, e, s, m, args, below, meth, c, Q, hx, hb, hml, hown, hts, hK, hlk, hnm, rfl⟩ := hG
  intro H locs ls hP hD hS hl
  exact lv_icmp_lt hx hb d ht (fun q => kt q H locs ls hP hD hS hl) (fun q => kf q H locs ls hP hD hS hl)

theorem g_icmp_ge (hG : IsG g l y cc nL R G) {x z : Int32} {off : Int} {tgt : Nat} (d : decode cc pc = .ok (.if_icmp .ge off, 3)) (ht : (pc : Int) + off = (tgt : Int)) (kt : z ≤ x → G ce sl hp L tgt st) (kf : ¬ z ≤ x → G ce sl hp L (pc + 3) st) : G ce sl hp L pc (.int z :: .int x :: st) := by
  obtain ⟨p, e, s, m, args, below, meth, c, Q, hx, hb, hml, hown, hts, hK, hlk, hnm, rfl⟩ := hG
  intro H locs ls hP hD hS hl
  exact lv_icmp_ge hx hb d ht (fun q => kt q H locs ls hP hD hS hl) (fun q => kf q H locs ls hP hD hS hl)

theorem g_icmp_gt (hG : IsG g l y cc nL R G) {x z : Int32} {off : Int} {tgt : Nat} (d : decode cc pc = .ok (.if_icmp .gt off, 3)) (ht : (pc : Int) + off = (tgt : Int)) (kt : z < x → G ce sl hp L tgt st) (kf : ¬ z < x → G ce sl hp L (pc + 3) st) : G ce sl hp L pc (.int z :: .int x :: st) := by
  obtain ⟨p, e, s, m, args, below, meth, c, Q, hx, hb, hml, hown, hts, hK, hlk, hnm, rfl⟩ := hG
  intro H locs ls hP hD hS hl
  exact lv_icmp_gt hx hb d ht (fun q => kt q H locs ls hP hD hS hl) (fun q => kf q H locs ls hP hD hS hl)

theorem g_icmp_le (hG : IsG g l y cc nL R G) {x z : Int32} {off : Int} {tgt : Nat} (d : decode cc pc = .ok (.if_icmp .le off, 3)) (ht : (pc : Int) + off = (tgt : Int)) (kt : x ≤ z → G ce sl hp L tgt st) (kf : ¬ x ≤ z → G ce sl hp L (pc + 3) st) : G ce sl hp L pc (.int z :: .int x :: st) := by
  obtain ⟨p, e, s, m, args, below, meth, c, Q, hx, hb, hml, hown, hts, hK, hlk, hnm, rfl⟩ := hG
  intro H locs ls hP hD hS hl
  exact lv_icmp_le hx hb d ht (fun q => kt q H locs ls hP hD hS hl) (fun q => kf q H locs ls hP hD hS hl)

theorem g_goto (hG : IsG g l y cc nL R G) {off : Int} {tgt : Nat} (d : decode cc pc = .ok (.goto off, 3)) (ht : (pc : Int) + off = (tgt : Int)) (k : G ce sl hp L tgt st) : G ce sl hp L pc st := by
  obtain ⟨p, e, s, m, args, below, meth, c, Q, hx, hb, hml, hown, hts, hK, hlk, hnm, rfl⟩ := hG
  intro H locs ls hP hD hS hl
  exact lv_goto hx hb d ht (k H locs ls hP hD hS hl)

theorem g_tableOut (hG : IsG g l y cc nL R G) {dflt lo hi : Int} {offs : Array Int} {len : Nat} {x : Int32} {tgt : Nat} (d : decode cc pc = .ok (.tableswitch dflt lo hi offs, len)) (h : x.toInt < lo ∨ hi < x.toInt) (ht : (pc : Int) + dflt = (tgt : Int)) (k : G ce sl hp L tgt st) : G ce sl hp L pc (.int x :: st) := by
  obtain ⟨p, e, s, m, args, below, meth, c, Q, hx, hb, hml, hown, hts, hK, hlk, hnm, rfl⟩ := hG
  intro H locs ls hP hD hS hl
  exact lv_tableOut hx hb d h ht (k H locs ls hP hD hS hl)

theorem g_tableIn (hG : IsG g l y cc nL R G) {dflt lo hi : Int} {offs : Array Int} {len : Nat} {x : Int32} {off : Int} {tgt : Nat} (d : decode cc pc = .ok (.tableswitch dflt lo hi offs, len)) (h1 : ¬ x.toInt < lo) (h2 : ¬ hi < x.toInt) (ho : offs[(x.toInt - lo).toNat]? = some off) (ht : (pc : Int) + off = (tgt : Int)) (k : G ce sl hp L tgt st) : G ce sl hp L pc (.int x :: st) := by
  obtain ⟨p, e, s, m, args, below, meth, c, Q, hx, hb, hml, hown, hts, hK, hlk, hnm, rfl⟩ := hG
  intro H locs ls hP hD hS hl
  exact lv_tableIn hx hb d h1 h2 ho ht (k H locs ls hP hD hS hl)

theorem g_get (hG : IsG g l y cc nL R G) {k a ci idx f N : Nat} {fs : List Value} {C : String} {T : u_T} {v : Value} (d : decode cc pc = .ok (.getfield idx, 3)) (he : hp[k]? = some (a, .inr (ci, fs))) (hc : vwCl[ci]? = some (C, T, N)) (hin : ∀ w ∈ u_ws C T N, w ∈ gtb) (hf : f < N) (hT : (T f).1 = C) (hlk2 : Cond.fieldLink y.cls idx C (T f).2.1 (T f).2.2.1 ∈ gtb) (hv : fs[f]? = some v) (kk : G ce sl hp L (pc + 3) (v :: st)) : G ce sl hp L pc (.ref a :: st) := by
  obtain ⟨p, e, s, m, args, below, meth, c, Q, hx, hb, hml, hown, hts, hK, hlk, hnm, rfl⟩ := hG
  intro H locs ls hP hD hS hl
  exact va_get hx hb hts hin hown hK.1 hP k he hc f hf (hts _ hlk2) (by rw [hT]; exact fun _ h => h) hv d (kk H locs ls hP hD hS hl)
theorem g_getN (hG : IsG g l y cc nL R G) {k a ci idx f N : Nat} {fs : List Value} {C host : String} {T : u_T} {v : Value} (d : decode cc pc = .ok (.getfield idx, 3)) (he : hp[k]? = some (a, .inr (ci, fs))) (hc : vwCl[ci]? = some (C, T, N)) (hin : ∀ w ∈ u_ws C T N, w ∈ gtb) (hf : f < N) (hT : (T f).1 = C) (hlk2 : Cond.fieldLinkNest y.cls idx C (T f).2.1 (T f).2.2.1 host ∈ lw_tbl) (hv : fs[f]? = some v) (kk : G ce sl hp L (pc + 3) (v :: st)) : G ce sl hp L pc (.ref a :: st) := by
  obtain ⟨p, e, s, m, args, below, meth, c, Q, hx, hb, hml, hown, hts, hK, hlk, hnm, rfl⟩ := hG
  intro H locs ls hP hD hS hl
  exact va_getN hx hb hts hin hown hK.1 hP k he hc f hf ((hK.2.2.1 _ hlk2 rfl).use rfl) (by rw [hT]; exact fun _ h => h) hv d (kk H locs ls hP hD hS hl)
theorem g_put (hG : IsG g l y cc nL R G) {k a ci idx f N : Nat} {fs : List Value} {C : String} {T : u_T} {v : Value} {ty0 : Nat → FieldType} (d : decode cc pc = .ok (.putfield idx, 3)) (he : hp[k]? = some (a, .inr (ci, fs))) (hc : vwCl[ci]? = some (C, T, N)) (hin : ∀ w ∈ u_ws C T N, w ∈ gtb) (hty : ∀ k, k < N → parseFieldDescriptor (T k).2.2.1 = some (ty0 k)) (hnm2 : ∀ a, a < N → ∀ b, b < N → a ≠ b → (T a).2.1 ≠ (T b).2.1) (hf : f < N) (hT : (T f).1 = C) (hlk2 : Cond.fieldLink y.cls idx C (T f).2.1 (T f).2.2.1 ∈ gtb) (hfin : (T f).2.2.2 = false) (hn : narrow (ty0 f) v = v) (hfit : fits (ty0 f) v = true) (hl2 : f < fs.length) (kk : G ce sl (hp.set k (a, .inr (ci, fs.set f v))) L (pc + 3) st) : G ce sl hp L pc (v :: .ref a :: st) := by
  obtain ⟨p, e, s, m, args, below, meth, c, Q, hx, hb, hml, hown, hts, hK, hlk, hnm, rfl⟩ := hG
  intro H locs ls hP hD hS hl
  exact va_put hx hb hts hin ty0 hty hnm2 hown hK.1 hP hD hS k he hc f hf (hts _ hlk2) (by rw [hT]; exact fun _ h => h) hfin (hty f hf) hn hfit hl2 d (fun H1 locs1 hP hD hS => kk H1 locs1 ls hP hD hS hl)
theorem g_putN (hG : IsG g l y cc nL R G) {k a ci idx f N : Nat} {fs : List Value} {C host : String} {T : u_T} {v : Value} {ty0 : Nat → FieldType} (d : decode cc pc = .ok (.putfield idx, 3)) (he : hp[k]? = some (a, .inr (ci, fs))) (hc : vwCl[ci]? = some (C, T, N)) (hin : ∀ w ∈ u_ws C T N, w ∈ gtb) (hty : ∀ k, k < N → parseFieldDescriptor (T k).2.2.1 = some (ty0 k)) (hnm2 : ∀ a, a < N → ∀ b, b < N → a ≠ b → (T a).2.1 ≠ (T b).2.1) (hf : f < N) (hT : (T f).1 = C) (hlk2 : Cond.fieldLinkNest y.cls idx C (T f).2.1 (T f).2.2.1 host ∈ lw_tbl) (hfin : (T f).2.2.2 = false) (hn : narrow (ty0 f) v = v) (hfit : fits (ty0 f) v = true) (hl2 : f < fs.length) (kk : G ce sl (hp.set k (a, .inr (ci, fs.set f v))) L (pc + 3) st) : G ce sl hp L pc (v :: .ref a :: st) := by
  obtain ⟨p, e, s, m, args, below, meth, c, Q, hx, hb, hml, hown, hts, hK, hlk, hnm, rfl⟩ := hG
  intro H locs ls hP hD hS hl
  exact va_putN hx hb hts hin ty0 hty hnm2 hown hK.1 hP hD hS k he hc f hf ((hK.2.2.1 _ hlk2 rfl).use rfl) (by rw [hT]; exact fun _ h => h) hfin (hty f hf) hn hfit hl2 d (fun H1 locs1 hP hD hS => kk H1 locs1 ls hP hD hS hl)
theorem g_putF (hG : IsG g l y cc nL R G) {k a ci idx f N : Nat} {fs : List Value} {C : String} {T : u_T} {v : Value} {ty0 : Nat → FieldType} (d : decode cc pc = .ok (.putfield idx, 3)) (he : hp[k]? = some (a, .inr (ci, fs))) (hc : vwCl[ci]? = some (C, T, N)) (hin : ∀ w ∈ u_ws C T N, w ∈ gtb) (hty : ∀ k, k < N → parseFieldDescriptor (T k).2.2.1 = some (ty0 k)) (hnm2 : ∀ a, a < N → ∀ b, b < N → a ≠ b → (T a).2.1 ≠ (T b).2.1) (hf : f < N) (hT : (T f).1 = C) (hC : C = y.cls) (hlk2 : Cond.fieldLink y.cls idx C (T f).2.1 (T f).2.2.1 ∈ gtb) (hfin : (T f).2.2.2 = true) (hy : y.name = "<init>") (hn : narrow (ty0 f) v = v) (hfit : fits (ty0 f) v = true) (hl2 : f < fs.length) (kk : G ce sl (hp.set k (a, .inr (ci, fs.set f v))) L (pc + 3) st) : G ce sl hp L pc (v :: .ref a :: st) := by
  obtain ⟨p, e, s, m, args, below, meth, c, Q, hx, hb, hml, hown, hts, hK, hlk, hnm, rfl⟩ := hG
  intro H locs ls hP hD hS hl
  exact va_putF hx hb hts hin ty0 hty hnm2 hown hK.1 hP hD hS k he hc f hf (hts _ hlk2) (by rw [hT]; exact fun _ h => h) hfin (hnm.trans hy) (hT.trans hC) (hty f hf) hn hfit hl2 d (fun H1 locs1 hP hD hS => kk H1 locs1 ls hP hD hS hl)
theorem g_iald (hG : IsG g l y cc nL R G) {k a n : Nat} {f : Nat → Int32} {i : Int32} (d : decode cc pc = .ok (.iaload, 1)) (he : hp[k]? = some (a, .inl (g.2.1 0, n, .inl f))) (hi : vp_in i n) (kk : G ce sl hp L (pc + 1) (.int (f i.toNatClampNeg) :: st)) : G ce sl hp L pc (.int i :: .ref a :: st) := by
  obtain ⟨p, e, s, m, args, below, meth, c, Q, hx, hb, hml, hown, hts, hK, hlk, hnm, rfl⟩ := hG
  intro H locs ls hP hD hS hl
  exact va_iald hx hb hK.1 hP k 0 he rfl hi d (kk H locs ls hP hD hS hl)
theorem g_iast (hG : IsG g l y cc nL R G) {k a n : Nat} {f : Nat → Int32} {i x : Int32} (d : decode cc pc = .ok (.iastore, 1)) (he : hp[k]? = some (a, .inl (g.2.1 0, n, .inl f))) (hi : vp_in i n) (kk : G ce sl (hp.set k (a, .inl (g.2.1 0, n, .inl (upd f i.toNatClampNeg x)))) L (pc + 1) st) : G ce sl hp L pc (.int x :: .int i :: .ref a :: st) := by
  obtain ⟨p, e, s, m, args, below, meth, c, Q, hx, hb, hml, hown, hts, hK, hlk, hnm, rfl⟩ := hG
  intro H locs ls hP hD hS hl
  exact va_iast hx hb hK.1 hP hD hS k 0 he rfl hi d (fun H1 locs1 hP hD hS => kk H1 locs1 ls hP hD hS hl)
theorem g_alen (hG : IsG g l y cc nL R G) {k a n : Nat} {f : Nat → Int32} (d : decode cc pc = .ok (.arraylength, 1)) (he : hp[k]? = some (a, .inl (g.2.1 0, n, .inl f))) (kk : G ce sl hp L (pc + 1) (.int (Int32.ofNat n) :: st)) : G ce sl hp L pc (.ref a :: st) := by
  obtain ⟨p, e, s, m, args, below, meth, c, Q, hx, hb, hml, hown, hts, hK, hlk, hnm, rfl⟩ := hG
  intro H locs ls hP hD hS hl
  exact va_alen hx hb hK.1 hP k 0 he rfl rfl d (kk H locs ls hP hD hS hl)

end ROWS
end
section
/-! contracts over the bundled judgement: a method from arguments As and world hp -/
theorem tbl_goodIn {big : List Cond} {y : MethodName} {cc : ByteArray} {nL : Nat} {ret : Option FieldType} (hb : ∀ w ∈ gtb, w ∈ big) (h : Cond.code y cc nL ret ∈ gtb) : GoodIn big (Cond.code y cc nL ret :: gtb) := by
  intro w hw
  have h1 : w ∈ gtb := by
    rcases List.mem_cons.mp hw with e | e
    · rw [e]; exact h
    · exact e
  exact ⟨hb w h1, good_of_word (List.mem_filter.mp h1).2⟩
def CP (g : GP) (As : List Value) (hp : va_W) : Array Value → State → Prop := va_Pc As (fun U => va_P g.1 vwCl hp U.heap ∧ va_D (gA g) hp ∧ gK g U)
theorem CP.blind (g : GP) (As : List Value) (hp : va_W) : FrameBlind (CP g As hp) := by
  intro a U f mk q
  obtain ⟨q0, q1, q2, q3⟩ := q
  exact ⟨q0, q1, q2, q3.same rfl rfl⟩
/-- y, given As in the world hp: returns an int r and a world hp' with post r hp' -/
def CI (g : GP) (l : Launch) (y : MethodName) (cc : ByteArray) (nL : Nat) (ret : Option FieldType) (rm : Room) (As : List Value) (hp : va_W) (post : Int32 → va_W → Prop) : Prop :=
  Met l y (.code y cc nL ret :: gtb) rm (CP g As hp) (va_Qi post (gB g) (gA g)) rm.cells rm.slots (gA g)
def CV (g : GP) (l : Launch) (y : MethodName) (cc : ByteArray) (nL : Nat) (rm : Room) (As : List Value) (hp : va_W) (post : va_W → Prop) : Prop :=
  Met l y (.code y cc nL none :: gtb) rm (CP g As hp) (va_Qv post (gB g) (gA g)) rm.cells rm.slots (gA g)
/-- it returns a reference -/
def CR (g : GP) (l : Launch) (y : MethodName) (cc : ByteArray) (nL : Nat) (ret : Option FieldType) (rm : Room) (As : List Value) (hp : va_W) (post : Nat × va_W → Prop) : Prop :=
  Met l y (.code y cc nL ret :: gtb) rm (CP g As hp) (va_Qr post (fun u a t => a = u.1 ∧ gB g u.2 t) (gA g)) rm.cells rm.slots (gA g)
theorem gB.end {g : GP} {s t : State} {hp : va_W} {H : Heap} {locs : List Loc} (hK : gK g s) (hP : va_P g.1 vwCl hp H) (hD : va_D (gA g) hp) (hS : va_S (gA g) s.heap H locs) (ht : t.heap = H) (hW : s.WarmedH t.vm) : gB g hp t :=
  ⟨by rw [ht]; exact hP, hD, hK.moved hW (by rw [ht]; exact hS.1) (fun q h1 h2 => by rw [ht]; exact hS.2.1 q h1 h2)⟩
/-- an int or a boolean comes back -/
theorem CI.mk {g : GP} {l : Launch} {y : MethodName} {cc : ByteArray} {nL : Nat} {ty : FieldType} {rm : Room} {As : List Value} {hp : va_W} {post : Int32 → va_W → Prop} (hy : plainName y.cls = true) (hAs : (lg_sl As).length ≤ nL)
    (h : ∀ G : GT, IsG g l y cc nL rm G → (∀ (hp' : va_W) (L : List (Nat × Value)) (pc : Nat) (r : Int32), decode cc pc = .ok (.ireturn, 1) → narrow ty (.int r) = .int r → post r hp' → G rm.cells rm.slots hp' L pc [.int r]) → G 0 0 hp (lv_args 0 As) 0 []) : CI g l y cc nL (some ty) rm As hp post := by
  refine Met.ofW (cc := cc) (maxL := nL) (ret := some ty) hy rfl ?_
  intro p e s m args below meth c s₁ B hml hv
  obtain ⟨rfl, hP, hD, hK⟩ := hv
  have hts : ∀ w ∈ gtb, w.before As.toArray s = true := fun w hw => atoms_spec (ws := .code y cc nL (some ty) :: gtb) B.pre w (List.mem_cons_of_mem _ hw)
  have hlk := B.notSynchronized
  have key := h (BW g p l e rm s m As.toArray below meth c (MQ below (va_Qi post (gB g) (gA g)) As.toArray s rm.cells rm.slots (gA g)) nL) ⟨p, e, s, m, As.toArray, below, meth, c, _, B.exec, B.bytes, hml, findClass_of_methodNamed B.named, hts, hK, hlk, (name_of_methodNamed B.named B.method).1, rfl⟩ ?_
  · have hl := lv_entry As hAs
    rw [lg_entry_eq]
    exact key s.heap [] _ hP hD va_S.rf hl
  · intro hp' L pc r d hn hpost H locs ls hP hD hS hl
    exact W.zret B.exec B.bytes B.returns hn (fun t ht hW => ⟨⟨r, hp', rfl, hpost, gB.end hK hP hD hS ht hW⟩, hS.F ht⟩) hS.2.2 d
theorem CV.mk {g : GP} {l : Launch} {y : MethodName} {cc : ByteArray} {nL : Nat} {rm : Room} {As : List Value} {hp : va_W} {post : va_W → Prop} (hy : plainName y.cls = true) (hAs : (lg_sl As).length ≤ nL)
    (h : ∀ G : GT, IsG g l y cc nL rm G → (∀ (hp' : va_W) (L : List (Nat × Value)) (pc : Nat), decode cc pc = .ok (.return_, 1) → post hp' → G rm.cells rm.slots hp' L pc []) → G 0 0 hp (lv_args 0 As) 0 []) : CV g l y cc nL rm As hp post := by
  refine Met.ofW (cc := cc) (maxL := nL) (ret := none) hy rfl ?_
  intro p e s m args below meth c s₁ B hml hv
  obtain ⟨rfl, hP, hD, hK⟩ := hv
  have hts : ∀ w ∈ gtb, w.before As.toArray s = true := fun w hw => atoms_spec (ws := .code y cc nL none :: gtb) B.pre w (List.mem_cons_of_mem _ hw)
  have hlk := B.notSynchronized
  have key := h (BW g p l e rm s m As.toArray below meth c (MQ below (va_Qv post (gB g) (gA g)) As.toArray s rm.cells rm.slots (gA g)) nL) ⟨p, e, s, m, As.toArray, below, meth, c, _, B.exec, B.bytes, hml, findClass_of_methodNamed B.named, hts, hK, hlk, (name_of_methodNamed B.named B.method).1, rfl⟩ ?_
  · have hl := lv_entry As hAs
    rw [lg_entry_eq]
    exact key s.heap [] _ hP hD va_S.rf hl
  · intro hp' L pc d hpost H locs ls hP hD hS hl
    exact W.vret B.exec B.bytes B.returns (fun t ht hW => ⟨⟨hp', rfl, hpost, gB.end hK hP hD hS ht hW⟩, hS.F ht⟩) hS.2.2 d
/-- what a call's words are -/
def LkB (y : MethodName) (cc : ByteArray) (nL : Nat) (ret : Option FieldType) (n : Nat) : Prop := Cond.code y cc nL ret ∈ gtb ∧ Cond.initialized y.cls ∈ gtb ∧ y.cls ≠ "java/lang/invoke/MethodHandle" ∧ y.cls ≠ "java/lang/invoke/VarHandle" ∧ (parseMethodDescriptor y.desc).map (fun d => d.parameters.length) = some n
def LkV (own : String) (idx : Nat) (y : MethodName) : Prop := Cond.methodLink own idx y ∈ gtb ∧ Cond.instanceMethod y ∈ gtb ∧ Cond.selects y.cls y y ∈ gtb
def LkS (own : String) (idx : Nat) (y : MethodName) : Prop := Cond.methodLink own idx y ∈ gtb ∧ Cond.static y ∈ gtb
def LkSN (own : String) (idx : Nat) (y : MethodName) (host : String) : Prop := Cond.methodLinkNest own idx y host ∈ lw_tbl ∧ Cond.static y ∈ gtb
section CALLS
variable {g : GP} {l : Launch} {y : MethodName} {cc : ByteArray} {nL : Nat} {R : Room} {G : GT} {ce sl pc : Nat} {hp : va_W} {L : List (Nat × Value)} {st : List Value}
variable {y' : MethodName} {cc' : ByteArray} {nL' n idx : Nat} {ret : Option FieldType} {rm : Room} {As : List Value}
theorem callB_g {s : State} {args : Array Value} {own : String} (hts : ∀ w ∈ gtb, w.before args s = true) (b : LkB y' cc' nL' ret n) (hlink : Cond.methodLink own idx y' ∈ gtb) (hR : rm.frames + 1 ≤ R.frames ∧ 8 + (nL' + 11) + rm.locals ≤ R.locals) : CallB R s args own idx y' cc' nL' ret (.code y' cc' nL' ret :: gtb) rm rm.cells rm.slots n :=
  callB_of n hts (tbl_goodIn (fun _ h => h) b.1) rfl rfl rfl (hts _ b.2.1) (hts _ hlink) b.2.2 hR
/-- behind a call -/
theorem g_callV_i (hG : IsG g l y cc nL R G) {k a ci N : Nat} {fs : List Value} {T : u_T} {post : Int32 → va_W → Prop} (d : decode cc pc = .ok (.invokevirtual idx, 3)) (hM : CI g l y' cc' nL' ret rm (.ref a :: As) hp post) (b : LkB y' cc' nL' ret n) (v : LkV y.cls idx y') (hn : As.length = n) (he : hp[k]? = some (a, .inr (ci, fs))) (hc : vwCl[ci]? = some (y'.cls, T, N)) (hR : rm.frames + 1 ≤ R.frames ∧ 8 + (nL' + 11) + rm.locals ≤ R.locals) (hst : (st.map fun v => v.category).sum ≤ 8) (hf : ce + rm.cells ≤ R.cells ∧ sl + rm.slots ≤ R.slots)
    (kk : ∀ (r : Int32) (hp' : va_W), post r hp' → G (ce + rm.cells) (sl + rm.slots) hp' L (pc + 3) (.int r :: st)) : G ce sl hp L pc (As.reverse ++ .ref a :: st) := by
  obtain ⟨p, e, s, m, args, below, meth, c, Q, hx, hb, hml, hown, hts, hK, hlk, hnm, rfl⟩ := hG
  intro H locs ls hP hD hS hl
  refine va_calli (va_runV (As := As) (rest := st) (C := y'.cls) ⟨hx, hb, hml, hown, hts⟩ hM ⟨callB_g hts b v.1 hR, hts _ v.2.1, hts _ v.2.2⟩ ⟨CP.blind _ _ _, va_recv hK.1 hP hc he, fun U hU hW => ⟨rfl, by rw [hU]; exact hP, hD, hK.moved hW (by rw [hU]; exact hS.1) (fun q h1 h2 => by rw [hU]; exact hS.2.1 q h1 h2)⟩⟩ rfl hn hl.1 rfl (lv_room hst) d hf) hS (fun q _ h => h) (fun q h => h) (fun r u t H1 locs ht hvm hw hB hz1 hk1 hS => ?_)
  exact kk r u hw H1 locs ls (by rw [← ht]; exact hB.1) hB.2.1 hS hl
theorem g_callV_v (hG : IsG g l y cc nL R G) {k a ci N : Nat} {fs : List Value} {T : u_T} {post : va_W → Prop} (d : decode cc pc = .ok (.invokevirtual idx, 3)) (hM : CV g l y' cc' nL' rm (.ref a :: As) hp post) (b : LkB y' cc' nL' none n) (v : LkV y.cls idx y') (hn : As.length = n) (he : hp[k]? = some (a, .inr (ci, fs))) (hc : vwCl[ci]? = some (y'.cls, T, N)) (hR : rm.frames + 1 ≤ R.frames ∧ 8 + (nL' + 11) + rm.locals ≤ R.locals) (hst : (st.map fun v => v.category).sum ≤ 8) (hf : ce + rm.cells ≤ R.cells ∧ sl + rm.slots ≤ R.slots)
    (kk : ∀ (hp' : va_W), post hp' → G (ce + rm.cells) (sl + rm.slots) hp' L (pc + 3) st) : G ce sl hp L pc (As.reverse ++ .ref a :: st) := by
  obtain ⟨p, e, s, m, args, below, meth, c, Q, hx, hb, hml, hown, hts, hK, hlk, hnm, rfl⟩ := hG
  intro H locs ls hP hD hS hl
  refine va_callv (va_runV (As := As) (rest := st) (C := y'.cls) ⟨hx, hb, hml, hown, hts⟩ hM ⟨callB_g hts b v.1 hR, hts _ v.2.1, hts _ v.2.2⟩ ⟨CP.blind _ _ _, va_recv hK.1 hP hc he, fun U hU hW => ⟨rfl, by rw [hU]; exact hP, hD, hK.moved hW (by rw [hU]; exact hS.1) (fun q h1 h2 => by rw [hU]; exact hS.2.1 q h1 h2)⟩⟩ rfl hn hl.1 rfl (lv_room hst) d hf) hS (fun q _ h => h) (fun q h => h) (fun u t H1 locs ht hvm hw hB hz1 hk1 hS => ?_)
  exact kk u hw H1 locs ls (by rw [← ht]; exact hB.1) hB.2.1 hS hl
theorem g_callS_i (hG : IsG g l y cc nL R G) {post : Int32 → va_W → Prop} (d : decode cc pc = .ok (.invokestatic idx, 3)) (hM : CI g l y' cc' nL' ret rm As hp post) (b : LkB y' cc' nL' ret n) (v : LkS y.cls idx y') (hn : As.length = n) (hR : rm.frames + 1 ≤ R.frames ∧ 8 + (nL' + 11) + rm.locals ≤ R.locals) (hst : (st.map fun v => v.category).sum ≤ 8) (hf : ce + rm.cells ≤ R.cells ∧ sl + rm.slots ≤ R.slots)
    (kk : ∀ (r : Int32) (hp' : va_W), post r hp' → G (ce + rm.cells) (sl + rm.slots) hp' L (pc + 3) (.int r :: st)) : G ce sl hp L pc (As.reverse ++ st) := by
  obtain ⟨p, e, s, m, args, below, meth, c, Q, hx, hb, hml, hown, hts, hK, hlk, hnm, rfl⟩ := hG
  intro H locs ls hP hD hS hl
  refine va_calli (va_runS (As := As) (rest := st) ⟨hx, hb, hml, hown, hts⟩ hM ⟨callB_g hts b v.1 hR, hts _ v.2⟩ ⟨CP.blind _ _ _, fun U hU hW => ⟨rfl, by rw [hU]; exact hP, hD, hK.moved hW (by rw [hU]; exact hS.1) (fun q h1 h2 => by rw [hU]; exact hS.2.1 q h1 h2)⟩⟩ rfl hn hl.1 rfl (lv_room hst) d hf) hS (fun q _ h => h) (fun q h => h) (fun r u t H1 locs ht hvm hw hB hz1 hk1 hS => ?_)
  exact kk r u hw H1 locs ls (by rw [← ht]; exact hB.1) hB.2.1 hS hl
end CALLS
end
section
theorem tm {w : Cond} (i : Nat) (h : tables_1[i]? = some w) : w ∈ lw_tbl := List.mem_append_right _ (List.mem_of_getElem? h)
theorem pm {w : Cond} (i : Nat) (h : (k2_sels lw_privs)[i]? = some w) : w ∈ lw_tbl := List.mem_append_left _ (List.mem_of_getElem? h)
theorem b_X0_init : LkB yX0_init cX0_init 1 none 0 := ⟨(gtb_of (tm 76 (by decide +kernel)) rfl), (gtb_of (tm 8 (by decide +kernel)) rfl), by decide, by decide, by decide +kernel⟩
theorem b_X0_fallen : LkB yX0_fallen cX0_fallen 6 (some .int) 5 := ⟨(gtb_of (tm 324 (by decide +kernel)) rfl), (gtb_of (tm 8 (by decide +kernel)) rfl), by decide, by decide, by decide +kernel⟩
theorem b_X0_sweeps : LkB yX0_sweeps cX0_sweeps 3 (some .int) 2 := ⟨(gtb_of (tm 768 (by decide +kernel)) rfl), (gtb_of (tm 8 (by decide +kernel)) rfl), by decide, by decide, by decide +kernel⟩
theorem b_X0_blocks : LkB yX0_blocks cX0_blocks 3 (some .int) 2 := ⟨(gtb_of (tm 781 (by decide +kernel)) rfl), (gtb_of (tm 8 (by decide +kernel)) rfl), by decide, by decide, by decide +kernel⟩
theorem b_X1_init : LkB yX1_init cX1_init 1 none 0 := ⟨(gtb_of (tm 48 (by decide +kernel)) rfl), (gtb_of (tm 4 (by decide +kernel)) rfl), by decide, by decide, by decide +kernel⟩
theorem b_X1_fallen : LkB yX1_fallen cX1_fallen 6 (some .int) 5 := ⟨(gtb_of (tm 330 (by decide +kernel)) rfl), (gtb_of (tm 4 (by decide +kernel)) rfl), by decide, by decide, by decide +kernel⟩
theorem b_X1_taken : LkB yX1_taken cX1_taken 2 (some .int) 1 := ⟨(gtb_of (tm 359 (by decide +kernel)) rfl), (gtb_of (tm 4 (by decide +kernel)) rfl), by decide, by decide, by decide +kernel⟩
theorem b_X1_moves : LkB yX1_moves cX1_moves 3 (some .int) 2 := ⟨(gtb_of (tm 746 (by decide +kernel)) rfl), (gtb_of (tm 4 (by decide +kernel)) rfl), by decide, by decide, by decide +kernel⟩
theorem b_X2_init : LkB yX2_init cX2_init 1 none 0 := ⟨(gtb_of (tm 62 (by decide +kernel)) rfl), (gtb_of (tm 6 (by decide +kernel)) rfl), by decide, by decide, by decide +kernel⟩
theorem b_X2_fallen : LkB yX2_fallen cX2_fallen 6 (some .int) 5 := ⟨(gtb_of (tm 333 (by decide +kernel)) rfl), (gtb_of (tm 6 (by decide +kernel)) rfl), by decide, by decide, by decide +kernel⟩
theorem b_X2_taken : LkB yX2_taken cX2_taken 2 (some .int) 1 := ⟨(gtb_of (tm 362 (by decide +kernel)) rfl), (gtb_of (tm 6 (by decide +kernel)) rfl), by decide, by decide, by decide +kernel⟩
theorem b_X2_blocks : LkB yX2_blocks cX2_blocks 3 (some .int) 2 := ⟨(gtb_of (tm 792 (by decide +kernel)) rfl), (gtb_of (tm 6 (by decide +kernel)) rfl), by decide, by decide, by decide +kernel⟩
theorem b_X3_init : LkB yX3_init cX3_init 1 none 0 := ⟨(gtb_of (tm 69 (by decide +kernel)) rfl), (gtb_of (tm 7 (by decide +kernel)) rfl), by decide, by decide, by decide +kernel⟩
theorem b_X3_fallen : LkB yX3_fallen cX3_fallen 6 (some .int) 5 := ⟨(gtb_of (tm 339 (by decide +kernel)) rfl), (gtb_of (tm 7 (by decide +kernel)) rfl), by decide, by decide, by decide +kernel⟩
theorem b_X3_taken : LkB yX3_taken cX3_taken 2 (some .int) 1 := ⟨(gtb_of (tm 369 (by decide +kernel)) rfl), (gtb_of (tm 7 (by decide +kernel)) rfl), by decide, by decide, by decide +kernel⟩
theorem b_X3_moves : LkB yX3_moves cX3_moves 3 (some .int) 2 := ⟨(gtb_of (tm 759 (by decide +kernel)) rfl), (gtb_of (tm 7 (by decide +kernel)) rfl), by decide, by decide, by decide +kernel⟩
theorem b_X4_init : LkB yX4_init cX4_init 3 none 2 := ⟨(gtb_of (tm 83 (by decide +kernel)) rfl), (gtb_of (tm 9 (by decide +kernel)) rfl), by decide, by decide, by decide +kernel⟩
theorem b_X4_give : LkB yX4_give cX4_give 7 (some .int) 3 := ⟨(gtb_of (tm 301 (by decide +kernel)) rfl), (gtb_of (tm 9 (by decide +kernel)) rfl), by decide, by decide, by decide +kernel⟩
theorem b_X4_withoutText : LkB yX4_withoutText cX4_withoutText 3 (some .int) 2 := ⟨(gtb_of (tm 305 (by decide +kernel)) rfl), (gtb_of (tm 9 (by decide +kernel)) rfl), by decide, by decide, by decide +kernel⟩
theorem b_X4_joined : LkB yX4_joined cX4_joined 3 (some .int) 3 := ⟨(gtb_of (tm 308 (by decide +kernel)) rfl), (gtb_of (tm 9 (by decide +kernel)) rfl), by decide, by decide, by decide +kernel⟩
theorem b_X5_init : LkB yX5_init cX5_init 1 none 0 := ⟨(gtb_of (tm 178 (by decide +kernel)) rfl), (gtb_of (tm 11 (by decide +kernel)) rfl), by decide, by decide, by decide +kernel⟩
theorem b_X5_faultIn : LkB yX5_faultIn cX5_faultIn 4 (some .int) 3 := ⟨(gtb_of (tm 423 (by decide +kernel)) rfl), (gtb_of (tm 11 (by decide +kernel)) rfl), by decide, by decide, by decide +kernel⟩
theorem b_X5_lawRead : LkB yX5_lawRead cX5_lawRead 2 (some (.object "SweptRound$Law")) 0 := ⟨(gtb_of (tm 553 (by decide +kernel)) rfl), (gtb_of (tm 11 (by decide +kernel)) rfl), by decide, by decide, by decide +kernel⟩
theorem b_X5_reads : LkB yX5_reads cX5_reads 6 (some .boolean) 2 := ⟨(gtb_of (tm 430 (by decide +kernel)) rfl), (gtb_of (tm 11 (by decide +kernel)) rfl), by decide, by decide, by decide +kernel⟩
theorem b_X5_readsOne : LkB yX5_readsOne cX5_readsOne 4 (some .boolean) 1 := ⟨(gtb_of (tm 434 (by decide +kernel)) rfl), (gtb_of (tm 11 (by decide +kernel)) rfl), by decide, by decide, by decide +kernel⟩
theorem b_X5_readsDenied : LkB yX5_readsDenied cX5_readsDenied 2 (some .boolean) 1 := ⟨(gtb_of (tm 542 (by decide +kernel)) rfl), (gtb_of (tm 11 (by decide +kernel)) rfl), by decide, by decide, by decide +kernel⟩
theorem b_X5_readsClosed : LkB yX5_readsClosed cX5_readsClosed 2 (some .boolean) 1 := ⟨(gtb_of (tm 546 (by decide +kernel)) rfl), (gtb_of (tm 11 (by decide +kernel)) rfl), by decide, by decide, by decide +kernel⟩
theorem b_X5_readNumber : LkB yX5_readNumber cX5_readNumber 3 none 0 := ⟨(gtb_of (tm 446 (by decide +kernel)) rfl), (gtb_of (tm 11 (by decide +kernel)) rfl), by decide, by decide, by decide +kernel⟩
theorem b_X5_next : LkB yX5_next cX5_next 1 (some .int) 0 := ⟨(gtb_of (tm 438 (by decide +kernel)) rfl), (gtb_of (tm 11 (by decide +kernel)) rfl), by decide, by decide, by decide +kernel⟩
theorem b_X5_write : LkB yX5_write cX5_write 2 none 1 := ⟨(gtb_of (tm 450 (by decide +kernel)) rfl), (gtb_of (tm 11 (by decide +kernel)) rfl), by decide, by decide, by decide +kernel⟩
theorem b_X5_isDigit : LkB yX5_isDigit cX5_isDigit 1 (some .boolean) 1 := ⟨(gtb_of (tm 441 (by decide +kernel)) rfl), (gtb_of (tm 11 (by decide +kernel)) rfl), by decide, by decide, by decide +kernel⟩
theorem b_X5_nameOf : LkB yX5_nameOf cX5_nameOf 3 (some .int) 1 := ⟨(gtb_of (tm 454 (by decide +kernel)) rfl), (gtb_of (tm 11 (by decide +kernel)) rfl), by decide, by decide, by decide +kernel⟩
theorem b_X5_levelOf : LkB yX5_levelOf cX5_levelOf 1 (some .int) 1 := ⟨(gtb_of (tm 549 (by decide +kernel)) rfl), (gtb_of (tm 11 (by decide +kernel)) rfl), by decide, by decide, by decide +kernel⟩
theorem b_X6_init : LkB yX6_init cX6_init 1 none 0 := ⟨(gtb_of (tm 203 (by decide +kernel)) rfl), (gtb_of (tm 12 (by decide +kernel)) rfl), by decide, by decide, by decide +kernel⟩
theorem b_X6_open : LkB yX6_open cX6_open 3 none 2 := ⟨(gtb_of (tm 718 (by decide +kernel)) rfl), (gtb_of (tm 12 (by decide +kernel)) rfl), by decide, by decide, by decide +kernel⟩
theorem b_X6_begin : LkB yX6_begin cX6_begin 2 none 1 := ⟨(gtb_of (tm 732 (by decide +kernel)) rfl), (gtb_of (tm 12 (by decide +kernel)) rfl), by decide, by decide, by decide +kernel⟩
theorem b_X7_init : LkB yX7_init cX7_init 4 none 3 := ⟨(gtb_of (tm 100 (by decide +kernel)) rfl), (gtb_of (tm 10 (by decide +kernel)) rfl), by decide, by decide, by decide +kernel⟩
theorem b_X7_thinkOf : LkB yX7_thinkOf cX7_thinkOf 2 none 1 := ⟨(gtb_of (tm 615 (by decide +kernel)) rfl), (gtb_of (tm 10 (by decide +kernel)) rfl), by decide, by decide, by decide +kernel⟩
theorem b_X7_keepAllOf : LkB yX7_keepAllOf cX7_keepAllOf 2 none 1 := ⟨(gtb_of (tm 848 (by decide +kernel)) rfl), (gtb_of (tm 10 (by decide +kernel)) rfl), by decide, by decide, by decide +kernel⟩
theorem b_X7_has : LkB yX7_has cX7_has 2 (some .boolean) 1 := ⟨(gtb_of (tm 288 (by decide +kernel)) rfl), (gtb_of (tm 10 (by decide +kernel)) rfl), by decide, by decide, by decide +kernel⟩
theorem b_X7_shape : LkB yX7_shape cX7_shape 3 none 2 := ⟨(gtb_of (tm 273 (by decide +kernel)) rfl), (gtb_of (tm 10 (by decide +kernel)) rfl), by decide, by decide, by decide +kernel⟩
theorem b_X7_kindOf : LkB yX7_kindOf cX7_kindOf 2 (some (.object "SweptRound$YardKind")) 1 := ⟨(gtb_of (tm 316 (by decide +kernel)) rfl), (gtb_of (tm 10 (by decide +kernel)) rfl), by decide, by decide, by decide +kernel⟩
theorem b_X7_carOf : LkB yX7_carOf cX7_carOf 2 (some .int) 1 := ⟨(gtb_of (tm 293 (by decide +kernel)) rfl), (gtb_of (tm 10 (by decide +kernel)) rfl), by decide, by decide, by decide +kernel⟩
theorem b_X7_park : LkB yX7_park cX7_park 3 none 2 := ⟨(gtb_of (tm 280 (by decide +kernel)) rfl), (gtb_of (tm 10 (by decide +kernel)) rfl), by decide, by decide, by decide +kernel⟩
theorem b_X7_fallsNow : LkB yX7_fallsNow cX7_fallsNow 3 (some .int) 1 := ⟨(gtb_of (tm 297 (by decide +kernel)) rfl), (gtb_of (tm 10 (by decide +kernel)) rfl), by decide, by decide, by decide +kernel⟩
theorem b_X7_takesNow : LkB yX7_takesNow cX7_takesNow 2 (some .int) 1 := ⟨(gtb_of (tm 348 (by decide +kernel)) rfl), (gtb_of (tm 10 (by decide +kernel)) rfl), by decide, by decide, by decide +kernel⟩
theorem b_X7_signOf : LkB yX7_signOf cX7_signOf 3 (some .int) 2 := ⟨(gtb_of (tm 411 (by decide +kernel)) rfl), (gtb_of (tm 10 (by decide +kernel)) rfl), by decide, by decide, by decide +kernel⟩
theorem b_X7_signedNow : LkB yX7_signedNow cX7_signedNow 1 (some .int) 0 := ⟨(gtb_of (tm 574 (by decide +kernel)) rfl), (gtb_of (tm 10 (by decide +kernel)) rfl), by decide, by decide, by decide +kernel⟩
theorem b_X7_dirtOfAll : LkB yX7_dirtOfAll cX7_dirtOfAll 3 (some .int) 0 := ⟨(gtb_of (tm 594 (by decide +kernel)) rfl), (gtb_of (tm 10 (by decide +kernel)) rfl), by decide, by decide, by decide +kernel⟩
theorem b_X7_greatestDirt : LkB yX7_greatestDirt cX7_greatestDirt 3 (some .int) 0 := ⟨(gtb_of (tm 680 (by decide +kernel)) rfl), (gtb_of (tm 10 (by decide +kernel)) rfl), by decide, by decide, by decide +kernel⟩
theorem b_X7_firstWith : LkB yX7_firstWith cX7_firstWith 3 (some .int) 1 := ⟨(gtb_of (tm 628 (by decide +kernel)) rfl), (gtb_of (tm 10 (by decide +kernel)) rfl), by decide, by decide, by decide +kernel⟩
theorem b_X7_passAll : LkB yX7_passAll cX7_passAll 3 none 1 := ⟨(gtb_of (tm 570 (by decide +kernel)) rfl), (gtb_of (tm 10 (by decide +kernel)) rfl), by decide, by decide, by decide +kernel⟩
theorem b_X7_dirtBehind : LkB yX7_dirtBehind cX7_dirtBehind 6 (some .int) 2 := ⟨(gtb_of (tm 620 (by decide +kernel)) rfl), (gtb_of (tm 10 (by decide +kernel)) rfl), by decide, by decide, by decide +kernel⟩
theorem b_X7_passPart : LkB yX7_passPart cX7_passPart 6 none 3 := ⟨(gtb_of (tm 579 (by decide +kernel)) rfl), (gtb_of (tm 10 (by decide +kernel)) rfl), by decide, by decide, by decide +kernel⟩
theorem b_X7_sweep : LkB yX7_sweep cX7_sweep 7 none 3 := ⟨(gtb_of (tm 585 (by decide +kernel)) rfl), (gtb_of (tm 10 (by decide +kernel)) rfl), by decide, by decide, by decide +kernel⟩
theorem b_X7_goers : LkB yX7_goers cX7_goers 5 (some .int) 1 := ⟨(gtb_of (tm 589 (by decide +kernel)) rfl), (gtb_of (tm 10 (by decide +kernel)) rfl), by decide, by decide, by decide +kernel⟩
theorem b_X7_stayers : LkB yX7_stayers cX7_stayers 4 (some .int) 1 := ⟨(gtb_of (tm 637 (by decide +kernel)) rfl), (gtb_of (tm 10 (by decide +kernel)) rfl), by decide, by decide, by decide +kernel⟩
theorem b_X7_drawWindAndCar : LkB yX7_drawWindAndCar cX7_drawWindAndCar 2 none 0 := ⟨(gtb_of (tm 602 (by decide +kernel)) rfl), (gtb_of (tm 10 (by decide +kernel)) rfl), by decide, by decide, by decide +kernel⟩
theorem b_X7_drawn : LkB yX7_drawn cX7_drawn 1 (some .int) 0 := ⟨(gtb_of (tm 606 (by decide +kernel)) rfl), (gtb_of (tm 10 (by decide +kernel)) rfl), by decide, by decide, by decide +kernel⟩
theorem b_X8_init : LkB yX8_init cX8_init 1 none 0 := ⟨(gtb_of (tm 41 (by decide +kernel)) rfl), (gtb_of (tm 3 (by decide +kernel)) rfl), by decide, by decide, by decide +kernel⟩
theorem b_X8_fallen : LkB yX8_fallen cX8_fallen 6 (some .int) 5 := ⟨(gtb_of (tm 336 (by decide +kernel)) rfl), (gtb_of (tm 3 (by decide +kernel)) rfl), by decide, by decide, by decide +kernel⟩
theorem b_X8_taken : LkB yX8_taken cX8_taken 2 (some .int) 1 := ⟨(gtb_of (tm 365 (by decide +kernel)) rfl), (gtb_of (tm 3 (by decide +kernel)) rfl), by decide, by decide, by decide +kernel⟩
theorem b_X8_falls : LkB yX8_falls cX8_falls 3 (some .int) 2 := ⟨(gtb_of (tm 728 (by decide +kernel)) rfl), (gtb_of (tm 3 (by decide +kernel)) rfl), by decide, by decide, by decide +kernel⟩
theorem b_X9_init : LkB yX9_init cX9_init 1 none 0 := ⟨(gtb_of (tm 55 (by decide +kernel)) rfl), (gtb_of (tm 5 (by decide +kernel)) rfl), by decide, by decide, by decide +kernel⟩
theorem b_X9_fallen : LkB yX9_fallen cX9_fallen 6 (some .int) 5 := ⟨(gtb_of (tm 327 (by decide +kernel)) rfl), (gtb_of (tm 5 (by decide +kernel)) rfl), by decide, by decide, by decide +kernel⟩
theorem b_X9_taken : LkB yX9_taken cX9_taken 2 (some .int) 1 := ⟨(gtb_of (tm 355 (by decide +kernel)) rfl), (gtb_of (tm 5 (by decide +kernel)) rfl), by decide, by decide, by decide +kernel⟩
theorem b_X9_sweeps : LkB yX9_sweeps cX9_sweeps 3 (some .int) 2 := ⟨(gtb_of (tm 772 (by decide +kernel)) rfl), (gtb_of (tm 5 (by decide +kernel)) rfl), by decide, by decide, by decide +kernel⟩
theorem b_X10_init : LkB yX10_init cX10_init 1 none 0 := ⟨(gtb_of (tm 34 (by decide +kernel)) rfl), (gtb_of (tm 2 (by decide +kernel)) rfl), by decide, by decide, by decide +kernel⟩
theorem b_X10_fallen : LkB yX10_fallen cX10_fallen 6 (some .int) 5 := ⟨(gtb_of (tm 343 (by decide +kernel)) rfl), (gtb_of (tm 2 (by decide +kernel)) rfl), by decide, by decide, by decide +kernel⟩
theorem b_X10_taken : LkB yX10_taken cX10_taken 2 (some .int) 1 := ⟨(gtb_of (tm 374 (by decide +kernel)) rfl), (gtb_of (tm 2 (by decide +kernel)) rfl), by decide, by decide, by decide +kernel⟩
theorem b_X10_falls : LkB yX10_falls cX10_falls 3 (some .int) 2 := ⟨(gtb_of (tm 737 (by decide +kernel)) rfl), (gtb_of (tm 2 (by decide +kernel)) rfl), by decide, by decide, by decide +kernel⟩
theorem b_X10_moves : LkB yX10_moves cX10_moves 3 (some .int) 2 := ⟨(gtb_of (tm 764 (by decide +kernel)) rfl), (gtb_of (tm 2 (by decide +kernel)) rfl), by decide, by decide, by decide +kernel⟩
theorem b_X10_sweeps : LkB yX10_sweeps cX10_sweeps 3 (some .int) 2 := ⟨(gtb_of (tm 755 (by decide +kernel)) rfl), (gtb_of (tm 2 (by decide +kernel)) rfl), by decide, by decide, by decide +kernel⟩
theorem b_X10_blocks : LkB yX10_blocks cX10_blocks 3 (some .int) 2 := ⟨(gtb_of (tm 803 (by decide +kernel)) rfl), (gtb_of (tm 2 (by decide +kernel)) rfl), by decide, by decide, by decide +kernel⟩
theorem b_X11_init : LkB yX11_init cX11_init 4 none 0 := ⟨(gtb_of (tm 25 (by decide +kernel)) rfl), (gtb_of (tm 1 (by decide +kernel)) rfl), by decide, by decide, by decide +kernel⟩
theorem b_X11_yard : LkB yX11_yard cX11_yard 5 (some .int) 3 := ⟨(gtb_of (tm 259 (by decide +kernel)) rfl), (gtb_of (tm 1 (by decide +kernel)) rfl), by decide, by decide, by decide +kernel⟩
theorem b_X11_ofYard : LkB yX11_ofYard cX11_ofYard 3 (some .int) 2 := ⟨(gtb_of (tm 284 (by decide +kernel)) rfl), (gtb_of (tm 1 (by decide +kernel)) rfl), by decide, by decide, by decide +kernel⟩
theorem b_X11_change : LkB yX11_change cX11_change 5 (some .int) 3 := ⟨(gtb_of (tm 378 (by decide +kernel)) rfl), (gtb_of (tm 1 (by decide +kernel)) rfl), by decide, by decide, by decide +kernel⟩
theorem b_X11_set : LkB yX11_set cX11_set 4 (some .int) 2 := ⟨(gtb_of (tm 385 (by decide +kernel)) rfl), (gtb_of (tm 1 (by decide +kernel)) rfl), by decide, by decide, by decide +kernel⟩
theorem b_X11_become : LkB yX11_become cX11_become 4 (some .int) 2 := ⟨(gtb_of (tm 393 (by decide +kernel)) rfl), (gtb_of (tm 1 (by decide +kernel)) rfl), by decide, by decide, by decide +kernel⟩
theorem b_X11_as : LkB yX11_as cX11_as 3 (some .int) 2 := ⟨(gtb_of (tm 397 (by decide +kernel)) rfl), (gtb_of (tm 1 (by decide +kernel)) rfl), by decide, by decide, by decide +kernel⟩
theorem b_X11_sign : LkB yX11_sign cX11_sign 3 (some .int) 2 := ⟨(gtb_of (tm 407 (by decide +kernel)) rfl), (gtb_of (tm 1 (by decide +kernel)) rfl), by decide, by decide, by decide +kernel⟩
theorem b_X11_feed : LkB yX11_feed cX11_feed 5 (some .int) 2 := ⟨(gtb_of (tm 415 (by decide +kernel)) rfl), (gtb_of (tm 1 (by decide +kernel)) rfl), by decide, by decide, by decide +kernel⟩
theorem b_X11_text : LkB yX11_text cX11_text 3 (some .int) 1 := ⟨(gtb_of (tm 419 (by decide +kernel)) rfl), (gtb_of (tm 1 (by decide +kernel)) rfl), by decide, by decide, by decide +kernel⟩
theorem b_X11_law : LkB yX11_law cX11_law 5 (some .int) 4 := ⟨(gtb_of (tm 560 (by decide +kernel)) rfl), (gtb_of (tm 1 (by decide +kernel)) rfl), by decide, by decide, by decide +kernel⟩
theorem b_X11_days : LkB yX11_days cX11_days 2 (some .int) 1 := ⟨(gtb_of (tm 565 (by decide +kernel)) rfl), (gtb_of (tm 1 (by decide +kernel)) rfl), by decide, by decide, by decide +kernel⟩
theorem b_X11_loose : LkB yX11_loose cX11_loose 3 (some .int) 1 := ⟨(gtb_of (tm 598 (by decide +kernel)) rfl), (gtb_of (tm 1 (by decide +kernel)) rfl), by decide, by decide, by decide +kernel⟩
theorem b_X11_then : LkB yX11_then cX11_then 3 (some .int) 2 := ⟨(gtb_of (tm 611 (by decide +kernel)) rfl), (gtb_of (tm 1 (by decide +kernel)) rfl), by decide, by decide, by decide +kernel⟩
theorem b_X11_worst : LkB yX11_worst cX11_worst 5 (some .int) 2 := ⟨(gtb_of (tm 624 (by decide +kernel)) rfl), (gtb_of (tm 1 (by decide +kernel)) rfl), by decide, by decide, by decide +kernel⟩
theorem b_X11_stay : LkB yX11_stay cX11_stay 1 (some .int) 0 := ⟨(gtb_of (tm 633 (by decide +kernel)) rfl), (gtb_of (tm 1 (by decide +kernel)) rfl), by decide, by decide, by decide +kernel⟩
theorem b_X11_side : LkB yX11_side cX11_side 4 (some .int) 1 := ⟨(gtb_of (tm 641 (by decide +kernel)) rfl), (gtb_of (tm 1 (by decide +kernel)) rfl), by decide, by decide, by decide +kernel⟩
theorem b_X11_seldom : LkB yX11_seldom cX11_seldom 3 (some .int) 1 := ⟨(gtb_of (tm 651 (by decide +kernel)) rfl), (gtb_of (tm 1 (by decide +kernel)) rfl), by decide, by decide, by decide +kernel⟩
theorem b_X11_leastFine : LkB yX11_leastFine cX11_leastFine 3 (some .int) 1 := ⟨(gtb_of (tm 660 (by decide +kernel)) rfl), (gtb_of (tm 1 (by decide +kernel)) rfl), by decide, by decide, by decide +kernel⟩
theorem b_X11_tow : LkB yX11_tow cX11_tow 5 (some .int) 3 := ⟨(gtb_of (tm 664 (by decide +kernel)) rfl), (gtb_of (tm 1 (by decide +kernel)) rfl), by decide, by decide, by decide +kernel⟩
theorem b_X11_broom : LkB yX11_broom cX11_broom 7 (some .int) 2 := ⟨(gtb_of (tm 676 (by decide +kernel)) rfl), (gtb_of (tm 1 (by decide +kernel)) rfl), by decide, by decide, by decide +kernel⟩
theorem b_X11_fits : LkB yX11_fits cX11_fits 6 (some .int) 2 := ⟨(gtb_of (tm 684 (by decide +kernel)) rfl), (gtb_of (tm 1 (by decide +kernel)) rfl), by decide, by decide, by decide +kernel⟩
theorem b_X11_paid : LkB yX11_paid cX11_paid 2 (some .int) 1 := ⟨(gtb_of (tm 695 (by decide +kernel)) rfl), (gtb_of (tm 1 (by decide +kernel)) rfl), by decide, by decide, by decide +kernel⟩
theorem b_X11_bell : LkB yX11_bell cX11_bell 3 (some .int) 1 := ⟨(gtb_of (tm 699 (by decide +kernel)) rfl), (gtb_of (tm 1 (by decide +kernel)) rfl), by decide, by decide, by decide +kernel⟩
theorem b_X11_odds : LkB yX11_odds cX11_odds 9 (some .int) 4 := ⟨(gtb_of (tm 703 (by decide +kernel)) rfl), (gtb_of (tm 1 (by decide +kernel)) rfl), by decide, by decide, by decide +kernel⟩
theorem b_X11_seed : LkB yX11_seed cX11_seed 3 (some .int) 1 := ⟨(gtb_of (tm 710 (by decide +kernel)) rfl), (gtb_of (tm 1 (by decide +kernel)) rfl), by decide, by decide, by decide +kernel⟩
theorem b_X11_voice : LkB yX11_voice cX11_voice 5 (some .int) 3 := ⟨(gtb_of (tm 714 (by decide +kernel)) rfl), (gtb_of (tm 1 (by decide +kernel)) rfl), by decide, by decide, by decide +kernel⟩
theorem b_X11_trace : LkB yX11_trace cX11_trace 2 (some .int) 1 := ⟨(gtb_of (tm 809 (by decide +kernel)) rfl), (gtb_of (tm 1 (by decide +kernel)) rfl), by decide, by decide, by decide +kernel⟩
theorem b_X11_sheet : LkB yX11_sheet cX11_sheet 5 (some .int) 3 := ⟨(gtb_of (tm 813 (by decide +kernel)) rfl), (gtb_of (tm 1 (by decide +kernel)) rfl), by decide, by decide, by decide +kernel⟩
theorem b_X11_put : LkB yX11_put cX11_put 4 (some .int) 3 := ⟨(gtb_of (tm 820 (by decide +kernel)) rfl), (gtb_of (tm 1 (by decide +kernel)) rfl), by decide, by decide, by decide +kernel⟩
theorem b_X11_move : LkB yX11_move cX11_move 6 (some .int) 5 := ⟨(gtb_of (tm 827 (by decide +kernel)) rfl), (gtb_of (tm 1 (by decide +kernel)) rfl), by decide, by decide, by decide +kernel⟩
theorem b_X11_dirts : LkB yX11_dirts cX11_dirts 5 (some .int) 1 := ⟨(gtb_of (tm 836 (by decide +kernel)) rfl), (gtb_of (tm 1 (by decide +kernel)) rfl), by decide, by decide, by decide +kernel⟩
theorem b_X11_judge : LkB yX11_judge cX11_judge 4 (some .int) 1 := ⟨(gtb_of (tm 840 (by decide +kernel)) rfl), (gtb_of (tm 1 (by decide +kernel)) rfl), by decide, by decide, by decide +kernel⟩
theorem b_X11_image : LkB yX11_image cX11_image 1 (some .int) 0 := ⟨(gtb_of (tm 844 (by decide +kernel)) rfl), (gtb_of (tm 1 (by decide +kernel)) rfl), by decide, by decide, by decide +kernel⟩
theorem b_X11_restore : LkB yX11_restore cX11_restore 1 (some .int) 0 := ⟨(gtb_of (tm 853 (by decide +kernel)) rfl), (gtb_of (tm 1 (by decide +kernel)) rfl), by decide, by decide, by decide +kernel⟩
theorem b_X11_tell : LkB yX11_tell cX11_tell 2 (some .int) 1 := ⟨(gtb_of (tm 857 (by decide +kernel)) rfl), (gtb_of (tm 1 (by decide +kernel)) rfl), by decide, by decide, by decide +kernel⟩
theorem b_X11_check : LkB yX11_check cX11_check 3 (some .int) 0 := ⟨(gtb_of (tm 861 (by decide +kernel)) rfl), (gtb_of (tm 1 (by decide +kernel)) rfl), by decide, by decide, by decide +kernel⟩
theorem b_X11_count : LkB yX11_count cX11_count 2 (some .int) 1 := ⟨(gtb_of (tm 865 (by decide +kernel)) rfl), (gtb_of (tm 1 (by decide +kernel)) rfl), by decide, by decide, by decide +kernel⟩
theorem b_X11_told : LkB yX11_told cX11_told 2 (some .int) 1 := ⟨(gtb_of (tm 869 (by decide +kernel)) rfl), (gtb_of (tm 1 (by decide +kernel)) rfl), by decide, by decide, by decide +kernel⟩
theorem b_X11_fail : LkB yX11_fail cX11_fail 2 (some .int) 1 := ⟨(gtb_of (tm 267 (by decide +kernel)) rfl), (gtb_of (tm 1 (by decide +kernel)) rfl), by decide, by decide, by decide +kernel⟩
theorem b_X11_within : LkB yX11_within cX11_within 3 (some .boolean) 3 := ⟨(gtb_of (tm 262 (by decide +kernel)) rfl), (gtb_of (tm 1 (by decide +kernel)) rfl), by decide, by decide, by decide +kernel⟩
theorem b_X11_mostOfYard : LkB yX11_mostOfYard cX11_mostOfYard 1 (some .int) 1 := ⟨(gtb_of (tm 381 (by decide +kernel)) rfl), (gtb_of (tm 1 (by decide +kernel)) rfl), by decide, by decide, by decide +kernel⟩
theorem b_X11_mostOfStreet : LkB yX11_mostOfStreet cX11_mostOfStreet 1 (some .int) 1 := ⟨(gtb_of (tm 388 (by decide +kernel)) rfl), (gtb_of (tm 1 (by decide +kernel)) rfl), by decide, by decide, by decide +kernel⟩
theorem b_X11_isUnder : LkB yX11_isUnder cX11_isUnder 4 (some .boolean) 2 := ⟨(gtb_of (tm 402 (by decide +kernel)) rfl), (gtb_of (tm 1 (by decide +kernel)) rfl), by decide, by decide, by decide +kernel⟩
theorem b_X11_dirtOnceSwept : LkB yX11_dirtOnceSwept cX11_dirtOnceSwept 2 (some .int) 1 := ⟨(gtb_of (tm 645 (by decide +kernel)) rfl), (gtb_of (tm 1 (by decide +kernel)) rfl), by decide, by decide, by decide +kernel⟩
theorem b_X11_staysBelow : LkB yX11_staysBelow cX11_staysBelow 5 (some .boolean) 2 := ⟨(gtb_of (tm 655 (by decide +kernel)) rfl), (gtb_of (tm 1 (by decide +kernel)) rfl), by decide, by decide, by decide +kernel⟩
theorem b_X11_dirtWithout : LkB yX11_dirtWithout cX11_dirtWithout 4 (some .int) 3 := ⟨(gtb_of (tm 668 (by decide +kernel)) rfl), (gtb_of (tm 1 (by decide +kernel)) rfl), by decide, by decide, by decide +kernel⟩
theorem b_X11_leastPairToTow : LkB yX11_leastPairToTow cX11_leastPairToTow 7 (some .int) 3 := ⟨(gtb_of (tm 672 (by decide +kernel)) rfl), (gtb_of (tm 1 (by decide +kernel)) rfl), by decide, by decide, by decide +kernel⟩
theorem b_X11_liesAs : LkB yX11_liesAs cX11_liesAs 3 (some .boolean) 1 := ⟨(gtb_of (tm 691 (by decide +kernel)) rfl), (gtb_of (tm 1 (by decide +kernel)) rfl), by decide, by decide, by decide +kernel⟩
theorem b_X11_commonPart : LkB yX11_commonPart cX11_commonPart 3 (some .int) 2 := ⟨(gtb_of (tm 706 (by decide +kernel)) rfl), (gtb_of (tm 1 (by decide +kernel)) rfl), by decide, by decide, by decide +kernel⟩
theorem b_X11_isSheet : LkB yX11_isSheet cX11_isSheet 1 (some .boolean) 1 := ⟨(gtb_of (tm 687 (by decide +kernel)) rfl), (gtb_of (tm 1 (by decide +kernel)) rfl), by decide, by decide, by decide +kernel⟩
theorem b_X11_isWidth : LkB yX11_isWidth cX11_isWidth 1 (some .boolean) 1 := ⟨(gtb_of (tm 816 (by decide +kernel)) rfl), (gtb_of (tm 1 (by decide +kernel)) rfl), by decide, by decide, by decide +kernel⟩
theorem b_X11_lowestBits : LkB yX11_lowestBits cX11_lowestBits 2 (some .int) 2 := ⟨(gtb_of (tm 823 (by decide +kernel)) rfl), (gtb_of (tm 1 (by decide +kernel)) rfl), by decide, by decide, by decide +kernel⟩
theorem b_X11_stand : LkB yX11_stand cX11_stand 4 (some .boolean) 3 := ⟨(gtb_of (tm 831 (by decide +kernel)) rfl), (gtb_of (tm 1 (by decide +kernel)) rfl), by decide, by decide, by decide +kernel⟩
theorem b_X12_init : LkB yX12_init cX12_init 1 none 0 := ⟨(gtb_of (tm 874 (by decide +kernel)) rfl), (gtb_of (tm 13 (by decide +kernel)) rfl), by decide, by decide, by decide +kernel⟩
theorem b_X12_in : LkB yX12_in cX12_in 3 (some .boolean) 3 := ⟨(gtb_of (tm 958 (by decide +kernel)) rfl), (gtb_of (tm 13 (by decide +kernel)) rfl), by decide, by decide, by decide +kernel⟩
theorem b_X12_errs : LkB yX12_errs cX12_errs 2 (some .int) 1 := ⟨(gtb_of (tm 963 (by decide +kernel)) rfl), (gtb_of (tm 13 (by decide +kernel)) rfl), by decide, by decide, by decide +kernel⟩
theorem b_X12_held : LkB yX12_held cX12_held 3 (some .int) 3 := ⟨(gtb_of (tm 1039 (by decide +kernel)) rfl), (gtb_of (tm 13 (by decide +kernel)) rfl), by decide, by decide, by decide +kernel⟩
theorem b_X12_moveAll : LkB yX12_moveAll cX12_moveAll 4 none 2 := ⟨(gtb_of (tm 1085 (by decide +kernel)) rfl), (gtb_of (tm 13 (by decide +kernel)) rfl), by decide, by decide, by decide +kernel⟩
theorem b_X12_its : LkB yX12_its cX12_its 3 (some .int) 2 := ⟨(gtb_of (tm 981 (by decide +kernel)) rfl), (gtb_of (tm 13 (by decide +kernel)) rfl), by decide, by decide, by decide +kernel⟩
theorem b_X12_gets : LkB yX12_gets cX12_gets 4 none 3 := ⟨(gtb_of (tm 969 (by decide +kernel)) rfl), (gtb_of (tm 13 (by decide +kernel)) rfl), by decide, by decide, by decide +kernel⟩
theorem b_X12_isYard : LkB yX12_isYard cX12_isYard 2 (some .boolean) 1 := ⟨(gtb_of (tm 977 (by decide +kernel)) rfl), (gtb_of (tm 13 (by decide +kernel)) rfl), by decide, by decide, by decide +kernel⟩
theorem b_X12_becomes : LkB yX12_becomes cX12_becomes 4 (some .int) 2 := ⟨(gtb_of (tm 1051 (by decide +kernel)) rfl), (gtb_of (tm 13 (by decide +kernel)) rfl), by decide, by decide, by decide +kernel⟩
theorem b_X12_yard : LkB yX12_yard cX12_yard 5 (some .int) 3 := ⟨(gtb_of (tm 955 (by decide +kernel)) rfl), (gtb_of (tm 13 (by decide +kernel)) rfl), by decide, by decide, by decide +kernel⟩
theorem b_X12_ofYard : LkB yX12_ofYard cX12_ofYard 3 (some .int) 2 := ⟨(gtb_of (tm 973 (by decide +kernel)) rfl), (gtb_of (tm 13 (by decide +kernel)) rfl), by decide, by decide, by decide +kernel⟩
theorem b_X12_change : LkB yX12_change cX12_change 5 (some .int) 3 := ⟨(gtb_of (tm 1047 (by decide +kernel)) rfl), (gtb_of (tm 13 (by decide +kernel)) rfl), by decide, by decide, by decide +kernel⟩
theorem b_X12_set : LkB yX12_set cX12_set 4 (some .int) 2 := ⟨(gtb_of (tm 1055 (by decide +kernel)) rfl), (gtb_of (tm 13 (by decide +kernel)) rfl), by decide, by decide, by decide +kernel⟩
theorem b_X12_become : LkB yX12_become cX12_become 3 (some .int) 2 := ⟨(gtb_of (tm 1060 (by decide +kernel)) rfl), (gtb_of (tm 13 (by decide +kernel)) rfl), by decide, by decide, by decide +kernel⟩
theorem b_X12_above : LkB yX12_above cX12_above 1 (some .int) 1 := ⟨(gtb_of (tm 1067 (by decide +kernel)) rfl), (gtb_of (tm 13 (by decide +kernel)) rfl), by decide, by decide, by decide +kernel⟩
theorem b_X12_as : LkB yX12_as cX12_as 4 (some .int) 2 := ⟨(gtb_of (tm 1064 (by decide +kernel)) rfl), (gtb_of (tm 13 (by decide +kernel)) rfl), by decide, by decide, by decide +kernel⟩
theorem b_X12_byteAt : LkB yX12_byteAt cX12_byteAt 2 (some .int) 1 := ⟨(gtb_of (tm 1021 (by decide +kernel)) rfl), (gtb_of (tm 13 (by decide +kernel)) rfl), by decide, by decide, by decide +kernel⟩
theorem b_X12_isDigit : LkB yX12_isDigit cX12_isDigit 1 (some .boolean) 1 := ⟨(gtb_of (tm 1024 (by decide +kernel)) rfl), (gtb_of (tm 13 (by decide +kernel)) rfl), by decide, by decide, by decide +kernel⟩
theorem b_X12_fails : LkB yX12_fails cX12_fails 1 (some .int) 0 := ⟨(gtb_of (tm 1036 (by decide +kernel)) rfl), (gtb_of (tm 13 (by decide +kernel)) rfl), by decide, by decide, by decide +kernel⟩
theorem b_X12_number : LkB yX12_number cX12_number 3 (some .int) 0 := ⟨(gtb_of (tm 1028 (by decide +kernel)) rfl), (gtb_of (tm 13 (by decide +kernel)) rfl), by decide, by decide, by decide +kernel⟩
theorem b_X12_named : LkB yX12_named cX12_named 5 (some .int) 1 := ⟨(gtb_of (tm 1032 (by decide +kernel)) rfl), (gtb_of (tm 13 (by decide +kernel)) rfl), by decide, by decide, by decide +kernel⟩
theorem b_X12_factor : LkB yX12_factor cX12_factor 3 (some .int) 0 := ⟨(gtb_of (tm 1017 (by decide +kernel)) rfl), (gtb_of (tm 13 (by decide +kernel)) rfl), by decide, by decide, by decide +kernel⟩
theorem b_X12_product : LkB yX12_product cX12_product 4 (some .int) 0 := ⟨(gtb_of (tm 1013 (by decide +kernel)) rfl), (gtb_of (tm 13 (by decide +kernel)) rfl), by decide, by decide, by decide +kernel⟩
theorem b_X12_sum : LkB yX12_sum cX12_sum 4 (some .int) 0 := ⟨(gtb_of (tm 1009 (by decide +kernel)) rfl), (gtb_of (tm 13 (by decide +kernel)) rfl), by decide, by decide, by decide +kernel⟩
theorem b_X12_compared : LkB yX12_compared cX12_compared 5 (some .int) 0 := ⟨(gtb_of (tm 1005 (by decide +kernel)) rfl), (gtb_of (tm 13 (by decide +kernel)) rfl), by decide, by decide, by decide +kernel⟩
theorem b_X12_both : LkB yX12_both cX12_both 3 (some .int) 0 := ⟨(gtb_of (tm 1001 (by decide +kernel)) rfl), (gtb_of (tm 13 (by decide +kernel)) rfl), by decide, by decide, by decide +kernel⟩
theorem b_X12_whole : LkB yX12_whole cX12_whole 3 (some .int) 0 := ⟨(gtb_of (tm 997 (by decide +kernel)) rfl), (gtb_of (tm 13 (by decide +kernel)) rfl), by decide, by decide, by decide +kernel⟩
theorem b_X12_walks : LkB yX12_walks cX12_walks 6 (some .int) 4 := ⟨(gtb_of (tm 993 (by decide +kernel)) rfl), (gtb_of (tm 13 (by decide +kernel)) rfl), by decide, by decide, by decide +kernel⟩
theorem b_X12_lawOf : LkB yX12_lawOf cX12_lawOf 6 (some .int) 4 := ⟨(gtb_of (tm 989 (by decide +kernel)) rfl), (gtb_of (tm 13 (by decide +kernel)) rfl), by decide, by decide, by decide +kernel⟩
theorem b_X12_law : LkB yX12_law cX12_law 5 (some .int) 4 := ⟨(gtb_of (tm 1072 (by decide +kernel)) rfl), (gtb_of (tm 13 (by decide +kernel)) rfl), by decide, by decide, by decide +kernel⟩
theorem b_X12_feed : LkB yX12_feed cX12_feed 5 (some .int) 2 := ⟨(gtb_of (tm 1076 (by decide +kernel)) rfl), (gtb_of (tm 13 (by decide +kernel)) rfl), by decide, by decide, by decide +kernel⟩
theorem b_X12_text : LkB yX12_text cX12_text 5 (some .int) 1 := ⟨(gtb_of (tm 1081 (by decide +kernel)) rfl), (gtb_of (tm 13 (by decide +kernel)) rfl), by decide, by decide, by decide +kernel⟩
theorem b_X12_falling : LkB yX12_falling cX12_falling 4 (some .int) 1 := ⟨(gtb_of (tm 985 (by decide +kernel)) rfl), (gtb_of (tm 13 (by decide +kernel)) rfl), by decide, by decide, by decide +kernel⟩
theorem b_X12_taken : LkB yX12_taken cX12_taken 4 (some .int) 1 := ⟨(gtb_of (tm 1043 (by decide +kernel)) rfl), (gtb_of (tm 13 (by decide +kernel)) rfl), by decide, by decide, by decide +kernel⟩
theorem b_X12_isSigned : LkB yX12_isSigned cX12_isSigned 3 (some .boolean) 2 := ⟨(gtb_of (tm 1093 (by decide +kernel)) rfl), (gtb_of (tm 13 (by decide +kernel)) rfl), by decide, by decide, by decide +kernel⟩
theorem b_X12_sign : LkB yX12_sign cX12_sign 3 (some .int) 2 := ⟨(gtb_of (tm 1089 (by decide +kernel)) rfl), (gtb_of (tm 13 (by decide +kernel)) rfl), by decide, by decide, by decide +kernel⟩
theorem b_X12_placesOn : LkB yX12_placesOn cX12_placesOn 4 (some .int) 1 := ⟨(gtb_of (tm 1110 (by decide +kernel)) rfl), (gtb_of (tm 13 (by decide +kernel)) rfl), by decide, by decide, by decide +kernel⟩
theorem b_X12_stayers : LkB yX12_stayers cX12_stayers 7 (some .int) 2 := ⟨(gtb_of (tm 1118 (by decide +kernel)) rfl), (gtb_of (tm 13 (by decide +kernel)) rfl), by decide, by decide, by decide +kernel⟩
theorem b_X12_sweepsSide : LkB yX12_sweepsSide cX12_sweepsSide 5 none 2 := ⟨(gtb_of (tm 1114 (by decide +kernel)) rfl), (gtb_of (tm 13 (by decide +kernel)) rfl), by decide, by decide, by decide +kernel⟩
theorem b_X12_oneDay : LkB yX12_oneDay cX12_oneDay 3 none 0 := ⟨(gtb_of (tm 1106 (by decide +kernel)) rfl), (gtb_of (tm 13 (by decide +kernel)) rfl), by decide, by decide, by decide +kernel⟩
theorem b_X12_passes : LkB yX12_passes cX12_passes 3 none 1 := ⟨(gtb_of (tm 1102 (by decide +kernel)) rfl), (gtb_of (tm 13 (by decide +kernel)) rfl), by decide, by decide, by decide +kernel⟩
theorem b_X12_allDirt : LkB yX12_allDirt cX12_allDirt 3 (some .int) 0 := ⟨(gtb_of (tm 1122 (by decide +kernel)) rfl), (gtb_of (tm 13 (by decide +kernel)) rfl), by decide, by decide, by decide +kernel⟩
theorem b_X12_days : LkB yX12_days cX12_days 2 (some .int) 1 := ⟨(gtb_of (tm 1097 (by decide +kernel)) rfl), (gtb_of (tm 13 (by decide +kernel)) rfl), by decide, by decide, by decide +kernel⟩
theorem b_X12_drawn : LkB yX12_drawn cX12_drawn 2 (some .int) 1 := ⟨(gtb_of (tm 1130 (by decide +kernel)) rfl), (gtb_of (tm 13 (by decide +kernel)) rfl), by decide, by decide, by decide +kernel⟩
theorem b_X12_loose : LkB yX12_loose cX12_loose 4 (some .int) 1 := ⟨(gtb_of (tm 1126 (by decide +kernel)) rfl), (gtb_of (tm 13 (by decide +kernel)) rfl), by decide, by decide, by decide +kernel⟩
theorem b_X12_then : LkB yX12_then cX12_then 4 (some .int) 2 := ⟨(gtb_of (tm 1135 (by decide +kernel)) rfl), (gtb_of (tm 13 (by decide +kernel)) rfl), by decide, by decide, by decide +kernel⟩
theorem b_X12_dirtyFrom : LkB yX12_dirtyFrom cX12_dirtyFrom 3 (some .int) 1 := ⟨(gtb_of (tm 1143 (by decide +kernel)) rfl), (gtb_of (tm 13 (by decide +kernel)) rfl), by decide, by decide, by decide +kernel⟩
theorem b_X12_worst : LkB yX12_worst cX12_worst 5 (some .int) 2 := ⟨(gtb_of (tm 1139 (by decide +kernel)) rfl), (gtb_of (tm 13 (by decide +kernel)) rfl), by decide, by decide, by decide +kernel⟩
theorem b_X12_stay : LkB yX12_stay cX12_stay 1 (some .int) 0 := ⟨(gtb_of (tm 1148 (by decide +kernel)) rfl), (gtb_of (tm 13 (by decide +kernel)) rfl), by decide, by decide, by decide +kernel⟩
theorem b_X12_dirtSwept : LkB yX12_dirtSwept cX12_dirtSwept 3 (some .int) 1 := ⟨(gtb_of (tm 1156 (by decide +kernel)) rfl), (gtb_of (tm 13 (by decide +kernel)) rfl), by decide, by decide, by decide +kernel⟩
theorem b_X12_side : LkB yX12_side cX12_side 4 (some .int) 1 := ⟨(gtb_of (tm 1152 (by decide +kernel)) rfl), (gtb_of (tm 13 (by decide +kernel)) rfl), by decide, by decide, by decide +kernel⟩
theorem b_X12_seldom : LkB yX12_seldom cX12_seldom 5 (some .int) 1 := ⟨(gtb_of (tm 1160 (by decide +kernel)) rfl), (gtb_of (tm 13 (by decide +kernel)) rfl), by decide, by decide, by decide +kernel⟩
theorem b_X12_leastFine : LkB yX12_leastFine cX12_leastFine 4 (some .int) 1 := ⟨(gtb_of (tm 1164 (by decide +kernel)) rfl), (gtb_of (tm 13 (by decide +kernel)) rfl), by decide, by decide, by decide +kernel⟩
theorem b_X12_carSet : LkB yX12_carSet cX12_carSet 3 (some .int) 0 := ⟨(gtb_of (tm 1176 (by decide +kernel)) rfl), (gtb_of (tm 13 (by decide +kernel)) rfl), by decide, by decide, by decide +kernel⟩
theorem b_X12_isClean : LkB yX12_isClean cX12_isClean 7 (some .boolean) 5 := ⟨(gtb_of (tm 1172 (by decide +kernel)) rfl), (gtb_of (tm 13 (by decide +kernel)) rfl), by decide, by decide, by decide +kernel⟩
theorem b_X12_tow : LkB yX12_tow cX12_tow 10 (some .int) 3 := ⟨(gtb_of (tm 1168 (by decide +kernel)) rfl), (gtb_of (tm 13 (by decide +kernel)) rfl), by decide, by decide, by decide +kernel⟩
theorem b_X12_dirtiest : LkB yX12_dirtiest cX12_dirtiest 3 (some .int) 0 := ⟨(gtb_of (tm 1184 (by decide +kernel)) rfl), (gtb_of (tm 13 (by decide +kernel)) rfl), by decide, by decide, by decide +kernel⟩
theorem b_X12_broom : LkB yX12_broom cX12_broom 7 (some .int) 2 := ⟨(gtb_of (tm 1180 (by decide +kernel)) rfl), (gtb_of (tm 13 (by decide +kernel)) rfl), by decide, by decide, by decide +kernel⟩
theorem b_X12_isSheet : LkB yX12_isSheet cX12_isSheet 1 (some .boolean) 1 := ⟨(gtb_of (tm 1191 (by decide +kernel)) rfl), (gtb_of (tm 13 (by decide +kernel)) rfl), by decide, by decide, by decide +kernel⟩
theorem b_X12_isDirtSo : LkB yX12_isDirtSo cX12_isDirtSo 4 (some .boolean) 1 := ⟨(gtb_of (tm 1195 (by decide +kernel)) rfl), (gtb_of (tm 13 (by decide +kernel)) rfl), by decide, by decide, by decide +kernel⟩
theorem b_X12_fits : LkB yX12_fits cX12_fits 7 (some .int) 2 := ⟨(gtb_of (tm 1188 (by decide +kernel)) rfl), (gtb_of (tm 13 (by decide +kernel)) rfl), by decide, by decide, by decide +kernel⟩
theorem b_X12_paid : LkB yX12_paid cX12_paid 3 (some .int) 1 := ⟨(gtb_of (tm 1199 (by decide +kernel)) rfl), (gtb_of (tm 13 (by decide +kernel)) rfl), by decide, by decide, by decide +kernel⟩
theorem b_X12_bell : LkB yX12_bell cX12_bell 4 (some .int) 1 := ⟨(gtb_of (tm 1203 (by decide +kernel)) rfl), (gtb_of (tm 13 (by decide +kernel)) rfl), by decide, by decide, by decide +kernel⟩
theorem b_X12_divisor : LkB yX12_divisor cX12_divisor 5 (some .int) 2 := ⟨(gtb_of (tm 1210 (by decide +kernel)) rfl), (gtb_of (tm 13 (by decide +kernel)) rfl), by decide, by decide, by decide +kernel⟩
theorem b_X12_odds : LkB yX12_odds cX12_odds 7 (some .int) 4 := ⟨(gtb_of (tm 1207 (by decide +kernel)) rfl), (gtb_of (tm 13 (by decide +kernel)) rfl), by decide, by decide, by decide +kernel⟩
theorem b_X12_seed : LkB yX12_seed cX12_seed 3 (some .int) 1 := ⟨(gtb_of (tm 1214 (by decide +kernel)) rfl), (gtb_of (tm 13 (by decide +kernel)) rfl), by decide, by decide, by decide +kernel⟩
theorem b_X12_ran : LkB yX12_ran cX12_ran 2 none 1 := ⟨(gtb_of (tm 1226 (by decide +kernel)) rfl), (gtb_of (tm 13 (by decide +kernel)) rfl), by decide, by decide, by decide +kernel⟩
theorem b_X12_fallsIn : LkB yX12_fallsIn cX12_fallsIn 3 (some .int) 2 := ⟨(gtb_of (tm 1222 (by decide +kernel)) rfl), (gtb_of (tm 13 (by decide +kernel)) rfl), by decide, by decide, by decide +kernel⟩
theorem b_X12_sweepsIn : LkB yX12_sweepsIn cX12_sweepsIn 3 (some .int) 2 := ⟨(gtb_of (tm 1234 (by decide +kernel)) rfl), (gtb_of (tm 13 (by decide +kernel)) rfl), by decide, by decide, by decide +kernel⟩
theorem b_X12_movesIn : LkB yX12_movesIn cX12_movesIn 4 (some .int) 2 := ⟨(gtb_of (tm 1230 (by decide +kernel)) rfl), (gtb_of (tm 13 (by decide +kernel)) rfl), by decide, by decide, by decide +kernel⟩
theorem b_X12_blocksIn : LkB yX12_blocksIn cX12_blocksIn 4 (some .int) 2 := ⟨(gtb_of (tm 1238 (by decide +kernel)) rfl), (gtb_of (tm 13 (by decide +kernel)) rfl), by decide, by decide, by decide +kernel⟩
theorem b_X12_voice : LkB yX12_voice cX12_voice 4 (some .int) 3 := ⟨(gtb_of (tm 1218 (by decide +kernel)) rfl), (gtb_of (tm 13 (by decide +kernel)) rfl), by decide, by decide, by decide +kernel⟩
theorem b_X12_trace : LkB yX12_trace cX12_trace 2 (some .int) 1 := ⟨(gtb_of (tm 1242 (by decide +kernel)) rfl), (gtb_of (tm 13 (by decide +kernel)) rfl), by decide, by decide, by decide +kernel⟩
theorem b_X12_narrow : LkB yX12_narrow cX12_narrow 2 (some .int) 2 := ⟨(gtb_of (tm 1253 (by decide +kernel)) rfl), (gtb_of (tm 13 (by decide +kernel)) rfl), by decide, by decide, by decide +kernel⟩
theorem b_X12_sheet : LkB yX12_sheet cX12_sheet 5 (some .int) 3 := ⟨(gtb_of (tm 1246 (by decide +kernel)) rfl), (gtb_of (tm 13 (by decide +kernel)) rfl), by decide, by decide, by decide +kernel⟩
theorem b_X12_put : LkB yX12_put cX12_put 4 (some .int) 3 := ⟨(gtb_of (tm 1250 (by decide +kernel)) rfl), (gtb_of (tm 13 (by decide +kernel)) rfl), by decide, by decide, by decide +kernel⟩
theorem b_X12_move : LkB yX12_move cX12_move 7 (some .int) 5 := ⟨(gtb_of (tm 1257 (by decide +kernel)) rfl), (gtb_of (tm 13 (by decide +kernel)) rfl), by decide, by decide, by decide +kernel⟩
theorem b_X12_dirts : LkB yX12_dirts cX12_dirts 3 (some .int) 1 := ⟨(gtb_of (tm 1261 (by decide +kernel)) rfl), (gtb_of (tm 13 (by decide +kernel)) rfl), by decide, by decide, by decide +kernel⟩
theorem b_X12_judge : LkB yX12_judge cX12_judge 3 (some .int) 1 := ⟨(gtb_of (tm 1265 (by decide +kernel)) rfl), (gtb_of (tm 13 (by decide +kernel)) rfl), by decide, by decide, by decide +kernel⟩
theorem b_X12_image : LkB yX12_image cX12_image 1 (some .int) 0 := ⟨(gtb_of (tm 1269 (by decide +kernel)) rfl), (gtb_of (tm 13 (by decide +kernel)) rfl), by decide, by decide, by decide +kernel⟩
theorem b_X12_restore : LkB yX12_restore cX12_restore 1 (some .int) 0 := ⟨(gtb_of (tm 1273 (by decide +kernel)) rfl), (gtb_of (tm 13 (by decide +kernel)) rfl), by decide, by decide, by decide +kernel⟩
theorem b_X12_tell : LkB yX12_tell cX12_tell 2 (some .int) 1 := ⟨(gtb_of (tm 1277 (by decide +kernel)) rfl), (gtb_of (tm 13 (by decide +kernel)) rfl), by decide, by decide, by decide +kernel⟩
theorem b_X12_check : LkB yX12_check cX12_check 4 (some .int) 0 := ⟨(gtb_of (tm 1281 (by decide +kernel)) rfl), (gtb_of (tm 13 (by decide +kernel)) rfl), by decide, by decide, by decide +kernel⟩
theorem b_X12_count : LkB yX12_count cX12_count 2 (some .int) 1 := ⟨(gtb_of (tm 1285 (by decide +kernel)) rfl), (gtb_of (tm 13 (by decide +kernel)) rfl), by decide, by decide, by decide +kernel⟩
theorem b_X12_told : LkB yX12_told cX12_told 2 (some .int) 1 := ⟨(gtb_of (tm 1289 (by decide +kernel)) rfl), (gtb_of (tm 13 (by decide +kernel)) rfl), by decide, by decide, by decide +kernel⟩
theorem v_X11_79 : LkS RX11 79 yX11_within := ⟨(gtb_of (tm 260 (by decide +kernel)) rfl), (gtb_of (tm 261 (by decide +kernel)) rfl)⟩
theorem v_X11_84 : LkV RX11 84 yX11_fail := ⟨(gtb_of (tm 264 (by decide +kernel)) rfl), (gtb_of (tm 266 (by decide +kernel)) rfl), (gtb_of (pm 0 (by decide +kernel)) rfl)⟩
theorem v_X11_93 : LkV RX11 93 yX7_shape := ⟨(gtb_of (tm 270 (by decide +kernel)) rfl), (gtb_of (tm 271 (by decide +kernel)) rfl), (gtb_of (tm 272 (by decide +kernel)) rfl)⟩
theorem v_X11_109 : LkV RX11 109 yX7_park := ⟨(gtb_of (tm 277 (by decide +kernel)) rfl), (gtb_of (tm 278 (by decide +kernel)) rfl), (gtb_of (tm 279 (by decide +kernel)) rfl)⟩
theorem v_X11_113 : LkV RX11 113 yX7_has := ⟨(gtb_of (tm 285 (by decide +kernel)) rfl), (gtb_of (tm 286 (by decide +kernel)) rfl), (gtb_of (tm 287 (by decide +kernel)) rfl)⟩
theorem v_X11_123 : LkV RX11 123 yX7_carOf := ⟨(gtb_of (tm 290 (by decide +kernel)) rfl), (gtb_of (tm 291 (by decide +kernel)) rfl), (gtb_of (tm 292 (by decide +kernel)) rfl)⟩
theorem v_X11_126 : LkV RX11 126 yX7_fallsNow := ⟨(gtb_of (tm 294 (by decide +kernel)) rfl), (gtb_of (tm 295 (by decide +kernel)) rfl), (gtb_of (tm 296 (by decide +kernel)) rfl)⟩
theorem v_X11_129 : LkV RX11 129 yX7_takesNow := ⟨(gtb_of (tm 345 (by decide +kernel)) rfl), (gtb_of (tm 346 (by decide +kernel)) rfl), (gtb_of (tm 347 (by decide +kernel)) rfl)⟩
theorem v_X11_132 : LkS RX11 132 yX11_mostOfYard := ⟨(gtb_of (tm 379 (by decide +kernel)) rfl), (gtb_of (tm 380 (by decide +kernel)) rfl)⟩
theorem v_X11_135 : LkS RX11 135 yX11_mostOfStreet := ⟨(gtb_of (tm 386 (by decide +kernel)) rfl), (gtb_of (tm 387 (by decide +kernel)) rfl)⟩
theorem v_X11_150 : LkS RX11 150 yX11_isUnder := ⟨(gtb_of (tm 400 (by decide +kernel)) rfl), (gtb_of (tm 401 (by decide +kernel)) rfl)⟩
theorem v_X11_158 : LkV RX11 158 yX7_signOf := ⟨(gtb_of (tm 408 (by decide +kernel)) rfl), (gtb_of (tm 409 (by decide +kernel)) rfl), (gtb_of (tm 410 (by decide +kernel)) rfl)⟩
theorem v_X11_167 : LkV RX11 167 yX5_faultIn := ⟨(gtb_of (tm 420 (by decide +kernel)) rfl), (gtb_of (tm 421 (by decide +kernel)) rfl), (gtb_of (tm 422 (by decide +kernel)) rfl)⟩
theorem v_X11_171 : LkV RX11 171 yX5_lawRead := ⟨(gtb_of (tm 550 (by decide +kernel)) rfl), (gtb_of (tm 551 (by decide +kernel)) rfl), (gtb_of (tm 552 (by decide +kernel)) rfl)⟩
theorem v_X11_182 : LkV RX11 182 yX4_give := ⟨(gtb_of (tm 561 (by decide +kernel)) rfl), (gtb_of (tm 299 (by decide +kernel)) rfl), (gtb_of (tm 300 (by decide +kernel)) rfl)⟩
theorem v_X11_187 : LkV RX11 187 yX7_passAll := ⟨(gtb_of (tm 567 (by decide +kernel)) rfl), (gtb_of (tm 568 (by decide +kernel)) rfl), (gtb_of (tm 569 (by decide +kernel)) rfl)⟩
theorem v_X11_191 : LkV RX11 191 yX7_dirtOfAll := ⟨(gtb_of (tm 591 (by decide +kernel)) rfl), (gtb_of (tm 592 (by decide +kernel)) rfl), (gtb_of (tm 593 (by decide +kernel)) rfl)⟩
theorem v_X11_195 : LkV RX11 195 yX7_drawWindAndCar := ⟨(gtb_of (tm 599 (by decide +kernel)) rfl), (gtb_of (tm 600 (by decide +kernel)) rfl), (gtb_of (tm 601 (by decide +kernel)) rfl)⟩
theorem v_X11_198 : LkV RX11 198 yX7_thinkOf := ⟨(gtb_of (tm 612 (by decide +kernel)) rfl), (gtb_of (tm 613 (by decide +kernel)) rfl), (gtb_of (tm 614 (by decide +kernel)) rfl)⟩
theorem v_X11_202 : LkV RX11 202 yX7_dirtBehind := ⟨(gtb_of (tm 617 (by decide +kernel)) rfl), (gtb_of (tm 618 (by decide +kernel)) rfl), (gtb_of (tm 619 (by decide +kernel)) rfl)⟩
theorem v_X11_205 : LkV RX11 205 yX7_firstWith := ⟨(gtb_of (tm 625 (by decide +kernel)) rfl), (gtb_of (tm 626 (by decide +kernel)) rfl), (gtb_of (tm 627 (by decide +kernel)) rfl)⟩
theorem v_X11_209 : LkV RX11 209 yX7_stayers := ⟨(gtb_of (tm 634 (by decide +kernel)) rfl), (gtb_of (tm 635 (by decide +kernel)) rfl), (gtb_of (tm 636 (by decide +kernel)) rfl)⟩
theorem v_X11_212 : LkV RX11 212 yX11_dirtOnceSwept := ⟨(gtb_of (tm 642 (by decide +kernel)) rfl), (gtb_of (tm 644 (by decide +kernel)) rfl), (gtb_of (pm 12 (by decide +kernel)) rfl)⟩
theorem v_X11_218 : LkV RX11 218 yX11_staysBelow := ⟨(gtb_of (tm 652 (by decide +kernel)) rfl), (gtb_of (tm 654 (by decide +kernel)) rfl), (gtb_of (pm 13 (by decide +kernel)) rfl)⟩
theorem v_X11_221 : LkV RX11 221 yX11_dirtWithout := ⟨(gtb_of (tm 665 (by decide +kernel)) rfl), (gtb_of (tm 667 (by decide +kernel)) rfl), (gtb_of (pm 14 (by decide +kernel)) rfl)⟩
theorem v_X11_224 : LkV RX11 224 yX11_leastPairToTow := ⟨(gtb_of (tm 669 (by decide +kernel)) rfl), (gtb_of (tm 671 (by decide +kernel)) rfl), (gtb_of (pm 15 (by decide +kernel)) rfl)⟩
theorem v_X11_227 : LkV RX11 227 yX7_greatestDirt := ⟨(gtb_of (tm 677 (by decide +kernel)) rfl), (gtb_of (tm 678 (by decide +kernel)) rfl), (gtb_of (tm 679 (by decide +kernel)) rfl)⟩
theorem v_X11_230 : LkS RX11 230 yX11_isSheet := ⟨(gtb_of (tm 685 (by decide +kernel)) rfl), (gtb_of (tm 686 (by decide +kernel)) rfl)⟩
theorem v_X11_233 : LkV RX11 233 yX11_liesAs := ⟨(gtb_of (tm 688 (by decide +kernel)) rfl), (gtb_of (tm 690 (by decide +kernel)) rfl), (gtb_of (pm 16 (by decide +kernel)) rfl)⟩
theorem v_X11_239 : LkS RX11 239 yX11_commonPart := ⟨(gtb_of (tm 704 (by decide +kernel)) rfl), (gtb_of (tm 705 (by decide +kernel)) rfl)⟩
theorem v_X11_245 : LkV RX11 245 yX6_open := ⟨(gtb_of (tm 715 (by decide +kernel)) rfl), (gtb_of (tm 716 (by decide +kernel)) rfl), (gtb_of (tm 717 (by decide +kernel)) rfl)⟩
theorem v_X11_248 : LkV RX11 248 yX7_kindOf := ⟨(gtb_of (tm 719 (by decide +kernel)) rfl), (gtb_of (tm 314 (by decide +kernel)) rfl), (gtb_of (tm 315 (by decide +kernel)) rfl)⟩
theorem v_X11_252 : LkV RX11 252 yX10_falls := ⟨(gtb_of (tm 720 (by decide +kernel)) rfl), (gtb_of (tm 721 (by decide +kernel)) rfl), (gtb_of (tm 722 (by decide +kernel)) rfl)⟩
theorem v_X11_256 : LkV RX11 256 yX10_moves := ⟨(gtb_of (tm 739 (by decide +kernel)) rfl), (gtb_of (tm 740 (by decide +kernel)) rfl), (gtb_of (tm 741 (by decide +kernel)) rfl)⟩
theorem v_X11_259 : LkV RX11 259 yX10_sweeps := ⟨(gtb_of (tm 766 (by decide +kernel)) rfl), (gtb_of (tm 754 (by decide +kernel)) rfl), (gtb_of (tm 1305 (by decide +kernel)) rfl)⟩
theorem v_X11_262 : LkV RX11 262 yX10_blocks := ⟨(gtb_of (tm 775 (by decide +kernel)) rfl), (gtb_of (tm 776 (by decide +kernel)) rfl), (gtb_of (tm 777 (by decide +kernel)) rfl)⟩
theorem v_X11_271 : LkS RX11 271 yX11_isWidth := ⟨(gtb_of (tm 814 (by decide +kernel)) rfl), (gtb_of (tm 815 (by decide +kernel)) rfl)⟩
theorem v_X11_274 : LkS RX11 274 yX11_lowestBits := ⟨(gtb_of (tm 821 (by decide +kernel)) rfl), (gtb_of (tm 822 (by decide +kernel)) rfl)⟩
theorem v_X11_277 : LkV RX11 277 yX11_stand := ⟨(gtb_of (tm 828 (by decide +kernel)) rfl), (gtb_of (tm 830 (by decide +kernel)) rfl), (gtb_of (pm 17 (by decide +kernel)) rfl)⟩
theorem v_X11_286 : LkV RX11 286 yX7_keepAllOf := ⟨(gtb_of (tm 845 (by decide +kernel)) rfl), (gtb_of (tm 846 (by decide +kernel)) rfl), (gtb_of (tm 847 (by decide +kernel)) rfl)⟩
theorem v_X11_300 : LkV RX11 300 yX7_sweep := ⟨(gtb_of (tm 646 (by decide +kernel)) rfl), (gtb_of (tm 583 (by decide +kernel)) rfl), (gtb_of (tm 584 (by decide +kernel)) rfl)⟩
theorem v_X11_304 : LkV RX11 304 yX7_passPart := ⟨(gtb_of (tm 656 (by decide +kernel)) rfl), (gtb_of (tm 577 (by decide +kernel)) rfl), (gtb_of (tm 578 (by decide +kernel)) rfl)⟩
-- no selects for X9_fallen
theorem v_X0_11 : LkV RX0 11 yX6_begin := ⟨(gtb_of (tm 769 (by decide +kernel)) rfl), (gtb_of (tm 730 (by decide +kernel)) rfl), (gtb_of (tm 731 (by decide +kernel)) rfl)⟩
-- no selects for X9_sweeps
theorem v_X1_7 : LkV RX1 7 yX6_begin := ⟨(gtb_of (tm 747 (by decide +kernel)) rfl), (gtb_of (tm 730 (by decide +kernel)) rfl), (gtb_of (tm 731 (by decide +kernel)) rfl)⟩
theorem v_X1_13 : LkV RX1 13 yX10_moves := ⟨(gtb_of (tm 748 (by decide +kernel)) rfl), (gtb_of (tm 740 (by decide +kernel)) rfl), (gtb_of (tm 741 (by decide +kernel)) rfl)⟩
-- no selects for X8_fallen
-- no selects for X8_taken
theorem v_X2_21 : LkV RX2 21 yX6_begin := ⟨(gtb_of (tm 793 (by decide +kernel)) rfl), (gtb_of (tm 730 (by decide +kernel)) rfl), (gtb_of (tm 731 (by decide +kernel)) rfl)⟩
-- no selects for X1_fallen
-- no selects for X1_taken
theorem v_X3_21 : LkV RX3 21 yX6_begin := ⟨(gtb_of (tm 760 (by decide +kernel)) rfl), (gtb_of (tm 730 (by decide +kernel)) rfl), (gtb_of (tm 731 (by decide +kernel)) rfl)⟩
-- no selects for X1_moves
theorem v_X4_22 : LkV RX4 22 yX4_withoutText := ⟨(gtb_of (tm 302 (by decide +kernel)) rfl), (gtb_of (tm 304 (by decide +kernel)) rfl), (gtb_of (pm 1 (by decide +kernel)) rfl)⟩
theorem v_X4_26 : LkS RX4 26 yX4_joined := ⟨(gtb_of (tm 306 (by decide +kernel)) rfl), (gtb_of (tm 307 (by decide +kernel)) rfl)⟩
theorem v_X5_37 : LkV RX5 37 yX5_reads := ⟨(gtb_of (tm 427 (by decide +kernel)) rfl), (gtb_of (tm 429 (by decide +kernel)) rfl), (gtb_of (pm 2 (by decide +kernel)) rfl)⟩
theorem v_X5_46 : LkV RX5 46 yX5_readsOne := ⟨(gtb_of (tm 431 (by decide +kernel)) rfl), (gtb_of (tm 433 (by decide +kernel)) rfl), (gtb_of (pm 3 (by decide +kernel)) rfl)⟩
theorem v_X5_50 : LkV RX5 50 yX5_next := ⟨(gtb_of (tm 435 (by decide +kernel)) rfl), (gtb_of (tm 437 (by decide +kernel)) rfl), (gtb_of (pm 4 (by decide +kernel)) rfl)⟩
theorem v_X5_54 : LkS RX5 54 yX5_levelOf := ⟨(gtb_of (tm 547 (by decide +kernel)) rfl), (gtb_of (tm 548 (by decide +kernel)) rfl)⟩
theorem v_X5_58 : LkV RX5 58 yX5_write := ⟨(gtb_of (tm 447 (by decide +kernel)) rfl), (gtb_of (tm 449 (by decide +kernel)) rfl), (gtb_of (pm 6 (by decide +kernel)) rfl)⟩
theorem v_X5_62 : LkS RX5 62 yX5_isDigit := ⟨(gtb_of (tm 439 (by decide +kernel)) rfl), (gtb_of (tm 440 (by decide +kernel)) rfl)⟩
theorem v_X5_65 : LkV RX5 65 yX5_readNumber := ⟨(gtb_of (tm 443 (by decide +kernel)) rfl), (gtb_of (tm 445 (by decide +kernel)) rfl), (gtb_of (pm 5 (by decide +kernel)) rfl)⟩
theorem v_X5_68 : LkV RX5 68 yX5_nameOf := ⟨(gtb_of (tm 451 (by decide +kernel)) rfl), (gtb_of (tm 453 (by decide +kernel)) rfl), (gtb_of (pm 7 (by decide +kernel)) rfl)⟩
theorem v_X5_71 : LkV RX5 71 yX5_readsDenied := ⟨(gtb_of (tm 539 (by decide +kernel)) rfl), (gtb_of (tm 541 (by decide +kernel)) rfl), (gtb_of (pm 8 (by decide +kernel)) rfl)⟩
theorem v_X5_74 : LkV RX5 74 yX5_readsClosed := ⟨(gtb_of (tm 543 (by decide +kernel)) rfl), (gtb_of (tm 545 (by decide +kernel)) rfl), (gtb_of (pm 9 (by decide +kernel)) rfl)⟩
theorem v_X5_77 : LkSN RX5 77 yX11_within "SweptRound" := ⟨(tm 442 (by decide +kernel)), (gtb_of (tm 261 (by decide +kernel)) rfl)⟩
theorem v_X7_69 : LkV RX7 69 yX7_thinkOf := ⟨(gtb_of (tm 849 (by decide +kernel)) rfl), (gtb_of (tm 613 (by decide +kernel)) rfl), (gtb_of (tm 614 (by decide +kernel)) rfl)⟩
theorem v_X7_79 : LkSN RX7 79 yX11_within "SweptRound" := ⟨(tm 289 (by decide +kernel)), (gtb_of (tm 261 (by decide +kernel)) rfl)⟩
theorem v_X7_83 : LkV RX7 83 yX4_give := ⟨(gtb_of (tm 298 (by decide +kernel)) rfl), (gtb_of (tm 299 (by decide +kernel)) rfl), (gtb_of (tm 300 (by decide +kernel)) rfl)⟩
theorem v_X7_89 : LkV RX7 89 yX7_kindOf := ⟨(gtb_of (tm 313 (by decide +kernel)) rfl), (gtb_of (tm 314 (by decide +kernel)) rfl), (gtb_of (tm 315 (by decide +kernel)) rfl)⟩
theorem v_X7_93 : LkV RX7 93 yX7_carOf := ⟨(gtb_of (tm 317 (by decide +kernel)) rfl), (gtb_of (tm 291 (by decide +kernel)) rfl), (gtb_of (tm 292 (by decide +kernel)) rfl)⟩
theorem v_X7_97 : LkV RX7 97 yX10_fallen := ⟨(gtb_of (tm 318 (by decide +kernel)) rfl), (gtb_of (tm 319 (by decide +kernel)) rfl), (gtb_of (tm 320 (by decide +kernel)) rfl)⟩
theorem v_X7_109 : LkV RX7 109 yX10_taken := ⟨(gtb_of (tm 349 (by decide +kernel)) rfl), (gtb_of (tm 350 (by decide +kernel)) rfl), (gtb_of (tm 351 (by decide +kernel)) rfl)⟩
theorem v_X7_112 : LkV RX7 112 yX7_signOf := ⟨(gtb_of (tm 575 (by decide +kernel)) rfl), (gtb_of (tm 409 (by decide +kernel)) rfl), (gtb_of (tm 410 (by decide +kernel)) rfl)⟩
theorem v_X7_115 : LkV RX7 115 yX7_signedNow := ⟨(gtb_of (tm 571 (by decide +kernel)) rfl), (gtb_of (tm 572 (by decide +kernel)) rfl), (gtb_of (tm 573 (by decide +kernel)) rfl)⟩
theorem v_X7_119 : LkV RX7 119 yX7_passPart := ⟨(gtb_of (tm 576 (by decide +kernel)) rfl), (gtb_of (tm 577 (by decide +kernel)) rfl), (gtb_of (tm 578 (by decide +kernel)) rfl)⟩
theorem v_X7_126 : LkV RX7 126 yX7_fallsNow := ⟨(gtb_of (tm 580 (by decide +kernel)) rfl), (gtb_of (tm 295 (by decide +kernel)) rfl), (gtb_of (tm 296 (by decide +kernel)) rfl)⟩
theorem v_X7_129 : LkV RX7 129 yX7_sweep := ⟨(gtb_of (tm 582 (by decide +kernel)) rfl), (gtb_of (tm 583 (by decide +kernel)) rfl), (gtb_of (tm 584 (by decide +kernel)) rfl)⟩
theorem v_X7_132 : LkV RX7 132 yX7_goers := ⟨(gtb_of (tm 586 (by decide +kernel)) rfl), (gtb_of (tm 588 (by decide +kernel)) rfl), (gtb_of (pm 10 (by decide +kernel)) rfl)⟩
theorem v_X7_136 : LkV RX7 136 yX7_drawn := ⟨(gtb_of (tm 603 (by decide +kernel)) rfl), (gtb_of (tm 605 (by decide +kernel)) rfl), (gtb_of (pm 11 (by decide +kernel)) rfl)⟩
theorem v_X8_7 : LkV RX8 7 yX6_begin := ⟨(gtb_of (tm 729 (by decide +kernel)) rfl), (gtb_of (tm 730 (by decide +kernel)) rfl), (gtb_of (tm 731 (by decide +kernel)) rfl)⟩
theorem v_X8_13 : LkV RX8 13 yX10_falls := ⟨(gtb_of (tm 733 (by decide +kernel)) rfl), (gtb_of (tm 721 (by decide +kernel)) rfl), (gtb_of (tm 722 (by decide +kernel)) rfl)⟩
theorem v_X9_13 : LkV RX9 13 yX6_begin := ⟨(gtb_of (tm 773 (by decide +kernel)) rfl), (gtb_of (tm 730 (by decide +kernel)) rfl), (gtb_of (tm 731 (by decide +kernel)) rfl)⟩
theorem v_X9_19 : LkV RX9 19 yX10_sweeps := ⟨(gtb_of (tm 774 (by decide +kernel)) rfl), (gtb_of (tm 754 (by decide +kernel)) rfl), (gtb_of (tm 1305 (by decide +kernel)) rfl)⟩
theorem v_X10_7 : LkV RX10 7 yX6_begin := ⟨(gtb_of (tm 738 (by decide +kernel)) rfl), (gtb_of (tm 730 (by decide +kernel)) rfl), (gtb_of (tm 731 (by decide +kernel)) rfl)⟩
theorem v_X10_17 : LkV RX10 17 yX10_falls := ⟨(gtb_of (tm 765 (by decide +kernel)) rfl), (gtb_of (tm 721 (by decide +kernel)) rfl), (gtb_of (tm 722 (by decide +kernel)) rfl)⟩
theorem v_X10_26 : LkV RX10 26 yX10_moves := ⟨(gtb_of (tm 804 (by decide +kernel)) rfl), (gtb_of (tm 740 (by decide +kernel)) rfl), (gtb_of (tm 741 (by decide +kernel)) rfl)⟩
theorem v_X10_29 : LkV RX10 29 yX10_sweeps := ⟨(gtb_of (tm 805 (by decide +kernel)) rfl), (gtb_of (tm 754 (by decide +kernel)) rfl), (gtb_of (tm 1305 (by decide +kernel)) rfl)⟩
theorem v_L_13 : LkV RL 13 yX11_yard := ⟨(gtb_of (tm 256 (by decide +kernel)) rfl), (gtb_of (tm 257 (by decide +kernel)) rfl), (gtb_of (tm 258 (by decide +kernel)) rfl)⟩
theorem v_L_17 : LkV RL 17 yX12_yard := ⟨(gtb_of (tm 952 (by decide +kernel)) rfl), (gtb_of (tm 953 (by decide +kernel)) rfl), (gtb_of (tm 954 (by decide +kernel)) rfl)⟩
theorem v_L_18 : LkV RL 18 yX11_ofYard := ⟨(gtb_of (tm 281 (by decide +kernel)) rfl), (gtb_of (tm 282 (by decide +kernel)) rfl), (gtb_of (tm 283 (by decide +kernel)) rfl)⟩
theorem v_L_22 : LkV RL 22 yX12_ofYard := ⟨(gtb_of (tm 970 (by decide +kernel)) rfl), (gtb_of (tm 971 (by decide +kernel)) rfl), (gtb_of (tm 972 (by decide +kernel)) rfl)⟩
theorem v_L_23 : LkV RL 23 yX11_change := ⟨(gtb_of (tm 375 (by decide +kernel)) rfl), (gtb_of (tm 376 (by decide +kernel)) rfl), (gtb_of (tm 377 (by decide +kernel)) rfl)⟩
theorem v_L_26 : LkV RL 26 yX12_change := ⟨(gtb_of (tm 1044 (by decide +kernel)) rfl), (gtb_of (tm 1045 (by decide +kernel)) rfl), (gtb_of (tm 1046 (by decide +kernel)) rfl)⟩
theorem v_L_27 : LkV RL 27 yX11_set := ⟨(gtb_of (tm 382 (by decide +kernel)) rfl), (gtb_of (tm 383 (by decide +kernel)) rfl), (gtb_of (tm 384 (by decide +kernel)) rfl)⟩
theorem v_L_30 : LkV RL 30 yX12_set := ⟨(gtb_of (tm 1052 (by decide +kernel)) rfl), (gtb_of (tm 1053 (by decide +kernel)) rfl), (gtb_of (tm 1054 (by decide +kernel)) rfl)⟩
theorem v_L_31 : LkV RL 31 yX11_become := ⟨(gtb_of (tm 390 (by decide +kernel)) rfl), (gtb_of (tm 391 (by decide +kernel)) rfl), (gtb_of (tm 392 (by decide +kernel)) rfl)⟩
theorem v_L_34 : LkV RL 34 yX12_become := ⟨(gtb_of (tm 1057 (by decide +kernel)) rfl), (gtb_of (tm 1058 (by decide +kernel)) rfl), (gtb_of (tm 1059 (by decide +kernel)) rfl)⟩
theorem v_L_35 : LkV RL 35 yX11_as := ⟨(gtb_of (tm 394 (by decide +kernel)) rfl), (gtb_of (tm 395 (by decide +kernel)) rfl), (gtb_of (tm 396 (by decide +kernel)) rfl)⟩
theorem v_L_38 : LkV RL 38 yX12_as := ⟨(gtb_of (tm 1061 (by decide +kernel)) rfl), (gtb_of (tm 1062 (by decide +kernel)) rfl), (gtb_of (tm 1063 (by decide +kernel)) rfl)⟩
theorem v_L_39 : LkV RL 39 yX11_sign := ⟨(gtb_of (tm 404 (by decide +kernel)) rfl), (gtb_of (tm 405 (by decide +kernel)) rfl), (gtb_of (tm 406 (by decide +kernel)) rfl)⟩
theorem v_L_42 : LkV RL 42 yX12_sign := ⟨(gtb_of (tm 1086 (by decide +kernel)) rfl), (gtb_of (tm 1087 (by decide +kernel)) rfl), (gtb_of (tm 1088 (by decide +kernel)) rfl)⟩
theorem v_L_45 : LkV RL 45 yX11_feed := ⟨(gtb_of (tm 412 (by decide +kernel)) rfl), (gtb_of (tm 413 (by decide +kernel)) rfl), (gtb_of (tm 414 (by decide +kernel)) rfl)⟩
theorem v_L_49 : LkV RL 49 yX12_feed := ⟨(gtb_of (tm 1073 (by decide +kernel)) rfl), (gtb_of (tm 1074 (by decide +kernel)) rfl), (gtb_of (tm 1075 (by decide +kernel)) rfl)⟩
theorem v_L_50 : LkV RL 50 yX11_text := ⟨(gtb_of (tm 416 (by decide +kernel)) rfl), (gtb_of (tm 417 (by decide +kernel)) rfl), (gtb_of (tm 418 (by decide +kernel)) rfl)⟩
theorem v_L_54 : LkV RL 54 yX12_text := ⟨(gtb_of (tm 1078 (by decide +kernel)) rfl), (gtb_of (tm 1079 (by decide +kernel)) rfl), (gtb_of (tm 1080 (by decide +kernel)) rfl)⟩
theorem v_L_55 : LkV RL 55 yX11_law := ⟨(gtb_of (tm 557 (by decide +kernel)) rfl), (gtb_of (tm 558 (by decide +kernel)) rfl), (gtb_of (tm 559 (by decide +kernel)) rfl)⟩
theorem v_L_59 : LkV RL 59 yX12_law := ⟨(gtb_of (tm 1069 (by decide +kernel)) rfl), (gtb_of (tm 1070 (by decide +kernel)) rfl), (gtb_of (tm 1071 (by decide +kernel)) rfl)⟩
theorem v_L_60 : LkV RL 60 yX11_days := ⟨(gtb_of (tm 562 (by decide +kernel)) rfl), (gtb_of (tm 563 (by decide +kernel)) rfl), (gtb_of (tm 564 (by decide +kernel)) rfl)⟩
theorem v_L_63 : LkV RL 63 yX12_days := ⟨(gtb_of (tm 1094 (by decide +kernel)) rfl), (gtb_of (tm 1095 (by decide +kernel)) rfl), (gtb_of (tm 1096 (by decide +kernel)) rfl)⟩
theorem v_L_64 : LkV RL 64 yX11_loose := ⟨(gtb_of (tm 595 (by decide +kernel)) rfl), (gtb_of (tm 596 (by decide +kernel)) rfl), (gtb_of (tm 597 (by decide +kernel)) rfl)⟩
theorem v_L_67 : LkV RL 67 yX12_loose := ⟨(gtb_of (tm 1123 (by decide +kernel)) rfl), (gtb_of (tm 1124 (by decide +kernel)) rfl), (gtb_of (tm 1125 (by decide +kernel)) rfl)⟩
theorem v_L_68 : LkV RL 68 yX11_then := ⟨(gtb_of (tm 608 (by decide +kernel)) rfl), (gtb_of (tm 609 (by decide +kernel)) rfl), (gtb_of (tm 610 (by decide +kernel)) rfl)⟩
theorem v_L_71 : LkV RL 71 yX12_then := ⟨(gtb_of (tm 1132 (by decide +kernel)) rfl), (gtb_of (tm 1133 (by decide +kernel)) rfl), (gtb_of (tm 1134 (by decide +kernel)) rfl)⟩
theorem v_L_72 : LkV RL 72 yX11_worst := ⟨(gtb_of (tm 621 (by decide +kernel)) rfl), (gtb_of (tm 622 (by decide +kernel)) rfl), (gtb_of (tm 623 (by decide +kernel)) rfl)⟩
theorem v_L_75 : LkV RL 75 yX12_worst := ⟨(gtb_of (tm 1136 (by decide +kernel)) rfl), (gtb_of (tm 1137 (by decide +kernel)) rfl), (gtb_of (tm 1138 (by decide +kernel)) rfl)⟩
theorem v_L_76 : LkV RL 76 yX11_stay := ⟨(gtb_of (tm 630 (by decide +kernel)) rfl), (gtb_of (tm 631 (by decide +kernel)) rfl), (gtb_of (tm 632 (by decide +kernel)) rfl)⟩
theorem v_L_80 : LkV RL 80 yX12_stay := ⟨(gtb_of (tm 1145 (by decide +kernel)) rfl), (gtb_of (tm 1146 (by decide +kernel)) rfl), (gtb_of (tm 1147 (by decide +kernel)) rfl)⟩
theorem v_L_81 : LkV RL 81 yX11_side := ⟨(gtb_of (tm 638 (by decide +kernel)) rfl), (gtb_of (tm 639 (by decide +kernel)) rfl), (gtb_of (tm 640 (by decide +kernel)) rfl)⟩
theorem v_L_84 : LkV RL 84 yX12_side := ⟨(gtb_of (tm 1149 (by decide +kernel)) rfl), (gtb_of (tm 1150 (by decide +kernel)) rfl), (gtb_of (tm 1151 (by decide +kernel)) rfl)⟩
theorem v_L_85 : LkV RL 85 yX11_seldom := ⟨(gtb_of (tm 648 (by decide +kernel)) rfl), (gtb_of (tm 649 (by decide +kernel)) rfl), (gtb_of (tm 650 (by decide +kernel)) rfl)⟩
theorem v_L_88 : LkV RL 88 yX12_seldom := ⟨(gtb_of (tm 1157 (by decide +kernel)) rfl), (gtb_of (tm 1158 (by decide +kernel)) rfl), (gtb_of (tm 1159 (by decide +kernel)) rfl)⟩
theorem v_L_89 : LkV RL 89 yX11_leastFine := ⟨(gtb_of (tm 657 (by decide +kernel)) rfl), (gtb_of (tm 658 (by decide +kernel)) rfl), (gtb_of (tm 659 (by decide +kernel)) rfl)⟩
theorem v_L_92 : LkV RL 92 yX12_leastFine := ⟨(gtb_of (tm 1161 (by decide +kernel)) rfl), (gtb_of (tm 1162 (by decide +kernel)) rfl), (gtb_of (tm 1163 (by decide +kernel)) rfl)⟩
theorem v_L_93 : LkV RL 93 yX11_tow := ⟨(gtb_of (tm 661 (by decide +kernel)) rfl), (gtb_of (tm 662 (by decide +kernel)) rfl), (gtb_of (tm 663 (by decide +kernel)) rfl)⟩
theorem v_L_96 : LkV RL 96 yX12_tow := ⟨(gtb_of (tm 1165 (by decide +kernel)) rfl), (gtb_of (tm 1166 (by decide +kernel)) rfl), (gtb_of (tm 1167 (by decide +kernel)) rfl)⟩
theorem v_L_97 : LkV RL 97 yX11_broom := ⟨(gtb_of (tm 673 (by decide +kernel)) rfl), (gtb_of (tm 674 (by decide +kernel)) rfl), (gtb_of (tm 675 (by decide +kernel)) rfl)⟩
theorem v_L_100 : LkV RL 100 yX12_broom := ⟨(gtb_of (tm 1177 (by decide +kernel)) rfl), (gtb_of (tm 1178 (by decide +kernel)) rfl), (gtb_of (tm 1179 (by decide +kernel)) rfl)⟩
theorem v_L_101 : LkV RL 101 yX11_fits := ⟨(gtb_of (tm 681 (by decide +kernel)) rfl), (gtb_of (tm 682 (by decide +kernel)) rfl), (gtb_of (tm 683 (by decide +kernel)) rfl)⟩
theorem v_L_104 : LkV RL 104 yX12_fits := ⟨(gtb_of (tm 1185 (by decide +kernel)) rfl), (gtb_of (tm 1186 (by decide +kernel)) rfl), (gtb_of (tm 1187 (by decide +kernel)) rfl)⟩
theorem v_L_105 : LkV RL 105 yX11_paid := ⟨(gtb_of (tm 692 (by decide +kernel)) rfl), (gtb_of (tm 693 (by decide +kernel)) rfl), (gtb_of (tm 694 (by decide +kernel)) rfl)⟩
theorem v_L_108 : LkV RL 108 yX12_paid := ⟨(gtb_of (tm 1196 (by decide +kernel)) rfl), (gtb_of (tm 1197 (by decide +kernel)) rfl), (gtb_of (tm 1198 (by decide +kernel)) rfl)⟩
theorem v_L_109 : LkV RL 109 yX11_bell := ⟨(gtb_of (tm 696 (by decide +kernel)) rfl), (gtb_of (tm 697 (by decide +kernel)) rfl), (gtb_of (tm 698 (by decide +kernel)) rfl)⟩
theorem v_L_112 : LkV RL 112 yX12_bell := ⟨(gtb_of (tm 1200 (by decide +kernel)) rfl), (gtb_of (tm 1201 (by decide +kernel)) rfl), (gtb_of (tm 1202 (by decide +kernel)) rfl)⟩
theorem v_L_113 : LkV RL 113 yX11_odds := ⟨(gtb_of (tm 700 (by decide +kernel)) rfl), (gtb_of (tm 701 (by decide +kernel)) rfl), (gtb_of (tm 702 (by decide +kernel)) rfl)⟩
theorem v_L_116 : LkV RL 116 yX12_odds := ⟨(gtb_of (tm 1204 (by decide +kernel)) rfl), (gtb_of (tm 1205 (by decide +kernel)) rfl), (gtb_of (tm 1206 (by decide +kernel)) rfl)⟩
theorem v_L_117 : LkV RL 117 yX11_seed := ⟨(gtb_of (tm 707 (by decide +kernel)) rfl), (gtb_of (tm 708 (by decide +kernel)) rfl), (gtb_of (tm 709 (by decide +kernel)) rfl)⟩
theorem v_L_120 : LkV RL 120 yX12_seed := ⟨(gtb_of (tm 1211 (by decide +kernel)) rfl), (gtb_of (tm 1212 (by decide +kernel)) rfl), (gtb_of (tm 1213 (by decide +kernel)) rfl)⟩
theorem v_L_121 : LkV RL 121 yX11_voice := ⟨(gtb_of (tm 711 (by decide +kernel)) rfl), (gtb_of (tm 712 (by decide +kernel)) rfl), (gtb_of (tm 713 (by decide +kernel)) rfl)⟩
theorem v_L_124 : LkV RL 124 yX12_voice := ⟨(gtb_of (tm 1215 (by decide +kernel)) rfl), (gtb_of (tm 1216 (by decide +kernel)) rfl), (gtb_of (tm 1217 (by decide +kernel)) rfl)⟩
theorem v_L_125 : LkV RL 125 yX11_trace := ⟨(gtb_of (tm 806 (by decide +kernel)) rfl), (gtb_of (tm 807 (by decide +kernel)) rfl), (gtb_of (tm 808 (by decide +kernel)) rfl)⟩
theorem v_L_128 : LkV RL 128 yX12_trace := ⟨(gtb_of (tm 1239 (by decide +kernel)) rfl), (gtb_of (tm 1240 (by decide +kernel)) rfl), (gtb_of (tm 1241 (by decide +kernel)) rfl)⟩
theorem v_L_129 : LkV RL 129 yX11_sheet := ⟨(gtb_of (tm 810 (by decide +kernel)) rfl), (gtb_of (tm 811 (by decide +kernel)) rfl), (gtb_of (tm 812 (by decide +kernel)) rfl)⟩
theorem v_L_132 : LkV RL 132 yX12_sheet := ⟨(gtb_of (tm 1243 (by decide +kernel)) rfl), (gtb_of (tm 1244 (by decide +kernel)) rfl), (gtb_of (tm 1245 (by decide +kernel)) rfl)⟩
theorem v_L_133 : LkV RL 133 yX11_put := ⟨(gtb_of (tm 817 (by decide +kernel)) rfl), (gtb_of (tm 818 (by decide +kernel)) rfl), (gtb_of (tm 819 (by decide +kernel)) rfl)⟩
theorem v_L_136 : LkV RL 136 yX12_put := ⟨(gtb_of (tm 1247 (by decide +kernel)) rfl), (gtb_of (tm 1248 (by decide +kernel)) rfl), (gtb_of (tm 1249 (by decide +kernel)) rfl)⟩
theorem v_L_137 : LkV RL 137 yX11_move := ⟨(gtb_of (tm 824 (by decide +kernel)) rfl), (gtb_of (tm 825 (by decide +kernel)) rfl), (gtb_of (tm 826 (by decide +kernel)) rfl)⟩
theorem v_L_141 : LkV RL 141 yX12_move := ⟨(gtb_of (tm 1254 (by decide +kernel)) rfl), (gtb_of (tm 1255 (by decide +kernel)) rfl), (gtb_of (tm 1256 (by decide +kernel)) rfl)⟩
theorem v_L_142 : LkV RL 142 yX11_dirts := ⟨(gtb_of (tm 833 (by decide +kernel)) rfl), (gtb_of (tm 834 (by decide +kernel)) rfl), (gtb_of (tm 835 (by decide +kernel)) rfl)⟩
theorem v_L_145 : LkV RL 145 yX12_dirts := ⟨(gtb_of (tm 1258 (by decide +kernel)) rfl), (gtb_of (tm 1259 (by decide +kernel)) rfl), (gtb_of (tm 1260 (by decide +kernel)) rfl)⟩
theorem v_L_146 : LkV RL 146 yX11_judge := ⟨(gtb_of (tm 837 (by decide +kernel)) rfl), (gtb_of (tm 838 (by decide +kernel)) rfl), (gtb_of (tm 839 (by decide +kernel)) rfl)⟩
theorem v_L_149 : LkV RL 149 yX12_judge := ⟨(gtb_of (tm 1262 (by decide +kernel)) rfl), (gtb_of (tm 1263 (by decide +kernel)) rfl), (gtb_of (tm 1264 (by decide +kernel)) rfl)⟩
theorem v_L_150 : LkV RL 150 yX11_image := ⟨(gtb_of (tm 841 (by decide +kernel)) rfl), (gtb_of (tm 842 (by decide +kernel)) rfl), (gtb_of (tm 843 (by decide +kernel)) rfl)⟩
theorem v_L_153 : LkV RL 153 yX12_image := ⟨(gtb_of (tm 1266 (by decide +kernel)) rfl), (gtb_of (tm 1267 (by decide +kernel)) rfl), (gtb_of (tm 1268 (by decide +kernel)) rfl)⟩
theorem v_L_154 : LkV RL 154 yX11_restore := ⟨(gtb_of (tm 850 (by decide +kernel)) rfl), (gtb_of (tm 851 (by decide +kernel)) rfl), (gtb_of (tm 852 (by decide +kernel)) rfl)⟩
theorem v_L_157 : LkV RL 157 yX12_restore := ⟨(gtb_of (tm 1270 (by decide +kernel)) rfl), (gtb_of (tm 1271 (by decide +kernel)) rfl), (gtb_of (tm 1272 (by decide +kernel)) rfl)⟩
theorem v_L_158 : LkV RL 158 yX11_tell := ⟨(gtb_of (tm 854 (by decide +kernel)) rfl), (gtb_of (tm 855 (by decide +kernel)) rfl), (gtb_of (tm 856 (by decide +kernel)) rfl)⟩
theorem v_L_161 : LkV RL 161 yX12_tell := ⟨(gtb_of (tm 1274 (by decide +kernel)) rfl), (gtb_of (tm 1275 (by decide +kernel)) rfl), (gtb_of (tm 1276 (by decide +kernel)) rfl)⟩
theorem v_L_162 : LkV RL 162 yX11_check := ⟨(gtb_of (tm 858 (by decide +kernel)) rfl), (gtb_of (tm 859 (by decide +kernel)) rfl), (gtb_of (tm 860 (by decide +kernel)) rfl)⟩
theorem v_L_165 : LkV RL 165 yX12_check := ⟨(gtb_of (tm 1278 (by decide +kernel)) rfl), (gtb_of (tm 1279 (by decide +kernel)) rfl), (gtb_of (tm 1280 (by decide +kernel)) rfl)⟩
theorem v_L_166 : LkV RL 166 yX11_count := ⟨(gtb_of (tm 862 (by decide +kernel)) rfl), (gtb_of (tm 863 (by decide +kernel)) rfl), (gtb_of (tm 864 (by decide +kernel)) rfl)⟩
theorem v_L_169 : LkV RL 169 yX12_count := ⟨(gtb_of (tm 1282 (by decide +kernel)) rfl), (gtb_of (tm 1283 (by decide +kernel)) rfl), (gtb_of (tm 1284 (by decide +kernel)) rfl)⟩
theorem v_L_170 : LkV RL 170 yX11_told := ⟨(gtb_of (tm 866 (by decide +kernel)) rfl), (gtb_of (tm 867 (by decide +kernel)) rfl), (gtb_of (tm 868 (by decide +kernel)) rfl)⟩
theorem v_L_173 : LkV RL 173 yX12_told := ⟨(gtb_of (tm 1286 (by decide +kernel)) rfl), (gtb_of (tm 1287 (by decide +kernel)) rfl), (gtb_of (tm 1288 (by decide +kernel)) rfl)⟩
theorem v_X12_41 : LkS RX12 41 yX12_in := ⟨(gtb_of (tm 956 (by decide +kernel)) rfl), (gtb_of (tm 957 (by decide +kernel)) rfl)⟩
theorem v_X12_46 : LkV RX12 46 yX12_errs := ⟨(gtb_of (tm 960 (by decide +kernel)) rfl), (gtb_of (tm 962 (by decide +kernel)) rfl), (gtb_of (pm 18 (by decide +kernel)) rfl)⟩
theorem v_X12_51 : LkV RX12 51 yX12_gets := ⟨(gtb_of (tm 966 (by decide +kernel)) rfl), (gtb_of (tm 968 (by decide +kernel)) rfl), (gtb_of (pm 19 (by decide +kernel)) rfl)⟩
theorem v_X12_55 : LkV RX12 55 yX12_isYard := ⟨(gtb_of (tm 974 (by decide +kernel)) rfl), (gtb_of (tm 976 (by decide +kernel)) rfl), (gtb_of (pm 20 (by decide +kernel)) rfl)⟩
theorem v_X12_59 : LkV RX12 59 yX12_its := ⟨(gtb_of (tm 978 (by decide +kernel)) rfl), (gtb_of (tm 980 (by decide +kernel)) rfl), (gtb_of (pm 21 (by decide +kernel)) rfl)⟩
theorem v_X12_63 : LkV RX12 63 yX12_falling := ⟨(gtb_of (tm 982 (by decide +kernel)) rfl), (gtb_of (tm 984 (by decide +kernel)) rfl), (gtb_of (pm 22 (by decide +kernel)) rfl)⟩
theorem v_X12_66 : LkV RX12 66 yX12_taken := ⟨(gtb_of (tm 1040 (by decide +kernel)) rfl), (gtb_of (tm 1042 (by decide +kernel)) rfl), (gtb_of (pm 35 (by decide +kernel)) rfl)⟩
theorem v_X12_69 : LkV RX12 69 yX12_becomes := ⟨(gtb_of (tm 1048 (by decide +kernel)) rfl), (gtb_of (tm 1050 (by decide +kernel)) rfl), (gtb_of (pm 36 (by decide +kernel)) rfl)⟩
theorem v_X12_73 : LkS RX12 73 yX12_above := ⟨(gtb_of (tm 1065 (by decide +kernel)) rfl), (gtb_of (tm 1066 (by decide +kernel)) rfl)⟩
theorem v_X12_91 : LkV RX12 91 yX12_byteAt := ⟨(gtb_of (tm 1018 (by decide +kernel)) rfl), (gtb_of (tm 1020 (by decide +kernel)) rfl), (gtb_of (pm 31 (by decide +kernel)) rfl)⟩
theorem v_X12_94 : LkS RX12 94 yX12_isDigit := ⟨(gtb_of (tm 1022 (by decide +kernel)) rfl), (gtb_of (tm 1023 (by decide +kernel)) rfl)⟩
theorem v_X12_97 : LkV RX12 97 yX12_fails := ⟨(gtb_of (tm 1033 (by decide +kernel)) rfl), (gtb_of (tm 1035 (by decide +kernel)) rfl), (gtb_of (pm 34 (by decide +kernel)) rfl)⟩
theorem v_X12_110 : LkV RX12 110 yX12_number := ⟨(gtb_of (tm 1025 (by decide +kernel)) rfl), (gtb_of (tm 1027 (by decide +kernel)) rfl), (gtb_of (pm 32 (by decide +kernel)) rfl)⟩
theorem v_X12_113 : LkV RX12 113 yX12_named := ⟨(gtb_of (tm 1029 (by decide +kernel)) rfl), (gtb_of (tm 1031 (by decide +kernel)) rfl), (gtb_of (pm 33 (by decide +kernel)) rfl)⟩
theorem v_X12_119 : LkV RX12 119 yX12_factor := ⟨(gtb_of (tm 1014 (by decide +kernel)) rfl), (gtb_of (tm 1016 (by decide +kernel)) rfl), (gtb_of (pm 30 (by decide +kernel)) rfl)⟩
theorem v_X12_122 : LkV RX12 122 yX12_whole := ⟨(gtb_of (tm 994 (by decide +kernel)) rfl), (gtb_of (tm 996 (by decide +kernel)) rfl), (gtb_of (pm 25 (by decide +kernel)) rfl)⟩
theorem v_X12_125 : LkV RX12 125 yX12_product := ⟨(gtb_of (tm 1010 (by decide +kernel)) rfl), (gtb_of (tm 1012 (by decide +kernel)) rfl), (gtb_of (pm 29 (by decide +kernel)) rfl)⟩
theorem v_X12_128 : LkV RX12 128 yX12_sum := ⟨(gtb_of (tm 1006 (by decide +kernel)) rfl), (gtb_of (tm 1008 (by decide +kernel)) rfl), (gtb_of (pm 28 (by decide +kernel)) rfl)⟩
theorem v_X12_131 : LkV RX12 131 yX12_compared := ⟨(gtb_of (tm 1002 (by decide +kernel)) rfl), (gtb_of (tm 1004 (by decide +kernel)) rfl), (gtb_of (pm 27 (by decide +kernel)) rfl)⟩
theorem v_X12_134 : LkV RX12 134 yX12_both := ⟨(gtb_of (tm 998 (by decide +kernel)) rfl), (gtb_of (tm 1000 (by decide +kernel)) rfl), (gtb_of (pm 26 (by decide +kernel)) rfl)⟩
theorem v_X12_137 : LkV RX12 137 yX12_walks := ⟨(gtb_of (tm 990 (by decide +kernel)) rfl), (gtb_of (tm 992 (by decide +kernel)) rfl), (gtb_of (pm 24 (by decide +kernel)) rfl)⟩
theorem v_X12_141 : LkS RX12 141 yX12_held := ⟨(gtb_of (tm 1037 (by decide +kernel)) rfl), (gtb_of (tm 1038 (by decide +kernel)) rfl)⟩
theorem v_X12_145 : LkV RX12 145 yX12_lawOf := ⟨(gtb_of (tm 986 (by decide +kernel)) rfl), (gtb_of (tm 988 (by decide +kernel)) rfl), (gtb_of (pm 23 (by decide +kernel)) rfl)⟩
theorem v_X12_150 : LkV RX12 150 yX12_moveAll := ⟨(gtb_of (tm 1082 (by decide +kernel)) rfl), (gtb_of (tm 1084 (by decide +kernel)) rfl), (gtb_of (pm 37 (by decide +kernel)) rfl)⟩
theorem v_X12_157 : LkV RX12 157 yX12_isSigned := ⟨(gtb_of (tm 1090 (by decide +kernel)) rfl), (gtb_of (tm 1092 (by decide +kernel)) rfl), (gtb_of (pm 38 (by decide +kernel)) rfl)⟩
theorem v_X12_161 : LkV RX12 161 yX12_stayers := ⟨(gtb_of (tm 1115 (by decide +kernel)) rfl), (gtb_of (tm 1117 (by decide +kernel)) rfl), (gtb_of (pm 43 (by decide +kernel)) rfl)⟩
theorem v_X12_164 : LkV RX12 164 yX12_placesOn := ⟨(gtb_of (tm 1107 (by decide +kernel)) rfl), (gtb_of (tm 1109 (by decide +kernel)) rfl), (gtb_of (pm 41 (by decide +kernel)) rfl)⟩
theorem v_X12_167 : LkV RX12 167 yX12_sweepsSide := ⟨(gtb_of (tm 1111 (by decide +kernel)) rfl), (gtb_of (tm 1113 (by decide +kernel)) rfl), (gtb_of (pm 42 (by decide +kernel)) rfl)⟩
theorem v_X12_171 : LkV RX12 171 yX12_oneDay := ⟨(gtb_of (tm 1103 (by decide +kernel)) rfl), (gtb_of (tm 1105 (by decide +kernel)) rfl), (gtb_of (pm 40 (by decide +kernel)) rfl)⟩
theorem v_X12_175 : LkV RX12 175 yX12_passes := ⟨(gtb_of (tm 1099 (by decide +kernel)) rfl), (gtb_of (tm 1101 (by decide +kernel)) rfl), (gtb_of (pm 39 (by decide +kernel)) rfl)⟩
theorem v_X12_179 : LkV RX12 179 yX12_allDirt := ⟨(gtb_of (tm 1119 (by decide +kernel)) rfl), (gtb_of (tm 1121 (by decide +kernel)) rfl), (gtb_of (pm 44 (by decide +kernel)) rfl)⟩
theorem v_X12_183 : LkV RX12 183 yX12_drawn := ⟨(gtb_of (tm 1127 (by decide +kernel)) rfl), (gtb_of (tm 1129 (by decide +kernel)) rfl), (gtb_of (pm 45 (by decide +kernel)) rfl)⟩
theorem v_X12_186 : LkV RX12 186 yX12_dirtyFrom := ⟨(gtb_of (tm 1140 (by decide +kernel)) rfl), (gtb_of (tm 1142 (by decide +kernel)) rfl), (gtb_of (pm 46 (by decide +kernel)) rfl)⟩
theorem v_X12_190 : LkV RX12 190 yX12_dirtSwept := ⟨(gtb_of (tm 1153 (by decide +kernel)) rfl), (gtb_of (tm 1155 (by decide +kernel)) rfl), (gtb_of (pm 47 (by decide +kernel)) rfl)⟩
theorem v_X12_193 : LkV RX12 193 yX12_isClean := ⟨(gtb_of (tm 1169 (by decide +kernel)) rfl), (gtb_of (tm 1171 (by decide +kernel)) rfl), (gtb_of (pm 48 (by decide +kernel)) rfl)⟩
theorem v_X12_197 : LkV RX12 197 yX12_carSet := ⟨(gtb_of (tm 1173 (by decide +kernel)) rfl), (gtb_of (tm 1175 (by decide +kernel)) rfl), (gtb_of (pm 49 (by decide +kernel)) rfl)⟩
theorem v_X12_200 : LkV RX12 200 yX12_dirtiest := ⟨(gtb_of (tm 1181 (by decide +kernel)) rfl), (gtb_of (tm 1183 (by decide +kernel)) rfl), (gtb_of (pm 50 (by decide +kernel)) rfl)⟩
theorem v_X12_203 : LkS RX12 203 yX12_isSheet := ⟨(gtb_of (tm 1189 (by decide +kernel)) rfl), (gtb_of (tm 1190 (by decide +kernel)) rfl)⟩
theorem v_X12_206 : LkV RX12 206 yX12_isDirtSo := ⟨(gtb_of (tm 1192 (by decide +kernel)) rfl), (gtb_of (tm 1194 (by decide +kernel)) rfl), (gtb_of (pm 51 (by decide +kernel)) rfl)⟩
theorem v_X12_209 : LkS RX12 209 yX12_divisor := ⟨(gtb_of (tm 1208 (by decide +kernel)) rfl), (gtb_of (tm 1209 (by decide +kernel)) rfl)⟩
theorem v_X12_215 : LkV RX12 215 yX12_ran := ⟨(gtb_of (tm 1223 (by decide +kernel)) rfl), (gtb_of (tm 1225 (by decide +kernel)) rfl), (gtb_of (pm 53 (by decide +kernel)) rfl)⟩
theorem v_X12_221 : LkV RX12 221 yX12_fallsIn := ⟨(gtb_of (tm 1219 (by decide +kernel)) rfl), (gtb_of (tm 1221 (by decide +kernel)) rfl), (gtb_of (pm 52 (by decide +kernel)) rfl)⟩
theorem v_X12_227 : LkV RX12 227 yX12_sweepsIn := ⟨(gtb_of (tm 1231 (by decide +kernel)) rfl), (gtb_of (tm 1233 (by decide +kernel)) rfl), (gtb_of (pm 55 (by decide +kernel)) rfl)⟩
theorem v_X12_233 : LkV RX12 233 yX12_movesIn := ⟨(gtb_of (tm 1227 (by decide +kernel)) rfl), (gtb_of (tm 1229 (by decide +kernel)) rfl), (gtb_of (pm 54 (by decide +kernel)) rfl)⟩
theorem v_X12_236 : LkV RX12 236 yX12_blocksIn := ⟨(gtb_of (tm 1235 (by decide +kernel)) rfl), (gtb_of (tm 1237 (by decide +kernel)) rfl), (gtb_of (pm 56 (by decide +kernel)) rfl)⟩
theorem v_X12_239 : LkS RX12 239 yX12_narrow := ⟨(gtb_of (tm 1251 (by decide +kernel)) rfl), (gtb_of (tm 1252 (by decide +kernel)) rfl)⟩
theorem f_X11_40 : Cond.fieldLink RX11 40 "SweptRound" "street" "LSweptRound$Street;" ∈ gtb := (gtb_of (tm 225 (by decide +kernel)) rfl)
theorem f_X11_44 : Cond.fieldLink RX11 44 "SweptRound" "thought" "LSweptRound$Street;" ∈ gtb := (gtb_of (tm 226 (by decide +kernel)) rfl)
theorem f_X11_47 : Cond.fieldLink RX11 47 "SweptRound" "kept" "LSweptRound$Street;" ∈ gtb := (gtb_of (tm 227 (by decide +kernel)) rfl)
theorem f_X11_53 : Cond.fieldLink RX11 53 "SweptRound" "reader" "LSweptRound$Reader;" ∈ gtb := (gtb_of (tm 228 (by decide +kernel)) rfl)
theorem f_X11_60 : Cond.fieldLink RX11 60 "SweptRound" "speech" "LSweptRound$Speech;" ∈ gtb := (gtb_of (tm 229 (by decide +kernel)) rfl)
theorem f_X11_66 : Cond.fieldLink RX11 66 "SweptRound" "numbers" "[[I" ∈ gtb := (gtb_of (tm 230 (by decide +kernel)) rfl)
theorem f_X11_69 : Cond.fieldLink RX11 69 "SweptRound" "bitsOfSheet" "[I" ∈ gtb := (gtb_of (tm 231 (by decide +kernel)) rfl)
theorem f_X11_73 : Cond.fieldLink RX11 73 "SweptRound" "sizeOfSheet" "[I" ∈ gtb := (gtb_of (tm 232 (by decide +kernel)) rfl)
theorem f_X11_76 : Cond.fieldLink RX11 76 "SweptRound" "errors" "[I" ∈ gtb := (gtb_of (tm 233 (by decide +kernel)) rfl)
theorem f_X11_88 : Cond.fieldLinkNest RX11 88 "SweptRound$Street" "count" "I" "SweptRound" ∈ lw_tbl := (tm 111 (by decide +kernel))
theorem f_X11_97 : Cond.fieldLinkNest RX11 97 "SweptRound$Street" "dirt" "[I" "SweptRound" ∈ lw_tbl := (tm 108 (by decide +kernel))
theorem f_X11_100 : Cond.fieldLinkNest RX11 100 "SweptRound$Street" "bold" "[I" "SweptRound" ∈ lw_tbl := (tm 110 (by decide +kernel))
theorem f_X11_117 : Cond.fieldLinkNest RX11 117 "SweptRound$Street" "kind" "[I" "SweptRound" ∈ lw_tbl := (tm 104 (by decide +kernel))
theorem f_X11_120 : Cond.fieldLinkNest RX11 120 "SweptRound$Street" "m" "[I" "SweptRound" ∈ lw_tbl := (tm 106 (by decide +kernel))
theorem f_X11_138 : Cond.fieldLinkNest RX11 138 "SweptRound$Street" "wind" "I" "SweptRound" ∈ lw_tbl := (tm 118 (by decide +kernel))
theorem f_X11_141 : Cond.fieldLinkNest RX11 141 "SweptRound$Street" "fine" "I" "SweptRound" ∈ lw_tbl := (tm 120 (by decide +kernel))
theorem f_X11_144 : Cond.fieldLinkNest RX11 144 "SweptRound$Street" "pence" "I" "SweptRound" ∈ lw_tbl := (tm 122 (by decide +kernel))
theorem f_X11_147 : Cond.fieldLink RX11 147 "SweptRound" "KIND_ABOVE" "[I" ∈ gtb := (gtb_of (tm 398 (by decide +kernel)) rfl)
theorem f_X11_155 : Cond.fieldLinkNest RX11 155 "SweptRound$Street" "day" "I" "SweptRound" ∈ lw_tbl := (tm 116 (by decide +kernel))
theorem f_X11_161 : Cond.fieldLinkNest RX11 161 "SweptRound$Street" "taped" "I" "SweptRound" ∈ lw_tbl := (tm 130 (by decide +kernel))
theorem f_X11_164 : Cond.fieldLinkNest RX11 164 "SweptRound$Street" "tape" "[I" "SweptRound" ∈ lw_tbl := (tm 128 (by decide +kernel))
theorem f_X11_175 : Cond.fieldLinkNest RX11 175 "SweptRound$Street" "leaves" "LSweptRound$Law;" "SweptRound" ∈ lw_tbl := (tm 124 (by decide +kernel))
theorem f_X11_179 : Cond.fieldLinkNest RX11 179 "SweptRound$Street" "signs" "LSweptRound$Law;" "SweptRound" ∈ lw_tbl := (tm 126 (by decide +kernel))
theorem f_X11_236 : Cond.fieldLinkNest RX11 236 "SweptRound$Street" "cars" "I" "SweptRound" ∈ lw_tbl := (tm 114 (by decide +kernel))
theorem f_X11_242 : Cond.fieldLinkNest RX11 242 "SweptRound$Street" "z" "I" "SweptRound" ∈ lw_tbl := (tm 136 (by decide +kernel))
theorem f_X11_265 : Cond.fieldLinkNest RX11 265 "SweptRound$Speech" "begun" "I" "SweptRound" ∈ lw_tbl := (tm 208 (by decide +kernel))
theorem f_X11_268 : Cond.fieldLinkNest RX11 268 "SweptRound$Speech" "bodies" "[I" "SweptRound" ∈ lw_tbl := (tm 206 (by decide +kernel))
theorem f_X11_289 : Cond.fieldLink RX11 289 "SweptRound" "images" "I" ∈ gtb := (gtb_of (tm 234 (by decide +kernel)) rfl)
theorem f_X11_292 : Cond.fieldLinkNest RX11 292 "SweptRound$Street" "waits" "I" "SweptRound" ∈ lw_tbl := (tm 134 (by decide +kernel))
theorem f_X11_295 : Cond.fieldLinkNest RX11 295 "SweptRound$Street" "waiting" "[I" "SweptRound" ∈ lw_tbl := (tm 132 (by decide +kernel))
theorem f_X0_21 : Cond.fieldLinkNest RX0 21 "SweptRound$Speech" "number" "I" "SweptRound" ∈ lw_tbl := (tm 210 (by decide +kernel))
theorem f_X4_9 : Cond.fieldLink RX4 9 "SweptRound$Law" "use" "I" ∈ gtb := (gtb_of (tm 85 (by decide +kernel)) rfl)
theorem f_X4_15 : Cond.fieldLink RX4 15 "SweptRound$Law" "steps" "[I" ∈ gtb := (gtb_of (tm 86 (by decide +kernel)) rfl)
theorem f_X4_19 : Cond.fieldLink RX4 19 "SweptRound$Law" "stack" "[I" ∈ gtb := (gtb_of (tm 87 (by decide +kernel)) rfl)
theorem f_X5_9 : Cond.fieldLink RX5 9 "SweptRound$Reader" "bytes" "[I" ∈ gtb := (gtb_of (tm 180 (by decide +kernel)) rfl)
theorem f_X5_15 : Cond.fieldLink RX5 15 "SweptRound$Reader" "steps" "[I" ∈ gtb := (gtb_of (tm 181 (by decide +kernel)) rfl)
theorem f_X5_24 : Cond.fieldLink RX5 24 "SweptRound$Reader" "size" "I" ∈ gtb := (gtb_of (tm 182 (by decide +kernel)) rfl)
theorem f_X5_28 : Cond.fieldLink RX5 28 "SweptRound$Reader" "use" "I" ∈ gtb := (gtb_of (tm 185 (by decide +kernel)) rfl)
theorem f_X5_31 : Cond.fieldLink RX5 31 "SweptRound$Reader" "at" "I" ∈ gtb := (gtb_of (tm 183 (by decide +kernel)) rfl)
theorem f_X5_34 : Cond.fieldLink RX5 34 "SweptRound$Reader" "written" "I" ∈ gtb := (gtb_of (tm 184 (by decide +kernel)) rfl)
theorem f_X6_9 : Cond.fieldLink RX6 9 "SweptRound$Speech" "bodies" "[I" ∈ gtb := (gtb_of (tm 205 (by decide +kernel)) rfl)
theorem f_X6_15 : Cond.fieldLink RX6 15 "SweptRound$Speech" "number" "I" ∈ gtb := (gtb_of (tm 209 (by decide +kernel)) rfl)
theorem f_X6_19 : Cond.fieldLink RX6 19 "SweptRound$Speech" "m" "I" ∈ gtb := (gtb_of (tm 212 (by decide +kernel)) rfl)
theorem f_X6_22 : Cond.fieldLink RX6 22 "SweptRound$Speech" "begun" "I" ∈ gtb := (gtb_of (tm 207 (by decide +kernel)) rfl)
theorem f_X7_9 : Cond.fieldLink RX7 9 "SweptRound$Street" "kind" "[I" ∈ gtb := (gtb_of (tm 103 (by decide +kernel)) rfl)
theorem f_X7_15 : Cond.fieldLink RX7 15 "SweptRound$Street" "m" "[I" ∈ gtb := (gtb_of (tm 105 (by decide +kernel)) rfl)
theorem f_X7_18 : Cond.fieldLink RX7 18 "SweptRound$Street" "dirt" "[I" ∈ gtb := (gtb_of (tm 107 (by decide +kernel)) rfl)
theorem f_X7_21 : Cond.fieldLink RX7 21 "SweptRound$Street" "bold" "[I" ∈ gtb := (gtb_of (tm 109 (by decide +kernel)) rfl)
theorem f_X7_24 : Cond.fieldLink RX7 24 "SweptRound$Street" "fine" "I" ∈ gtb := (gtb_of (tm 119 (by decide +kernel)) rfl)
theorem f_X7_28 : Cond.fieldLink RX7 28 "SweptRound$Street" "tape" "[I" ∈ gtb := (gtb_of (tm 127 (by decide +kernel)) rfl)
theorem f_X7_31 : Cond.fieldLink RX7 31 "SweptRound$Street" "waiting" "[I" ∈ gtb := (gtb_of (tm 131 (by decide +kernel)) rfl)
theorem f_X7_34 : Cond.fieldLink RX7 34 "SweptRound$Street" "z" "I" ∈ gtb := (gtb_of (tm 135 (by decide +kernel)) rfl)
theorem f_X7_37 : Cond.fieldLink RX7 37 "SweptRound$Street" "kinds" "[LSweptRound$YardKind;" ∈ gtb := (gtb_of (tm 102 (by decide +kernel)) rfl)
theorem f_X7_41 : Cond.fieldLink RX7 41 "SweptRound$Street" "leaves" "LSweptRound$Law;" ∈ gtb := (gtb_of (tm 123 (by decide +kernel)) rfl)
theorem f_X7_45 : Cond.fieldLink RX7 45 "SweptRound$Street" "signs" "LSweptRound$Law;" ∈ gtb := (gtb_of (tm 125 (by decide +kernel)) rfl)
theorem f_X7_54 : Cond.fieldLink RX7 54 "SweptRound$Street" "count" "I" ∈ gtb := (gtb_of (tm 112 (by decide +kernel)) rfl)
theorem f_X7_57 : Cond.fieldLink RX7 57 "SweptRound$Street" "cars" "I" ∈ gtb := (gtb_of (tm 113 (by decide +kernel)) rfl)
theorem f_X7_60 : Cond.fieldLink RX7 60 "SweptRound$Street" "day" "I" ∈ gtb := (gtb_of (tm 115 (by decide +kernel)) rfl)
theorem f_X7_63 : Cond.fieldLink RX7 63 "SweptRound$Street" "wind" "I" ∈ gtb := (gtb_of (tm 117 (by decide +kernel)) rfl)
theorem f_X7_66 : Cond.fieldLink RX7 66 "SweptRound$Street" "pence" "I" ∈ gtb := (gtb_of (tm 121 (by decide +kernel)) rfl)
theorem f_X7_73 : Cond.fieldLink RX7 73 "SweptRound$Street" "taped" "I" ∈ gtb := (gtb_of (tm 129 (by decide +kernel)) rfl)
theorem f_X7_76 : Cond.fieldLink RX7 76 "SweptRound$Street" "waits" "I" ∈ gtb := (gtb_of (tm 133 (by decide +kernel)) rfl)
theorem f_X10_13 : Cond.fieldLinkNest RX10 13 "SweptRound$Speech" "number" "I" "SweptRound" ∈ lw_tbl := (tm 211 (by decide +kernel))
theorem f_X10_23 : Cond.fieldLinkNest RX10 23 "SweptRound$Speech" "m" "I" "SweptRound" ∈ lw_tbl := (tm 213 (by decide +kernel))
theorem f_X12_7 : Cond.fieldLink RX12 7 "SweptRoundModel" "row" "[I" ∈ gtb := (gtb_of (tm 876 (by decide +kernel)) rfl)
theorem f_X12_13 : Cond.fieldLink RX12 13 "SweptRoundModel" "kept" "[I" ∈ gtb := (gtb_of (tm 877 (by decide +kernel)) rfl)
theorem f_X12_16 : Cond.fieldLink RX12 16 "SweptRoundModel" "tried" "[I" ∈ gtb := (gtb_of (tm 878 (by decide +kernel)) rfl)
theorem f_X12_19 : Cond.fieldLink RX12 19 "SweptRoundModel" "before" "[I" ∈ gtb := (gtb_of (tm 879 (by decide +kernel)) rfl)
theorem f_X12_22 : Cond.fieldLink RX12 22 "SweptRoundModel" "found" "[I" ∈ gtb := (gtb_of (tm 882 (by decide +kernel)) rfl)
theorem f_X12_25 : Cond.fieldLink RX12 25 "SweptRoundModel" "bitsOf" "[I" ∈ gtb := (gtb_of (tm 892 (by decide +kernel)) rfl)
theorem f_X12_28 : Cond.fieldLink RX12 28 "SweptRoundModel" "sizeOf" "[I" ∈ gtb := (gtb_of (tm 893 (by decide +kernel)) rfl)
theorem f_X12_31 : Cond.fieldLink RX12 31 "SweptRoundModel" "sheets" "[I" ∈ gtb := (gtb_of (tm 894 (by decide +kernel)) rfl)
theorem f_X12_34 : Cond.fieldLink RX12 34 "SweptRoundModel" "moved" "[I" ∈ gtb := (gtb_of (tm 895 (by decide +kernel)) rfl)
theorem f_X12_37 : Cond.fieldLink RX12 37 "SweptRoundModel" "traced" "[I" ∈ gtb := (gtb_of (tm 896 (by decide +kernel)) rfl)
theorem f_X12_77 : Cond.fieldLink RX12 77 "SweptRoundModel" "end" "I" ∈ gtb := (gtb_of (tm 885 (by decide +kernel)) rfl)
theorem f_X12_81 : Cond.fieldLink RX12 81 "SweptRoundModel" "use" "I" ∈ gtb := (gtb_of (tm 883 (by decide +kernel)) rfl)
theorem f_X12_84 : Cond.fieldLink RX12 84 "SweptRoundModel" "good" "Z" ∈ gtb := (gtb_of (tm 890 (by decide +kernel)) rfl)
theorem f_X12_88 : Cond.fieldLink RX12 88 "SweptRoundModel" "at" "I" ∈ gtb := (gtb_of (tm 884 (by decide +kernel)) rfl)
theorem f_X12_101 : Cond.fieldLink RX12 101 "SweptRoundModel" "namedA" "I" ∈ gtb := (gtb_of (tm 887 (by decide +kernel)) rfl)
theorem f_X12_104 : Cond.fieldLink RX12 104 "SweptRoundModel" "namedB" "I" ∈ gtb := (gtb_of (tm 888 (by decide +kernel)) rfl)
theorem f_X12_107 : Cond.fieldLink RX12 107 "SweptRoundModel" "namedC" "I" ∈ gtb := (gtb_of (tm 889 (by decide +kernel)) rfl)
theorem f_X12_116 : Cond.fieldLink RX12 116 "SweptRoundModel" "open" "I" ∈ gtb := (gtb_of (tm 886 (by decide +kernel)) rfl)
theorem f_X12_154 : Cond.fieldLink RX12 154 "SweptRoundModel" "every" "I" ∈ gtb := (gtb_of (tm 891 (by decide +kernel)) rfl)
theorem f_X12_212 : Cond.fieldLink RX12 212 "SweptRoundModel" "tracedMany" "I" ∈ gtb := (gtb_of (tm 897 (by decide +kernel)) rfl)
theorem f_X12_218 : Cond.fieldLink RX12 218 "SweptRoundModel" "voiceN" "I" ∈ gtb := (gtb_of (tm 899 (by decide +kernel)) rfl)
theorem f_X12_224 : Cond.fieldLink RX12 224 "SweptRoundModel" "voiceM" "I" ∈ gtb := (gtb_of (tm 900 (by decide +kernel)) rfl)
theorem f_X12_230 : Cond.fieldLink RX12 230 "SweptRoundModel" "voiceKind" "I" ∈ gtb := (gtb_of (tm 898 (by decide +kernel)) rfl)
theorem f_X12_242 : Cond.fieldLink RX12 242 "SweptRoundModel" "isKept" "Z" ∈ gtb := (gtb_of (tm 880 (by decide +kernel)) rfl)
theorem f_X12_245 : Cond.fieldLink RX12 245 "SweptRoundModel" "images" "I" ∈ gtb := (gtb_of (tm 881 (by decide +kernel)) rfl)
theorem k_X11_83 : Cond.constant RX11 83 (-1000000001) ∈ gtb := (gtb_of (tm 263 (by decide +kernel)) rfl)
theorem k_X11_92 : Cond.constant RX11 92 (-1000000004) ∈ gtb := (gtb_of (tm 269 (by decide +kernel)) rfl)
theorem k_X11_154 : Cond.constant RX11 154 (-1000000005) ∈ gtb := (gtb_of (tm 403 (by decide +kernel)) rfl)
theorem k_X11_186 : Cond.constant RX11 186 (-1000000003) ∈ gtb := (gtb_of (tm 566 (by decide +kernel)) rfl)
theorem k_X11_208 : Cond.constant RX11 208 (-1000000002) ∈ gtb := (gtb_of (tm 629 (by decide +kernel)) rfl)
theorem k_X11_298 : Cond.constant RX11 298 (-1000000000) ∈ gtb := (gtb_of (tm 268 (by decide +kernel)) rfl)
theorem k_X11_299 : Cond.constant RX11 299 (99999) ∈ gtb := (gtb_of (tm 389 (by decide +kernel)) rfl)
theorem k_X7_135 : Cond.constant RX7 135 (99999) ∈ gtb := (gtb_of (tm 590 (by decide +kernel)) rfl)
theorem k_X7_139 : Cond.constant RX7 139 (1103515245) ∈ gtb := (gtb_of (tm 607 (by decide +kernel)) rfl)
theorem k_L_43 : Cond.constantLong RL 43 (4294967295) ∈ gtb := (gtb_of (tm 1290 (by decide +kernel)) rfl)
theorem k_X12_40 : Cond.constant RX12 40 (-1000000000) ∈ gtb := (gtb_of (tm 964 (by decide +kernel)) rfl)
theorem k_X12_45 : Cond.constant RX12 45 (-1000000001) ∈ gtb := (gtb_of (tm 959 (by decide +kernel)) rfl)
theorem k_X12_50 : Cond.constant RX12 50 (-1000000004) ∈ gtb := (gtb_of (tm 965 (by decide +kernel)) rfl)
theorem k_X12_72 : Cond.constant RX12 72 (99999) ∈ gtb := (gtb_of (tm 1056 (by decide +kernel)) rfl)
theorem k_X12_76 : Cond.constant RX12 76 (-1000000005) ∈ gtb := (gtb_of (tm 1068 (by decide +kernel)) rfl)
theorem k_X12_148 : Cond.constantLong RX12 148 (255) ∈ gtb := (gtb_of (tm 1077 (by decide +kernel)) rfl)
theorem k_X12_174 : Cond.constant RX12 174 (-1000000003) ∈ gtb := (gtb_of (tm 1098 (by decide +kernel)) rfl)
theorem k_X12_182 : Cond.constant RX12 182 (1103515245) ∈ gtb := (gtb_of (tm 1131 (by decide +kernel)) rfl)
theorem k_X12_189 : Cond.constant RX12 189 (-1000000002) ∈ gtb := (gtb_of (tm 1144 (by decide +kernel)) rfl)
end
section
theorem in_pl {big ws : List Cond} (ps : List Nat) (hp : ws = ps.filterMap (fun i => big[i]?)) : ∀ w ∈ ws, w ∈ big := by
  intro w hw
  rw [hp] at hw
  obtain ⟨i, -, hi⟩ := List.mem_filterMap.mp hw
  exact List.mem_of_getElem? hi
theorem inX0 : ∀ w ∈ u_ws RX0 TX0 0, w ∈ gtb := by decide
theorem inX1 : ∀ w ∈ u_ws RX1 TX1 0, w ∈ gtb := by decide
theorem inX2 : ∀ w ∈ u_ws RX2 TX2 0, w ∈ gtb := by decide
theorem inX3 : ∀ w ∈ u_ws RX3 TX3 0, w ∈ gtb := by decide
theorem inX4 : ∀ w ∈ u_ws RX4 TX4 3, w ∈ gtb := fun w h => gtb_of (List.mem_append_right _ (in_pl [88, 90, 92] (by decide +kernel) w h)) (List.all_eq_true.mp (by decide +kernel : (u_ws RX4 TX4 3).all goodWord = true) w h)
theorem hTX4 : ∀ k, k < 3 → (TX4 k).1 = RX4 := by decide
theorem inX5 : ∀ w ∈ u_ws RX5 TX5 6, w ∈ gtb := fun w h => gtb_of (List.mem_append_right _ (in_pl [186, 188, 190, 192, 194, 196] (by decide +kernel) w h)) (List.all_eq_true.mp (by decide +kernel : (u_ws RX5 TX5 6).all goodWord = true) w h)
theorem hTX5 : ∀ k, k < 6 → (TX5 k).1 = RX5 := by decide
theorem inX6 : ∀ w ∈ u_ws RX6 TX6 4, w ∈ gtb := fun w h => gtb_of (List.mem_append_right _ (in_pl [214, 216, 218, 220] (by decide +kernel) w h)) (List.all_eq_true.mp (by decide +kernel : (u_ws RX6 TX6 4).all goodWord = true) w h)
theorem hTX6 : ∀ k, k < 4 → (TX6 k).1 = RX6 := by decide
theorem inX7 : ∀ w ∈ u_ws RX7 TX7 18, w ∈ gtb := fun w h => gtb_of (List.mem_append_right _ (in_pl [137, 139, 141, 143, 145, 147, 149, 151, 153, 155, 157, 159, 161, 163, 165, 167, 169, 171] (by decide +kernel) w h)) (List.all_eq_true.mp (by decide +kernel : (u_ws RX7 TX7 18).all goodWord = true) w h)
theorem hTX7 : ∀ k, k < 18 → (TX7 k).1 = RX7 := by decide
theorem inX8 : ∀ w ∈ u_ws RX8 TX8 0, w ∈ gtb := by decide
theorem inX9 : ∀ w ∈ u_ws RX9 TX9 0, w ∈ gtb := by decide
theorem inX10 : ∀ w ∈ u_ws RX10 TX10 0, w ∈ gtb := by decide
theorem inX11 : ∀ w ∈ u_ws RX11 TX11 10, w ∈ gtb := fun w h => gtb_of (List.mem_append_right _ (in_pl [235, 237, 239, 241, 243, 245, 247, 249, 251, 253] (by decide +kernel) w h)) (List.all_eq_true.mp (by decide +kernel : (u_ws RX11 TX11 10).all goodWord = true) w h)
theorem hTX11 : ∀ k, k < 10 → (TX11 k).1 = RX11 := by decide
theorem inX12 : ∀ w ∈ u_ws RX12 TX12 25, w ∈ gtb := fun w h => gtb_of (List.mem_append_right _ (in_pl [901, 903, 905, 907, 909, 911, 913, 915, 917, 919, 921, 923, 925, 927, 929, 931, 933, 935, 937, 939, 941, 943, 945, 947, 949] (by decide +kernel) w h)) (List.all_eq_true.mp (by decide +kernel : (u_ws RX12 TX12 25).all goodWord = true) w h)
theorem hTX12 : ∀ k, k < 25 → (TX12 k).1 = RX12 := by decide
theorem kb_m33 : (Int8.ofInt (-33)).toInt32 = -33 := by decide
theorem kb_m10 : (Int8.ofInt (-10)).toInt32 = -10 := by decide
theorem kb_m3 : (Int8.ofInt (-3)).toInt32 = -3 := by decide
theorem kb_m2 : (Int8.ofInt (-2)).toInt32 = -2 := by decide
theorem kb_6 : (Int8.ofInt (6)).toInt32 = 6 := by decide
theorem kb_7 : (Int8.ofInt (7)).toInt32 = 7 := by decide
theorem kb_8 : (Int8.ofInt (8)).toInt32 = 8 := by decide
theorem kb_9 : (Int8.ofInt (9)).toInt32 = 9 := by decide
theorem kb_10 : (Int8.ofInt (10)).toInt32 = 10 := by decide
theorem kb_11 : (Int8.ofInt (11)).toInt32 = 11 := by decide
theorem kb_12 : (Int8.ofInt (12)).toInt32 = 12 := by decide
theorem kb_13 : (Int8.ofInt (13)).toInt32 = 13 := by decide
theorem kb_14 : (Int8.ofInt (14)).toInt32 = 14 := by decide
theorem kb_16 : (Int8.ofInt (16)).toInt32 = 16 := by decide
theorem kb_20 : (Int8.ofInt (20)).toInt32 = 20 := by decide
theorem kb_28 : (Int8.ofInt (28)).toInt32 = 28 := by decide
theorem kb_30 : (Int8.ofInt (30)).toInt32 = 30 := by decide
theorem kb_32 : (Int8.ofInt (32)).toInt32 = 32 := by decide
theorem kb_33 : (Int8.ofInt (33)).toInt32 = 33 := by decide
theorem kb_37 : (Int8.ofInt (37)).toInt32 = 37 := by decide
theorem kb_38 : (Int8.ofInt (38)).toInt32 = 38 := by decide
theorem kb_40 : (Int8.ofInt (40)).toInt32 = 40 := by decide
theorem kb_41 : (Int8.ofInt (41)).toInt32 = 41 := by decide
theorem kb_42 : (Int8.ofInt (42)).toInt32 = 42 := by decide
theorem kb_43 : (Int8.ofInt (43)).toInt32 = 43 := by decide
theorem kb_45 : (Int8.ofInt (45)).toInt32 = 45 := by decide
theorem kb_47 : (Int8.ofInt (47)).toInt32 = 47 := by decide
theorem kb_48 : (Int8.ofInt (48)).toInt32 = 48 := by decide
theorem kb_50 : (Int8.ofInt (50)).toInt32 = 50 := by decide
theorem kb_57 : (Int8.ofInt (57)).toInt32 = 57 := by decide
theorem kb_60 : (Int8.ofInt (60)).toInt32 = 60 := by decide
theorem kb_61 : (Int8.ofInt (61)).toInt32 = 61 := by decide
theorem kb_62 : (Int8.ofInt (62)).toInt32 = 62 := by decide
theorem kb_63 : (Int8.ofInt (63)).toInt32 = 63 := by decide
theorem kb_69 : (Int8.ofInt (69)).toInt32 = 69 := by decide
theorem kb_70 : (Int8.ofInt (70)).toInt32 = 70 := by decide
theorem kb_71 : (Int8.ofInt (71)).toInt32 = 71 := by decide
theorem kb_99 : (Int8.ofInt (99)).toInt32 = 99 := by decide
theorem kb_100 : (Int8.ofInt (100)).toInt32 = 100 := by decide
theorem kb_101 : (Int8.ofInt (101)).toInt32 = 101 := by decide
theorem kb_115 : (Int8.ofInt (115)).toInt32 = 115 := by decide
theorem kb_120 : (Int8.ofInt (120)).toInt32 = 120 := by decide
theorem kb_121 : (Int8.ofInt (121)).toInt32 = 121 := by decide
theorem kb_124 : (Int8.ofInt (124)).toInt32 = 124 := by decide
theorem ki_m1 : Int32.ofInt (-1) = -1 := by decide
theorem ki_0 : Int32.ofInt (0) = 0 := by decide
theorem ki_1 : Int32.ofInt (1) = 1 := by decide
theorem ki_2 : Int32.ofInt (2) = 2 := by decide
theorem ki_3 : Int32.ofInt (3) = 3 := by decide
theorem ki_4 : Int32.ofInt (4) = 4 := by decide
theorem ki_5 : Int32.ofInt (5) = 5 := by decide
theorem ks_140 : (Int16.ofInt (140)).toInt32 = 140 := by decide
theorem ks_160 : (Int16.ofInt (160)).toInt32 = 160 := by decide
theorem ks_240 : (Int16.ofInt (240)).toInt32 = 240 := by decide
theorem ks_255 : (Int16.ofInt (255)).toInt32 = 255 := by decide
theorem ks_999 : (Int16.ofInt (999)).toInt32 = 999 := by decide
theorem ks_1000 : (Int16.ofInt (1000)).toInt32 = 1000 := by decide
theorem ks_9999 : (Int16.ofInt (9999)).toInt32 = 9999 := by decide
theorem ks_12345 : (Int16.ofInt (12345)).toInt32 = 12345 := by decide
end
section
/-! options, guards; the reference's state, its world, its rows -/
abbrev ix (i : Int32) : Nat := i.toNatClampNeg
def irm (x z : Int32) : Int32 := x - x / z * z
def iush (x z : Int32) : Int32 := (x.toUInt32 >>> (z.toUInt32 &&& Int32.toUInt32 31)).toInt32
def inb (i : Int32) (n : Nat) : Bool := !(decide (i < 0) || decide (n ≤ i.toNatClampNeg))
theorem inb_in {i : Int32} {n : Nat} (h : inb i n = true) : vp_in i n := by
  unfold inb at h
  unfold vp_in
  simpa using h
def isb (v : Int32) : Bool := decide (v = 0) || decide (v = 1)
theorem isb_n {v : Int32} (h : isb v = true) : narrow .boolean (.int v) = .int v := by
  unfold isb at h
  simp only [Bool.or_eq_true, decide_eq_true_eq] at h
  rcases h with rfl | rfl <;> decide
theorem isb_f {v : Int32} (h : isb v = true) : fits .boolean (.int v) = true := by
  unfold isb at h
  simp only [Bool.or_eq_true, decide_eq_true_eq] at h
  rcases h with rfl | rfl <;> decide
theorem isb_ite {c : Prop} [Decidable c] {a b : Int32} (ha : isb a = true) (hb : isb b = true) : isb (if c then a else b) = true := by
  split <;> assumption
def nz (v : Int32) : Bool := !(decide (v = 0))
theorem nz_ne {v : Int32} (h : nz v = true) : ¬ v = 0 := by
  unfold nz at h
  simpa using h
def gd {α : Type} (b : Bool) (k : Option α) : Option α := if b = true then k else none
theorem gd_some {α : Type} {b : Bool} {k : Option α} {q : α} (h : gd b k = some q) : b = true ∧ k = some q := by
  unfold gd at h
  by_cases e : b = true
  · rw [if_pos e] at h; exact ⟨e, h⟩
  · rw [if_neg e] at h; cases h
def ob {α β γ : Type} (x : Option (α × β)) (k : α → β → Option γ) : Option γ := match x with
  | none => none
  | some q => k q.1 q.2
theorem ob_some {α β γ : Type} {x : Option (α × β)} {k : α → β → Option γ} {q : γ} (h : ob x k = some q) : ∃ (a : α) (b : β), x = some (a, b) ∧ k a b = some q := by
  match x, h with
  | some (a, b), h => exact ⟨a, b, rfl, h⟩
def lt {α β : Type} (x : α) (k : α → β) : β := k x
theorem lt_ex {α β : Type} {x : α} {k : α → Option β} {q : β} (h : lt x k = some q) : ∃ y, y = x ∧ k y = some q := ⟨x, rfl, h⟩
theorem if_some {α : Type} {c : Prop} [Decidable c] {a b : Option α} {q : α} (h : (if c then a else b) = some q) : (c ∧ a = some q) ∨ (¬ c ∧ b = some q) := by
  by_cases e : c
  · rw [if_pos e] at h; exact Or.inl ⟨e, h⟩
  · rw [if_neg e] at h; exact Or.inr ⟨e, h⟩
theorem i32ne {x c : Int32} {n : Int} (h : ¬ x = c) (hc : c.toInt = n) : x.toInt ≠ n := fun e => h (Int32.toInt_inj.mp (e.trans hc.symm))
def lsub (L : List (Nat × Value)) : List (Nat × Value) → Prop
  | [] => True
  | (k, v) :: t => llk k L = some v ∧ lsub L t
theorem lsub_mem {L : List (Nat × Value)} : ∀ {L' : List (Nat × Value)}, lsub L L' → ∀ q ∈ L', q ∈ L
  | [], _, q, hq => by cases hq
  | (k, v) :: t, h, q, hq => by
    rcases List.mem_cons.mp hq with e | e
    · rw [e]; exact llk_mem h.1
    · exact lsub_mem h.2 q e
section R2
variable {g : GP} {l : Launch} {y : MethodName} {cc : ByteArray} {nL : Nat} {R : Room} {G : GT} {ce sl pc : Nat} {hp : va_W} {L : List (Nat × Value)} {st : List Value}
theorem g_loc (hG : IsG g l y cc nL R G) (L' : List (Nat × Value)) (h : lsub L L') (k : G ce sl hp L' pc st) : G ce sl hp L pc st := by
  obtain ⟨p, e, s, m, args, below, meth, c, Q, hx, hb, hml, hown, hts, hK, hlk, hnm, rfl⟩ := hG
  intro H locs ls hP hD hS hl
  exact k H locs ls hP hD hS ⟨hl.1, hl.2.1, fun q hq => hl.2.2 q (lsub_mem h q hq)⟩
theorem g_nam {x e : Int32} (h : x = e) (k : G ce sl hp L pc (.int x :: st)) : G ce sl hp L pc (.int e :: st) := h ▸ k
theorem g_dia1 {x : Int32} (v : Int32) (J : Nat) (br : G ce sl hp L J (.int v :: st) → G ce sl hp L pc (.int x :: st)) (k : G ce sl hp L J (.int v :: st)) : G ce sl hp L pc (.int x :: st) := br k
theorem g_dia2 {x z : Int32} (v : Int32) (J : Nat) (br : G ce sl hp L J (.int v :: st) → G ce sl hp L pc (.int z :: .int x :: st)) (k : G ce sl hp L J (.int v :: st)) : G ce sl hp L pc (.int z :: .int x :: st) := br k
theorem g_irm (hG : IsG g l y cc nL R G) {x z : Int32} (d : decode cc pc = .ok (.irem, 1)) (hz : ¬ z = 0) (k : G ce sl hp L (pc + 1) (.int (irm x z) :: st)) : G ce sl hp L pc (.int z :: .int x :: st) := g_irem hG d hz k
theorem g_iush (hG : IsG g l y cc nL R G) {x z : Int32} (d : decode cc pc = .ok (.iushr, 1)) (k : G ce sl hp L (pc + 1) (.int (iush x z) :: st)) : G ce sl hp L pc (.int z :: .int x :: st) := g_iushr hG d k
theorem g_tabC (hG : IsG g l y cc nL R G) {dflt lo hi : Int} {offs : Array Int} {len : Nat} {x c : Int32} {off : Int} {tgt : Nat} (hxc : x = c) (d : decode cc pc = .ok (.tableswitch dflt lo hi offs, len)) (h1 : ¬ c.toInt < lo) (h2 : ¬ hi < c.toInt) (ho : offs[(c.toInt - lo).toNat]? = some off) (ht : (pc : Int) + off = (tgt : Int)) (k : G ce sl hp L tgt st) : G ce sl hp L pc (.int x :: st) := by
  subst hxc
  exact g_tableIn hG d h1 h2 ho ht k
variable {y' : MethodName} {cc' : ByteArray} {nL' n idx : Nat} {ret : Option FieldType} {rm : Room} {As : List Value}
theorem g_cV (hG : IsG g l y cc nL R G) {k a ci N : Nat} {fs : List Value} {T : u_T} {v : Int32} {hp' : va_W} (d : decode cc pc = .ok (.invokevirtual idx, 3)) (hM : CI g l y' cc' nL' ret rm (.ref a :: As) hp (fun r w => r = v ∧ w = hp')) (b : LkB y' cc' nL' ret n) (lk : LkV y.cls idx y') (hn : As.length = n) (he : hp[k]? = some (a, .inr (ci, fs))) (hc : vwCl[ci]? = some (y'.cls, T, N)) (hR : rm.frames + 1 ≤ R.frames ∧ 8 + (nL' + 11) + rm.locals ≤ R.locals) (hz : rm.cells = 0 ∧ rm.slots = 0) (hf : ce ≤ R.cells ∧ sl ≤ R.slots) (st0 : List Value) (hst0 : st0 = As.reverse ++ .ref a :: st) (hst : (st.map fun v => v.category).sum ≤ 8)
    (kk : G ce sl hp' L (pc + 3) (.int v :: st)) : G ce sl hp L pc st0 := by
  subst hst0
  refine g_callV_i hG d hM b lk hn he hc hR hst (by rw [hz.1, hz.2]; exact hf) (fun r w hw => ?_)
  obtain ⟨rfl, rfl⟩ := hw
  rw [hz.1, hz.2]
  exact kk
theorem g_cVv (hG : IsG g l y cc nL R G) {k a ci N : Nat} {fs : List Value} {T : u_T} {hp' : va_W} (d : decode cc pc = .ok (.invokevirtual idx, 3)) (hM : CV g l y' cc' nL' rm (.ref a :: As) hp (fun w => w = hp')) (b : LkB y' cc' nL' none n) (lk : LkV y.cls idx y') (hn : As.length = n) (he : hp[k]? = some (a, .inr (ci, fs))) (hc : vwCl[ci]? = some (y'.cls, T, N)) (hR : rm.frames + 1 ≤ R.frames ∧ 8 + (nL' + 11) + rm.locals ≤ R.locals) (hz : rm.cells = 0 ∧ rm.slots = 0) (hf : ce ≤ R.cells ∧ sl ≤ R.slots) (st0 : List Value) (hst0 : st0 = As.reverse ++ .ref a :: st) (hst : (st.map fun v => v.category).sum ≤ 8)
    (kk : G ce sl hp' L (pc + 3) st) : G ce sl hp L pc st0 := by
  subst hst0
  refine g_callV_v hG d hM b lk hn he hc hR hst (by rw [hz.1, hz.2]; exact hf) (fun w hw => ?_)
  obtain rfl := hw
  rw [hz.1, hz.2]
  exact kk
theorem g_cS (hG : IsG g l y cc nL R G) {v : Int32} {hp' : va_W} (d : decode cc pc = .ok (.invokestatic idx, 3)) (hM : CI g l y' cc' nL' ret rm As hp (fun r w => r = v ∧ w = hp')) (b : LkB y' cc' nL' ret n) (lk : LkS y.cls idx y') (hn : As.length = n) (hR : rm.frames + 1 ≤ R.frames ∧ 8 + (nL' + 11) + rm.locals ≤ R.locals) (hz : rm.cells = 0 ∧ rm.slots = 0) (hf : ce ≤ R.cells ∧ sl ≤ R.slots) (st0 : List Value) (hst0 : st0 = As.reverse ++ st) (hst : (st.map fun v => v.category).sum ≤ 8)
    (kk : G ce sl hp' L (pc + 3) (.int v :: st)) : G ce sl hp L pc st0 := by
  subst hst0
  refine g_callS_i hG d hM b lk hn hR hst (by rw [hz.1, hz.2]; exact hf) (fun r w hw => ?_)
  obtain ⟨rfl, rfl⟩ := hw
  rw [hz.1, hz.2]
  exact kk
end R2
abbrev RS : Type := (Nat → Int32) × (Nat → Nat → Int32)
def ri (σ : RS) (f : Nat) (v : Int32) : RS := (upd σ.1 f v, σ.2)
def ra (σ : RS) (f : Nat) (h : Nat → Int32) : RS := (σ.1, va_up σ.2 f h)
def rfs (r : Nat → Nat) (σ : RS) : List Value := [.ref (r 0), .ref (r 1), .ref (r 2), .ref (r 3), .int (σ.1 4), .int (σ.1 5), .ref (r 6), .int (σ.1 7), .int (σ.1 8), .int (σ.1 9), .int (σ.1 10), .int (σ.1 11), .int (σ.1 12), .int (σ.1 13), .int (σ.1 14), .int (σ.1 15), .ref (r 16), .ref (r 17), .ref (r 18), .ref (r 19), .ref (r 20), .int (σ.1 21), .int (σ.1 22), .int (σ.1 23), .int (σ.1 24)]
def rar (g : GP) (r : Nat → Nat) (σ : RS) (f n : Nat) : Nat × va_E := (r f, .inl (g.2.1 0, n, .inl (σ.2 f)))
def wR (g : GP) (r : Nat → Nat) (σ : RS) (X : va_W) : va_W := (r 25, .inr (12, rfs r σ)) :: rar g r σ 0 240 :: rar g r σ 1 240 :: rar g r σ 2 240 :: rar g r σ 3 240 :: rar g r σ 6 6 :: rar g r σ 16 4 :: rar g r σ 17 4 :: rar g r σ 18 160 :: rar g r σ 19 40 :: rar g r σ 20 40 :: X
section R3
variable {g : GP} {l : Launch} {y : MethodName} {cc : ByteArray} {nL : Nat} {R : Room} {G : GT} {ce sl pc : Nat} {L : List (Nat × Value)} {st : List Value} {r : Nat → Nat} {σ σ' : RS} {X : va_W}
theorem r_get (f : Nat) (hG : IsG g l y cc nL R G) {idx : Nat} {v : Value} (d : decode cc pc = .ok (.getfield idx, 3)) (hlk : Cond.fieldLink y.cls idx RX12 (TX12 f).2.1 (TX12 f).2.2.1 ∈ gtb) (hf : f < 25) (hv : (rfs r σ)[f]? = some v) (kk : G ce sl (wR g r σ X) L (pc + 3) (v :: st)) : G ce sl (wR g r σ X) L pc (.ref (r 25) :: st) := g_get hG d (k := 0) (ci := 12) rfl rfl inX12 hf (hTX12 f hf) hlk hv kk
theorem r_put (f : Nat) (hG : IsG g l y cc nL R G) {idx : Nat} {v : Int32} (hσ : σ' = ri σ f v) (d : decode cc pc = .ok (.putfield idx, 3)) (hlk : Cond.fieldLink y.cls idx RX12 (TX12 f).2.1 (TX12 f).2.2.1 ∈ gtb) (hf : f < 25) (hfin : (TX12 f).2.2.2 = false) (hn : narrow (tyX12 f) (.int v) = .int v) (hfit : fits (tyX12 f) (.int v) = true) (hset : (wR g r σ X).set 0 (r 25, .inr (12, (rfs r σ).set f (.int v))) = wR g r (ri σ f v) X) (kk : G ce sl (wR g r σ' X) L (pc + 3) st) : G ce sl (wR g r σ X) L pc (.int v :: .ref (r 25) :: st) := by
  subst hσ
  rw [← hset] at kk
  exact g_put hG d (k := 0) (ci := 12) rfl rfl inX12 tyX12_ok nmX12 hf (hTX12 f hf) hlk hfin hn hfit hf kk
theorem r_iald (k f n : Nat) (hG : IsG g l y cc nL R G) {i : Int32} {j : Nat} (d : decode cc pc = .ok (.iaload, 1)) (he : (wR g r σ X)[k]? = some (rar g r σ f n)) (hi : inb i n = true) (hj : i.toNatClampNeg = j) (kk : G ce sl (wR g r σ X) L (pc + 1) (.int (σ.2 f j) :: st)) : G ce sl (wR g r σ X) L pc (.int i :: .ref (r f) :: st) := by
  subst hj
  exact g_iald hG d he (inb_in hi) kk
theorem r_iast (k f n : Nat) (hG : IsG g l y cc nL R G) {i x : Int32} {j : Nat} (hσ : σ' = ra σ f (upd (σ.2 f) j x)) (d : decode cc pc = .ok (.iastore, 1)) (he : (wR g r σ X)[k]? = some (rar g r σ f n)) (hi : inb i n = true) (hj : i.toNatClampNeg = j) (hset : (wR g r σ X).set k (r f, .inl (g.2.1 0, n, .inl (upd (σ.2 f) j x))) = wR g r (ra σ f (upd (σ.2 f) j x)) X) (kk : G ce sl (wR g r σ' X) L (pc + 1) st) : G ce sl (wR g r σ X) L pc (.int x :: .int i :: .ref (r f) :: st) := by
  subst hσ
  subst hj
  rw [← hset] at kk
  exact g_iast hG d he (inb_in hi) kk
end R3
/-- a bound on rounds of loops, far above what any run needs -/
def FU : Nat := 1000
end
