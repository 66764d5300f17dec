section
-- ===== PART A: goes FIRST, ahead of the names: the tables' words, and 'selects' of the private methods out of them =====
/-- a private method of a class that the tables say can be made, by its rows of tables_1 -/
def lw_okq (q : MethodName × Nat) : Prop := (q.1.cls ≠ "java/lang/invoke/MethodHandle" ∧ q.1.cls ≠ "java/lang/invoke/VarHandle") ∧ Cond.instantiable q.1.cls q.2 ∈ tables_1 ∧ Cond.privateMethod q.1 ∈ tables_1 ∧ Cond.instanceMethod q.1 ∈ tables_1
theorem lw_p0 : lw_okq (⟨"GlacierStreets", "refuse", "(I)I"⟩, 8) := ⟨⟨by decide +kernel, by decide +kernel⟩, List.mem_of_getElem? (i := 19) (by decide +kernel), List.mem_of_getElem? (i := 265) (by decide +kernel), List.mem_of_getElem? (i := 266) (by decide +kernel)⟩
theorem lw_p1 : lw_okq (⟨"GlacierStreets$Ice", "isWarm", "(I)Z"⟩, 4) := ⟨⟨by decide +kernel, by decide +kernel⟩, List.mem_of_getElem? (i := 33) (by decide +kernel), List.mem_of_getElem? (i := 293) (by decide +kernel), List.mem_of_getElem? (i := 294) (by decide +kernel)⟩
theorem lw_p2 : lw_okq (⟨"GlacierStreets", "isOnIce", "(I)Z"⟩, 8) := ⟨⟨by decide +kernel, by decide +kernel⟩, List.mem_of_getElem? (i := 19) (by decide +kernel), List.mem_of_getElem? (i := 321) (by decide +kernel), List.mem_of_getElem? (i := 322) (by decide +kernel)⟩
theorem lw_p3 : lw_okq (⟨"GlacierStreets", "isHouse", "(I)Z"⟩, 8) := ⟨⟨by decide +kernel, by decide +kernel⟩, List.mem_of_getElem? (i := 19) (by decide +kernel), List.mem_of_getElem? (i := 334) (by decide +kernel), List.mem_of_getElem? (i := 335) (by decide +kernel)⟩
theorem lw_p4 : lw_okq (⟨"GlacierStreets", "isPastLastYear", "(I)Z"⟩, 8) := ⟨⟨by decide +kernel, by decide +kernel⟩, List.mem_of_getElem? (i := 19) (by decide +kernel), List.mem_of_getElem? (i := 379) (by decide +kernel), List.mem_of_getElem? (i := 380) (by decide +kernel)⟩
theorem lw_p5 : lw_okq (⟨"GlacierStreets", "lookAhead", "(II)V"⟩, 8) := ⟨⟨by decide +kernel, by decide +kernel⟩, List.mem_of_getElem? (i := 19) (by decide +kernel), List.mem_of_getElem? (i := 409) (by decide +kernel), List.mem_of_getElem? (i := 410) (by decide +kernel)⟩
theorem lw_p6 : lw_okq (⟨"GlacierStreets", "isSetOfHouses", "(I)Z"⟩, 8) := ⟨⟨by decide +kernel, by decide +kernel⟩, List.mem_of_getElem? (i := 19) (by decide +kernel), List.mem_of_getElem? (i := 458) (by decide +kernel), List.mem_of_getElem? (i := 459) (by decide +kernel)⟩
theorem lw_p7 : lw_okq (⟨"GlacierStreets", "liesStraightLater", "(I)Z"⟩, 8) := ⟨⟨by decide +kernel, by decide +kernel⟩, List.mem_of_getElem? (i := 19) (by decide +kernel), List.mem_of_getElem? (i := 468) (by decide +kernel), List.mem_of_getElem? (i := 469) (by decide +kernel)⟩
theorem lw_p8 : lw_okq (⟨"GlacierStreets", "isDeed", "(I)Z"⟩, 8) := ⟨⟨by decide +kernel, by decide +kernel⟩, List.mem_of_getElem? (i := 19) (by decide +kernel), List.mem_of_getElem? (i := 511) (by decide +kernel), List.mem_of_getElem? (i := 512) (by decide +kernel)⟩
theorem lw_p9 : lw_okq (⟨"GlacierStreets$TextReader", "nextToken", "()V"⟩, 7) := ⟨⟨by decide +kernel, by decide +kernel⟩, List.mem_of_getElem? (i := 179) (by decide +kernel), List.mem_of_getElem? (i := 596) (by decide +kernel), List.mem_of_getElem? (i := 597) (by decide +kernel)⟩
theorem lw_p10 : lw_okq (⟨"GlacierStreets$TextReader", "readItem", "()Z"⟩, 7) := ⟨⟨by decide +kernel, by decide +kernel⟩, List.mem_of_getElem? (i := 179) (by decide +kernel), List.mem_of_getElem? (i := 607) (by decide +kernel), List.mem_of_getElem? (i := 608) (by decide +kernel)⟩
theorem lw_p11 : lw_okq (⟨"GlacierStreets$TextReader", "isWord", "(Ljava/lang/String;)Z"⟩, 7) := ⟨⟨by decide +kernel, by decide +kernel⟩, List.mem_of_getElem? (i := 179) (by decide +kernel), List.mem_of_getElem? (i := 612) (by decide +kernel), List.mem_of_getElem? (i := 613) (by decide +kernel)⟩
theorem lw_p12 : lw_okq (⟨"GlacierStreets$TextReader", "readEdge", "()Z"⟩, 7) := ⟨⟨by decide +kernel, by decide +kernel⟩, List.mem_of_getElem? (i := 179) (by decide +kernel), List.mem_of_getElem? (i := 664) (by decide +kernel), List.mem_of_getElem? (i := 665) (by decide +kernel)⟩
theorem lw_p13 : lw_okq (⟨"GlacierStreets$TextReader", "nextIsNumber", "(II)Z"⟩, 7) := ⟨⟨by decide +kernel, by decide +kernel⟩, List.mem_of_getElem? (i := 179) (by decide +kernel), List.mem_of_getElem? (i := 668) (by decide +kernel), List.mem_of_getElem? (i := 669) (by decide +kernel)⟩
theorem lw_p14 : lw_okq (⟨"GlacierStreets$TextReader", "readPace", "()Z"⟩, 7) := ⟨⟨by decide +kernel, by decide +kernel⟩, List.mem_of_getElem? (i := 179) (by decide +kernel), List.mem_of_getElem? (i := 675) (by decide +kernel), List.mem_of_getElem? (i := 676) (by decide +kernel)⟩
theorem lw_p15 : lw_okq (⟨"GlacierStreets$TextReader", "readWarm", "()Z"⟩, 7) := ⟨⟨by decide +kernel, by decide +kernel⟩, List.mem_of_getElem? (i := 179) (by decide +kernel), List.mem_of_getElem? (i := 680) (by decide +kernel), List.mem_of_getElem? (i := 681) (by decide +kernel)⟩
def lw_privs_1 : List (MethodName × Nat) := [(⟨"GlacierStreets", "refuse", "(I)I"⟩, 8), (⟨"GlacierStreets$Ice", "isWarm", "(I)Z"⟩, 4), (⟨"GlacierStreets", "isOnIce", "(I)Z"⟩, 8), (⟨"GlacierStreets", "isHouse", "(I)Z"⟩, 8), (⟨"GlacierStreets", "isPastLastYear", "(I)Z"⟩, 8), (⟨"GlacierStreets", "lookAhead", "(II)V"⟩, 8), (⟨"GlacierStreets", "isSetOfHouses", "(I)Z"⟩, 8), (⟨"GlacierStreets", "liesStraightLater", "(I)Z"⟩, 8), (⟨"GlacierStreets", "isDeed", "(I)Z"⟩, 8), (⟨"GlacierStreets$TextReader", "nextToken", "()V"⟩, 7), (⟨"GlacierStreets$TextReader", "readItem", "()Z"⟩, 7), (⟨"GlacierStreets$TextReader", "isWord", "(Ljava/lang/String;)Z"⟩, 7), (⟨"GlacierStreets$TextReader", "readEdge", "()Z"⟩, 7), (⟨"GlacierStreets$TextReader", "nextIsNumber", "(II)Z"⟩, 7), (⟨"GlacierStreets$TextReader", "readPace", "()Z"⟩, 7), (⟨"GlacierStreets$TextReader", "readWarm", "()Z"⟩, 7)]
theorem lw_r1 : ∀ q ∈ lw_privs_1, lw_okq q := List.forall_mem_cons.mpr ⟨lw_p0, List.forall_mem_cons.mpr ⟨lw_p1, List.forall_mem_cons.mpr ⟨lw_p2, List.forall_mem_cons.mpr ⟨lw_p3, List.forall_mem_cons.mpr ⟨lw_p4, List.forall_mem_cons.mpr ⟨lw_p5, List.forall_mem_cons.mpr ⟨lw_p6, List.forall_mem_cons.mpr ⟨lw_p7, List.forall_mem_cons.mpr ⟨lw_p8, List.forall_mem_cons.mpr ⟨lw_p9, List.forall_mem_cons.mpr ⟨lw_p10, List.forall_mem_cons.mpr ⟨lw_p11, List.forall_mem_cons.mpr ⟨lw_p12, List.forall_mem_cons.mpr ⟨lw_p13, List.forall_mem_cons.mpr ⟨lw_p14, List.forall_mem_cons.mpr ⟨lw_p15, fun _ h => absurd h List.not_mem_nil⟩⟩⟩⟩⟩⟩⟩⟩⟩⟩⟩⟩⟩⟩⟩⟩
theorem lw_p16 : lw_okq (⟨"GlacierStreets$TextReader", "readStake", "()Z"⟩, 7) := ⟨⟨by decide +kernel, by decide +kernel⟩, List.mem_of_getElem? (i := 179) (by decide +kernel), List.mem_of_getElem? (i := 685) (by decide +kernel), List.mem_of_getElem? (i := 686) (by decide +kernel)⟩
theorem lw_p17 : lw_okq (⟨"GlacierStreets$TextReader", "nextIsWord", "(Ljava/lang/String;)Z"⟩, 7) := ⟨⟨by decide +kernel, by decide +kernel⟩, List.mem_of_getElem? (i := 179) (by decide +kernel), List.mem_of_getElem? (i := 690) (by decide +kernel), List.mem_of_getElem? (i := 691) (by decide +kernel)⟩
theorem lw_p18 : lw_okq (⟨"GlacierStreets$TextReader", "readHouse", "(I)Z"⟩, 7) := ⟨⟨by decide +kernel, by decide +kernel⟩, List.mem_of_getElem? (i := 179) (by decide +kernel), List.mem_of_getElem? (i := 706) (by decide +kernel), List.mem_of_getElem? (i := 707) (by decide +kernel)⟩
theorem lw_p19 : lw_okq (⟨"GlacierStreets", "whyNoMap", "(II)I"⟩, 8) := ⟨⟨by decide +kernel, by decide +kernel⟩, List.mem_of_getElem? (i := 19) (by decide +kernel), List.mem_of_getElem? (i := 757) (by decide +kernel), List.mem_of_getElem? (i := 758) (by decide +kernel)⟩
theorem lw_p20 : lw_okq (⟨"GlacierStreetsModel", "finding", "(I)I"⟩, 23) := ⟨⟨by decide +kernel, by decide +kernel⟩, List.mem_of_getElem? (i := 785) (by decide +kernel), List.mem_of_getElem? (i := 878) (by decide +kernel), List.mem_of_getElem? (i := 879) (by decide +kernel)⟩
theorem lw_p21 : lw_okq (⟨"GlacierStreetsModel", "farthest", "()I"⟩, 23) := ⟨⟨by decide +kernel, by decide +kernel⟩, List.mem_of_getElem? (i := 785) (by decide +kernel), List.mem_of_getElem? (i := 882) (by decide +kernel), List.mem_of_getElem? (i := 883) (by decide +kernel)⟩
theorem lw_p22 : lw_okq (⟨"GlacierStreetsModel", "isGone", "(I)Z"⟩, 23) := ⟨⟨by decide +kernel, by decide +kernel⟩, List.mem_of_getElem? (i := 785) (by decide +kernel), List.mem_of_getElem? (i := 886) (by decide +kernel), List.mem_of_getElem? (i := 887) (by decide +kernel)⟩
theorem lw_p23 : lw_okq (⟨"GlacierStreetsModel", "houseIs", "(II)I"⟩, 23) := ⟨⟨by decide +kernel, by decide +kernel⟩, List.mem_of_getElem? (i := 785) (by decide +kernel), List.mem_of_getElem? (i := 890) (by decide +kernel), List.mem_of_getElem? (i := 891) (by decide +kernel)⟩
theorem lw_p24 : lw_okq (⟨"GlacierStreetsModel", "become", "(II)I"⟩, 23) := ⟨⟨by decide +kernel, by decide +kernel⟩, List.mem_of_getElem? (i := 785) (by decide +kernel), List.mem_of_getElem? (i := 896) (by decide +kernel), List.mem_of_getElem? (i := 897) (by decide +kernel)⟩
theorem lw_p25 : lw_okq (⟨"GlacierStreetsModel", "iceOf", "(II)I"⟩, 23) := ⟨⟨by decide +kernel, by decide +kernel⟩, List.mem_of_getElem? (i := 785) (by decide +kernel), List.mem_of_getElem? (i := 918) (by decide +kernel), List.mem_of_getElem? (i := 919) (by decide +kernel)⟩
theorem lw_p26 : lw_okq (⟨"GlacierStreetsModel", "goesBy", "(II)I"⟩, 23) := ⟨⟨by decide +kernel, by decide +kernel⟩, List.mem_of_getElem? (i := 785) (by decide +kernel), List.mem_of_getElem? (i := 922) (by decide +kernel), List.mem_of_getElem? (i := 923) (by decide +kernel)⟩
theorem lw_p27 : lw_okq (⟨"GlacierStreetsModel", "strainOf", "(II)I"⟩, 23) := ⟨⟨by decide +kernel, by decide +kernel⟩, List.mem_of_getElem? (i := 785) (by decide +kernel), List.mem_of_getElem? (i := 933) (by decide +kernel), List.mem_of_getElem? (i := 934) (by decide +kernel)⟩
theorem lw_p28 : lw_okq (⟨"GlacierStreetsModel", "built", "(IIII)I"⟩, 23) := ⟨⟨by decide +kernel, by decide +kernel⟩, List.mem_of_getElem? (i := 785) (by decide +kernel), List.mem_of_getElem? (i := 948) (by decide +kernel), List.mem_of_getElem? (i := 949) (by decide +kernel)⟩
theorem lw_p29 : lw_okq (⟨"GlacierStreetsModel", "isHouse", "(I)Z"⟩, 23) := ⟨⟨by decide +kernel, by decide +kernel⟩, List.mem_of_getElem? (i := 785) (by decide +kernel), List.mem_of_getElem? (i := 956) (by decide +kernel), List.mem_of_getElem? (i := 957) (by decide +kernel)⟩
theorem lw_p30 : lw_okq (⟨"GlacierStreetsModel", "stepNow", "(I)I"⟩, 23) := ⟨⟨by decide +kernel, by decide +kernel⟩, List.mem_of_getElem? (i := 785) (by decide +kernel), List.mem_of_getElem? (i := 960) (by decide +kernel), List.mem_of_getElem? (i := 961) (by decide +kernel)⟩
theorem lw_p31 : lw_okq (⟨"GlacierStreetsModel", "stepOf", "(IIII)I"⟩, 23) := ⟨⟨by decide +kernel, by decide +kernel⟩, List.mem_of_getElem? (i := 785) (by decide +kernel), List.mem_of_getElem? (i := 964) (by decide +kernel), List.mem_of_getElem? (i := 965) (by decide +kernel)⟩
def lw_privs_2 : List (MethodName × Nat) := [(⟨"GlacierStreets$TextReader", "readStake", "()Z"⟩, 7), (⟨"GlacierStreets$TextReader", "nextIsWord", "(Ljava/lang/String;)Z"⟩, 7), (⟨"GlacierStreets$TextReader", "readHouse", "(I)Z"⟩, 7), (⟨"GlacierStreets", "whyNoMap", "(II)I"⟩, 8), (⟨"GlacierStreetsModel", "finding", "(I)I"⟩, 23), (⟨"GlacierStreetsModel", "farthest", "()I"⟩, 23), (⟨"GlacierStreetsModel", "isGone", "(I)Z"⟩, 23), (⟨"GlacierStreetsModel", "houseIs", "(II)I"⟩, 23), (⟨"GlacierStreetsModel", "become", "(II)I"⟩, 23), (⟨"GlacierStreetsModel", "iceOf", "(II)I"⟩, 23), (⟨"GlacierStreetsModel", "goesBy", "(II)I"⟩, 23), (⟨"GlacierStreetsModel", "strainOf", "(II)I"⟩, 23), (⟨"GlacierStreetsModel", "built", "(IIII)I"⟩, 23), (⟨"GlacierStreetsModel", "isHouse", "(I)Z"⟩, 23), (⟨"GlacierStreetsModel", "stepNow", "(I)I"⟩, 23), (⟨"GlacierStreetsModel", "stepOf", "(IIII)I"⟩, 23)]
theorem lw_r2 : ∀ q ∈ lw_privs_2, lw_okq q := List.forall_mem_cons.mpr ⟨lw_p16, List.forall_mem_cons.mpr ⟨lw_p17, List.forall_mem_cons.mpr ⟨lw_p18, List.forall_mem_cons.mpr ⟨lw_p19, List.forall_mem_cons.mpr ⟨lw_p20, List.forall_mem_cons.mpr ⟨lw_p21, List.forall_mem_cons.mpr ⟨lw_p22, List.forall_mem_cons.mpr ⟨lw_p23, List.forall_mem_cons.mpr ⟨lw_p24, List.forall_mem_cons.mpr ⟨lw_p25, List.forall_mem_cons.mpr ⟨lw_p26, List.forall_mem_cons.mpr ⟨lw_p27, List.forall_mem_cons.mpr ⟨lw_p28, List.forall_mem_cons.mpr ⟨lw_p29, List.forall_mem_cons.mpr ⟨lw_p30, List.forall_mem_cons.mpr ⟨lw_p31, fun _ h => absurd h List.not_mem_nil⟩⟩⟩⟩⟩⟩⟩⟩⟩⟩⟩⟩⟩⟩⟩⟩
theorem lw_p32 : lw_okq (⟨"GlacierStreetsModel", "quicker", "(II)I"⟩, 23) := ⟨⟨by decide +kernel, by decide +kernel⟩, List.mem_of_getElem? (i := 785) (by decide +kernel), List.mem_of_getElem? (i := 968) (by decide +kernel), List.mem_of_getElem? (i := 969) (by decide +kernel)⟩
theorem lw_p33 : lw_okq (⟨"GlacierStreetsModel", "yearsGo", "(I)I"⟩, 23) := ⟨⟨by decide +kernel, by decide +kernel⟩, List.mem_of_getElem? (i := 785) (by decide +kernel), List.mem_of_getElem? (i := 996) (by decide +kernel), List.mem_of_getElem? (i := 997) (by decide +kernel)⟩
theorem lw_p34 : lw_okq (⟨"GlacierStreetsModel", "year", "()I"⟩, 23) := ⟨⟨by decide +kernel, by decide +kernel⟩, List.mem_of_getElem? (i := 785) (by decide +kernel), List.mem_of_getElem? (i := 1000) (by decide +kernel), List.mem_of_getElem? (i := 1001) (by decide +kernel)⟩
theorem lw_p35 : lw_okq (⟨"GlacierStreetsModel", "isTooLate", "(I)Z"⟩, 23) := ⟨⟨by decide +kernel, by decide +kernel⟩, List.mem_of_getElem? (i := 785) (by decide +kernel), List.mem_of_getElem? (i := 1012) (by decide +kernel), List.mem_of_getElem? (i := 1013) (by decide +kernel)⟩
theorem lw_p36 : lw_okq (⟨"GlacierStreetsModel", "putBack", "(I)I"⟩, 23) := ⟨⟨by decide +kernel, by decide +kernel⟩, List.mem_of_getElem? (i := 785) (by decide +kernel), List.mem_of_getElem? (i := 1019) (by decide +kernel), List.mem_of_getElem? (i := 1020) (by decide +kernel)⟩
theorem lw_p37 : lw_okq (⟨"GlacierStreetsModel", "areBeside", "(II)Z"⟩, 23) := ⟨⟨by decide +kernel, by decide +kernel⟩, List.mem_of_getElem? (i := 785) (by decide +kernel), List.mem_of_getElem? (i := 1039) (by decide +kernel), List.mem_of_getElem? (i := 1040) (by decide +kernel)⟩
theorem lw_p38 : lw_okq (⟨"GlacierStreetsModel", "isSet", "(I)Z"⟩, 23) := ⟨⟨by decide +kernel, by decide +kernel⟩, List.mem_of_getElem? (i := 785) (by decide +kernel), List.mem_of_getElem? (i := 1051) (by decide +kernel), List.mem_of_getElem? (i := 1052) (by decide +kernel)⟩
theorem lw_p39 : lw_okq (⟨"GlacierStreetsModel", "isStraight", "(I)Z"⟩, 23) := ⟨⟨by decide +kernel, by decide +kernel⟩, List.mem_of_getElem? (i := 785) (by decide +kernel), List.mem_of_getElem? (i := 1058) (by decide +kernel), List.mem_of_getElem? (i := 1059) (by decide +kernel)⟩
theorem lw_p40 : lw_okq (⟨"GlacierStreetsModel", "isDeed", "(I)Z"⟩, 23) := ⟨⟨by decide +kernel, by decide +kernel⟩, List.mem_of_getElem? (i := 785) (by decide +kernel), List.mem_of_getElem? (i := 1080) (by decide +kernel), List.mem_of_getElem? (i := 1081) (by decide +kernel)⟩
theorem lw_p41 : lw_okq (⟨"GlacierStreetsModel", "placeOf", "(I)I"⟩, 23) := ⟨⟨by decide +kernel, by decide +kernel⟩, List.mem_of_getElem? (i := 785) (by decide +kernel), List.mem_of_getElem? (i := 1084) (by decide +kernel), List.mem_of_getElem? (i := 1085) (by decide +kernel)⟩
theorem lw_p42 : lw_okq (⟨"GlacierStreetsModel", "offFrom", "(II)I"⟩, 23) := ⟨⟨by decide +kernel, by decide +kernel⟩, List.mem_of_getElem? (i := 785) (by decide +kernel), List.mem_of_getElem? (i := 1092) (by decide +kernel), List.mem_of_getElem? (i := 1093) (by decide +kernel)⟩
theorem lw_p43 : lw_okq (⟨"GlacierStreetsModel", "staked", "(IIII)I"⟩, 23) := ⟨⟨by decide +kernel, by decide +kernel⟩, List.mem_of_getElem? (i := 785) (by decide +kernel), List.mem_of_getElem? (i := 1104) (by decide +kernel), List.mem_of_getElem? (i := 1105) (by decide +kernel)⟩
theorem lw_p44 : lw_okq (⟨"GlacierStreetsModel", "holdsAll", "(II)Z"⟩, 23) := ⟨⟨by decide +kernel, by decide +kernel⟩, List.mem_of_getElem? (i := 785) (by decide +kernel), List.mem_of_getElem? (i := 1112) (by decide +kernel), List.mem_of_getElem? (i := 1113) (by decide +kernel)⟩
theorem lw_p45 : lw_okq (⟨"GlacierStreetsModel", "next", "()V"⟩, 23) := ⟨⟨by decide +kernel, by decide +kernel⟩, List.mem_of_getElem? (i := 785) (by decide +kernel), List.mem_of_getElem? (i := 1132) (by decide +kernel), List.mem_of_getElem? (i := 1133) (by decide +kernel)⟩
theorem lw_p46 : lw_okq (⟨"GlacierStreetsModel", "byteAt", "(I)I"⟩, 23) := ⟨⟨by decide +kernel, by decide +kernel⟩, List.mem_of_getElem? (i := 785) (by decide +kernel), List.mem_of_getElem? (i := 1136) (by decide +kernel), List.mem_of_getElem? (i := 1137) (by decide +kernel)⟩
theorem lw_p47 : lw_okq (⟨"GlacierStreetsModel", "readItem", "()V"⟩, 23) := ⟨⟨by decide +kernel, by decide +kernel⟩, List.mem_of_getElem? (i := 785) (by decide +kernel), List.mem_of_getElem? (i := 1140) (by decide +kernel), List.mem_of_getElem? (i := 1141) (by decide +kernel)⟩
def lw_privs_3 : List (MethodName × Nat) := [(⟨"GlacierStreetsModel", "quicker", "(II)I"⟩, 23), (⟨"GlacierStreetsModel", "yearsGo", "(I)I"⟩, 23), (⟨"GlacierStreetsModel", "year", "()I"⟩, 23), (⟨"GlacierStreetsModel", "isTooLate", "(I)Z"⟩, 23), (⟨"GlacierStreetsModel", "putBack", "(I)I"⟩, 23), (⟨"GlacierStreetsModel", "areBeside", "(II)Z"⟩, 23), (⟨"GlacierStreetsModel", "isSet", "(I)Z"⟩, 23), (⟨"GlacierStreetsModel", "isStraight", "(I)Z"⟩, 23), (⟨"GlacierStreetsModel", "isDeed", "(I)Z"⟩, 23), (⟨"GlacierStreetsModel", "placeOf", "(I)I"⟩, 23), (⟨"GlacierStreetsModel", "offFrom", "(II)I"⟩, 23), (⟨"GlacierStreetsModel", "staked", "(IIII)I"⟩, 23), (⟨"GlacierStreetsModel", "holdsAll", "(II)Z"⟩, 23), (⟨"GlacierStreetsModel", "next", "()V"⟩, 23), (⟨"GlacierStreetsModel", "byteAt", "(I)I"⟩, 23), (⟨"GlacierStreetsModel", "readItem", "()V"⟩, 23)]
theorem lw_r3 : ∀ q ∈ lw_privs_3, lw_okq q := List.forall_mem_cons.mpr ⟨lw_p32, List.forall_mem_cons.mpr ⟨lw_p33, List.forall_mem_cons.mpr ⟨lw_p34, List.forall_mem_cons.mpr ⟨lw_p35, List.forall_mem_cons.mpr ⟨lw_p36, List.forall_mem_cons.mpr ⟨lw_p37, List.forall_mem_cons.mpr ⟨lw_p38, List.forall_mem_cons.mpr ⟨lw_p39, List.forall_mem_cons.mpr ⟨lw_p40, List.forall_mem_cons.mpr ⟨lw_p41, List.forall_mem_cons.mpr ⟨lw_p42, List.forall_mem_cons.mpr ⟨lw_p43, List.forall_mem_cons.mpr ⟨lw_p44, List.forall_mem_cons.mpr ⟨lw_p45, List.forall_mem_cons.mpr ⟨lw_p46, List.forall_mem_cons.mpr ⟨lw_p47, fun _ h => absurd h List.not_mem_nil⟩⟩⟩⟩⟩⟩⟩⟩⟩⟩⟩⟩⟩⟩⟩⟩
theorem lw_p48 : lw_okq (⟨"GlacierStreetsModel", "isWord", "(Ljava/lang/String;)Z"⟩, 23) := ⟨⟨by decide +kernel, by decide +kernel⟩, List.mem_of_getElem? (i := 785) (by decide +kernel), List.mem_of_getElem? (i := 1144) (by decide +kernel), List.mem_of_getElem? (i := 1145) (by decide +kernel)⟩
theorem lw_p49 : lw_okq (⟨"GlacierStreetsModel", "readHouse", "(I)V"⟩, 23) := ⟨⟨by decide +kernel, by decide +kernel⟩, List.mem_of_getElem? (i := 785) (by decide +kernel), List.mem_of_getElem? (i := 1150) (by decide +kernel), List.mem_of_getElem? (i := 1151) (by decide +kernel)⟩
theorem lw_p50 : lw_okq (⟨"GlacierStreetsModel", "must", "(Z)V"⟩, 23) := ⟨⟨by decide +kernel, by decide +kernel⟩, List.mem_of_getElem? (i := 785) (by decide +kernel), List.mem_of_getElem? (i := 1154) (by decide +kernel), List.mem_of_getElem? (i := 1155) (by decide +kernel)⟩
theorem lw_p51 : lw_okq (⟨"GlacierStreetsModel", "number", "(II)I"⟩, 23) := ⟨⟨by decide +kernel, by decide +kernel⟩, List.mem_of_getElem? (i := 785) (by decide +kernel), List.mem_of_getElem? (i := 1158) (by decide +kernel), List.mem_of_getElem? (i := 1159) (by decide +kernel)⟩
theorem lw_p52 : lw_okq (⟨"GlacierStreetsModel", "after", "(Ljava/lang/String;II)I"⟩, 23) := ⟨⟨by decide +kernel, by decide +kernel⟩, List.mem_of_getElem? (i := 785) (by decide +kernel), List.mem_of_getElem? (i := 1163) (by decide +kernel), List.mem_of_getElem? (i := 1164) (by decide +kernel)⟩
theorem lw_p53 : lw_okq (⟨"GlacierStreetsModel", "item", "(IIIII)V"⟩, 23) := ⟨⟨by decide +kernel, by decide +kernel⟩, List.mem_of_getElem? (i := 785) (by decide +kernel), List.mem_of_getElem? (i := 1168) (by decide +kernel), List.mem_of_getElem? (i := 1169) (by decide +kernel)⟩
theorem lw_p54 : lw_okq (⟨"GlacierStreetsModel", "readWarm", "()V"⟩, 23) := ⟨⟨by decide +kernel, by decide +kernel⟩, List.mem_of_getElem? (i := 785) (by decide +kernel), List.mem_of_getElem? (i := 1175) (by decide +kernel), List.mem_of_getElem? (i := 1176) (by decide +kernel)⟩
theorem lw_p55 : lw_okq (⟨"GlacierStreetsModel", "isSo", "(I)V"⟩, 23) := ⟨⟨by decide +kernel, by decide +kernel⟩, List.mem_of_getElem? (i := 785) (by decide +kernel), List.mem_of_getElem? (i := 1183) (by decide +kernel), List.mem_of_getElem? (i := 1184) (by decide +kernel)⟩
theorem lw_p56 : lw_okq (⟨"GlacierStreetsModel", "refuses", "(II)I"⟩, 23) := ⟨⟨by decide +kernel, by decide +kernel⟩, List.mem_of_getElem? (i := 785) (by decide +kernel), List.mem_of_getElem? (i := 1216) (by decide +kernel), List.mem_of_getElem? (i := 1217) (by decide +kernel)⟩
def lw_privs_4 : List (MethodName × Nat) := [(⟨"GlacierStreetsModel", "isWord", "(Ljava/lang/String;)Z"⟩, 23), (⟨"GlacierStreetsModel", "readHouse", "(I)V"⟩, 23), (⟨"GlacierStreetsModel", "must", "(Z)V"⟩, 23), (⟨"GlacierStreetsModel", "number", "(II)I"⟩, 23), (⟨"GlacierStreetsModel", "after", "(Ljava/lang/String;II)I"⟩, 23), (⟨"GlacierStreetsModel", "item", "(IIIII)V"⟩, 23), (⟨"GlacierStreetsModel", "readWarm", "()V"⟩, 23), (⟨"GlacierStreetsModel", "isSo", "(I)V"⟩, 23), (⟨"GlacierStreetsModel", "refuses", "(II)I"⟩, 23)]
theorem lw_r4 : ∀ q ∈ lw_privs_4, lw_okq q := List.forall_mem_cons.mpr ⟨lw_p48, List.forall_mem_cons.mpr ⟨lw_p49, List.forall_mem_cons.mpr ⟨lw_p50, List.forall_mem_cons.mpr ⟨lw_p51, List.forall_mem_cons.mpr ⟨lw_p52, List.forall_mem_cons.mpr ⟨lw_p53, List.forall_mem_cons.mpr ⟨lw_p54, List.forall_mem_cons.mpr ⟨lw_p55, List.forall_mem_cons.mpr ⟨lw_p56, fun _ h => absurd h List.not_mem_nil⟩⟩⟩⟩⟩⟩⟩⟩⟩
def lw_privs : List (MethodName × Nat) := lw_privs_1 ++ (lw_privs_2 ++ (lw_privs_3 ++ (lw_privs_4)))
def lw_tbl : List Cond := k2_sels lw_privs ++ tables_1
theorem lw_privs_ok : ∀ q ∈ lw_privs, lw_okq q := by
  show ∀ q ∈ lw_privs_1 ++ (lw_privs_2 ++ (lw_privs_3 ++ (lw_privs_4))), lw_okq q
  exact List.forall_mem_append.mpr ⟨lw_r1, List.forall_mem_append.mpr ⟨lw_r2, List.forall_mem_append.mpr ⟨lw_r3, lw_r4⟩⟩⟩
-- ===== end of PART A; then your names; then what follows =====
/-! THE CLAIM OUT OF ONE WALK OF THE LAW'S BODY. Your part is whole_start (and what it stands on); all else here is the same for every law, but numbers. -/
def R_law : String := "GlacierStreetsLaw"
def lw_P (b : Addr) (xs : List Int32) (args : Array Value) (s : State) : Prop := args = #[.ref b] ∧ s.IntsAt b xs ∧ xs.length ≤ 384 ∧ (Jvm.Cond.and given_1 narrow_1).before args s = true
def lw_Q (_ : Array Value) (s : State) (o : Outcome) (t : State) : Prop := o = .returned (some (.int 1)) ∧ Framed s o t [] 600000 7302250
def lw_Z (below : List Frame) (a : Array Value) (s : State) : State → Prop := fun t => ∃ o, t.status = .running ∧ Ended t below o ∧ lw_Q a s o t
/-- the law's own end, with 1 on the stack, nothing written that was there before, its room as the claim has it -/
theorem lw_ret {p : Program} {l : Launch} {e : Env} {s : State} {m : MethodId} {below : List Frame} {meth : Method} {c : Code} {b : Nat} (hx : p.tables.exec = Jvm.exec) (hb : c.code = code) (hr : meth.sig.returnType = ret) (hlocks : meth.locks = false) {pc : Nat} {H : Heap} {ls : Array Slot} (hdg : decode code pc = .ok (.ireturn, 1)) : W p l e room_1 s m #[Value.ref b] below meth c H [] 600000 7302250 (lw_Z below #[Value.ref b] s) (F0 m pc ls [.int 1]) := by
  intro T hT X
  obtain ⟨fs, hret, hrun, hended, hW, hframe⟩ := X.leave (v := some (.int 1)) (hlocks := hlocks) (fun h => by rw [hr] at h; cases h)
  have hmeth' : T.vm.method? m = some meth := X.method'
  refine ⟨T.setFrames fs, ?_, .returned (some (.int 1)), hrun, hended, rfl, ⟨_, rfl⟩, hW, hframe⟩
  jvm_step X.here [X.here.top, hx, hb, hdg, hmeth', hr, ret, narrow_b1]
  (try refine ⟨rfl, ?_⟩); (try refine ⟨rfl, ?_⟩)
  first | (intro acts; rw [hret _ acts rfl rfl rfl]) | rw [hret _ _ rfl rfl rfl]
  exact Steps.refl _
/-- what holds at the law's entry: the machine, the code, the tables' words (any of lw_tbl by 'hts w (by decide +kernel)'), the script of L ints xs at the cell b, what the Statement gives of the start (any of its parts by flat_of_before) -/
def lw_At (p : Program) (s : State) (m : MethodId) (meth : Method) (c : Code) (b L : Nat) (xs : Nat → Int32) : Prop :=
  p.tables.exec = Jvm.exec ∧ c.code = code ∧ meth.sig.returnType = ret ∧ c.maxLocals = 4 ∧ s.vm.findClass R_law = some m.cls ∧ (∀ w ∈ lw_tbl, w.before #[Value.ref b] s = true) ∧ va_X b L xs s s.heap ∧ b < s.heap.size ∧ meth.locks = false ∧ (Jvm.Cond.and given_1 narrow_1).before #[Value.ref b] s = true
end
section
/-! ===== BEGIN words of one list among another's, by their places ===== -/
theorem goodIn_r {big : List Cond} (ws : List Cond) (ps : List Nat) (hp : ws = ps.filterMap (fun i => big[i]?)) (h : ws.all goodWord = true) : GoodIn big ws := by
  intro w hw
  have h1 := List.all_eq_true.mp h w hw
  rw [hp] at hw
  obtain ⟨i, -, hi⟩ := List.mem_filterMap.mp hw
  have hm : w ∈ big := by first | exact List.mem_of_getElem? hi | exact List.getElem?_mem hi
  exact ⟨hm, good_of_word h1⟩
theorem goodIn_app {big a b : List Cond} (ha : GoodIn big a) (hb : GoodIn big b) : GoodIn big (a ++ b) := fun w h => (List.mem_append.mp h).elim (ha w) (hb w)
theorem goodIn_ca {big a b : List Cond} {c : Cond} (ha : GoodIn big (c :: a)) (hb : GoodIn big b) : GoodIn big (c :: (a ++ b)) := fun w h => (List.mem_cons.mp h).elim (fun e => ha w (List.mem_cons.mpr (Or.inl e))) (fun h => (List.mem_append.mp h).elim (fun h => ha w (List.mem_cons.mpr (Or.inr h))) (hb w))
theorem goodIn_sub {big ws : List Cond} (hm : ∀ w ∈ ws, w ∈ big) (h : ws.all goodWord = true) : GoodIn big ws := fun w hw => ⟨hm w hw, good_of_word (List.all_eq_true.mp h w hw)⟩
/-! ===== END ===== -/

/-! ===== BEGIN printed: names, fields, word lists, decode rows ===== -/
def RX0 : String := "GlacierStreets$Deeds"
def TX0 : u_T := fun k => match k with
  | 0 => ("GlacierStreets$Deeds", "many", "I", false)
  | 1 => ("GlacierStreets$Deeds", "lanes", "[I", true)
  | _ => ("GlacierStreets$Deeds", "points", "[I", true)
def tyX0 : Nat → FieldType := fun k => match k with
  | 0 => .int
  | 1 => .array .int
  | _ => .array .int
abbrev wsX00 : List Cond := u_ws RX0 TX0 3
theorem nmX0 : ∀ a, a < 3 → ∀ b, b < 3 → a ≠ b → (TX0 a).2.1 ≠ (TX0 b).2.1 := by decide +kernel
theorem tyX0_ok : ∀ k, k < 3 → parseFieldDescriptor (TX0 k).2.2.1 = some (tyX0 k) := by decide +kernel
abbrev cX0_init : ByteArray := prog_2_method_1_code
def yX0_init : MethodName := ⟨RX0, "<init>", "()V"⟩
abbrev cX0_takeFrom : ByteArray := prog_2_method_2_code
def yX0_takeFrom : MethodName := ⟨RX0, "takeFrom", "(LGlacierStreets$Deeds;)V"⟩
abbrev cX0_tell : ByteArray := prog_2_method_3_code
def yX0_tell : MethodName := ⟨RX0, "tell", "(II)I"⟩
abbrev cX0_placeOf : ByteArray := prog_2_method_4_code
def yX0_placeOf : MethodName := ⟨RX0, "placeOf", "(ILGlacierStreets$Ice;)I"⟩
abbrev cX0_goYear : ByteArray := prog_2_method_5_code
def yX0_goYear : MethodName := ⟨RX0, "goYear", "(LGlacierStreets$Ice;I)V"⟩
def RX1 : String := "GlacierStreets$Houses"
def TX1 : u_T := fun k => match k with
  | 0 => ("GlacierStreets$Houses", "many", "I", false)
  | 1 => ("GlacierStreets$Houses", "kinds", "[I", true)
  | 2 => ("GlacierStreets$Houses", "lanes", "[I", true)
  | 3 => ("GlacierStreets$Houses", "feet", "[I", true)
  | 4 => ("GlacierStreets$Houses", "holds", "[I", true)
  | _ => ("GlacierStreets$Houses", "gone", "[Z", true)
def tyX1 : Nat → FieldType := fun k => match k with
  | 0 => .int
  | 1 => .array .int
  | 2 => .array .int
  | 3 => .array .int
  | 4 => .array .int
  | _ => .array .boolean
abbrev wsX10 : List Cond := u_ws RX1 TX1 6
theorem nmX1 : ∀ a, a < 6 → ∀ b, b < 6 → a ≠ b → (TX1 a).2.1 ≠ (TX1 b).2.1 := by decide +kernel
theorem tyX1_ok : ∀ k, k < 6 → parseFieldDescriptor (TX1 k).2.2.1 = some (tyX1 k) := by decide +kernel
abbrev cX1_init : ByteArray := prog_3_method_1_code
def yX1_init : MethodName := ⟨RX1, "<init>", "()V"⟩
abbrev cX1_takeFrom : ByteArray := prog_3_method_2_code
def yX1_takeFrom : MethodName := ⟨RX1, "takeFrom", "(LGlacierStreets$Houses;)V"⟩
abbrev cX1_build : ByteArray := prog_3_method_3_code
def yX1_build : MethodName := ⟨RX1, "build", "(IIII)I"⟩
abbrev cX1_howManyStand : ByteArray := prog_3_method_4_code
def yX1_howManyStand : MethodName := ⟨RX1, "howManyStand", "()I"⟩
abbrev cX1_anyAtOrPast : ByteArray := prog_3_method_5_code
def yX1_anyAtOrPast : MethodName := ⟨RX1, "anyAtOrPast", "(I)Z"⟩
abbrev cX1_strideOf : ByteArray := prog_3_method_6_code
def yX1_strideOf : MethodName := ⟨RX1, "strideOf", "(ILGlacierStreets$Ice;I)I"⟩
abbrev cX1_goYear : ByteArray := prog_3_method_7_code
def yX1_goYear : MethodName := ⟨RX1, "goYear", "(LGlacierStreets$Ice;II)I"⟩
abbrev cX1_goHauledYear : ByteArray := prog_3_method_8_code
def yX1_goHauledYear : MethodName := ⟨RX1, "goHauledYear", "(LGlacierStreets$Ice;I)I"⟩
abbrev cX1_areNeighbours : ByteArray := prog_3_method_9_code
def yX1_areNeighbours : MethodName := ⟨RX1, "areNeighbours", "(II)Z"⟩
abbrev cX1_neighboursOf : ByteArray := prog_3_method_10_code
def yX1_neighboursOf : MethodName := ⟨RX1, "neighboursOf", "(I)I"⟩
abbrev cX1_nearest : ByteArray := prog_3_method_11_code
def yX1_nearest : MethodName := ⟨RX1, "nearest", "(II)I"⟩
def RX2 : String := "GlacierStreets$Ice"
def TX2 : u_T := fun k => match k with
  | 0 => ("GlacierStreets$Ice", "edge", "I", false)
  | 1 => ("GlacierStreets$Ice", "warm", "I", false)
  | 2 => ("GlacierStreets$Ice", "year", "I", false)
  | _ => ("GlacierStreets$Ice", "paces", "[I", true)
def tyX2 : Nat → FieldType := fun k => match k with
  | 0 => .int
  | 1 => .int
  | 2 => .int
  | _ => .array .int
abbrev wsX20 : List Cond := u_ws RX2 TX2 4
theorem nmX2 : ∀ a, a < 4 → ∀ b, b < 4 → a ≠ b → (TX2 a).2.1 ≠ (TX2 b).2.1 := by decide +kernel
theorem tyX2_ok : ∀ k, k < 4 → parseFieldDescriptor (TX2 k).2.2.1 = some (tyX2 k) := by decide +kernel
abbrev cX2_init : ByteArray := prog_4_method_1_code
def yX2_init : MethodName := ⟨RX2, "<init>", "()V"⟩
abbrev cX2_takeFrom : ByteArray := prog_4_method_2_code
def yX2_takeFrom : MethodName := ⟨RX2, "takeFrom", "(LGlacierStreets$Ice;)V"⟩
abbrev cX2_isWarm : ByteArray := prog_4_method_3_code
def yX2_isWarm : MethodName := ⟨RX2, "isWarm", "(I)Z"⟩
abbrev cX2_flow : ByteArray := prog_4_method_4_code
def yX2_flow : MethodName := ⟨RX2, "flow", "(II)I"⟩
abbrev cX2_shear : ByteArray := prog_4_method_5_code
def yX2_shear : MethodName := ⟨RX2, "shear", "(II)I"⟩
abbrev cX2_wayAt : ByteArray := prog_4_method_6_code
def yX2_wayAt : MethodName := ⟨RX2, "wayAt", "(III)I"⟩
abbrev cX2_stride : ByteArray := prog_4_method_7_code
def yX2_stride : MethodName := ⟨RX2, "stride", "(IIII)I"⟩
abbrev cX2_nearerMiddle : ByteArray := prog_4_method_8_code
def yX2_nearerMiddle : MethodName := ⟨RX2, "nearerMiddle", "(I)I"⟩
def RX3 : String := "GlacierStreets$Sheet"
def TX3 : u_T := fun k => match k with
  | 0 => ("GlacierStreets$Sheet", "bits", "I", false)
  | 1 => ("GlacierStreets$Sheet", "many", "I", false)
  | _ => ("GlacierStreets$Sheet", "numbers", "[J", true)
def tyX3 : Nat → FieldType := fun k => match k with
  | 0 => .int
  | 1 => .int
  | _ => .array .long
abbrev wsX30 : List Cond := u_ws RX3 TX3 3
theorem nmX3 : ∀ a, a < 3 → ∀ b, b < 3 → a ≠ b → (TX3 a).2.1 ≠ (TX3 b).2.1 := by decide +kernel
theorem tyX3_ok : ∀ k, k < 3 → parseFieldDescriptor (TX3 k).2.2.1 = some (tyX3 k) := by decide +kernel
abbrev cX3_init : ByteArray := prog_5_method_1_code
def yX3_init : MethodName := ⟨RX3, "<init>", "()V"⟩
abbrev cX3_isMissing : ByteArray := prog_5_method_2_code
def yX3_isMissing : MethodName := ⟨RX3, "isMissing", "()Z"⟩
abbrev cX3_begin : ByteArray := prog_5_method_3_code
def yX3_begin : MethodName := ⟨RX3, "begin", "(II)V"⟩
abbrev cX3_put : ByteArray := prog_5_method_4_code
def yX3_put : MethodName := ⟨RX3, "put", "(IJ)V"⟩
abbrev cX3_hasRow : ByteArray := prog_5_method_5_code
def yX3_hasRow : MethodName := ⟨RX3, "hasRow", "(II)Z"⟩
def RX4 : String := "GlacierStreets$Stakes"
def TX4 : u_T := fun k => match k with
  | 0 => ("GlacierStreets$Stakes", "many", "I", false)
  | 1 => ("GlacierStreets$Stakes", "lanes", "[I", true)
  | 2 => ("GlacierStreets$Stakes", "firsts", "[I", true)
  | 3 => ("GlacierStreets$Stakes", "spans", "[I", true)
  | _ => ("GlacierStreets$Stakes", "ways", "[I", true)
def tyX4 : Nat → FieldType := fun k => match k with
  | 0 => .int
  | 1 => .array .int
  | 2 => .array .int
  | 3 => .array .int
  | _ => .array .int
abbrev wsX40 : List Cond := u_ws RX4 TX4 5
theorem nmX4 : ∀ a, a < 5 → ∀ b, b < 5 → a ≠ b → (TX4 a).2.1 ≠ (TX4 b).2.1 := by decide +kernel
theorem tyX4_ok : ∀ k, k < 5 → parseFieldDescriptor (TX4 k).2.2.1 = some (tyX4 k) := by decide +kernel
abbrev cX4_init : ByteArray := prog_6_method_1_code
def yX4_init : MethodName := ⟨RX4, "<init>", "()V"⟩
abbrev cX4_takeFrom : ByteArray := prog_6_method_2_code
def yX4_takeFrom : MethodName := ⟨RX4, "takeFrom", "(LGlacierStreets$Stakes;)V"⟩
abbrev cX4_drive : ByteArray := prog_6_method_3_code
def yX4_drive : MethodName := ⟨RX4, "drive", "(IIII)I"⟩
abbrev cX4_fit : ByteArray := prog_6_method_4_code
def yX4_fit : MethodName := ⟨RX4, "fit", "(IILGlacierStreets$Ice;)Z"⟩
def RX5 : String := "GlacierStreets$Street"
def TX5 : u_T := fun k => match k with
  | 0 => ("GlacierStreets$Street", "least", "[I", true)
  | 1 => ("GlacierStreets$Street", "greatest", "[I", true)
  | _ => ("GlacierStreets$Street", "built", "[Z", true)
def tyX5 : Nat → FieldType := fun k => match k with
  | 0 => .array .int
  | 1 => .array .int
  | _ => .array .boolean
abbrev wsX50 : List Cond := u_ws RX5 TX5 3
theorem nmX5 : ∀ a, a < 3 → ∀ b, b < 3 → a ≠ b → (TX5 a).2.1 ≠ (TX5 b).2.1 := by decide +kernel
theorem tyX5_ok : ∀ k, k < 3 → parseFieldDescriptor (TX5 k).2.2.1 = some (tyX5 k) := by decide +kernel
abbrev cX5_init : ByteArray := prog_7_method_1_code
def yX5_init : MethodName := ⟨RX5, "<init>", "()V"⟩
abbrev cX5_clear : ByteArray := prog_7_method_2_code
def yX5_clear : MethodName := ⟨RX5, "clear", "()V"⟩
abbrev cX5_add : ByteArray := prog_7_method_3_code
def yX5_add : MethodName := ⟨RX5, "add", "(II)V"⟩
abbrev cX5_liesStraight : ByteArray := prog_7_method_4_code
def yX5_liesStraight : MethodName := ⟨RX5, "liesStraight", "()Z"⟩
def RX6 : String := "GlacierStreets$TextReader"
def TX6 : u_T := fun k => match k with
  | 0 => ("GlacierStreets$TextReader", "many", "I", false)
  | 1 => ("GlacierStreets$TextReader", "draft", "LGlacierStreets$Town;", true)
  | 2 => ("GlacierStreets$TextReader", "bytes", "[I", true)
  | 3 => ("GlacierStreets$TextReader", "token", "I", false)
  | 4 => ("GlacierStreets$TextReader", "begin", "I", false)
  | 5 => ("GlacierStreets$TextReader", "end", "I", false)
  | _ => ("GlacierStreets$TextReader", "number", "I", false)
def tyX6 : Nat → FieldType := fun k => match k with
  | 0 => .int
  | 1 => .object "GlacierStreets$Town"
  | 2 => .array .int
  | 3 => .int
  | 4 => .int
  | 5 => .int
  | _ => .int
abbrev wsX60 : List Cond := u_ws RX6 TX6 7
theorem nmX6 : ∀ a, a < 7 → ∀ b, b < 7 → a ≠ b → (TX6 a).2.1 ≠ (TX6 b).2.1 := by decide +kernel
theorem tyX6_ok : ∀ k, k < 7 → parseFieldDescriptor (TX6 k).2.2.1 = some (tyX6 k) := by decide +kernel
abbrev cX6_init : ByteArray := prog_8_method_1_code
def yX6_init : MethodName := ⟨RX6, "<init>", "()V"⟩
abbrev cX6_put : ByteArray := prog_8_method_2_code
def yX6_put : MethodName := ⟨RX6, "put", "(I)V"⟩
abbrev cX6_readText : ByteArray := prog_8_method_3_code
def yX6_readText : MethodName := ⟨RX6, "readText", "()I"⟩
abbrev cX6_readItem : ByteArray := prog_8_method_4_code
def yX6_readItem : MethodName := ⟨RX6, "readItem", "()Z"⟩
abbrev cX6_nameOf : ByteArray := prog_8_method_5_code
def yX6_nameOf : MethodName := ⟨RX6, "nameOf", "(I)Ljava/lang/String;"⟩
abbrev cX6_readEdge : ByteArray := prog_8_method_6_code
def yX6_readEdge : MethodName := ⟨RX6, "readEdge", "()Z"⟩
abbrev cX6_readPace : ByteArray := prog_8_method_7_code
def yX6_readPace : MethodName := ⟨RX6, "readPace", "()Z"⟩
abbrev cX6_readWarm : ByteArray := prog_8_method_8_code
def yX6_readWarm : MethodName := ⟨RX6, "readWarm", "()Z"⟩
abbrev cX6_readHouse : ByteArray := prog_8_method_9_code
def yX6_readHouse : MethodName := ⟨RX6, "readHouse", "(I)Z"⟩
abbrev cX6_readStake : ByteArray := prog_8_method_10_code
def yX6_readStake : MethodName := ⟨RX6, "readStake", "()Z"⟩
abbrev cX6_nextIsNumber : ByteArray := prog_8_method_11_code
def yX6_nextIsNumber : MethodName := ⟨RX6, "nextIsNumber", "(II)Z"⟩
abbrev cX6_nextIsWord : ByteArray := prog_8_method_12_code
def yX6_nextIsWord : MethodName := ⟨RX6, "nextIsWord", "(Ljava/lang/String;)Z"⟩
abbrev cX6_isWord : ByteArray := prog_8_method_13_code
def yX6_isWord : MethodName := ⟨RX6, "isWord", "(Ljava/lang/String;)Z"⟩
abbrev cX6_nextToken : ByteArray := prog_8_method_14_code
def yX6_nextToken : MethodName := ⟨RX6, "nextToken", "()V"⟩
abbrev cX6_isLetter : ByteArray := prog_8_method_15_code
def yX6_isLetter : MethodName := ⟨RX6, "isLetter", "(I)Z"⟩
abbrev cX6_isDigit : ByteArray := prog_8_method_16_code
def yX6_isDigit : MethodName := ⟨RX6, "isDigit", "(I)Z"⟩
def RX7 : String := "GlacierStreets$Town"
def TX7 : u_T := fun k => match k with
  | 0 => ("GlacierStreets$Town", "ice", "LGlacierStreets$Ice;", true)
  | 1 => ("GlacierStreets$Town", "houses", "LGlacierStreets$Houses;", true)
  | 2 => ("GlacierStreets$Town", "deeds", "LGlacierStreets$Deeds;", true)
  | _ => ("GlacierStreets$Town", "stakes", "LGlacierStreets$Stakes;", true)
def tyX7 : Nat → FieldType := fun k => match k with
  | 0 => .object "GlacierStreets$Ice"
  | 1 => .object "GlacierStreets$Houses"
  | 2 => .object "GlacierStreets$Deeds"
  | _ => .object "GlacierStreets$Stakes"
abbrev wsX70 : List Cond := u_ws RX7 TX7 4
theorem nmX7 : ∀ a, a < 4 → ∀ b, b < 4 → a ≠ b → (TX7 a).2.1 ≠ (TX7 b).2.1 := by decide +kernel
theorem tyX7_ok : ∀ k, k < 4 → parseFieldDescriptor (TX7 k).2.2.1 = some (tyX7 k) := by decide +kernel
abbrev cX7_init : ByteArray := prog_9_method_1_code
def yX7_init : MethodName := ⟨RX7, "<init>", "()V"⟩
abbrev cX7_takeFrom : ByteArray := prog_9_method_2_code
def yX7_takeFrom : MethodName := ⟨RX7, "takeFrom", "(LGlacierStreets$Town;)V"⟩
abbrev cX7_goOneYear : ByteArray := prog_9_method_3_code
def yX7_goOneYear : MethodName := ⟨RX7, "goOneYear", "()I"⟩
def RX8 : String := "GlacierStreets"
def TX8 : u_T := fun k => match k with
  | 0 => ("GlacierStreets", "here", "LGlacierStreets$Town;", true)
  | 1 => ("GlacierStreets", "kept", "LGlacierStreets$Town;", true)
  | 2 => ("GlacierStreets", "later", "LGlacierStreets$Houses;", true)
  | 3 => ("GlacierStreets", "street", "LGlacierStreets$Street;", true)
  | 4 => ("GlacierStreets", "reader", "LGlacierStreets$TextReader;", true)
  | 5 => ("GlacierStreets", "sheets", "[LGlacierStreets$Sheet;", true)
  | 6 => ("GlacierStreets", "findings", "[I", true)
  | _ => ("GlacierStreets", "keeps", "Z", false)
def tyX8 : Nat → FieldType := fun k => match k with
  | 0 => .object "GlacierStreets$Town"
  | 1 => .object "GlacierStreets$Town"
  | 2 => .object "GlacierStreets$Houses"
  | 3 => .object "GlacierStreets$Street"
  | 4 => .object "GlacierStreets$TextReader"
  | 5 => .array (.object "GlacierStreets$Sheet")
  | 6 => .array .int
  | _ => .boolean
abbrev wsX80 : List Cond := u_ws RX8 TX8 8
theorem nmX8 : ∀ a, a < 8 → ∀ b, b < 8 → a ≠ b → (TX8 a).2.1 ≠ (TX8 b).2.1 := by decide +kernel
theorem tyX8_ok : ∀ k, k < 8 → parseFieldDescriptor (TX8 k).2.2.1 = some (tyX8 k) := by decide +kernel
abbrev cX8_init : ByteArray := prog_1_method_1_code
def yX8_init : MethodName := ⟨RX8, "<init>", "()V"⟩
abbrev cX8_edge : ByteArray := prog_1_method_2_code
def yX8_edge : MethodName := ⟨RX8, "edge", "(I)I"⟩
abbrev cX8_pace : ByteArray := prog_1_method_3_code
def yX8_pace : MethodName := ⟨RX8, "pace", "(II)I"⟩
abbrev cX8_warm : ByteArray := prog_1_method_4_code
def yX8_warm : MethodName := ⟨RX8, "warm", "(I)I"⟩
abbrev cX8_goes : ByteArray := prog_1_method_5_code
def yX8_goes : MethodName := ⟨RX8, "goes", "(II)I"⟩
abbrev cX8_strain : ByteArray := prog_1_method_6_code
def yX8_strain : MethodName := ⟨RX8, "strain", "(II)I"⟩
abbrev cX8_crack : ByteArray := prog_1_method_7_code
def yX8_crack : MethodName := ⟨RX8, "crack", "(I)I"⟩
abbrev cX8_house : ByteArray := prog_1_method_8_code
def yX8_house : MethodName := ⟨RX8, "house", "(III)I"⟩
abbrev cX8_of : ByteArray := prog_1_method_9_code
def yX8_of : MethodName := ⟨RX8, "of", "(II)I"⟩
abbrev cX8_hold : ByteArray := prog_1_method_10_code
def yX8_hold : MethodName := ⟨RX8, "hold", "(II)I"⟩
abbrev cX8_as : ByteArray := prog_1_method_11_code
def yX8_as : MethodName := ⟨RX8, "as", "(II)I"⟩
abbrev cX8_turn : ByteArray := prog_1_method_12_code
def yX8_turn : MethodName := ⟨RX8, "turn", "(II)I"⟩
abbrev cX8_haul : ByteArray := prog_1_method_13_code
def yX8_haul : MethodName := ⟨RX8, "haul", "(II)I"⟩
abbrev cX8_years : ByteArray := prog_1_method_14_code
def yX8_years : MethodName := ⟨RX8, "years", "(I)I"⟩
abbrev cX8_now : ByteArray := prog_1_method_15_code
def yX8_now : MethodName := ⟨RX8, "now", "(I)I"⟩
abbrev cX8_ahead : ByteArray := prog_1_method_16_code
def yX8_ahead : MethodName := ⟨RX8, "ahead", "(II)I"⟩
abbrev cX8_over : ByteArray := prog_1_method_17_code
def yX8_over : MethodName := ⟨RX8, "over", "(I)I"⟩
abbrev cX8_cost : ByteArray := prog_1_method_18_code
def yX8_cost : MethodName := ⟨RX8, "cost", "(I)I"⟩
abbrev cX8_safe : ByteArray := prog_1_method_19_code
def yX8_safe : MethodName := ⟨RX8, "safe", "(III)I"⟩
abbrev cX8_beside : ByteArray := prog_1_method_20_code
def yX8_beside : MethodName := ⟨RX8, "beside", "(I)I"⟩
abbrev cX8_till : ByteArray := prog_1_method_21_code
def yX8_till : MethodName := ⟨RX8, "till", "(II)I"⟩
abbrev cX8_straight : ByteArray := prog_1_method_22_code
def yX8_straight : MethodName := ⟨RX8, "straight", "(II)I"⟩
abbrev cX8_when : ByteArray := prog_1_method_23_code
def yX8_when : MethodName := ⟨RX8, "when", "(I)I"⟩
abbrev cX8_lay : ByteArray := prog_1_method_24_code
def yX8_lay : MethodName := ⟨RX8, "lay", "(III)I"⟩
abbrev cX8_deed : ByteArray := prog_1_method_25_code
def yX8_deed : MethodName := ⟨RX8, "deed", "(II)I"⟩
abbrev cX8_deedOf : ByteArray := prog_1_method_26_code
def yX8_deedOf : MethodName := ⟨RX8, "deedOf", "(II)I"⟩
abbrev cX8_whose : ByteArray := prog_1_method_27_code
def yX8_whose : MethodName := ⟨RX8, "whose", "(I)I"⟩
abbrev cX8_meet : ByteArray := prog_1_method_28_code
def yX8_meet : MethodName := ⟨RX8, "meet", "(III)I"⟩
abbrev cX8_stake : ByteArray := prog_1_method_29_code
def yX8_stake : MethodName := ⟨RX8, "stake", "(IIII)I"⟩
abbrev cX8_learnt : ByteArray := prog_1_method_30_code
def yX8_learnt : MethodName := ⟨RX8, "learnt", "(II)I"⟩
abbrev cX8_lost : ByteArray := prog_1_method_31_code
def yX8_lost : MethodName := ⟨RX8, "lost", "(II)I"⟩
abbrev cX8_feed : ByteArray := prog_1_method_32_code
def yX8_feed : MethodName := ⟨RX8, "feed", "(II)I"⟩
abbrev cX8_wipe : ByteArray := prog_1_method_33_code
def yX8_wipe : MethodName := ⟨RX8, "wipe", "()I"⟩
abbrev cX8_town : ByteArray := prog_1_method_34_code
def yX8_town : MethodName := ⟨RX8, "town", "()I"⟩
abbrev cX8_sheet : ByteArray := prog_1_method_35_code
def yX8_sheet : MethodName := ⟨RX8, "sheet", "(III)I"⟩
abbrev cX8_write : ByteArray := prog_1_method_36_code
def yX8_write : MethodName := ⟨RX8, "write", "(IIJ)J"⟩
abbrev cX8_copy : ByteArray := prog_1_method_37_code
def yX8_copy : MethodName := ⟨RX8, "copy", "(IIIII)I"⟩
abbrev cX8_lays : ByteArray := prog_1_method_38_code
def yX8_lays : MethodName := ⟨RX8, "lays", "(I)I"⟩
abbrev cX8_map : ByteArray := prog_1_method_39_code
def yX8_map : MethodName := ⟨RX8, "map", "(II)I"⟩
abbrev cX8_read : ByteArray := prog_1_method_40_code
def yX8_read : MethodName := ⟨RX8, "read", "(II)I"⟩
abbrev cX8_image : ByteArray := prog_1_method_41_code
def yX8_image : MethodName := ⟨RX8, "image", "()I"⟩
abbrev cX8_undo : ByteArray := prog_1_method_42_code
def yX8_undo : MethodName := ⟨RX8, "undo", "()I"⟩
abbrev cX8_tear : ByteArray := prog_1_method_43_code
def yX8_tear : MethodName := ⟨RX8, "tear", "()I"⟩
abbrev cX8_count : ByteArray := prog_1_method_44_code
def yX8_count : MethodName := ⟨RX8, "count", "(I)I"⟩
abbrev cX8_status : ByteArray := prog_1_method_45_code
def yX8_status : MethodName := ⟨RX8, "status", "(I)I"⟩
abbrev cX8_refuse : ByteArray := prog_1_method_46_code
def yX8_refuse : MethodName := ⟨RX8, "refuse", "(I)I"⟩
abbrev cX8_within : ByteArray := prog_1_method_47_code
def yX8_within : MethodName := ⟨RX8, "within", "(III)Z"⟩
abbrev cX8_isLane : ByteArray := prog_1_method_48_code
def yX8_isLane : MethodName := ⟨RX8, "isLane", "(I)Z"⟩
abbrev cX8_isKind : ByteArray := prog_1_method_49_code
def yX8_isKind : MethodName := ⟨RX8, "isKind", "(I)Z"⟩
abbrev cX8_isSheet : ByteArray := prog_1_method_50_code
def yX8_isSheet : MethodName := ⟨RX8, "isSheet", "(I)Z"⟩
abbrev cX8_isOrIsUnder : ByteArray := prog_1_method_51_code
def yX8_isOrIsUnder : MethodName := ⟨RX8, "isOrIsUnder", "(II)Z"⟩
abbrev cX8_isHouse : ByteArray := prog_1_method_52_code
def yX8_isHouse : MethodName := ⟨RX8, "isHouse", "(I)Z"⟩
abbrev cX8_isDeed : ByteArray := prog_1_method_53_code
def yX8_isDeed : MethodName := ⟨RX8, "isDeed", "(I)Z"⟩
abbrev cX8_isOnIce : ByteArray := prog_1_method_54_code
def yX8_isOnIce : MethodName := ⟨RX8, "isOnIce", "(I)Z"⟩
abbrev cX8_isSetOfHouses : ByteArray := prog_1_method_55_code
def yX8_isSetOfHouses : MethodName := ⟨RX8, "isSetOfHouses", "(I)Z"⟩
abbrev cX8_isPastLastYear : ByteArray := prog_1_method_56_code
def yX8_isPastLastYear : MethodName := ⟨RX8, "isPastLastYear", "(I)Z"⟩
abbrev cX8_lookAhead : ByteArray := prog_1_method_57_code
def yX8_lookAhead : MethodName := ⟨RX8, "lookAhead", "(II)V"⟩
abbrev cX8_liesStraightLater : ByteArray := prog_1_method_58_code
def yX8_liesStraightLater : MethodName := ⟨RX8, "liesStraightLater", "(I)Z"⟩
abbrev cX8_whyNoMap : ByteArray := prog_1_method_59_code
def yX8_whyNoMap : MethodName := ⟨RX8, "whyNoMap", "(II)I"⟩
def RX9 : String := "GlacierStreetsModel"
def TX9 : u_T := fun k => match k with
  | 0 => ("GlacierStreetsModel", "now", "[I", true)
  | 1 => ("GlacierStreetsModel", "kept", "[I", true)
  | 2 => ("GlacierStreetsModel", "aside", "[I", true)
  | 3 => ("GlacierStreetsModel", "isKept", "Z", false)
  | 4 => ("GlacierStreetsModel", "found", "[I", true)
  | 5 => ("GlacierStreetsModel", "tape", "[I", true)
  | 6 => ("GlacierStreetsModel", "taped", "I", false)
  | 7 => ("GlacierStreetsModel", "begins", "I", false)
  | 8 => ("GlacierStreetsModel", "ends", "I", false)
  | 9 => ("GlacierStreetsModel", "sort", "I", false)
  | 10 => ("GlacierStreetsModel", "value", "I", false)
  | 11 => ("GlacierStreetsModel", "isWrong", "Z", false)
  | 12 => ("GlacierStreetsModel", "kinds", "[Ljava/lang/String;", true)
  | 13 => ("GlacierStreetsModel", "items", "[I", true)
  | 14 => ("GlacierStreetsModel", "itemMany", "I", false)
  | 15 => ("GlacierStreetsModel", "houseMany", "I", false)
  | 16 => ("GlacierStreetsModel", "stakeMany", "I", false)
  | 17 => ("GlacierStreetsModel", "edgeThen", "I", false)
  | 18 => ("GlacierStreetsModel", "farThen", "I", false)
  | 19 => ("GlacierStreetsModel", "widths", "[I", true)
  | 20 => ("GlacierStreetsModel", "sizes", "[I", true)
  | 21 => ("GlacierStreetsModel", "numbers", "[J", true)
  | _ => ("GlacierStreetsModel", "moved", "[J", true)
def tyX9 : Nat → FieldType := fun k => match k with
  | 0 => .array .int
  | 1 => .array .int
  | 2 => .array .int
  | 3 => .boolean
  | 4 => .array .int
  | 5 => .array .int
  | 6 => .int
  | 7 => .int
  | 8 => .int
  | 9 => .int
  | 10 => .int
  | 11 => .boolean
  | 12 => .array (.object "java/lang/String")
  | 13 => .array .int
  | 14 => .int
  | 15 => .int
  | 16 => .int
  | 17 => .int
  | 18 => .int
  | 19 => .array .int
  | 20 => .array .int
  | 21 => .array .long
  | _ => .array .long
abbrev wsX90 : List Cond := u_ws RX9 TX9 23
theorem nmX9 : ∀ a, a < 23 → ∀ b, b < 23 → a ≠ b → (TX9 a).2.1 ≠ (TX9 b).2.1 := by decide +kernel
theorem tyX9_ok : ∀ k, k < 23 → parseFieldDescriptor (TX9 k).2.2.1 = some (tyX9 k) := by decide +kernel
abbrev cX9_init : ByteArray := prog_11_method_1_code
def yX9_init : MethodName := ⟨RX9, "<init>", "()V"⟩
abbrev cX9_finding : ByteArray := prog_11_method_2_code
def yX9_finding : MethodName := ⟨RX9, "finding", "(I)I"⟩
abbrev cX9_within : ByteArray := prog_11_method_3_code
def yX9_within : MethodName := ⟨RX9, "within", "(III)Z"⟩
abbrev cX9_has : ByteArray := prog_11_method_4_code
def yX9_has : MethodName := ⟨RX9, "has", "(II)Z"⟩
abbrev cX9_become : ByteArray := prog_11_method_5_code
def yX9_become : MethodName := ⟨RX9, "become", "(II)I"⟩
abbrev cX9_copyRow : ByteArray := prog_11_method_6_code
def yX9_copyRow : MethodName := ⟨RX9, "copyRow", "([I[I)V"⟩
abbrev cX9_putBack : ByteArray := prog_11_method_7_code
def yX9_putBack : MethodName := ⟨RX9, "putBack", "(I)I"⟩
abbrev cX9_farthest : ByteArray := prog_11_method_8_code
def yX9_farthest : MethodName := ⟨RX9, "farthest", "()I"⟩
abbrev cX9_edge : ByteArray := prog_11_method_9_code
def yX9_edge : MethodName := ⟨RX9, "edge", "(I)I"⟩
abbrev cX9_isLane : ByteArray := prog_11_method_10_code
def yX9_isLane : MethodName := ⟨RX9, "isLane", "(I)Z"⟩
abbrev cX9_pace : ByteArray := prog_11_method_11_code
def yX9_pace : MethodName := ⟨RX9, "pace", "(II)I"⟩
abbrev cX9_warm : ByteArray := prog_11_method_12_code
def yX9_warm : MethodName := ⟨RX9, "warm", "(I)I"⟩
abbrev cX9_goesBy : ByteArray := prog_11_method_13_code
def yX9_goesBy : MethodName := ⟨RX9, "goesBy", "(II)I"⟩
abbrev cX9_iceOf : ByteArray := prog_11_method_14_code
def yX9_iceOf : MethodName := ⟨RX9, "iceOf", "(II)I"⟩
abbrev cX9_isYear : ByteArray := prog_11_method_15_code
def yX9_isYear : MethodName := ⟨RX9, "isYear", "(I)Z"⟩
abbrev cX9_goes : ByteArray := prog_11_method_16_code
def yX9_goes : MethodName := ⟨RX9, "goes", "(II)I"⟩
abbrev cX9_strainOf : ByteArray := prog_11_method_17_code
def yX9_strainOf : MethodName := ⟨RX9, "strainOf", "(II)I"⟩
abbrev cX9_strain : ByteArray := prog_11_method_18_code
def yX9_strain : MethodName := ⟨RX9, "strain", "(II)I"⟩
abbrev cX9_crack : ByteArray := prog_11_method_19_code
def yX9_crack : MethodName := ⟨RX9, "crack", "(I)I"⟩
abbrev cX9_isHouse : ByteArray := prog_11_method_20_code
def yX9_isHouse : MethodName := ⟨RX9, "isHouse", "(I)Z"⟩
abbrev cX9_houseIs : ByteArray := prog_11_method_21_code
def yX9_houseIs : MethodName := ⟨RX9, "houseIs", "(II)I"⟩
abbrev cX9_isGone : ByteArray := prog_11_method_22_code
def yX9_isGone : MethodName := ⟨RX9, "isGone", "(I)Z"⟩
abbrev cX9_built : ByteArray := prog_11_method_23_code
def yX9_built : MethodName := ⟨RX9, "built", "(IIII)I"⟩
abbrev cX9_house : ByteArray := prog_11_method_24_code
def yX9_house : MethodName := ⟨RX9, "house", "(III)I"⟩
abbrev cX9_quicker : ByteArray := prog_11_method_25_code
def yX9_quicker : MethodName := ⟨RX9, "quicker", "(II)I"⟩
abbrev cX9_stepOf : ByteArray := prog_11_method_26_code
def yX9_stepOf : MethodName := ⟨RX9, "stepOf", "(IIII)I"⟩
abbrev cX9_stepNow : ByteArray := prog_11_method_27_code
def yX9_stepNow : MethodName := ⟨RX9, "stepNow", "(I)I"⟩
abbrev cX9_of : ByteArray := prog_11_method_28_code
def yX9_of : MethodName := ⟨RX9, "of", "(II)I"⟩
abbrev cX9_hold : ByteArray := prog_11_method_29_code
def yX9_hold : MethodName := ⟨RX9, "hold", "(II)I"⟩
abbrev cX9_above : ByteArray := prog_11_method_30_code
def yX9_above : MethodName := ⟨RX9, "above", "(I)I"⟩
abbrev cX9_as : ByteArray := prog_11_method_31_code
def yX9_as : MethodName := ⟨RX9, "as", "(II)I"⟩
abbrev cX9_turn : ByteArray := prog_11_method_32_code
def yX9_turn : MethodName := ⟨RX9, "turn", "(II)I"⟩
abbrev cX9_haul : ByteArray := prog_11_method_33_code
def yX9_haul : MethodName := ⟨RX9, "haul", "(II)I"⟩
abbrev cX9_year : ByteArray := prog_11_method_34_code
def yX9_year : MethodName := ⟨RX9, "year", "()I"⟩
abbrev cX9_yearsGo : ByteArray := prog_11_method_35_code
def yX9_yearsGo : MethodName := ⟨RX9, "yearsGo", "(I)I"⟩
abbrev cX9_years : ByteArray := prog_11_method_36_code
def yX9_years : MethodName := ⟨RX9, "years", "(I)I"⟩
abbrev cX9_now : ByteArray := prog_11_method_37_code
def yX9_now : MethodName := ⟨RX9, "now", "(I)I"⟩
abbrev cX9_isTooLate : ByteArray := prog_11_method_38_code
def yX9_isTooLate : MethodName := ⟨RX9, "isTooLate", "(I)Z"⟩
abbrev cX9_ahead : ByteArray := prog_11_method_39_code
def yX9_ahead : MethodName := ⟨RX9, "ahead", "(II)I"⟩
abbrev cX9_over : ByteArray := prog_11_method_40_code
def yX9_over : MethodName := ⟨RX9, "over", "(I)I"⟩
abbrev cX9_cost : ByteArray := prog_11_method_41_code
def yX9_cost : MethodName := ⟨RX9, "cost", "(I)I"⟩
abbrev cX9_safe : ByteArray := prog_11_method_42_code
def yX9_safe : MethodName := ⟨RX9, "safe", "(III)I"⟩
abbrev cX9_areBeside : ByteArray := prog_11_method_43_code
def yX9_areBeside : MethodName := ⟨RX9, "areBeside", "(II)Z"⟩
abbrev cX9_beside : ByteArray := prog_11_method_44_code
def yX9_beside : MethodName := ⟨RX9, "beside", "(I)I"⟩
abbrev cX9_till : ByteArray := prog_11_method_45_code
def yX9_till : MethodName := ⟨RX9, "till", "(II)I"⟩
abbrev cX9_bits : ByteArray := prog_11_method_46_code
def yX9_bits : MethodName := ⟨RX9, "bits", "(I)I"⟩
abbrev cX9_isSet : ByteArray := prog_11_method_47_code
def yX9_isSet : MethodName := ⟨RX9, "isSet", "(I)Z"⟩
abbrev cX9_isStraight : ByteArray := prog_11_method_48_code
def yX9_isStraight : MethodName := ⟨RX9, "isStraight", "(I)Z"⟩
abbrev cX9_straight : ByteArray := prog_11_method_49_code
def yX9_straight : MethodName := ⟨RX9, "straight", "(II)I"⟩
abbrev cX9_when : ByteArray := prog_11_method_50_code
def yX9_when : MethodName := ⟨RX9, "when", "(I)I"⟩
abbrev cX9_lay : ByteArray := prog_11_method_51_code
def yX9_lay : MethodName := ⟨RX9, "lay", "(III)I"⟩
abbrev cX9_deed : ByteArray := prog_11_method_52_code
def yX9_deed : MethodName := ⟨RX9, "deed", "(II)I"⟩
abbrev cX9_isDeed : ByteArray := prog_11_method_53_code
def yX9_isDeed : MethodName := ⟨RX9, "isDeed", "(I)Z"⟩
abbrev cX9_placeOf : ByteArray := prog_11_method_54_code
def yX9_placeOf : MethodName := ⟨RX9, "placeOf", "(I)I"⟩
abbrev cX9_deedOf : ByteArray := prog_11_method_55_code
def yX9_deedOf : MethodName := ⟨RX9, "deedOf", "(II)I"⟩
abbrev cX9_offFrom : ByteArray := prog_11_method_56_code
def yX9_offFrom : MethodName := ⟨RX9, "offFrom", "(II)I"⟩
abbrev cX9_whose : ByteArray := prog_11_method_57_code
def yX9_whose : MethodName := ⟨RX9, "whose", "(I)I"⟩
abbrev cX9_meet : ByteArray := prog_11_method_58_code
def yX9_meet : MethodName := ⟨RX9, "meet", "(III)I"⟩
abbrev cX9_staked : ByteArray := prog_11_method_59_code
def yX9_staked : MethodName := ⟨RX9, "staked", "(IIII)I"⟩
abbrev cX9_stake : ByteArray := prog_11_method_60_code
def yX9_stake : MethodName := ⟨RX9, "stake", "(IIII)I"⟩
abbrev cX9_holdsAll : ByteArray := prog_11_method_61_code
def yX9_holdsAll : MethodName := ⟨RX9, "holdsAll", "(II)Z"⟩
abbrev cX9_learnt : ByteArray := prog_11_method_62_code
def yX9_learnt : MethodName := ⟨RX9, "learnt", "(II)I"⟩
abbrev cX9_lost : ByteArray := prog_11_method_63_code
def yX9_lost : MethodName := ⟨RX9, "lost", "(II)I"⟩
abbrev cX9_feed : ByteArray := prog_11_method_64_code
def yX9_feed : MethodName := ⟨RX9, "feed", "(II)I"⟩
abbrev cX9_wipe : ByteArray := prog_11_method_65_code
def yX9_wipe : MethodName := ⟨RX9, "wipe", "()I"⟩
abbrev cX9_byteAt : ByteArray := prog_11_method_66_code
def yX9_byteAt : MethodName := ⟨RX9, "byteAt", "(I)I"⟩
abbrev cX9_next : ByteArray := prog_11_method_67_code
def yX9_next : MethodName := ⟨RX9, "next", "()V"⟩
abbrev cX9_isWord : ByteArray := prog_11_method_68_code
def yX9_isWord : MethodName := ⟨RX9, "isWord", "(Ljava/lang/String;)Z"⟩
abbrev cX9_must : ByteArray := prog_11_method_69_code
def yX9_must : MethodName := ⟨RX9, "must", "(Z)V"⟩
abbrev cX9_number : ByteArray := prog_11_method_70_code
def yX9_number : MethodName := ⟨RX9, "number", "(II)I"⟩
abbrev cX9_item : ByteArray := prog_11_method_71_code
def yX9_item : MethodName := ⟨RX9, "item", "(IIIII)V"⟩
abbrev cX9_after : ByteArray := prog_11_method_72_code
def yX9_after : MethodName := ⟨RX9, "after", "(Ljava/lang/String;II)I"⟩
abbrev cX9_readItem : ByteArray := prog_11_method_73_code
def yX9_readItem : MethodName := ⟨RX9, "readItem", "()V"⟩
abbrev cX9_readHouse : ByteArray := prog_11_method_74_code
def yX9_readHouse : MethodName := ⟨RX9, "readHouse", "(I)V"⟩
abbrev cX9_readWarm : ByteArray := prog_11_method_75_code
def yX9_readWarm : MethodName := ⟨RX9, "readWarm", "()V"⟩
abbrev cX9_isSo : ByteArray := prog_11_method_76_code
def yX9_isSo : MethodName := ⟨RX9, "isSo", "(I)V"⟩
abbrev cX9_town : ByteArray := prog_11_method_77_code
def yX9_town : MethodName := ⟨RX9, "town", "()I"⟩
abbrev cX9_isSheet : ByteArray := prog_11_method_78_code
def yX9_isSheet : MethodName := ⟨RX9, "isSheet", "(I)Z"⟩
abbrev cX9_cutTo : ByteArray := prog_11_method_79_code
def yX9_cutTo : MethodName := ⟨RX9, "cutTo", "(JI)J"⟩
abbrev cX9_sheet : ByteArray := prog_11_method_80_code
def yX9_sheet : MethodName := ⟨RX9, "sheet", "(III)I"⟩
abbrev cX9_write : ByteArray := prog_11_method_81_code
def yX9_write : MethodName := ⟨RX9, "write", "(IIJ)J"⟩
abbrev cX9_copy : ByteArray := prog_11_method_82_code
def yX9_copy : MethodName := ⟨RX9, "copy", "(IIIII)I"⟩
abbrev cX9_lays : ByteArray := prog_11_method_83_code
def yX9_lays : MethodName := ⟨RX9, "lays", "(I)I"⟩
abbrev cX9_refuses : ByteArray := prog_11_method_84_code
def yX9_refuses : MethodName := ⟨RX9, "refuses", "(II)I"⟩
abbrev cX9_map : ByteArray := prog_11_method_85_code
def yX9_map : MethodName := ⟨RX9, "map", "(II)I"⟩
abbrev cX9_read : ByteArray := prog_11_method_86_code
def yX9_read : MethodName := ⟨RX9, "read", "(II)I"⟩
abbrev cX9_image : ByteArray := prog_11_method_87_code
def yX9_image : MethodName := ⟨RX9, "image", "()I"⟩
abbrev cX9_undo : ByteArray := prog_11_method_88_code
def yX9_undo : MethodName := ⟨RX9, "undo", "()I"⟩
abbrev cX9_tear : ByteArray := prog_11_method_89_code
def yX9_tear : MethodName := ⟨RX9, "tear", "()I"⟩
abbrev cX9_count : ByteArray := prog_11_method_90_code
def yX9_count : MethodName := ⟨RX9, "count", "(I)I"⟩
abbrev cX9_status : ByteArray := prog_11_method_91_code
def yX9_status : MethodName := ⟨RX9, "status", "(I)I"⟩
def RJ6 : String := "java/lang/Integer"
def TJ6 : u_T := fun k => match k with
  | _ => ("", "", "", false)
def tyJ6 : Nat → FieldType := fun k => match k with
  | _ => .int
abbrev wsJ60 : List Cond := u_ws RJ6 TJ6 0
theorem nmJ6 : ∀ a, a < 0 → ∀ b, b < 0 → a ≠ b → (TJ6 a).2.1 ≠ (TJ6 b).2.1 := by decide +kernel
theorem tyJ6_ok : ∀ k, k < 0 → parseFieldDescriptor (TJ6 k).2.2.1 = some (tyJ6 k) := by decide +kernel
abbrev cJ6_bitCount_0f7a4 : ByteArray := prog_12_method_49_code
def yJ6_bitCount_0f7a4 : MethodName := ⟨RJ6, "bitCount", "(I)I"⟩
def RJ9 : String := "java/lang/Math"
def TJ9 : u_T := fun k => match k with
  | _ => ("", "", "", false)
def tyJ9 : Nat → FieldType := fun k => match k with
  | _ => .int
abbrev wsJ90 : List Cond := u_ws RJ9 TJ9 0
theorem nmJ9 : ∀ a, a < 0 → ∀ b, b < 0 → a ≠ b → (TJ9 a).2.1 ≠ (TJ9 b).2.1 := by decide +kernel
theorem tyJ9_ok : ∀ k, k < 0 → parseFieldDescriptor (TJ9 k).2.2.1 = some (tyJ9 k) := by decide +kernel
abbrev cJ9_abs_0f7a4 : ByteArray := prog_13_method_59_code
def yJ9_abs_0f7a4 : MethodName := ⟨RJ9, "abs", "(I)I"⟩
abbrev cJ9_max_7cf53 : ByteArray := prog_13_method_65_code
def yJ9_max_7cf53 : MethodName := ⟨RJ9, "max", "(II)I"⟩
abbrev cJ9_min_7cf53 : ByteArray := prog_13_method_69_code
def yJ9_min_7cf53 : MethodName := ⟨RJ9, "min", "(II)I"⟩
def RJ0 : String := "java/lang/String"
def TJ0 : u_T := fun k => match k with
  | _ => ("", "", "", false)
def tyJ0 : Nat → FieldType := fun k => match k with
  | _ => .int
abbrev wsJ00 : List Cond := u_ws RJ0 TJ0 0
theorem nmJ0 : ∀ a, a < 0 → ∀ b, b < 0 → a ≠ b → (TJ0 a).2.1 ≠ (TJ0 b).2.1 := by decide +kernel
theorem tyJ0_ok : ∀ k, k < 0 → parseFieldDescriptor (TJ0 k).2.2.1 = some (tyJ0 k) := by decide +kernel
abbrev cJ0_length_8abf5 : ByteArray := prog_14_method_54_code
def yJ0_length_8abf5 : MethodName := ⟨RJ0, "length", "()I"⟩
abbrev cJ0_charAt_5068e : ByteArray := prog_14_method_56_code
def yJ0_charAt_5068e : MethodName := ⟨RJ0, "charAt", "(I)C"⟩
abbrev cJ0_coder_7d493 : ByteArray := prog_14_method_152_code
def yJ0_coder_7d493 : MethodName := ⟨RJ0, "coder", "()B"⟩
abbrev cJ0_isLatin1_aae02 : ByteArray := prog_14_method_154_code
def yJ0_isLatin1_aae02 : MethodName := ⟨RJ0, "isLatin1", "()Z"⟩
abbrev cJ0_checkIndex_df160 : ByteArray := prog_14_method_155_code
def yJ0_checkIndex_df160 : MethodName := ⟨RJ0, "checkIndex", "(II)V"⟩
def RJ1 : String := "java/lang/StringLatin1"
def TJ1 : u_T := fun k => match k with
  | _ => ("", "", "", false)
def tyJ1 : Nat → FieldType := fun k => match k with
  | _ => .int
abbrev wsJ10 : List Cond := u_ws RJ1 TJ1 0
theorem nmJ1 : ∀ a, a < 0 → ∀ b, b < 0 → a ≠ b → (TJ1 a).2.1 ≠ (TJ1 b).2.1 := by decide +kernel
theorem tyJ1_ok : ∀ k, k < 0 → parseFieldDescriptor (TJ1 k).2.2.1 = some (tyJ1 k) := by decide +kernel
abbrev cJ1_charAt_3b067 : ByteArray := prog_15_method_2_code
def yJ1_charAt_3b067 : MethodName := ⟨RJ1, "charAt", "([BI)C"⟩
def RJ2 : String := "java/lang/StringUTF16"
def TJ2 : u_T := fun k => match k with
  | _ => ("", "", "", false)
def tyJ2 : Nat → FieldType := fun k => match k with
  | _ => .int
abbrev wsJ20 : List Cond := u_ws RJ2 TJ2 0
theorem nmJ2 : ∀ a, a < 0 → ∀ b, b < 0 → a ≠ b → (TJ2 a).2.1 ≠ (TJ2 b).2.1 := by decide +kernel
theorem tyJ2_ok : ∀ k, k < 0 → parseFieldDescriptor (TJ2 k).2.2.1 = some (tyJ2 k) := by decide +kernel
abbrev cJ2_getChar_3b067 : ByteArray := prog_16_method_5_code
def yJ2_getChar_3b067 : MethodName := ⟨RJ2, "getChar", "([BI)C"⟩
abbrev cJ2_length_9d52b : ByteArray := prog_16_method_6_code
def yJ2_length_9d52b : MethodName := ⟨RJ2, "length", "([B)I"⟩
abbrev cJ2_charAt_3b067 : ByteArray := prog_16_method_83_code
def yJ2_charAt_3b067 : MethodName := ⟨RJ2, "charAt", "([BI)C"⟩
abbrev cJ2_checkIndex_2214a : ByteArray := prog_16_method_91_code
def yJ2_checkIndex_2214a : MethodName := ⟨RJ2, "checkIndex", "(I[B)V"⟩
def RJ10 : String := "java/lang/System"
def TJ10 : u_T := fun k => match k with
  | _ => ("", "", "", false)
def tyJ10 : Nat → FieldType := fun k => match k with
  | _ => .int
abbrev wsJ100 : List Cond := u_ws RJ10 TJ10 0
theorem nmJ10 : ∀ a, a < 0 → ∀ b, b < 0 → a ≠ b → (TJ10 a).2.1 ≠ (TJ10 b).2.1 := by decide +kernel
theorem tyJ10_ok : ∀ k, k < 0 → parseFieldDescriptor (TJ10 k).2.2.1 = some (tyJ10 k) := by decide +kernel
def RJ3 : String := "jdk/internal/util/Preconditions"
def TJ3 : u_T := fun k => match k with
  | _ => ("", "", "", false)
def tyJ3 : Nat → FieldType := fun k => match k with
  | _ => .int
abbrev wsJ30 : List Cond := u_ws RJ3 TJ3 0
theorem nmJ3 : ∀ a, a < 0 → ∀ b, b < 0 → a ≠ b → (TJ3 a).2.1 ≠ (TJ3 b).2.1 := by decide +kernel
theorem tyJ3_ok : ∀ k, k < 0 → parseFieldDescriptor (TJ3 k).2.2.1 = some (tyJ3 k) := by decide +kernel
abbrev cJ3_checkIndex_8e157 : ByteArray := prog_18_method_11_code
def yJ3_checkIndex_8e157 : MethodName := ⟨RJ3, "checkIndex", "(IILjava/util/function/BiFunction;)I"⟩
def RL : String := "GlacierStreetsLaw"
abbrev cL_law : ByteArray := code
def yL_law : MethodName := ⟨RL, "law", "([I)Z"⟩
end
section
/-! THE MINI MACHINE. A value .ref j is logical: j < 1000 is a cell of the shape list (by its place), 1000 the script, 1001 UNDER, 1002 a static nobody looks at, 1010 + i a String constant, 1050 + i its bytes.
A heap is its shape (kind, length, references) and what its cells hold: ints A cell place, longs B cell place. Kinds: 0 int[], 1 boolean[], 2 long[], 3 Sheet[], 4 String[], 5 + ci an object of class ci. -/
abbrev MI : Type := Nat × Instr × Nat × Nat × Nat × Nat × Int32 × List Nat
abbrev ML : Type := List (Option Value)
abbrev MS : Type := List (Nat × Nat × List (Option Nat))
abbrev MH : Type := MS × (Nat → Nat → Int32) × (Nat → Nat → Int64)
abbrev MK : Type := Option Value → MH → Prop
abbrev MN : Type := ML → List Value → MH → Prop
abbrev MM : Type := MethodName × ByteArray × Nat × Option FieldType × Nat × Nat × List MI
abbrev ME : Type := Nat × (Nat → Int32)
def mUnder : List Int32 := [-1, 0, 0, 1, 2, 0]
def mByt : List (List Int32) := [[101, 100, 103, 101], [112, 97, 99, 101], [119, 97, 114, 109], [115, 116, 97, 107, 101], [102, 114, 111, 109], [102, 111, 114], [119, 101, 110, 116], [114, 111, 112, 101, 100], [115, 108, 101, 100, 103, 101], [99, 104, 117, 114, 99, 104], [102, 101, 114, 114, 121], [100, 101, 101, 112], [104, 111, 117, 115, 101], [97, 116], [104, 111, 108, 100], [104, 111, 117, 115, 101], [114, 111, 112, 101, 100], [115, 108, 101, 100, 103, 101], [99, 104, 117, 114, 99, 104], [102, 101, 114, 114, 121], [100, 101, 101, 112], [97, 116], [104, 111, 108, 100], [101, 100, 103, 101], [112, 97, 99, 101], [119, 97, 114, 109], [115, 116, 97, 107, 101], [102, 114, 111, 109], [102, 111, 114], [119, 101, 110, 116]]
def mStr : List (String × Nat × String) := [("GlacierStreets$TextReader", 45, "edge"), ("GlacierStreets$TextReader", 54, "pace"), ("GlacierStreets$TextReader", 59, "warm"), ("GlacierStreets$TextReader", 64, "stake"), ("GlacierStreets$TextReader", 138, "from"), ("GlacierStreets$TextReader", 140, "for"), ("GlacierStreets$TextReader", 142, "went"), ("GlacierStreets$TextReader", 77, "roped"), ("GlacierStreets$TextReader", 79, "sledge"), ("GlacierStreets$TextReader", 81, "church"), ("GlacierStreets$TextReader", 83, "ferry"), ("GlacierStreets$TextReader", 85, "deep"), ("GlacierStreets$TextReader", 87, "house"), ("GlacierStreets$TextReader", 120, "at"), ("GlacierStreets$TextReader", 125, "hold"), ("GlacierStreetsModel", 27, "house"), ("GlacierStreetsModel", 29, "roped"), ("GlacierStreetsModel", 31, "sledge"), ("GlacierStreetsModel", 33, "church"), ("GlacierStreetsModel", 35, "ferry"), ("GlacierStreetsModel", 37, "deep"), ("GlacierStreetsModel", 271, "at"), ("GlacierStreetsModel", 273, "hold"), ("GlacierStreetsModel", 234, "edge"), ("GlacierStreetsModel", 246, "pace"), ("GlacierStreetsModel", 248, "warm"), ("GlacierStreetsModel", 253, "stake"), ("GlacierStreetsModel", 258, "from"), ("GlacierStreetsModel", 264, "for"), ("GlacierStreetsModel", 266, "went")]
def mRo (E : ME) (j : Nat) : Option (Nat × Nat × (Nat → Int32)) :=
  bif Nat.beq j 1000 then some (0, E.1, E.2) else
  bif Nat.beq j 1001 then some (0, 6, fun k => mUnder.getD k 0) else
  bif Nat.ble 1050 j && Nat.ble j 1079 then some (5, (mByt.getD (j - 1050) []).length, fun k => (mByt.getD (j - 1050) []).getD k 0) else none
def mTy (ci : Nat) : Nat → FieldType := match ci with
  | 0 => tyX0 | 1 => tyX1 | 2 => tyX2 | 3 => tyX3 | 4 => tyX4 | 5 => tyX5 | 6 => tyX6 | 7 => tyX7 | 8 => tyX8 | _ => tyX9
def mT (ci : Nat) : u_T := match ci with
  | 0 => TX0 | 1 => TX1 | 2 => TX2 | 3 => TX3 | 4 => TX4 | 5 => TX5 | 6 => TX6 | 7 => TX7 | 8 => TX8 | _ => TX9
def mR (ci : Nat) : String := match ci with
  | 0 => RX0 | 1 => RX1 | 2 => RX2 | 3 => RX3 | 4 => RX4 | 5 => RX5 | 6 => RX6 | 7 => RX7 | 8 => RX8 | _ => RX9
def mN (ci : Nat) : Nat := match ci with
  | 0 => 3 | 1 => 6 | 2 => 4 | 3 => 3 | 4 => 5 | 5 => 3 | 6 => 7 | 7 => 4 | 8 => 8 | _ => 23
def mCl : List vw_C := [(RX0, TX0, 3), (RX1, TX1, 6), (RX2, TX2, 4), (RX3, TX3, 3), (RX4, TX4, 5), (RX5, TX5, 3), (RX6, TX6, 7), (RX7, TX7, 4), (RX8, TX8, 8), (RX9, TX9, 23)]
/-- is a field a reference, is it a boolean -/
def mRf (ci k : Nat) : Bool := match mTy ci k with
  | .int => false
  | .boolean => false
  | _ => true
def mBo (ci k : Nat) : Bool := match mTy ci k with
  | .boolean => true
  | _ => false
def m1i (S : List Value) (f : Int32 → List Value → Prop) : Prop := match S with
  | .int x :: S => f x S
  | _ => False
def m2i (S : List Value) (f : Int32 → Int32 → List Value → Prop) : Prop := match S with
  | .int y :: .int x :: S => f x y S
  | _ => False
def m1l (S : List Value) (f : Int64 → List Value → Prop) : Prop := match S with
  | .long x :: S => f x S
  | _ => False
def m2l (S : List Value) (f : Int64 → Int64 → List Value → Prop) : Prop := match S with
  | .long y :: .long x :: S => f x y S
  | _ => False
def m1a (S : List Value) (f : Nat → List Value → Prop) : Prop := match S with
  | .ref a :: S => f a S
  | _ => False
def mil (S : List Value) (f : Int64 → Int32 → List Value → Prop) : Prop := match S with
  | .int y :: .long x :: S => f x y S
  | _ => False
/-- an array's cell and a place -/
def mia (S : List Value) (f : Nat → Int32 → List Value → Prop) : Prop := match S with
  | .int i :: .ref a :: S => f a i S
  | _ => False
def mlg (L : ML) (k : Nat) (f : Value → Prop) : Prop := match L[k]? with
  | some (some v) => f v
  | _ => False
def mvi (v : Value) (f : Int32 → Prop) : Prop := match v with
  | .int x => f x
  | _ => False
def mvl (v : Value) (f : Int64 → Prop) : Prop := match v with
  | .long x => f x
  | _ => False
def mva (v : Value) (f : Nat → Prop) : Prop := match v with
  | .ref x => f x
  | _ => False
def mfit (L : ML) (i : Nat) : Bool := match i with
  | 0 => true
  | j + 1 => match L[j]? with
    | some (some v) => Nat.beq v.category 1
    | _ => true
def ms1 (L : ML) (i : Nat) (v : Value) (f : ML → Prop) : Prop := match mfit L i && Nat.blt i L.length with
  | true => f (L.set i (some v))
  | false => False
def ms2 (L : ML) (i : Nat) (v : Value) (f : ML → Prop) : Prop := match mfit L i && Nat.blt (i + 1) L.length with
  | true => f ((L.set i (some v)).set (i + 1) none)
  | false => False
def mpops : Nat → List Value → List Value → (List Value → List Value → Prop) → Prop
  | 0, S, acc, f => f acc S
  | n + 1, S, acc, f => match S with
    | v :: S => mpops n S (v :: acc) f
    | [] => False
def mcs : List Value → Nat
  | [] => 0
  | v :: S => v.category + mcs S
def mcnd (c : ClassFile.Cond) (x y : Int32) (t f : Prop) : Prop := match c with
  | .eq => (x = y → t) ∧ (¬ x = y → f)
  | .ne => (¬ x = y → t) ∧ (x = y → f)
  | .lt => (x < y → t) ∧ (¬ x < y → f)
  | .ge => (y ≤ x → t) ∧ (¬ y ≤ x → f)
  | .gt => (y < x → t) ∧ (¬ y < x → f)
  | .le => (x ≤ y → t) ∧ (¬ x ≤ y → f)
/-- jumps by a number: x = lo, lo + 1 .. -/
def msw (jm : Nat → Prop) (x : Int32) (dflt : Nat) : Int32 → List Nat → Prop
  | _, [] => jm dflt
  | lo, t :: ts => (x = lo → jm t) ∧ (¬ x = lo → msw jm x dflt (lo + 1) ts)
/-- the cells' sizes -/
def msz : MS → Nat
  | [] => 0
  | q :: s => q.2.1 + msz s
/-- is the cell a of class ci (20: a String constant) -/
def mrcv (s : MS) (a ci : Nat) : Bool := bif Nat.ble a 999 then (match s[a]? with
  | some q => Nat.beq q.1 (5 + ci) && Nat.ble ci 9
  | none => false) else Nat.beq ci 20 && (Nat.ble 1010 a && Nat.ble a 1039)
def mif (b : Bool) (P : Prop) : Prop := match b with
  | true => P
  | false => False
def mget (E : ME) (kd : Nat) (h : MH) (a : Nat) (f : Nat → (Nat → Int32) → Prop) : Prop := match Nat.ble a 999 with
  | true => (match h.1[a]? with
    | some q => (match Nat.beq q.1 kd with
      | true => f q.2.1 (h.2.1 a)
      | false => False)
    | none => False)
  | false => (match mRo E a with
    | some q => (match Nat.beq q.1 kd with
      | true => f q.2.1 q.2.2
      | false => False)
    | none => False)
def mcell (h : MH) (a kd : Nat) (f : Nat → List (Option Nat) → Prop) : Prop := match h.1[a]? with
  | some q => (match Nat.beq q.1 kd with
    | true => f q.2.1 q.2.2
    | false => False)
  | none => False
def mref (r : Option Nat) (f : Nat → Prop) : Prop := match r with
  | some x => f x
  | none => False
def msetA (h : MH) (a k : Nat) (x : Int32) : MH := (h.1, va_up h.2.1 a (upd (h.2.1 a) k x), h.2.2)
def msetB (h : MH) (a k : Nat) (x : Int64) : MH := (h.1, h.2.1, va_up h.2.2 a (vp_updL (h.2.2 a) k x))
def msetR (h : MH) (a k : Nat) (r : Nat) : MH := match h.1[a]? with
  | some q => (h.1.set a (q.1, q.2.1, q.2.2.set k (some r)), h.2)
  | none => h
def mnewA (h : MH) (kd n : Nat) (rs : List (Option Nat)) : MH := (h.1 ++ [(kd, n, rs)], va_up h.2.1 h.1.length (fun _ => 0), va_up h.2.2 h.1.length (fun _ => 0))
def mret (rt : Option FieldType) (x : Int32) (P : Prop) : Prop := match rt with
  | some .int => P
  | some ty => narrow ty (.int x) = .int x ∧ P
  | none => False
def mend (S : List Value) (P : Prop) : Prop := match S with
  | [] => P
  | _ => False
/-- what is behind a call -/
def mbeh (nx : MN) (L : ML) (S : List Value) : MK := fun r h => match r with
  | some v => nx L (v :: S) h
  | none => nx L S h
def mfld (h : MH) (a ci k : Nat) (f : Value → Prop) : Prop := match Nat.ble a 999 with
  | true => mcell h a (5 + ci) (fun n rs => mif (Nat.blt k n && Nat.ble ci 9) (match mRf ci k with
    | true => mref (rs.getD k none) (fun r => f (.ref r))
    | false => f (.int (h.2.1 a k))))
  | false => mif (Nat.beq ci 20 && (Nat.ble 1010 a && Nat.ble a 1039)) (match k with
    | 0 => f (.ref (a + 40))
    | _ => f (.int 0))
def mput (ini : Bool) (h : MH) (a ci k : Nat) (v : Value) (f : MH → Prop) : Prop := mif (Nat.ble a 999) (mcell h a (5 + ci) (fun n rs => mif (Nat.blt k n && (Nat.ble ci 9 && (ini || !(mT ci k).2.2.2))) (match mRf ci k with
  | true => mva v (fun r => mif (Nat.ble r 999 && Nat.blt k rs.length) (f (msetR h a k r)))
  | false => mvi v (fun x => (match mBo ci k with
    | true => narrow .boolean (.int x) = .int x ∧ fits .boolean (.int x) = true ∧ f (msetA h a k x)
    | false => f (msetA h a k x))))))
def mstp (E : ME) (d : Nat) (lm : Nat × Nat) (rt : Option FieldType) (ini : Bool) (cl : Nat → List Value → MH → MK → Prop) (K : MK) (I : MI) (nx : MN) (jm : Nat → MN) (L : ML) (S : List Value) (h : MH) : Prop :=
  match I with
  | (pc, i, len, p, q, r, v, ts) =>
  match i with
  | .iconst _ => nx L (.int v :: S) h
  | .bipush _ => nx L (.int v :: S) h
  | .sipush _ => nx L (.int v :: S) h
  | .lconst _ => nx L (.long (Int64.ofNat p) :: S) h
  | .ldc2_w _ => nx L (.long (Int64.ofNat p) :: S) h
  | .ldc _ => (match p with
    | 0 => nx L (.int v :: S) h
    | _ => nx L (.ref (1010 + q) :: S) h)
  | .ldc_w _ => nx L (.int v :: S) h
  | .iload_n k => mlg L k (fun w => mvi w fun x => nx L (.int x :: S) h)
  | .iload k => mlg L k (fun w => mvi w fun x => nx L (.int x :: S) h)
  | .lload_n k => mlg L k (fun w => mvl w fun x => nx L (.long x :: S) h)
  | .lload k => mlg L k (fun w => mvl w fun x => nx L (.long x :: S) h)
  | .aload_n k => mlg L k (fun w => mva w fun x => nx L (.ref x :: S) h)
  | .aload k => mlg L k (fun w => mva w fun x => nx L (.ref x :: S) h)
  | .istore_n k => m1i S (fun x S => ms1 L k (.int x) fun L => nx L S h)
  | .istore k => m1i S (fun x S => ms1 L k (.int x) fun L => nx L S h)
  | .lstore k => m1l S (fun x S => ms2 L k (.long x) fun L => nx L S h)
  | .astore_n k => m1a S (fun x S => ms1 L k (.ref x) fun L => nx L S h)
  | .astore k => m1a S (fun x S => ms1 L k (.ref x) fun L => nx L S h)
  | .iinc k _ => mlg L k (fun w => mvi w fun x => ms1 L k (.int (x + v)) fun L => nx L S h)
  | .iadd => m2i S (fun x y S => nx L (.int (x + y) :: S) h)
  | .isub => m2i S (fun x y S => nx L (.int (x - y) :: S) h)
  | .imul => m2i S (fun x y S => nx L (.int (x * y) :: S) h)
  | .iand => m2i S (fun x y S => nx L (.int (x &&& y) :: S) h)
  | .ior => m2i S (fun x y S => nx L (.int (x ||| y) :: S) h)
  | .idiv => m2i S (fun x y S => ¬ y = 0 ∧ nx L (.int (x / y) :: S) h)
  | .irem => m2i S (fun x y S => ¬ y = 0 ∧ nx L (.int (x - x / y * y) :: S) h)
  | .ineg => m1i S (fun x S => nx L (.int (-x) :: S) h)
  | .ishl => m2i S (fun x y S => nx L (.int (x <<< (y &&& 31)) :: S) h)
  | .ishr => m2i S (fun x y S => nx L (.int (x >>> (y &&& 31)) :: S) h)
  | .iushr => m2i S (fun x y S => nx L (.int (x.toUInt32 >>> (y.toUInt32 &&& Int32.toUInt32 31)).toInt32 :: S) h)
  | .ladd => m2l S (fun x y S => nx L (.long (x + y) :: S) h)
  | .land => m2l S (fun x y S => nx L (.long (x &&& y) :: S) h)
  | .lor => m2l S (fun x y S => nx L (.long (x ||| y) :: S) h)
  | .lshl => mil S (fun x y S => nx L (.long (x <<< (y.toInt64 &&& 63)) :: S) h)
  | .lcmp => m2l S (fun x y S => nx L (.int (lg_cmp x y) :: S) h)
  | .i2l => m1i S (fun x S => nx L (.long x.toInt64 :: S) h)
  | .l2i => m1l S (fun x S => nx L (.int x.toInt32 :: S) h)
  | .i2b => m1i S (fun x S => nx L (.int x.toInt8.toInt32 :: S) h)
  | .i2s => m1i S (fun x S => nx L (.int x.toInt16.toInt32 :: S) h)
  | .i2c => m1i S (fun x S => nx L (.int (x.toUInt32 % 65536).toInt32 :: S) h)
  | .dup => (match S with
    | w :: S => mif (Nat.beq w.category 1) (nx L (w :: w :: S) h)
    | _ => False)
  | .dup2 => (match S with
    | w :: u :: S => mif (Nat.beq w.category 1 && Nat.beq u.category 1) (nx L (w :: u :: w :: u :: S) h)
    | _ => False)
  | .pop => (match S with
    | w :: S => mif (Nat.beq w.category 1) (nx L S h)
    | _ => False)
  | .goto _ => jm p L S h
  | .ifCond c _ => m1i S (fun x S => mcnd c x 0 (jm p L S h) (nx L S h))
  | .if_icmp c _ => m2i S (fun x y S => mcnd c x y (jm p L S h) (nx L S h))
  | .tableswitch _ _ _ _ => m1i S (fun x S => msw (fun t => jm t L S h) x p v ts)
  | .lookupswitch _ _ => m1i S (fun x S => msw (fun t => jm t L S h) x p v ts)
  | .iaload => mia S (fun a i S => mget E 0 h a (fun n f => vp_in i n ∧ nx L (.int (f i.toNatClampNeg) :: S) h))
  | .baload => mia S (fun a i S => (match Nat.ble a 999 with
    | true => mget E 1 h a (fun n f => vp_in i n ∧ nx L (.int (f i.toNatClampNeg) :: S) h)
    | false => mget E 5 h a (fun n f => vp_in i n ∧ nx L (.int (f i.toNatClampNeg) :: S) h)))
  | .laload => mia S (fun a i S => mcell h a 2 (fun n _ => vp_in i n ∧ nx L (.long (h.2.2 a i.toNatClampNeg) :: S) h))
  | .aaload => mia S (fun a i S => mcell h a (3 + p) (fun n rs => vp_in i n ∧ mref (rs.getD i.toNatClampNeg none) (fun r => nx L (.ref r :: S) h)))
  | .iastore => m1i S (fun x S => mia S (fun a i S => mcell h a 0 (fun n _ => vp_in i n ∧ nx L S (msetA h a i.toNatClampNeg x))))
  | .bastore => m1i S (fun x S => mia S (fun a i S => mcell h a 1 (fun n _ => vp_in i n ∧ nx L S (msetA h a i.toNatClampNeg (vp_nar .boolean x)))))
  | .lastore => m1l S (fun x S => mia S (fun a i S => mcell h a 2 (fun n _ => vp_in i n ∧ nx L S (msetB h a i.toNatClampNeg x))))
  | .aastore => m1a S (fun x S => mia S (fun a i S => mcell h a (3 + p) (fun n rs => vp_in i n ∧ mif (Nat.blt i.toNatClampNeg rs.length && (match p with
      | 0 => Nat.ble x 999 && mrcv h.1 x 3
      | _ => Nat.beq p 1 && (Nat.ble 1010 x && Nat.ble x 1039))) (nx L S (msetR h a i.toNatClampNeg x)))))
  | .arraylength => m1a S (fun a S => (match Nat.ble a 999 with
    | true => (match h.1[a]? with
      | some q => mif (Nat.ble q.1 4) (nx L (.int (Int32.ofNat q.2.1) :: S) h)
      | none => False)
    | false => (match mRo E a with
      | some q => nx L (.int (Int32.ofNat q.2.1) :: S) h
      | none => False)))
  | .getfield _ => m1a S (fun a S => mfld h a p q (fun w => nx L (w :: S) h))
  | .putfield _ => (match S with
    | w :: .ref a :: S => mput ini h a p q w (fun h => nx L S h)
    | _ => False)
  | .getstatic _ => (match p with
    | 0 => nx L (.ref 1001 :: S) h
    | 1 => nx L (.int 1 :: S) h
    | _ => nx L (.ref 1002 :: S) h)
  | .new _ => mif (Nat.ble p 9 && (Nat.ble (h.1.length + 1) 999 && (Nat.ble (h.1.length + 1) lm.1 && Nat.ble (msz h.1 + mN p) lm.2))) (nx L (.ref h.1.length :: S) (mnewA h (5 + p) (mN p) (List.replicate (mN p) none)))
  | .newarray _ => m1i S (fun x S => ¬ x < 0 ∧ mif (Nat.ble p 2 && (Nat.ble (h.1.length + 1) 999 && (Nat.ble (h.1.length + 1) lm.1 && (Nat.ble (msz h.1 + x.toNatClampNeg) lm.2 && Nat.ble x.toNatClampNeg 1000)))) (nx L (.ref h.1.length :: S) (mnewA h p x.toNatClampNeg [])))
  | .anewarray _ => m1i S (fun x S => ¬ x < 0 ∧ mif (Nat.ble p 1 && (Nat.ble (h.1.length + 1) 999 && (Nat.ble (h.1.length + 1) lm.1 && (Nat.ble (msz h.1 + x.toNatClampNeg) lm.2 && Nat.ble x.toNatClampNeg 1000)))) (nx L (.ref h.1.length :: S) (mnewA h (3 + p) x.toNatClampNeg (List.replicate x.toNatClampNeg none))))
  | .invokevirtual _ => mpops q S [] (fun as S => m1a S (fun a S => mif (mrcv h.1 a r && Nat.ble (mcs S) 8) (cl p (.ref a :: as) h (mbeh nx L S))))
  | .invokestatic _ => (match Nat.beq p 900 with
    | true => (match S with
      | .int n :: .int dp :: .ref b :: .int sp :: .ref a :: S => mif (Nat.ble 1 d && Nat.ble (mcs S) 8) (match q with
        | 0 => mcell h a 0 (fun na _ => mcell h b 0 (fun nb _ => ¬ sp < 0 ∧ ¬ dp < 0 ∧ ¬ n < 0 ∧ sp.toNatClampNeg + n.toNatClampNeg ≤ na ∧ dp.toNatClampNeg + n.toNatClampNeg ≤ nb ∧ nx L S (h.1, va_up h.2.1 b (va_cpy (h.2.1 a) (h.2.1 b) sp.toNatClampNeg dp.toNatClampNeg n.toNatClampNeg), h.2.2)))
        | _ => mcell h a 2 (fun na _ => mcell h b 2 (fun nb _ => ¬ sp < 0 ∧ ¬ dp < 0 ∧ ¬ n < 0 ∧ sp.toNatClampNeg + n.toNatClampNeg ≤ na ∧ dp.toNatClampNeg + n.toNatClampNeg ≤ nb ∧ nx L S (h.1, h.2.1, va_up h.2.2 b (va_cpy (h.2.2 a) (h.2.2 b) sp.toNatClampNeg dp.toNatClampNeg n.toNatClampNeg)))))
      | _ => False)
    | false => mpops q S [] (fun as S => mif (Nat.ble (mcs S) 8) (cl p as h (mbeh nx L S))))
  | .invokespecial _ => (match Nat.beq p 901 with
    | true => m1a S (fun a S => mif (Nat.ble a 999 && (Nat.ble 1 d && Nat.ble (mcs S) 8)) (nx L S h))
    | false => mpops q S [] (fun as S => m1a S (fun a S => mif (mrcv h.1 a r && (Nat.ble (mcs S) 8 && (Nat.ble (h.1.length + ts.getD 0 0) lm.1 && Nat.ble (msz h.1 + ts.getD 1 0) lm.2))) (cl p (.ref a :: as) h (mbeh nx L S)))))
  | .ireturn => m1i S (fun x S => mend S (mret rt x (K (some (.int x)) h)))
  | .lreturn => m1l S (fun x S => mend S (K (some (.long x)) h))
  | .return_ => mend S (K none h)
  | .areturn => m1a S (fun x S => mend S (K (some (.ref x)) h))
  | _ => False
def mel : List Nat → Nat → Bool
  | [], _ => false
  | c :: cs, t => Nat.beq c t || mel cs t
def mdrop (t : Nat) : List MI → List MI
  | [] => []
  | I :: is => bif Nat.beq I.1 t then I :: is else mdrop t is
def mgo (ax : Nat → MN) (cut : List Nat) (w : List MI → MN) (is : List MI) : MN := fun L S h => match is with
  | [] => False
  | I :: is => (match mel cut I.1 with
    | true => ax I.1 L S h
    | false => w (I :: is) L S h)
/-- the walk from a place on, as what must hold: it stops at the places of 'cut', where 'ax' must hold, and asks 'cl' of calls -/
def mwp (E : ME) (d : Nat) (lm : Nat × Nat) (rt : Option FieldType) (ini : Bool) (cl : Nat → List Value → MH → MK → Prop) (ax : Nat → MN) (cut : List Nat) (full : List MI) (K : MK) : Nat → List MI → MN
  | 0, _ => fun _ _ _ => False
  | n + 1, is => fun L S h => match is with
    | [] => False
    | I :: is => mstp E d lm rt ini cl K I (mgo ax cut (mwp E d lm rt ini cl ax cut full K n) is) (fun t => mgo ax cut (mwp E d lm rt ini cl ax cut full K n) (mdrop t full)) L S h
end
