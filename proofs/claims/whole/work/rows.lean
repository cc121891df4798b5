section
-- ===== PART A: goes FIRST, ahead of the names: the tables' words, and 'selects' of the private methods out of them =====
/-- a private method of a class that the tables say can be made, by its rows of tables_1 -/
def lw_okq (q : MethodName × Nat) : Prop := (q.1.cls ≠ "java/lang/invoke/MethodHandle" ∧ q.1.cls ≠ "java/lang/invoke/VarHandle") ∧ Cond.instantiable q.1.cls q.2 ∈ tables_1 ∧ Cond.privateMethod q.1 ∈ tables_1 ∧ Cond.instanceMethod q.1 ∈ tables_1
theorem lw_p0 : lw_okq (⟨"BirthWeeks$World", "dayOf", "(LBirthWeeks$District;I)I"⟩, 11) := ⟨⟨by decide +kernel, by decide +kernel⟩, List.mem_of_getElem? (i := 176) (by decide +kernel), List.mem_of_getElem? (i := 415) (by decide +kernel), List.mem_of_getElem? (i := 416) (by decide +kernel)⟩
theorem lw_p1 : lw_okq (⟨"BirthWeeks", "thinkFromNow", "()V"⟩, 15) := ⟨⟨by decide +kernel, by decide +kernel⟩, List.mem_of_getElem? (i := 18) (by decide +kernel), List.mem_of_getElem? (i := 433) (by decide +kernel), List.mem_of_getElem? (i := 434) (by decide +kernel)⟩
theorem lw_p2 : lw_okq (⟨"BirthWeeks", "thinkOn", "(II)V"⟩, 15) := ⟨⟨by decide +kernel, by decide +kernel⟩, List.mem_of_getElem? (i := 18) (by decide +kernel), List.mem_of_getElem? (i := 448) (by decide +kernel), List.mem_of_getElem? (i := 449) (by decide +kernel)⟩
theorem lw_p3 : lw_okq (⟨"BirthWeeks", "tradeOneDay", "()V"⟩, 15) := ⟨⟨by decide +kernel, by decide +kernel⟩, List.mem_of_getElem? (i := 18) (by decide +kernel), List.mem_of_getElem? (i := 465) (by decide +kernel), List.mem_of_getElem? (i := 466) (by decide +kernel)⟩
theorem lw_p4 : lw_okq (⟨"BirthWeeks", "mostSeenAt", "()I"⟩, 15) := ⟨⟨by decide +kernel, by decide +kernel⟩, List.mem_of_getElem? (i := 18) (by decide +kernel), List.mem_of_getElem? (i := 469) (by decide +kernel), List.mem_of_getElem? (i := 470) (by decide +kernel)⟩
theorem lw_p5 : lw_okq (⟨"BirthWeeks", "isSheet", "(I)Z"⟩, 15) := ⟨⟨by decide +kernel, by decide +kernel⟩, List.mem_of_getElem? (i := 18) (by decide +kernel), List.mem_of_getElem? (i := 485) (by decide +kernel), List.mem_of_getElem? (i := 486) (by decide +kernel)⟩
theorem lw_p6 : lw_okq (⟨"BirthWeeks", "differences", "(LBirthWeeks$Sheet;II)I"⟩, 15) := ⟨⟨by decide +kernel, by decide +kernel⟩, List.mem_of_getElem? (i := 18) (by decide +kernel), List.mem_of_getElem? (i := 494) (by decide +kernel), List.mem_of_getElem? (i := 495) (by decide +kernel)⟩
theorem lw_p7 : lw_okq (⟨"BirthWeeks", "thinkTillNextWeek", "(I)V"⟩, 15) := ⟨⟨by decide +kernel, by decide +kernel⟩, List.mem_of_getElem? (i := 18) (by decide +kernel), List.mem_of_getElem? (i := 515) (by decide +kernel), List.mem_of_getElem? (i := 516) (by decide +kernel)⟩
theorem lw_p8 : lw_okq (⟨"BirthWeeks", "feedOne", "(I)V"⟩, 15) := ⟨⟨by decide +kernel, by decide +kernel⟩, List.mem_of_getElem? (i := 18) (by decide +kernel), List.mem_of_getElem? (i := 533) (by decide +kernel), List.mem_of_getElem? (i := 534) (by decide +kernel)⟩
theorem lw_p9 : lw_okq (⟨"BirthWeeks$Reader", "goOn", "()V"⟩, 7) := ⟨⟨by decide +kernel, by decide +kernel⟩, List.mem_of_getElem? (i := 26) (by decide +kernel), List.mem_of_getElem? (i := 550) (by decide +kernel), List.mem_of_getElem? (i := 551) (by decide +kernel)⟩
theorem lw_p10 : lw_okq (⟨"BirthWeeks$Reader", "byteAt", "(I)I"⟩, 7) := ⟨⟨by decide +kernel, by decide +kernel⟩, List.mem_of_getElem? (i := 26) (by decide +kernel), List.mem_of_getElem? (i := 554) (by decide +kernel), List.mem_of_getElem? (i := 555) (by decide +kernel)⟩
theorem lw_p11 : lw_okq (⟨"BirthWeeks$Reader", "keyHere", "()I"⟩, 7) := ⟨⟨by decide +kernel, by decide +kernel⟩, List.mem_of_getElem? (i := 26) (by decide +kernel), List.mem_of_getElem? (i := 561) (by decide +kernel), List.mem_of_getElem? (i := 562) (by decide +kernel)⟩
theorem lw_p12 : lw_okq (⟨"BirthWeeks$Reader", "spells", "(Ljava/lang/String;)Z"⟩, 7) := ⟨⟨by decide +kernel, by decide +kernel⟩, List.mem_of_getElem? (i := 26) (by decide +kernel), List.mem_of_getElem? (i := 566) (by decide +kernel), List.mem_of_getElem? (i := 567) (by decide +kernel)⟩
theorem lw_p13 : lw_okq (⟨"BirthWeeks$Reader", "takesLevel", "(III)Z"⟩, 7) := ⟨⟨by decide +kernel, by decide +kernel⟩, List.mem_of_getElem? (i := 26) (by decide +kernel), List.mem_of_getElem? (i := 624) (by decide +kernel), List.mem_of_getElem? (i := 625) (by decide +kernel)⟩
theorem lw_p14 : lw_okq (⟨"BirthWeeks$Reader", "takesPiece", "(II)Z"⟩, 7) := ⟨⟨by decide +kernel, by decide +kernel⟩, List.mem_of_getElem? (i := 26) (by decide +kernel), List.mem_of_getElem? (i := 628) (by decide +kernel), List.mem_of_getElem? (i := 629) (by decide +kernel)⟩
theorem lw_p15 : lw_okq (⟨"BirthWeeks$Reader", "takesNumber", "()Z"⟩, 7) := ⟨⟨by decide +kernel, by decide +kernel⟩, List.mem_of_getElem? (i := 26) (by decide +kernel), List.mem_of_getElem? (i := 632) (by decide +kernel), List.mem_of_getElem? (i := 633) (by decide +kernel)⟩
def lw_privs_1 : List (MethodName × Nat) := [(⟨"BirthWeeks$World", "dayOf", "(LBirthWeeks$District;I)I"⟩, 11), (⟨"BirthWeeks", "thinkFromNow", "()V"⟩, 15), (⟨"BirthWeeks", "thinkOn", "(II)V"⟩, 15), (⟨"BirthWeeks", "tradeOneDay", "()V"⟩, 15), (⟨"BirthWeeks", "mostSeenAt", "()I"⟩, 15), (⟨"BirthWeeks", "isSheet", "(I)Z"⟩, 15), (⟨"BirthWeeks", "differences", "(LBirthWeeks$Sheet;II)I"⟩, 15), (⟨"BirthWeeks", "thinkTillNextWeek", "(I)V"⟩, 15), (⟨"BirthWeeks", "feedOne", "(I)V"⟩, 15), (⟨"BirthWeeks$Reader", "goOn", "()V"⟩, 7), (⟨"BirthWeeks$Reader", "byteAt", "(I)I"⟩, 7), (⟨"BirthWeeks$Reader", "keyHere", "()I"⟩, 7), (⟨"BirthWeeks$Reader", "spells", "(Ljava/lang/String;)Z"⟩, 7), (⟨"BirthWeeks$Reader", "takesLevel", "(III)Z"⟩, 7), (⟨"BirthWeeks$Reader", "takesPiece", "(II)Z"⟩, 7), (⟨"BirthWeeks$Reader", "takesNumber", "()Z"⟩, 7)]
theorem lw_r1 : ∀ q ∈ lw_privs_1, lw_okq q := List.forall_mem_cons.mpr ⟨lw_p0, List.forall_mem_cons.mpr ⟨lw_p1, List.forall_mem_cons.mpr ⟨lw_p2, List.forall_mem_cons.mpr ⟨lw_p3, List.forall_mem_cons.mpr ⟨lw_p4, List.forall_mem_cons.mpr ⟨lw_p5, List.forall_mem_cons.mpr ⟨lw_p6, List.forall_mem_cons.mpr ⟨lw_p7, List.forall_mem_cons.mpr ⟨lw_p8, List.forall_mem_cons.mpr ⟨lw_p9, List.forall_mem_cons.mpr ⟨lw_p10, List.forall_mem_cons.mpr ⟨lw_p11, List.forall_mem_cons.mpr ⟨lw_p12, List.forall_mem_cons.mpr ⟨lw_p13, List.forall_mem_cons.mpr ⟨lw_p14, List.forall_mem_cons.mpr ⟨lw_p15, fun _ h => absurd h List.not_mem_nil⟩⟩⟩⟩⟩⟩⟩⟩⟩⟩⟩⟩⟩⟩⟩⟩
theorem lw_p16 : lw_okq (⟨"BirthWeeks$Law", "addStep", "(I)V"⟩, 4) := ⟨⟨by decide +kernel, by decide +kernel⟩, List.mem_of_getElem? (i := 32) (by decide +kernel), List.mem_of_getElem? (i := 640) (by decide +kernel), List.mem_of_getElem? (i := 641) (by decide +kernel)⟩
theorem lw_p17 : lw_okq (⟨"BirthWeeks$Reader", "takesName", "()Z"⟩, 7) := ⟨⟨by decide +kernel, by decide +kernel⟩, List.mem_of_getElem? (i := 26) (by decide +kernel), List.mem_of_getElem? (i := 644) (by decide +kernel), List.mem_of_getElem? (i := 645) (by decide +kernel)⟩
theorem lw_p18 : lw_okq (⟨"BirthWeeks$Reader", "takesNot", "(II)Z"⟩, 7) := ⟨⟨by decide +kernel, by decide +kernel⟩, List.mem_of_getElem? (i := 26) (by decide +kernel), List.mem_of_getElem? (i := 709) (by decide +kernel), List.mem_of_getElem? (i := 710) (by decide +kernel)⟩
theorem lw_p19 : lw_okq (⟨"BirthWeeks$Reader", "takesInner", "(II)Z"⟩, 7) := ⟨⟨by decide +kernel, by decide +kernel⟩, List.mem_of_getElem? (i := 26) (by decide +kernel), List.mem_of_getElem? (i := 717) (by decide +kernel), List.mem_of_getElem? (i := 718) (by decide +kernel)⟩
theorem lw_p20 : lw_okq (⟨"BirthWeeks", "isSlot", "(I)Z"⟩, 15) := ⟨⟨by decide +kernel, by decide +kernel⟩, List.mem_of_getElem? (i := 18) (by decide +kernel), List.mem_of_getElem? (i := 781) (by decide +kernel), List.mem_of_getElem? (i := 782) (by decide +kernel)⟩
theorem lw_p21 : lw_okq (⟨"BirthWeeks", "stands", "(III)Z"⟩, 15) := ⟨⟨by decide +kernel, by decide +kernel⟩, List.mem_of_getElem? (i := 18) (by decide +kernel), List.mem_of_getElem? (i := 816) (by decide +kernel), List.mem_of_getElem? (i := 817) (by decide +kernel)⟩
theorem lw_p22 : lw_okq (⟨"BirthWeeksModel", "comes", "(II)I"⟩, 35) := ⟨⟨by decide +kernel, by decide +kernel⟩, List.mem_of_getElem? (i := 836) (by decide +kernel), List.mem_of_getElem? (i := 959) (by decide +kernel), List.mem_of_getElem? (i := 960) (by decide +kernel)⟩
theorem lw_p23 : lw_okq (⟨"BirthWeeksModel", "put", "(III)V"⟩, 35) := ⟨⟨by decide +kernel, by decide +kernel⟩, List.mem_of_getElem? (i := 836) (by decide +kernel), List.mem_of_getElem? (i := 963) (by decide +kernel), List.mem_of_getElem? (i := 964) (by decide +kernel)⟩
theorem lw_p24 : lw_okq (⟨"BirthWeeksModel", "isDistrict", "(I)Z"⟩, 35) := ⟨⟨by decide +kernel, by decide +kernel⟩, List.mem_of_getElem? (i := 836) (by decide +kernel), List.mem_of_getElem? (i := 971) (by decide +kernel), List.mem_of_getElem? (i := 972) (by decide +kernel)⟩
theorem lw_p25 : lw_okq (⟨"BirthWeeksModel", "of", "(II)I"⟩, 35) := ⟨⟨by decide +kernel, by decide +kernel⟩, List.mem_of_getElem? (i := 836) (by decide +kernel), List.mem_of_getElem? (i := 975) (by decide +kernel), List.mem_of_getElem? (i := 976) (by decide +kernel)⟩
theorem lw_p26 : lw_okq (⟨"BirthWeeksModel", "worthOf", "(I)I"⟩, 35) := ⟨⟨by decide +kernel, by decide +kernel⟩, List.mem_of_getElem? (i := 836) (by decide +kernel), List.mem_of_getElem? (i := 979) (by decide +kernel), List.mem_of_getElem? (i := 980) (by decide +kernel)⟩
theorem lw_p27 : lw_okq (⟨"BirthWeeksModel", "isFair", "(I)Z"⟩, 35) := ⟨⟨by decide +kernel, by decide +kernel⟩, List.mem_of_getElem? (i := 836) (by decide +kernel), List.mem_of_getElem? (i := 983) (by decide +kernel), List.mem_of_getElem? (i := 984) (by decide +kernel)⟩
theorem lw_p28 : lw_okq (⟨"BirthWeeksModel", "birthsOf", "(II)I"⟩, 35) := ⟨⟨by decide +kernel, by decide +kernel⟩, List.mem_of_getElem? (i := 836) (by decide +kernel), List.mem_of_getElem? (i := 991) (by decide +kernel), List.mem_of_getElem? (i := 992) (by decide +kernel)⟩
theorem lw_p29 : lw_okq (⟨"BirthWeeksModel", "counts", "(I)I"⟩, 35) := ⟨⟨by decide +kernel, by decide +kernel⟩, List.mem_of_getElem? (i := 836) (by decide +kernel), List.mem_of_getElem? (i := 995) (by decide +kernel), List.mem_of_getElem? (i := 996) (by decide +kernel)⟩
theorem lw_p30 : lw_okq (⟨"BirthWeeksModel", "worksOut", "(I)I"⟩, 35) := ⟨⟨by decide +kernel, by decide +kernel⟩, List.mem_of_getElem? (i := 836) (by decide +kernel), List.mem_of_getElem? (i := 999) (by decide +kernel), List.mem_of_getElem? (i := 1000) (by decide +kernel)⟩
theorem lw_p31 : lw_okq (⟨"BirthWeeksModel", "becomes", "(II)I"⟩, 35) := ⟨⟨by decide +kernel, by decide +kernel⟩, List.mem_of_getElem? (i := 836) (by decide +kernel), List.mem_of_getElem? (i := 1021) (by decide +kernel), List.mem_of_getElem? (i := 1022) (by decide +kernel)⟩
def lw_privs_2 : List (MethodName × Nat) := [(⟨"BirthWeeks$Law", "addStep", "(I)V"⟩, 4), (⟨"BirthWeeks$Reader", "takesName", "()Z"⟩, 7), (⟨"BirthWeeks$Reader", "takesNot", "(II)Z"⟩, 7), (⟨"BirthWeeks$Reader", "takesInner", "(II)Z"⟩, 7), (⟨"BirthWeeks", "isSlot", "(I)Z"⟩, 15), (⟨"BirthWeeks", "stands", "(III)Z"⟩, 15), (⟨"BirthWeeksModel", "comes", "(II)I"⟩, 35), (⟨"BirthWeeksModel", "put", "(III)V"⟩, 35), (⟨"BirthWeeksModel", "isDistrict", "(I)Z"⟩, 35), (⟨"BirthWeeksModel", "of", "(II)I"⟩, 35), (⟨"BirthWeeksModel", "worthOf", "(I)I"⟩, 35), (⟨"BirthWeeksModel", "isFair", "(I)Z"⟩, 35), (⟨"BirthWeeksModel", "birthsOf", "(II)I"⟩, 35), (⟨"BirthWeeksModel", "counts", "(I)I"⟩, 35), (⟨"BirthWeeksModel", "worksOut", "(I)I"⟩, 35), (⟨"BirthWeeksModel", "becomes", "(II)I"⟩, 35)]
theorem lw_r2 : ∀ q ∈ lw_privs_2, lw_okq q := List.forall_mem_cons.mpr ⟨lw_p16, List.forall_mem_cons.mpr ⟨lw_p17, List.forall_mem_cons.mpr ⟨lw_p18, List.forall_mem_cons.mpr ⟨lw_p19, List.forall_mem_cons.mpr ⟨lw_p20, List.forall_mem_cons.mpr ⟨lw_p21, List.forall_mem_cons.mpr ⟨lw_p22, List.forall_mem_cons.mpr ⟨lw_p23, List.forall_mem_cons.mpr ⟨lw_p24, List.forall_mem_cons.mpr ⟨lw_p25, List.forall_mem_cons.mpr ⟨lw_p26, List.forall_mem_cons.mpr ⟨lw_p27, List.forall_mem_cons.mpr ⟨lw_p28, List.forall_mem_cons.mpr ⟨lw_p29, List.forall_mem_cons.mpr ⟨lw_p30, List.forall_mem_cons.mpr ⟨lw_p31, fun _ h => absurd h List.not_mem_nil⟩⟩⟩⟩⟩⟩⟩⟩⟩⟩⟩⟩⟩⟩⟩⟩
theorem lw_p32 : lw_okq (⟨"BirthWeeksModel", "hides", "(I)V"⟩, 35) := ⟨⟨by decide +kernel, by decide +kernel⟩, List.mem_of_getElem? (i := 836) (by decide +kernel), List.mem_of_getElem? (i := 1036) (by decide +kernel), List.mem_of_getElem? (i := 1037) (by decide +kernel)⟩
theorem lw_p33 : lw_okq (⟨"BirthWeeksModel", "draw", "()I"⟩, 35) := ⟨⟨by decide +kernel, by decide +kernel⟩, List.mem_of_getElem? (i := 836) (by decide +kernel), List.mem_of_getElem? (i := 1048) (by decide +kernel), List.mem_of_getElem? (i := 1049) (by decide +kernel)⟩
theorem lw_p34 : lw_okq (⟨"BirthWeeksModel", "goesOn", "(I)I"⟩, 35) := ⟨⟨by decide +kernel, by decide +kernel⟩, List.mem_of_getElem? (i := 836) (by decide +kernel), List.mem_of_getElem? (i := 1061) (by decide +kernel), List.mem_of_getElem? (i := 1062) (by decide +kernel)⟩
theorem lw_p35 : lw_okq (⟨"BirthWeeksModel", "day", "()I"⟩, 35) := ⟨⟨by decide +kernel, by decide +kernel⟩, List.mem_of_getElem? (i := 836) (by decide +kernel), List.mem_of_getElem? (i := 1065) (by decide +kernel), List.mem_of_getElem? (i := 1066) (by decide +kernel)⟩
theorem lw_p36 : lw_okq (⟨"BirthWeeksModel", "weekEnds", "(I)V"⟩, 35) := ⟨⟨by decide +kernel, by decide +kernel⟩, List.mem_of_getElem? (i := 836) (by decide +kernel), List.mem_of_getElem? (i := 1069) (by decide +kernel), List.mem_of_getElem? (i := 1070) (by decide +kernel)⟩
theorem lw_p37 : lw_okq (⟨"BirthWeeksModel", "wageOf", "(I)I"⟩, 35) := ⟨⟨by decide +kernel, by decide +kernel⟩, List.mem_of_getElem? (i := 836) (by decide +kernel), List.mem_of_getElem? (i := 1073) (by decide +kernel), List.mem_of_getElem? (i := 1074) (by decide +kernel)⟩
theorem lw_p38 : lw_okq (⟨"BirthWeeksModel", "thinks", "()V"⟩, 35) := ⟨⟨by decide +kernel, by decide +kernel⟩, List.mem_of_getElem? (i := 836) (by decide +kernel), List.mem_of_getElem? (i := 1081) (by decide +kernel), List.mem_of_getElem? (i := 1082) (by decide +kernel)⟩
theorem lw_p39 : lw_okq (⟨"BirthWeeksModel", "putsBack", "()V"⟩, 35) := ⟨⟨by decide +kernel, by decide +kernel⟩, List.mem_of_getElem? (i := 836) (by decide +kernel), List.mem_of_getElem? (i := 1085) (by decide +kernel), List.mem_of_getElem? (i := 1086) (by decide +kernel)⟩
theorem lw_p40 : lw_okq (⟨"BirthWeeksModel", "trades", "()V"⟩, 35) := ⟨⟨by decide +kernel, by decide +kernel⟩, List.mem_of_getElem? (i := 836) (by decide +kernel), List.mem_of_getElem? (i := 1102) (by decide +kernel), List.mem_of_getElem? (i := 1103) (by decide +kernel)⟩
theorem lw_p41 : lw_okq (⟨"BirthWeeksModel", "offBy", "(III)J"⟩, 35) := ⟨⟨by decide +kernel, by decide +kernel⟩, List.mem_of_getElem? (i := 836) (by decide +kernel), List.mem_of_getElem? (i := 1122) (by decide +kernel), List.mem_of_getElem? (i := 1123) (by decide +kernel)⟩
theorem lw_p42 : lw_okq (⟨"BirthWeeksModel", "sumOf", "(I)I"⟩, 35) := ⟨⟨by decide +kernel, by decide +kernel⟩, List.mem_of_getElem? (i := 836) (by decide +kernel), List.mem_of_getElem? (i := 1130) (by decide +kernel), List.mem_of_getElem? (i := 1131) (by decide +kernel)⟩
theorem lw_p43 : lw_okq (⟨"BirthWeeksModel", "go", "()V"⟩, 35) := ⟨⟨by decide +kernel, by decide +kernel⟩, List.mem_of_getElem? (i := 836) (by decide +kernel), List.mem_of_getElem? (i := 1146) (by decide +kernel), List.mem_of_getElem? (i := 1147) (by decide +kernel)⟩
theorem lw_p44 : lw_okq (⟨"BirthWeeksModel", "isLetter", "(I)Z"⟩, 35) := ⟨⟨by decide +kernel, by decide +kernel⟩, List.mem_of_getElem? (i := 836) (by decide +kernel), List.mem_of_getElem? (i := 1150) (by decide +kernel), List.mem_of_getElem? (i := 1151) (by decide +kernel)⟩
theorem lw_p45 : lw_okq (⟨"BirthWeeksModel", "isFigure", "(I)Z"⟩, 35) := ⟨⟨by decide +kernel, by decide +kernel⟩, List.mem_of_getElem? (i := 836) (by decide +kernel), List.mem_of_getElem? (i := 1154) (by decide +kernel), List.mem_of_getElem? (i := 1155) (by decide +kernel)⟩
theorem lw_p46 : lw_okq (⟨"BirthWeeksModel", "takesKey", "()Z"⟩, 35) := ⟨⟨by decide +kernel, by decide +kernel⟩, List.mem_of_getElem? (i := 836) (by decide +kernel), List.mem_of_getElem? (i := 1158) (by decide +kernel), List.mem_of_getElem? (i := 1159) (by decide +kernel)⟩
theorem lw_p47 : lw_okq (⟨"BirthWeeksModel", "takesE", "()Z"⟩, 35) := ⟨⟨by decide +kernel, by decide +kernel⟩, List.mem_of_getElem? (i := 836) (by decide +kernel), List.mem_of_getElem? (i := 1162) (by decide +kernel), List.mem_of_getElem? (i := 1163) (by decide +kernel)⟩
def lw_privs_3 : List (MethodName × Nat) := [(⟨"BirthWeeksModel", "hides", "(I)V"⟩, 35), (⟨"BirthWeeksModel", "draw", "()I"⟩, 35), (⟨"BirthWeeksModel", "goesOn", "(I)I"⟩, 35), (⟨"BirthWeeksModel", "day", "()I"⟩, 35), (⟨"BirthWeeksModel", "weekEnds", "(I)V"⟩, 35), (⟨"BirthWeeksModel", "wageOf", "(I)I"⟩, 35), (⟨"BirthWeeksModel", "thinks", "()V"⟩, 35), (⟨"BirthWeeksModel", "putsBack", "()V"⟩, 35), (⟨"BirthWeeksModel", "trades", "()V"⟩, 35), (⟨"BirthWeeksModel", "offBy", "(III)J"⟩, 35), (⟨"BirthWeeksModel", "sumOf", "(I)I"⟩, 35), (⟨"BirthWeeksModel", "go", "()V"⟩, 35), (⟨"BirthWeeksModel", "isLetter", "(I)Z"⟩, 35), (⟨"BirthWeeksModel", "isFigure", "(I)Z"⟩, 35), (⟨"BirthWeeksModel", "takesKey", "()Z"⟩, 35), (⟨"BirthWeeksModel", "takesE", "()Z"⟩, 35)]
theorem lw_r3 : ∀ q ∈ lw_privs_3, lw_okq q := List.forall_mem_cons.mpr ⟨lw_p32, List.forall_mem_cons.mpr ⟨lw_p33, List.forall_mem_cons.mpr ⟨lw_p34, List.forall_mem_cons.mpr ⟨lw_p35, List.forall_mem_cons.mpr ⟨lw_p36, List.forall_mem_cons.mpr ⟨lw_p37, List.forall_mem_cons.mpr ⟨lw_p38, List.forall_mem_cons.mpr ⟨lw_p39, List.forall_mem_cons.mpr ⟨lw_p40, List.forall_mem_cons.mpr ⟨lw_p41, List.forall_mem_cons.mpr ⟨lw_p42, List.forall_mem_cons.mpr ⟨lw_p43, List.forall_mem_cons.mpr ⟨lw_p44, List.forall_mem_cons.mpr ⟨lw_p45, List.forall_mem_cons.mpr ⟨lw_p46, List.forall_mem_cons.mpr ⟨lw_p47, fun _ h => absurd h List.not_mem_nil⟩⟩⟩⟩⟩⟩⟩⟩⟩⟩⟩⟩⟩⟩⟩⟩
theorem lw_p48 : lw_okq (⟨"BirthWeeksModel", "takesPart", "()Z"⟩, 35) := ⟨⟨by decide +kernel, by decide +kernel⟩, List.mem_of_getElem? (i := 836) (by decide +kernel), List.mem_of_getElem? (i := 1166) (by decide +kernel), List.mem_of_getElem? (i := 1167) (by decide +kernel)⟩
theorem lw_p49 : lw_okq (⟨"BirthWeeksModel", "nameOf", "(I)I"⟩, 35) := ⟨⟨by decide +kernel, by decide +kernel⟩, List.mem_of_getElem? (i := 836) (by decide +kernel), List.mem_of_getElem? (i := 1170) (by decide +kernel), List.mem_of_getElem? (i := 1171) (by decide +kernel)⟩
theorem lw_p50 : lw_okq (⟨"BirthWeeksModel", "settle", "(I)V"⟩, 35) := ⟨⟨by decide +kernel, by decide +kernel⟩, List.mem_of_getElem? (i := 836) (by decide +kernel), List.mem_of_getElem? (i := 1174) (by decide +kernel), List.mem_of_getElem? (i := 1175) (by decide +kernel)⟩
theorem lw_p51 : lw_okq (⟨"BirthWeeksModel", "notsOpen", "()I"⟩, 35) := ⟨⟨by decide +kernel, by decide +kernel⟩, List.mem_of_getElem? (i := 836) (by decide +kernel), List.mem_of_getElem? (i := 1181) (by decide +kernel), List.mem_of_getElem? (i := 1182) (by decide +kernel)⟩
theorem lw_p52 : lw_okq (⟨"BirthWeeksModel", "signHere", "()I"⟩, 35) := ⟨⟨by decide +kernel, by decide +kernel⟩, List.mem_of_getElem? (i := 836) (by decide +kernel), List.mem_of_getElem? (i := 1185) (by decide +kernel), List.mem_of_getElem? (i := 1186) (by decide +kernel)⟩
theorem lw_p53 : lw_okq (⟨"BirthWeeksModel", "fairs", "()I"⟩, 35) := ⟨⟨by decide +kernel, by decide +kernel⟩, List.mem_of_getElem? (i := 836) (by decide +kernel), List.mem_of_getElem? (i := 1249) (by decide +kernel), List.mem_of_getElem? (i := 1250) (by decide +kernel)⟩
def lw_privs_4 : List (MethodName × Nat) := [(⟨"BirthWeeksModel", "takesPart", "()Z"⟩, 35), (⟨"BirthWeeksModel", "nameOf", "(I)I"⟩, 35), (⟨"BirthWeeksModel", "settle", "(I)V"⟩, 35), (⟨"BirthWeeksModel", "notsOpen", "()I"⟩, 35), (⟨"BirthWeeksModel", "signHere", "()I"⟩, 35), (⟨"BirthWeeksModel", "fairs", "()I"⟩, 35)]
theorem lw_r4 : ∀ q ∈ lw_privs_4, lw_okq q := List.forall_mem_cons.mpr ⟨lw_p48, List.forall_mem_cons.mpr ⟨lw_p49, List.forall_mem_cons.mpr ⟨lw_p50, List.forall_mem_cons.mpr ⟨lw_p51, List.forall_mem_cons.mpr ⟨lw_p52, List.forall_mem_cons.mpr ⟨lw_p53, fun _ h => absurd h List.not_mem_nil⟩⟩⟩⟩⟩⟩
def lw_privs : List (MethodName × Nat) := lw_privs_1 ++ (lw_privs_2 ++ (lw_privs_3 ++ (lw_privs_4)))
def lw_tbl : List Cond := k2_sels lw_privs ++ tables_1
theorem lw_privs_ok : ∀ q ∈ lw_privs, lw_okq q := by
  show ∀ q ∈ lw_privs_1 ++ (lw_privs_2 ++ (lw_privs_3 ++ (lw_privs_4))), lw_okq q
  exact List.forall_mem_append.mpr ⟨lw_r1, List.forall_mem_append.mpr ⟨lw_r2, List.forall_mem_append.mpr ⟨lw_r3, lw_r4⟩⟩⟩
end
section
def RX0 : String := "BirthWeeks$District"
def TX0 : u_T := fun k => match k with
  | 0 => ("BirthWeeks$District", "kind", "I", false)
  | 1 => ("BirthWeeks$District", "rate", "I", false)
  | 2 => ("BirthWeeks$District", "week", "I", false)
  | 3 => ("BirthWeeks$District", "length", "I", false)
  | 4 => ("BirthWeeks$District", "place", "I", false)
  | 5 => ("BirthWeeks$District", "born", "I", false)
  | 6 => ("BirthWeeks$District", "hidden", "I", false)
  | _ => ("BirthWeeks$District", "purse", "I", false)
def tyX0 : Nat → FieldType := fun k => match k with
  | 0 => .int
  | 1 => .int
  | 2 => .int
  | 3 => .int
  | 4 => .int
  | 5 => .int
  | 6 => .int
  | _ => .int
theorem nmX0 : ∀ a, a < 8 → ∀ b, b < 8 → a ≠ b → (TX0 a).2.1 ≠ (TX0 b).2.1 := by decide +kernel
theorem tyX0_ok : ∀ k, k < 8 → parseFieldDescriptor (TX0 k).2.2.1 = some (tyX0 k) := by decide +kernel
abbrev cX0_init : ByteArray := prog_2_method_1_code
def yX0_init : MethodName := ⟨RX0, "<init>", "()V"⟩
abbrev cX0_becomeNew : ByteArray := prog_2_method_2_code
def yX0_becomeNew : MethodName := ⟨RX0, "becomeNew", "(II)V"⟩
abbrev cX0_becomeLike : ByteArray := prog_2_method_3_code
def yX0_becomeLike : MethodName := ⟨RX0, "becomeLike", "(LBirthWeeks$District;)V"⟩
abbrev cX0_isOf : ByteArray := prog_2_method_4_code
def yX0_isOf : MethodName := ⟨RX0, "isOf", "(I)Z"⟩
abbrev cX0_worth : ByteArray := prog_2_method_5_code
def yX0_worth : MethodName := ⟨RX0, "worth", "()I"⟩
abbrev cX0_birthsByKind : ByteArray := prog_2_method_6_code
def yX0_birthsByKind : MethodName := ⟨RX0, "birthsByKind", "(I)I"⟩
abbrev cX0_hideOne : ByteArray := prog_2_method_7_code
def yX0_hideOne : MethodName := ⟨RX0, "hideOne", "()V"⟩
abbrev cX0_beginWeek : ByteArray := prog_2_method_8_code
def yX0_beginWeek : MethodName := ⟨RX0, "beginWeek", "()V"⟩
def RX1 : String := "BirthWeeks$Law"
def TX1 : u_T := fun k => match k with
  | 0 => ("BirthWeeks$Law", "key", "I", false)
  | 1 => ("BirthWeeks$Law", "atoms", "I", false)
  | 2 => ("BirthWeeks$Law", "size", "I", false)
  | _ => ("BirthWeeks$Law", "steps", "[I", true)
def tyX1 : Nat → FieldType := fun k => match k with
  | 0 => .int
  | 1 => .int
  | 2 => .int
  | _ => .array .int
theorem nmX1 : ∀ a, a < 4 → ∀ b, b < 4 → a ≠ b → (TX1 a).2.1 ≠ (TX1 b).2.1 := by decide +kernel
theorem tyX1_ok : ∀ k, k < 4 → parseFieldDescriptor (TX1 k).2.2.1 = some (tyX1 k) := by decide +kernel
abbrev cX1_init : ByteArray := prog_3_method_1_code
def yX1_init : MethodName := ⟨RX1, "<init>", "()V"⟩
abbrev cX1_becomeNew : ByteArray := prog_3_method_2_code
def yX1_becomeNew : MethodName := ⟨RX1, "becomeNew", "(I)V"⟩
abbrev cX1_becomeLike : ByteArray := prog_3_method_3_code
def yX1_becomeLike : MethodName := ⟨RX1, "becomeLike", "(LBirthWeeks$Law;)V"⟩
abbrev cX1_addAtom : ByteArray := prog_3_method_4_code
def yX1_addAtom : MethodName := ⟨RX1, "addAtom", "(I)V"⟩
abbrev cX1_addSign : ByteArray := prog_3_method_5_code
def yX1_addSign : MethodName := ⟨RX1, "addSign", "(I)V"⟩
abbrev cX1_addStep : ByteArray := prog_3_method_6_code
def yX1_addStep : MethodName := ⟨RX1, "addStep", "(I)V"⟩
def RX2 : String := "BirthWeeks$Reader"
def TX2 : u_T := fun k => match k with
  | 0 => ("BirthWeeks$Reader", "bytes", "[B", false)
  | 1 => ("BirthWeeks$Reader", "length", "I", false)
  | 2 => ("BirthWeeks$Reader", "law", "LBirthWeeks$Law;", false)
  | 3 => ("BirthWeeks$Reader", "token", "I", false)
  | 4 => ("BirthWeeks$Reader", "start", "I", false)
  | 5 => ("BirthWeeks$Reader", "stop", "I", false)
  | _ => ("BirthWeeks$Reader", "lacksBlank", "Z", false)
def tyX2 : Nat → FieldType := fun k => match k with
  | 0 => .array .byte
  | 1 => .int
  | 2 => .object "BirthWeeks$Law"
  | 3 => .int
  | 4 => .int
  | 5 => .int
  | _ => .boolean
theorem nmX2 : ∀ a, a < 7 → ∀ b, b < 7 → a ≠ b → (TX2 a).2.1 ≠ (TX2 b).2.1 := by decide +kernel
theorem tyX2_ok : ∀ k, k < 7 → parseFieldDescriptor (TX2 k).2.2.1 = some (tyX2 k) := by decide +kernel
abbrev cX2_init : ByteArray := prog_4_method_1_code
def yX2_init : MethodName := ⟨RX2, "<init>", "()V"⟩
abbrev cX2_understands : ByteArray := prog_4_method_2_code
def yX2_understands : MethodName := ⟨RX2, "understands", "([BILBirthWeeks$Law;)Z"⟩
abbrev cX2_takesLevel : ByteArray := prog_4_method_3_code
def yX2_takesLevel : MethodName := ⟨RX2, "takesLevel", "(III)Z"⟩
abbrev cX2_takesPiece : ByteArray := prog_4_method_4_code
def yX2_takesPiece : MethodName := ⟨RX2, "takesPiece", "(II)Z"⟩
abbrev cX2_takesNumber : ByteArray := prog_4_method_5_code
def yX2_takesNumber : MethodName := ⟨RX2, "takesNumber", "()Z"⟩
abbrev cX2_takesName : ByteArray := prog_4_method_6_code
def yX2_takesName : MethodName := ⟨RX2, "takesName", "()Z"⟩
abbrev cX2_takesNot : ByteArray := prog_4_method_7_code
def yX2_takesNot : MethodName := ⟨RX2, "takesNot", "(II)Z"⟩
abbrev cX2_takesInner : ByteArray := prog_4_method_8_code
def yX2_takesInner : MethodName := ⟨RX2, "takesInner", "(II)Z"⟩
abbrev cX2_levelOf : ByteArray := prog_4_method_9_code
def yX2_levelOf : MethodName := ⟨RX2, "levelOf", "(I)I"⟩
abbrev cX2_namesOf : ByteArray := prog_4_method_10_code
def yX2_namesOf : MethodName := ⟨RX2, "namesOf", "(I)Ljava/lang/String;"⟩
abbrev cX2_keyHere : ByteArray := prog_4_method_11_code
def yX2_keyHere : MethodName := ⟨RX2, "keyHere", "()I"⟩
abbrev cX2_spells : ByteArray := prog_4_method_12_code
def yX2_spells : MethodName := ⟨RX2, "spells", "(Ljava/lang/String;)Z"⟩
abbrev cX2_goOn : ByteArray := prog_4_method_13_code
def yX2_goOn : MethodName := ⟨RX2, "goOn", "()V"⟩
abbrev cX2_sortOf : ByteArray := prog_4_method_14_code
def yX2_sortOf : MethodName := ⟨RX2, "sortOf", "(I)I"⟩
abbrev cX2_byteAt : ByteArray := prog_4_method_15_code
def yX2_byteAt : MethodName := ⟨RX2, "byteAt", "(I)I"⟩
def RX3 : String := "BirthWeeks$Reckoner"
def TX3 : u_T := fun k => match k with
  | _ => ("BirthWeeks$Reckoner", "stack", "[I", true)
def tyX3 : Nat → FieldType := fun k => match k with
  | _ => .array .int
theorem nmX3 : ∀ a, a < 1 → ∀ b, b < 1 → a ≠ b → (TX3 a).2.1 ≠ (TX3 b).2.1 := by decide +kernel
theorem tyX3_ok : ∀ k, k < 1 → parseFieldDescriptor (TX3 k).2.2.1 = some (tyX3 k) := by decide +kernel
abbrev cX3_init : ByteArray := prog_5_method_1_code
def yX3_init : MethodName := ⟨RX3, "<init>", "()V"⟩
abbrev cX3_gives : ByteArray := prog_5_method_2_code
def yX3_gives : MethodName := ⟨RX3, "gives", "(LBirthWeeks$Law;III)I"⟩
abbrev cX3_named : ByteArray := prog_5_method_3_code
def yX3_named : MethodName := ⟨RX3, "named", "(IIII)I"⟩
abbrev cX3_joined : ByteArray := prog_5_method_4_code
def yX3_joined : MethodName := ⟨RX3, "joined", "(III)I"⟩
def RX4 : String := "BirthWeeks$Sheet"
def TX4 : u_T := fun k => match k with
  | 0 => ("BirthWeeks$Sheet", "sort", "I", false)
  | 1 => ("BirthWeeks$Sheet", "size", "I", false)
  | _ => ("BirthWeeks$Sheet", "places", "[I", true)
def tyX4 : Nat → FieldType := fun k => match k with
  | 0 => .int
  | 1 => .int
  | _ => .array .int
theorem nmX4 : ∀ a, a < 3 → ∀ b, b < 3 → a ≠ b → (TX4 a).2.1 ≠ (TX4 b).2.1 := by decide +kernel
theorem tyX4_ok : ∀ k, k < 3 → parseFieldDescriptor (TX4 k).2.2.1 = some (tyX4 k) := by decide +kernel
abbrev cX4_init : ByteArray := prog_6_method_1_code
def yX4_init : MethodName := ⟨RX4, "<init>", "()V"⟩
abbrev cX4_become : ByteArray := prog_6_method_2_code
def yX4_become : MethodName := ⟨RX4, "become", "(II)V"⟩
abbrev cX4_becomeLike : ByteArray := prog_6_method_3_code
def yX4_becomeLike : MethodName := ⟨RX4, "becomeLike", "(LBirthWeeks$Sheet;)V"⟩
abbrev cX4_isMissing : ByteArray := prog_6_method_4_code
def yX4_isMissing : MethodName := ⟨RX4, "isMissing", "()Z"⟩
abbrev cX4_has : ByteArray := prog_6_method_5_code
def yX4_has : MethodName := ⟨RX4, "has", "(I)Z"⟩
abbrev cX4_hasRun : ByteArray := prog_6_method_6_code
def yX4_hasRun : MethodName := ⟨RX4, "hasRun", "(II)Z"⟩
abbrev cX4_isNumberAt : ByteArray := prog_6_method_7_code
def yX4_isNumberAt : MethodName := ⟨RX4, "isNumberAt", "(I)Z"⟩
abbrev cX4_hasNumberBehind : ByteArray := prog_6_method_8_code
def yX4_hasNumberBehind : MethodName := ⟨RX4, "hasNumberBehind", "(I)Z"⟩
def RX5 : String := "BirthWeeks$Slot"
def TX5 : u_T := fun k => match k with
  | 0 => ("BirthWeeks$Slot", "thing", "I", false)
  | 1 => ("BirthWeeks$Slot", "number", "I", false)
  | 2 => ("BirthWeeks$Slot", "district", "LBirthWeeks$District;", true)
  | _ => ("BirthWeeks$Slot", "sheet", "LBirthWeeks$Sheet;", true)
def tyX5 : Nat → FieldType := fun k => match k with
  | 0 => .int
  | 1 => .int
  | 2 => .object "BirthWeeks$District"
  | _ => .object "BirthWeeks$Sheet"
theorem nmX5 : ∀ a, a < 4 → ∀ b, b < 4 → a ≠ b → (TX5 a).2.1 ≠ (TX5 b).2.1 := by decide +kernel
theorem tyX5_ok : ∀ k, k < 4 → parseFieldDescriptor (TX5 k).2.2.1 = some (tyX5 k) := by decide +kernel
abbrev cX5_init : ByteArray := prog_7_method_1_code
def yX5_init : MethodName := ⟨RX5, "<init>", "()V"⟩
def RX6 : String := "BirthWeeks$World"
def TX6 : u_T := fun k => match k with
  | 0 => ("BirthWeeks$World", "districts", "[LBirthWeeks$District;", true)
  | 1 => ("BirthWeeks$World", "counting", "[I", true)
  | 2 => ("BirthWeeks$World", "laws", "[LBirthWeeks$Law;", true)
  | 3 => ("BirthWeeks$World", "reckoner", "LBirthWeeks$Reckoner;", true)
  | 4 => ("BirthWeeks$World", "many", "I", false)
  | 5 => ("BirthWeeks$World", "day", "I", false)
  | 6 => ("BirthWeeks$World", "wage", "I", false)
  | 7 => ("BirthWeeks$World", "rent", "I", false)
  | 8 => ("BirthWeeks$World", "fair", "I", false)
  | 9 => ("BirthWeeks$World", "z", "I", false)
  | _ => ("BirthWeeks$World", "texts", "I", false)
def tyX6 : Nat → FieldType := fun k => match k with
  | 0 => .array (.object "BirthWeeks$District")
  | 1 => .array .int
  | 2 => .array (.object "BirthWeeks$Law")
  | 3 => .object "BirthWeeks$Reckoner"
  | 4 => .int
  | 5 => .int
  | 6 => .int
  | 7 => .int
  | 8 => .int
  | 9 => .int
  | _ => .int
theorem nmX6 : ∀ a, a < 11 → ∀ b, b < 11 → a ≠ b → (TX6 a).2.1 ≠ (TX6 b).2.1 := by decide +kernel
theorem tyX6_ok : ∀ k, k < 11 → parseFieldDescriptor (TX6 k).2.2.1 = some (tyX6 k) := by decide +kernel
abbrev cX6_init : ByteArray := prog_8_method_1_code
def yX6_init : MethodName := ⟨RX6, "<init>", "([LBirthWeeks$Law;)V"⟩
abbrev cX6_becomeLike : ByteArray := prog_8_method_2_code
def yX6_becomeLike : MethodName := ⟨RX6, "becomeLike", "(LBirthWeeks$World;)V"⟩
abbrev cX6_has : ByteArray := prog_8_method_3_code
def yX6_has : MethodName := ⟨RX6, "has", "(I)Z"⟩
abbrev cX6_addDistrict : ByteArray := prog_8_method_4_code
def yX6_addDistrict : MethodName := ⟨RX6, "addDistrict", "(II)V"⟩
abbrev cX6_addLaw : ByteArray := prog_8_method_5_code
def yX6_addLaw : MethodName := ⟨RX6, "addLaw", "(LBirthWeeks$Law;)I"⟩
abbrev cX6_lawFor : ByteArray := prog_8_method_6_code
def yX6_lawFor : MethodName := ⟨RX6, "lawFor", "(I)LBirthWeeks$Law;"⟩
abbrev cX6_draw : ByteArray := prog_8_method_7_code
def yX6_draw : MethodName := ⟨RX6, "draw", "()I"⟩
abbrev cX6_fairAt : ByteArray := prog_8_method_8_code
def yX6_fairAt : MethodName := ⟨RX6, "fairAt", "(I)I"⟩
abbrev cX6_fairs : ByteArray := prog_8_method_9_code
def yX6_fairs : MethodName := ⟨RX6, "fairs", "()I"⟩
abbrev cX6_pursesOfAll : ByteArray := prog_8_method_10_code
def yX6_pursesOfAll : MethodName := ⟨RX6, "pursesOfAll", "()I"⟩
abbrev cX6_bornOfAll : ByteArray := prog_8_method_11_code
def yX6_bornOfAll : MethodName := ⟨RX6, "bornOfAll", "()I"⟩
abbrev cX6_birthsOf : ByteArray := prog_8_method_12_code
def yX6_birthsOf : MethodName := ⟨RX6, "birthsOf", "(LBirthWeeks$District;I)I"⟩
abbrev cX6_wageOf : ByteArray := prog_8_method_13_code
def yX6_wageOf : MethodName := ⟨RX6, "wageOf", "(LBirthWeeks$District;)I"⟩
abbrev cX6_liveDay : ByteArray := prog_8_method_14_code
def yX6_liveDay : MethodName := ⟨RX6, "liveDay", "(I)I"⟩
abbrev cX6_dayOf : ByteArray := prog_8_method_15_code
def yX6_dayOf : MethodName := ⟨RX6, "dayOf", "(LBirthWeeks$District;I)I"⟩
def RX7 : String := "BirthWeeks"
def TX7 : u_T := fun k => match k with
  | 0 => ("BirthWeeks", "laws", "[LBirthWeeks$Law;", true)
  | 1 => ("BirthWeeks", "now", "LBirthWeeks$World;", true)
  | 2 => ("BirthWeeks", "image", "LBirthWeeks$World;", true)
  | 3 => ("BirthWeeks", "thought", "LBirthWeeks$World;", true)
  | 4 => ("BirthWeeks", "imageKept", "Z", false)
  | 5 => ("BirthWeeks", "tape", "[B", true)
  | 6 => ("BirthWeeks", "tapeLength", "I", false)
  | 7 => ("BirthWeeks", "reader", "LBirthWeeks$Reader;", true)
  | 8 => ("BirthWeeks", "draft", "LBirthWeeks$Law;", true)
  | 9 => ("BirthWeeks", "sheets", "[LBirthWeeks$Sheet;", true)
  | 10 => ("BirthWeeks", "slots", "[LBirthWeeks$Slot;", true)
  | 11 => ("BirthWeeks", "waiting", "[I", true)
  | 12 => ("BirthWeeks", "waitingMany", "I", false)
  | 13 => ("BirthWeeks", "seen", "[I", false)
  | _ => ("BirthWeeks", "seenNext", "[I", false)
def tyX7 : Nat → FieldType := fun k => match k with
  | 0 => .array (.object "BirthWeeks$Law")
  | 1 => .object "BirthWeeks$World"
  | 2 => .object "BirthWeeks$World"
  | 3 => .object "BirthWeeks$World"
  | 4 => .boolean
  | 5 => .array .byte
  | 6 => .int
  | 7 => .object "BirthWeeks$Reader"
  | 8 => .object "BirthWeeks$Law"
  | 9 => .array (.object "BirthWeeks$Sheet")
  | 10 => .array (.object "BirthWeeks$Slot")
  | 11 => .array .int
  | 12 => .int
  | 13 => .array .int
  | _ => .array .int
theorem nmX7 : ∀ a, a < 15 → ∀ b, b < 15 → a ≠ b → (TX7 a).2.1 ≠ (TX7 b).2.1 := by decide +kernel
theorem tyX7_ok : ∀ k, k < 15 → parseFieldDescriptor (TX7 k).2.2.1 = some (tyX7 k) := by decide +kernel
abbrev cX7_init : ByteArray := prog_1_method_1_code
def yX7_init : MethodName := ⟨RX7, "<init>", "()V"⟩
abbrev cX7_district : ByteArray := prog_1_method_2_code
def yX7_district : MethodName := ⟨RX7, "district", "(II)I"⟩
abbrev cX7_told : ByteArray := prog_1_method_3_code
def yX7_told : MethodName := ⟨RX7, "told", "(II)I"⟩
abbrev cX7_births : ByteArray := prog_1_method_4_code
def yX7_births : MethodName := ⟨RX7, "births", "(II)I"⟩
abbrev cX7_as : ByteArray := prog_1_method_5_code
def yX7_as : MethodName := ⟨RX7, "as", "(II)I"⟩
abbrev cX7_turns : ByteArray := prog_1_method_6_code
def yX7_turns : MethodName := ⟨RX7, "turns", "(II)I"⟩
abbrev cX7_set : ByteArray := prog_1_method_7_code
def yX7_set : MethodName := ⟨RX7, "set", "(III)I"⟩
abbrev cX7_hide : ByteArray := prog_1_method_8_code
def yX7_hide : MethodName := ⟨RX7, "hide", "(I)I"⟩
abbrev cX7_rule : ByteArray := prog_1_method_9_code
def yX7_rule : MethodName := ⟨RX7, "rule", "(II)I"⟩
abbrev cX7_deal : ByteArray := prog_1_method_10_code
def yX7_deal : MethodName := ⟨RX7, "deal", "(I)I"⟩
abbrev cX7_seed : ByteArray := prog_1_method_11_code
def yX7_seed : MethodName := ⟨RX7, "seed", "(I)I"⟩
abbrev cX7_days : ByteArray := prog_1_method_12_code
def yX7_days : MethodName := ⟨RX7, "days", "(I)I"⟩
abbrev cX7_behind : ByteArray := prog_1_method_13_code
def yX7_behind : MethodName := ⟨RX7, "behind", "(III)I"⟩
abbrev cX7_meets : ByteArray := prog_1_method_14_code
def yX7_meets : MethodName := ⟨RX7, "meets", "(II)I"⟩
abbrev cX7_sundays : ByteArray := prog_1_method_15_code
def yX7_sundays : MethodName := ⟨RX7, "sundays", "(II)I"⟩
abbrev cX7_trader : ByteArray := prog_1_method_16_code
def yX7_trader : MethodName := ⟨RX7, "trader", "(II)I"⟩
abbrev cX7_richest : ByteArray := prog_1_method_17_code
def yX7_richest : MethodName := ⟨RX7, "richest", "(I)I"⟩
abbrev cX7_brings : ByteArray := prog_1_method_18_code
def yX7_brings : MethodName := ⟨RX7, "brings", "(II)I"⟩
abbrev cX7_rated : ByteArray := prog_1_method_19_code
def yX7_rated : MethodName := ⟨RX7, "rated", "(III)I"⟩
abbrev cX7_fine : ByteArray := prog_1_method_20_code
def yX7_fine : MethodName := ⟨RX7, "fine", "()I"⟩
abbrev cX7_feed : ByteArray := prog_1_method_21_code
def yX7_feed : MethodName := ⟨RX7, "feed", "(III)I"⟩
abbrev cX7_trim : ByteArray := prog_1_method_22_code
def yX7_trim : MethodName := ⟨RX7, "trim", "(I)I"⟩
abbrev cX7_text : ByteArray := prog_1_method_23_code
def yX7_text : MethodName := ⟨RX7, "text", "()I"⟩
abbrev cX7_textTold : ByteArray := prog_1_method_24_code
def yX7_textTold : MethodName := ⟨RX7, "textTold", "(II)I"⟩
abbrev cX7_why : ByteArray := prog_1_method_25_code
def yX7_why : MethodName := ⟨RX7, "why", "(I)I"⟩
abbrev cX7_sheet : ByteArray := prog_1_method_26_code
def yX7_sheet : MethodName := ⟨RX7, "sheet", "(III)I"⟩
abbrev cX7_mark : ByteArray := prog_1_method_27_code
def yX7_mark : MethodName := ⟨RX7, "mark", "(III)I"⟩
abbrev cX7_pour : ByteArray := prog_1_method_28_code
def yX7_pour : MethodName := ⟨RX7, "pour", "(I)I"⟩
abbrev cX7_reads : ByteArray := prog_1_method_29_code
def yX7_reads : MethodName := ⟨RX7, "reads", "(II)I"⟩
abbrev cX7_copy : ByteArray := prog_1_method_30_code
def yX7_copy : MethodName := ⟨RX7, "copy", "(IIIII)I"⟩
abbrev cX7_lay : ByteArray := prog_1_method_31_code
def yX7_lay : MethodName := ⟨RX7, "lay", "(III)I"⟩
abbrev cX7_ask : ByteArray := prog_1_method_32_code
def yX7_ask : MethodName := ⟨RX7, "ask", "(II)I"⟩
abbrev cX7_item : ByteArray := prog_1_method_33_code
def yX7_item : MethodName := ⟨RX7, "item", "(II)I"⟩
abbrev cX7_rest : ByteArray := prog_1_method_34_code
def yX7_rest : MethodName := ⟨RX7, "rest", "(II)I"⟩
abbrev cX7_tell : ByteArray := prog_1_method_35_code
def yX7_tell : MethodName := ⟨RX7, "tell", "(I)I"⟩
abbrev cX7_check : ByteArray := prog_1_method_36_code
def yX7_check : MethodName := ⟨RX7, "check", "(I)I"⟩
abbrev cX7_keep : ByteArray := prog_1_method_37_code
def yX7_keep : MethodName := ⟨RX7, "keep", "()I"⟩
abbrev cX7_back : ByteArray := prog_1_method_38_code
def yX7_back : MethodName := ⟨RX7, "back", "()I"⟩
abbrev cX7_count : ByteArray := prog_1_method_39_code
def yX7_count : MethodName := ⟨RX7, "count", "(I)I"⟩
abbrev cX7_within : ByteArray := prog_1_method_40_code
def yX7_within : MethodName := ⟨RX7, "within", "(III)Z"⟩
abbrev cX7_held : ByteArray := prog_1_method_41_code
def yX7_held : MethodName := ⟨RX7, "held", "(III)I"⟩
abbrev cX7_isKind : ByteArray := prog_1_method_42_code
def yX7_isKind : MethodName := ⟨RX7, "isKind", "(I)Z"⟩
abbrev cX7_isSheet : ByteArray := prog_1_method_43_code
def yX7_isSheet : MethodName := ⟨RX7, "isSheet", "(I)Z"⟩
abbrev cX7_isSlot : ByteArray := prog_1_method_44_code
def yX7_isSlot : MethodName := ⟨RX7, "isSlot", "(I)Z"⟩
abbrev cX7_only : ByteArray := prog_1_method_45_code
def yX7_only : MethodName := ⟨RX7, "only", "(I)I"⟩
abbrev cX7_thinkFromNow : ByteArray := prog_1_method_46_code
def yX7_thinkFromNow : MethodName := ⟨RX7, "thinkFromNow", "()V"⟩
abbrev cX7_thinkOn : ByteArray := prog_1_method_47_code
def yX7_thinkOn : MethodName := ⟨RX7, "thinkOn", "(II)V"⟩
abbrev cX7_tradeOneDay : ByteArray := prog_1_method_48_code
def yX7_tradeOneDay : MethodName := ⟨RX7, "tradeOneDay", "()V"⟩
abbrev cX7_mostSeenAt : ByteArray := prog_1_method_49_code
def yX7_mostSeenAt : MethodName := ⟨RX7, "mostSeenAt", "()I"⟩
abbrev cX7_differences : ByteArray := prog_1_method_50_code
def yX7_differences : MethodName := ⟨RX7, "differences", "(LBirthWeeks$Sheet;II)I"⟩
abbrev cX7_thinkTillNextWeek : ByteArray := prog_1_method_51_code
def yX7_thinkTillNextWeek : MethodName := ⟨RX7, "thinkTillNextWeek", "(I)V"⟩
abbrev cX7_feedOne : ByteArray := prog_1_method_52_code
def yX7_feedOne : MethodName := ⟨RX7, "feedOne", "(I)V"⟩
abbrev cX7_stands : ByteArray := prog_1_method_53_code
def yX7_stands : MethodName := ⟨RX7, "stands", "(III)Z"⟩
def RX8 : String := "BirthWeeksModel"
def TX8 : u_T := fun k => match k with
  | 0 => ("BirthWeeksModel", "now", "[I", true)
  | 1 => ("BirthWeeksModel", "image", "[I", true)
  | 2 => ("BirthWeeksModel", "aside", "[I", true)
  | 3 => ("BirthWeeksModel", "hasImage", "Z", false)
  | 4 => ("BirthWeeksModel", "before", "[I", true)
  | 5 => ("BirthWeeksModel", "most", "[I", true)
  | 6 => ("BirthWeeksModel", "then", "[I", true)
  | 7 => ("BirthWeeksModel", "tape", "[I", true)
  | 8 => ("BirthWeeksModel", "taped", "I", false)
  | 9 => ("BirthWeeksModel", "next", "I", false)
  | 10 => ("BirthWeeksModel", "from", "I", false)
  | 11 => ("BirthWeeksModel", "token", "I", false)
  | 12 => ("BirthWeeksModel", "value", "I", false)
  | 13 => ("BirthWeeksModel", "ended", "I", false)
  | 14 => ("BirthWeeksModel", "key", "I", false)
  | 15 => ("BirthWeeksModel", "keys", "[C", true)
  | 16 => ("BirthWeeksModel", "keyAt", "[I", true)
  | 17 => ("BirthWeeksModel", "code", "[I", true)
  | 18 => ("BirthWeeksModel", "codes", "I", false)
  | 19 => ("BirthWeeksModel", "atoms", "I", false)
  | 20 => ("BirthWeeksModel", "waits", "[I", true)
  | 21 => ("BirthWeeksModel", "held", "I", false)
  | 22 => ("BirthWeeksModel", "tested", "[Z", true)
  | 23 => ("BirthWeeksModel", "stack", "[I", true)
  | 24 => ("BirthWeeksModel", "facts", "[I", true)
  | 25 => ("BirthWeeksModel", "sorts", "[I", true)
  | 26 => ("BirthWeeksModel", "sizes", "[I", true)
  | 27 => ("BirthWeeksModel", "cells", "[I", true)
  | 28 => ("BirthWeeksModel", "holds", "[I", true)
  | 29 => ("BirthWeeksModel", "holdsA", "[I", true)
  | 30 => ("BirthWeeksModel", "holdsB", "[I", true)
  | 31 => ("BirthWeeksModel", "heldCells", "[I", true)
  | 32 => ("BirthWeeksModel", "moved", "[I", true)
  | 33 => ("BirthWeeksModel", "tells", "[I", true)
  | _ => ("BirthWeeksModel", "waiting", "I", false)
def tyX8 : Nat → FieldType := fun k => match k with
  | 0 => .array .int
  | 1 => .array .int
  | 2 => .array .int
  | 3 => .boolean
  | 4 => .array .int
  | 5 => .array .int
  | 6 => .array .int
  | 7 => .array .int
  | 8 => .int
  | 9 => .int
  | 10 => .int
  | 11 => .int
  | 12 => .int
  | 13 => .int
  | 14 => .int
  | 15 => .array .char
  | 16 => .array .int
  | 17 => .array .int
  | 18 => .int
  | 19 => .int
  | 20 => .array .int
  | 21 => .int
  | 22 => .array .boolean
  | 23 => .array .int
  | 24 => .array .int
  | 25 => .array .int
  | 26 => .array .int
  | 27 => .array .int
  | 28 => .array .int
  | 29 => .array .int
  | 30 => .array .int
  | 31 => .array .int
  | 32 => .array .int
  | 33 => .array .int
  | _ => .int
theorem nmX8 : ∀ a, a < 35 → ∀ b, b < 35 → a ≠ b → (TX8 a).2.1 ≠ (TX8 b).2.1 := by decide +kernel
theorem tyX8_ok : ∀ k, k < 35 → parseFieldDescriptor (TX8 k).2.2.1 = some (tyX8 k) := by decide +kernel
abbrev cX8_init : ByteArray := prog_10_method_1_code
def yX8_init : MethodName := ⟨RX8, "<init>", "()V"⟩
abbrev cX8_in : ByteArray := prog_10_method_2_code
def yX8_in : MethodName := ⟨RX8, "in", "(III)Z"⟩
abbrev cX8_within : ByteArray := prog_10_method_3_code
def yX8_within : MethodName := ⟨RX8, "within", "(III)I"⟩
abbrev cX8_copyAll : ByteArray := prog_10_method_4_code
def yX8_copyAll : MethodName := ⟨RX8, "copyAll", "([I[I)V"⟩
abbrev cX8_isDistrict : ByteArray := prog_10_method_5_code
def yX8_isDistrict : MethodName := ⟨RX8, "isDistrict", "(I)Z"⟩
abbrev cX8_of : ByteArray := prog_10_method_6_code
def yX8_of : MethodName := ⟨RX8, "of", "(II)I"⟩
abbrev cX8_put : ByteArray := prog_10_method_7_code
def yX8_put : MethodName := ⟨RX8, "put", "(III)V"⟩
abbrev cX8_becomes : ByteArray := prog_10_method_8_code
def yX8_becomes : MethodName := ⟨RX8, "becomes", "(II)I"⟩
abbrev cX8_comes : ByteArray := prog_10_method_9_code
def yX8_comes : MethodName := ⟨RX8, "comes", "(II)I"⟩
abbrev cX8_district : ByteArray := prog_10_method_10_code
def yX8_district : MethodName := ⟨RX8, "district", "(II)I"⟩
abbrev cX8_worthOf : ByteArray := prog_10_method_11_code
def yX8_worthOf : MethodName := ⟨RX8, "worthOf", "(I)I"⟩
abbrev cX8_isFair : ByteArray := prog_10_method_12_code
def yX8_isFair : MethodName := ⟨RX8, "isFair", "(I)Z"⟩
abbrev cX8_told : ByteArray := prog_10_method_13_code
def yX8_told : MethodName := ⟨RX8, "told", "(II)I"⟩
abbrev cX8_birthsOf : ByteArray := prog_10_method_14_code
def yX8_birthsOf : MethodName := ⟨RX8, "birthsOf", "(II)I"⟩
abbrev cX8_births : ByteArray := prog_10_method_15_code
def yX8_births : MethodName := ⟨RX8, "births", "(II)I"⟩
abbrev cX8_isUnder : ByteArray := prog_10_method_16_code
def yX8_isUnder : MethodName := ⟨RX8, "isUnder", "(II)Z"⟩
abbrev cX8_as : ByteArray := prog_10_method_17_code
def yX8_as : MethodName := ⟨RX8, "as", "(II)I"⟩
abbrev cX8_turns : ByteArray := prog_10_method_18_code
def yX8_turns : MethodName := ⟨RX8, "turns", "(II)I"⟩
abbrev cX8_set : ByteArray := prog_10_method_19_code
def yX8_set : MethodName := ⟨RX8, "set", "(III)I"⟩
abbrev cX8_hides : ByteArray := prog_10_method_20_code
def yX8_hides : MethodName := ⟨RX8, "hides", "(I)V"⟩
abbrev cX8_hide : ByteArray := prog_10_method_21_code
def yX8_hide : MethodName := ⟨RX8, "hide", "(I)I"⟩
abbrev cX8_rule : ByteArray := prog_10_method_22_code
def yX8_rule : MethodName := ⟨RX8, "rule", "(II)I"⟩
abbrev cX8_draw : ByteArray := prog_10_method_23_code
def yX8_draw : MethodName := ⟨RX8, "draw", "()I"⟩
abbrev cX8_deal : ByteArray := prog_10_method_24_code
def yX8_deal : MethodName := ⟨RX8, "deal", "(I)I"⟩
abbrev cX8_seed : ByteArray := prog_10_method_25_code
def yX8_seed : MethodName := ⟨RX8, "seed", "(I)I"⟩
abbrev cX8_wageOf : ByteArray := prog_10_method_26_code
def yX8_wageOf : MethodName := ⟨RX8, "wageOf", "(I)I"⟩
abbrev cX8_weekEnds : ByteArray := prog_10_method_27_code
def yX8_weekEnds : MethodName := ⟨RX8, "weekEnds", "(I)V"⟩
abbrev cX8_day : ByteArray := prog_10_method_28_code
def yX8_day : MethodName := ⟨RX8, "day", "()I"⟩
abbrev cX8_goesOn : ByteArray := prog_10_method_29_code
def yX8_goesOn : MethodName := ⟨RX8, "goesOn", "(I)I"⟩
abbrev cX8_days : ByteArray := prog_10_method_30_code
def yX8_days : MethodName := ⟨RX8, "days", "(I)I"⟩
abbrev cX8_thinks : ByteArray := prog_10_method_31_code
def yX8_thinks : MethodName := ⟨RX8, "thinks", "()V"⟩
abbrev cX8_putsBack : ByteArray := prog_10_method_32_code
def yX8_putsBack : MethodName := ⟨RX8, "putsBack", "()V"⟩
abbrev cX8_behind : ByteArray := prog_10_method_33_code
def yX8_behind : MethodName := ⟨RX8, "behind", "(III)I"⟩
abbrev cX8_meets : ByteArray := prog_10_method_34_code
def yX8_meets : MethodName := ⟨RX8, "meets", "(II)I"⟩
abbrev cX8_sundays : ByteArray := prog_10_method_35_code
def yX8_sundays : MethodName := ⟨RX8, "sundays", "(II)I"⟩
abbrev cX8_trades : ByteArray := prog_10_method_36_code
def yX8_trades : MethodName := ⟨RX8, "trades", "()V"⟩
abbrev cX8_trader : ByteArray := prog_10_method_37_code
def yX8_trader : MethodName := ⟨RX8, "trader", "(II)I"⟩
abbrev cX8_richest : ByteArray := prog_10_method_38_code
def yX8_richest : MethodName := ⟨RX8, "richest", "(I)I"⟩
abbrev cX8_brings : ByteArray := prog_10_method_39_code
def yX8_brings : MethodName := ⟨RX8, "brings", "(II)I"⟩
abbrev cX8_offBy : ByteArray := prog_10_method_40_code
def yX8_offBy : MethodName := ⟨RX8, "offBy", "(III)J"⟩
abbrev cX8_rated : ByteArray := prog_10_method_41_code
def yX8_rated : MethodName := ⟨RX8, "rated", "(III)I"⟩
abbrev cX8_sumOf : ByteArray := prog_10_method_42_code
def yX8_sumOf : MethodName := ⟨RX8, "sumOf", "(I)I"⟩
abbrev cX8_fine : ByteArray := prog_10_method_43_code
def yX8_fine : MethodName := ⟨RX8, "fine", "()I"⟩
abbrev cX8_feed : ByteArray := prog_10_method_44_code
def yX8_feed : MethodName := ⟨RX8, "feed", "(III)I"⟩
abbrev cX8_trim : ByteArray := prog_10_method_45_code
def yX8_trim : MethodName := ⟨RX8, "trim", "(I)I"⟩
abbrev cX8_isLetter : ByteArray := prog_10_method_46_code
def yX8_isLetter : MethodName := ⟨RX8, "isLetter", "(I)Z"⟩
abbrev cX8_isFigure : ByteArray := prog_10_method_47_code
def yX8_isFigure : MethodName := ⟨RX8, "isFigure", "(I)Z"⟩
abbrev cX8_go : ByteArray := prog_10_method_48_code
def yX8_go : MethodName := ⟨RX8, "go", "()V"⟩
abbrev cX8_takesKey : ByteArray := prog_10_method_49_code
def yX8_takesKey : MethodName := ⟨RX8, "takesKey", "()Z"⟩
abbrev cX8_nameOf : ByteArray := prog_10_method_50_code
def yX8_nameOf : MethodName := ⟨RX8, "nameOf", "(I)I"⟩
abbrev cX8_rank : ByteArray := prog_10_method_51_code
def yX8_rank : MethodName := ⟨RX8, "rank", "(I)I"⟩
abbrev cX8_settle : ByteArray := prog_10_method_52_code
def yX8_settle : MethodName := ⟨RX8, "settle", "(I)V"⟩
abbrev cX8_signHere : ByteArray := prog_10_method_53_code
def yX8_signHere : MethodName := ⟨RX8, "signHere", "()I"⟩
abbrev cX8_takesPart : ByteArray := prog_10_method_54_code
def yX8_takesPart : MethodName := ⟨RX8, "takesPart", "()Z"⟩
abbrev cX8_takesE : ByteArray := prog_10_method_55_code
def yX8_takesE : MethodName := ⟨RX8, "takesE", "()Z"⟩
abbrev cX8_notsOpen : ByteArray := prog_10_method_56_code
def yX8_notsOpen : MethodName := ⟨RX8, "notsOpen", "()I"⟩
abbrev cX8_text : ByteArray := prog_10_method_57_code
def yX8_text : MethodName := ⟨RX8, "text", "()I"⟩
abbrev cX8_textTold : ByteArray := prog_10_method_58_code
def yX8_textTold : MethodName := ⟨RX8, "textTold", "(II)I"⟩
abbrev cX8_counts : ByteArray := prog_10_method_59_code
def yX8_counts : MethodName := ⟨RX8, "counts", "(I)I"⟩
abbrev cX8_why : ByteArray := prog_10_method_60_code
def yX8_why : MethodName := ⟨RX8, "why", "(I)I"⟩
abbrev cX8_two : ByteArray := prog_10_method_61_code
def yX8_two : MethodName := ⟨RX8, "two", "(III)I"⟩
abbrev cX8_worksOut : ByteArray := prog_10_method_62_code
def yX8_worksOut : MethodName := ⟨RX8, "worksOut", "(I)I"⟩
abbrev cX8_isSheet : ByteArray := prog_10_method_63_code
def yX8_isSheet : MethodName := ⟨RX8, "isSheet", "(I)Z"⟩
abbrev cX8_isSlot : ByteArray := prog_10_method_64_code
def yX8_isSlot : MethodName := ⟨RX8, "isSlot", "(I)Z"⟩
abbrev cX8_sheet : ByteArray := prog_10_method_65_code
def yX8_sheet : MethodName := ⟨RX8, "sheet", "(III)I"⟩
abbrev cX8_mark : ByteArray := prog_10_method_66_code
def yX8_mark : MethodName := ⟨RX8, "mark", "(III)I"⟩
abbrev cX8_pour : ByteArray := prog_10_method_67_code
def yX8_pour : MethodName := ⟨RX8, "pour", "(I)I"⟩
abbrev cX8_reads : ByteArray := prog_10_method_68_code
def yX8_reads : MethodName := ⟨RX8, "reads", "(II)I"⟩
abbrev cX8_copy : ByteArray := prog_10_method_69_code
def yX8_copy : MethodName := ⟨RX8, "copy", "(IIIII)I"⟩
abbrev cX8_lay : ByteArray := prog_10_method_70_code
def yX8_lay : MethodName := ⟨RX8, "lay", "(III)I"⟩
abbrev cX8_ask : ByteArray := prog_10_method_71_code
def yX8_ask : MethodName := ⟨RX8, "ask", "(II)I"⟩
abbrev cX8_item : ByteArray := prog_10_method_72_code
def yX8_item : MethodName := ⟨RX8, "item", "(II)I"⟩
abbrev cX8_rest : ByteArray := prog_10_method_73_code
def yX8_rest : MethodName := ⟨RX8, "rest", "(II)I"⟩
abbrev cX8_tell : ByteArray := prog_10_method_74_code
def yX8_tell : MethodName := ⟨RX8, "tell", "(I)I"⟩
abbrev cX8_fairs : ByteArray := prog_10_method_75_code
def yX8_fairs : MethodName := ⟨RX8, "fairs", "()I"⟩
abbrev cX8_check : ByteArray := prog_10_method_76_code
def yX8_check : MethodName := ⟨RX8, "check", "(I)I"⟩
abbrev cX8_keep : ByteArray := prog_10_method_77_code
def yX8_keep : MethodName := ⟨RX8, "keep", "()I"⟩
abbrev cX8_back : ByteArray := prog_10_method_78_code
def yX8_back : MethodName := ⟨RX8, "back", "()I"⟩
abbrev cX8_count : ByteArray := prog_10_method_79_code
def yX8_count : MethodName := ⟨RX8, "count", "(I)I"⟩
def RJ11 : String := "java/lang/Character"
def TJ11 : u_T := fun k => match k with
  | _ => ("", "", "", false)
def tyJ11 : Nat → FieldType := fun k => match k with
  | _ => .int
abbrev cJ11_isValidCodePoint_9a6ad : ByteArray := prog_11_method_11_code
def yJ11_isValidCodePoint_9a6ad : MethodName := ⟨RJ11, "isValidCodePoint", "(I)Z"⟩
abbrev cJ11_highSurrogate_5068e : ByteArray := prog_11_method_28_code
def yJ11_highSurrogate_5068e : MethodName := ⟨RJ11, "highSurrogate", "(I)C"⟩
abbrev cJ11_lowSurrogate_5068e : ByteArray := prog_11_method_29_code
def yJ11_lowSurrogate_5068e : MethodName := ⟨RJ11, "lowSurrogate", "(I)C"⟩
def RJ9 : String := "java/lang/Math"
def TJ9 : u_T := fun k => match k with
  | _ => ("", "", "", false)
def tyJ9 : Nat → FieldType := fun k => match k with
  | _ => .int
abbrev cJ9_abs_0f7a4 : ByteArray := prog_12_method_59_code
def yJ9_abs_0f7a4 : MethodName := ⟨RJ9, "abs", "(I)I"⟩
abbrev cJ9_max_7cf53 : ByteArray := prog_12_method_65_code
def yJ9_max_7cf53 : MethodName := ⟨RJ9, "max", "(II)I"⟩
abbrev cJ9_min_7cf53 : ByteArray := prog_12_method_69_code
def yJ9_min_7cf53 : MethodName := ⟨RJ9, "min", "(II)I"⟩
def RJ0 : String := "java/lang/String"
def TJ0 : u_T := fun k => match k with
  | _ => ("", "", "", false)
def tyJ0 : Nat → FieldType := fun k => match k with
  | _ => .int
abbrev cJ0_length_8abf5 : ByteArray := prog_13_method_54_code
def yJ0_length_8abf5 : MethodName := ⟨RJ0, "length", "()I"⟩
abbrev cJ0_charAt_5068e : ByteArray := prog_13_method_56_code
def yJ0_charAt_5068e : MethodName := ⟨RJ0, "charAt", "(I)C"⟩
abbrev cJ0_indexOf_0f7a4 : ByteArray := prog_13_method_79_code
def yJ0_indexOf_0f7a4 : MethodName := ⟨RJ0, "indexOf", "(I)I"⟩
abbrev cJ0_indexOf_7cf53 : ByteArray := prog_13_method_80_code
def yJ0_indexOf_7cf53 : MethodName := ⟨RJ0, "indexOf", "(II)I"⟩
abbrev cJ0_coder_7d493 : ByteArray := prog_13_method_152_code
def yJ0_coder_7d493 : MethodName := ⟨RJ0, "coder", "()B"⟩
abbrev cJ0_isLatin1_aae02 : ByteArray := prog_13_method_154_code
def yJ0_isLatin1_aae02 : MethodName := ⟨RJ0, "isLatin1", "()Z"⟩
abbrev cJ0_checkIndex_df160 : ByteArray := prog_13_method_155_code
def yJ0_checkIndex_df160 : MethodName := ⟨RJ0, "checkIndex", "(II)V"⟩
abbrev cJ0_checkBoundsBeginEnd_23922 : ByteArray := prog_13_method_158_code
def yJ0_checkBoundsBeginEnd_23922 : MethodName := ⟨RJ0, "checkBoundsBeginEnd", "(III)V"⟩
def RJ1 : String := "java/lang/StringLatin1"
def TJ1 : u_T := fun k => match k with
  | _ => ("", "", "", false)
def tyJ1 : Nat → FieldType := fun k => match k with
  | _ => .int
abbrev cJ1_charAt_3b067 : ByteArray := prog_14_method_2_code
def yJ1_charAt_3b067 : MethodName := ⟨RJ1, "charAt", "([BI)C"⟩
abbrev cJ1_canEncode_9a6ad : ByteArray := prog_14_method_4_code
def yJ1_canEncode_9a6ad : MethodName := ⟨RJ1, "canEncode", "(I)Z"⟩
abbrev cJ1_indexOf_4cfef : ByteArray := prog_14_method_22_code
def yJ1_indexOf_4cfef : MethodName := ⟨RJ1, "indexOf", "([BIII)I"⟩
abbrev cJ1_indexOfChar_4cfef : ByteArray := prog_14_method_23_code
def yJ1_indexOfChar_4cfef : MethodName := ⟨RJ1, "indexOfChar", "([BIII)I"⟩
def RJ2 : String := "java/lang/StringUTF16"
def TJ2 : u_T := fun k => match k with
  | _ => ("", "", "", false)
def tyJ2 : Nat → FieldType := fun k => match k with
  | _ => .int
abbrev cJ2_getChar_3b067 : ByteArray := prog_15_method_5_code
def yJ2_getChar_3b067 : MethodName := ⟨RJ2, "getChar", "([BI)C"⟩
abbrev cJ2_length_9d52b : ByteArray := prog_15_method_6_code
def yJ2_length_9d52b : MethodName := ⟨RJ2, "length", "([B)I"⟩
abbrev cJ2_indexOf_4cfef : ByteArray := prog_15_method_40_code
def yJ2_indexOf_4cfef : MethodName := ⟨RJ2, "indexOf", "([BIII)I"⟩
abbrev cJ2_indexOfChar_4cfef : ByteArray := prog_15_method_47_code
def yJ2_indexOfChar_4cfef : MethodName := ⟨RJ2, "indexOfChar", "([BIII)I"⟩
abbrev cJ2_indexOfCharUnsafe_4cfef : ByteArray := prog_15_method_48_code
def yJ2_indexOfCharUnsafe_4cfef : MethodName := ⟨RJ2, "indexOfCharUnsafe", "([BIII)I"⟩
abbrev cJ2_indexOfSupplementary_4cfef : ByteArray := prog_15_method_49_code
def yJ2_indexOfSupplementary_4cfef : MethodName := ⟨RJ2, "indexOfSupplementary", "([BIII)I"⟩
abbrev cJ2_charAt_3b067 : ByteArray := prog_15_method_83_code
def yJ2_charAt_3b067 : MethodName := ⟨RJ2, "charAt", "([BI)C"⟩
abbrev cJ2_checkIndex_2214a : ByteArray := prog_15_method_91_code
def yJ2_checkIndex_2214a : MethodName := ⟨RJ2, "checkIndex", "(I[B)V"⟩
abbrev cJ2_checkBoundsBeginEnd_d044e : ByteArray := prog_15_method_93_code
def yJ2_checkBoundsBeginEnd_d044e : MethodName := ⟨RJ2, "checkBoundsBeginEnd", "(II[B)V"⟩
def RJ10 : String := "java/lang/System"
def TJ10 : u_T := fun k => match k with
  | _ => ("", "", "", false)
def tyJ10 : Nat → FieldType := fun k => match k with
  | _ => .int
def RJ3 : String := "jdk/internal/util/Preconditions"
def TJ3 : u_T := fun k => match k with
  | _ => ("", "", "", false)
def tyJ3 : Nat → FieldType := fun k => match k with
  | _ => .int
abbrev cJ3_checkIndex_8e157 : ByteArray := prog_17_method_11_code
def yJ3_checkIndex_8e157 : MethodName := ⟨RJ3, "checkIndex", "(IILjava/util/function/BiFunction;)I"⟩
abbrev cJ3_checkFromToIndex_8c36e : ByteArray := prog_17_method_12_code
def yJ3_checkFromToIndex_8c36e : MethodName := ⟨RJ3, "checkFromToIndex", "(IIILjava/util/function/BiFunction;)I"⟩
def RL : String := "BirthWeeksLaw"
abbrev cL_law : ByteArray := code
def yL_law : MethodName := ⟨RL, "law", "([I)Z"⟩
abbrev vwCl : List vw_C := [(RX0, TX0, 8), (RX1, TX1, 4), (RX2, TX2, 7), (RX3, TX3, 1), (RX4, TX4, 3), (RX5, TX5, 4), (RX6, TX6, 11), (RX7, TX7, 15), (RX8, TX8, 35)]
end
section
/-! the store: cells by the order of their making; kinds 0-8 objects of vwCl, 9 byte[], 10 char[], 11 int[], 12 boolean[], 13 District[], 14 Law[], 15 Sheet[], 16 Slot[]; with the number of their places -/
def kdL : List (Nat × Nat) := [(7, 15), (9, 96), (2, 7), (9, 0), (1, 4), (11, 96), (1, 4), (11, 96), (15, 4), (16, 5), (11, 60), (11, 6), (11, 6), (14, 14), (1, 4), (11, 96), (1, 4), (11, 96), (1, 4), (11, 96), (1, 4), (11, 96), (1, 4), (11, 96), (1, 4), (11, 96), (1, 4), (11, 96), (1, 4), (11, 96), (1, 4), (11, 96), (1, 4), (11, 96), (1, 4), (11, 96), (1, 4), (11, 96), (1, 4), (11, 96), (1, 4), (11, 96), (4, 3), (11, 24), (4, 3), (11, 24), (4, 3), (11, 24), (4, 3), (11, 24), (5, 4), (0, 8), (4, 3), (11, 24), (5, 4), (0, 8), (4, 3), (11, 24), (5, 4), (0, 8), (4, 3), (11, 24), (5, 4), (0, 8), (4, 3), (11, 24), (5, 4), (0, 8), (4, 3), (11, 24), (6, 11), (13, 6), (11, 3), (3, 1), (11, 96), (0, 8), (0, 8), (0, 8), (0, 8), (0, 8), (0, 8), (6, 11), (13, 6), (11, 3), (3, 1), (11, 96), (0, 8), (0, 8), (0, 8), (0, 8), (0, 8), (0, 8), (6, 11), (13, 6), (11, 3), (3, 1), (11, 96), (0, 8), (0, 8), (0, 8), (0, 8), (0, 8), (0, 8), (8, 35), (11, 1427), (11, 1427), (11, 1427), (11, 55), (11, 6), (11, 6), (11, 96), (10, 13), (11, 4), (11, 96), (11, 96), (12, 10), (11, 96), (11, 4), (11, 4), (11, 4), (11, 96), (11, 5), (11, 5), (11, 5), (11, 120), (11, 24), (11, 60)]
def kd (k : Nat) : Nat × Nat := kdL.getD k (99, 0)
def mx_sz (n : Nat) : Nat := ((kdL.take n).map (fun q => q.2)).sum
/-- what a field holds: (0, _) a number; (1, _) a reference that moves; (2, d) the cell d behind; (3, a) the cell a -/
def ftL : List (List (Nat × Nat)) := [[(0, 0), (0, 0), (0, 0), (0, 0), (0, 0), (0, 0), (0, 0), (0, 0)], [(0, 0), (0, 0), (0, 0), (2, 1)], [(1, 0), (0, 0), (1, 0), (0, 0), (0, 0), (0, 0), (0, 0)], [(2, 1)], [(0, 0), (0, 0), (2, 1)], [(0, 0), (0, 0), (2, 1), (2, 2)], [(2, 1), (2, 2), (3, 13), (2, 3), (0, 0), (0, 0), (0, 0), (0, 0), (0, 0), (0, 0), (0, 0)], [(3, 13), (3, 70), (3, 81), (3, 92), (0, 0), (3, 1), (0, 0), (3, 2), (3, 6), (3, 8), (3, 9), (3, 10), (0, 0), (1, 0), (1, 0)], [(3, 104), (3, 105), (3, 106), (0, 0), (3, 107), (3, 108), (3, 109), (3, 110), (0, 0), (0, 0), (0, 0), (0, 0), (0, 0), (0, 0), (0, 0), (3, 111), (3, 112), (3, 113), (0, 0), (0, 0), (3, 114), (0, 0), (3, 115), (3, 116), (3, 117), (3, 118), (3, 119), (3, 120), (3, 121), (3, 122), (3, 123), (3, 124), (3, 125), (3, 126), (0, 0)]]
def ft (c j : Nat) : Nat × Nat := (ftL.getD c []).getD j (0, 0)
def mx_RC : List String := [RX0, RX1, RX2, RX3, RX4, RX5, RX6, RX7, RX8, RL, RJ0, RJ1, RJ9]
def mx_rc (o : Nat) : String := mx_RC.getD o ""
/-- pool entries: (class, entry, class of the field, its slot) -/
def mx_fl : List (Nat × Nat × Nat × Nat) := [(1, 9, 1, 0), (6, 69, 1, 0), (2, 90, 1, 0), (7, 243, 1, 0), (1, 15, 1, 1), (7, 246, 1, 1), (1, 18, 1, 2), (3, 15, 1, 2), (1, 21, 1, 3), (3, 21, 1, 3), (2, 9, 2, 0), (2, 15, 2, 1), (2, 22, 2, 2), (2, 26, 2, 3), (2, 29, 2, 4), (2, 32, 2, 5), (2, 35, 2, 6), (4, 9, 4, 0), (7, 258, 4, 0), (4, 15, 4, 1), (7, 271, 4, 1), (4, 18, 4, 2), (7, 261, 4, 2), (0, 9, 0, 0), (7, 105, 0, 0), (0, 15, 0, 1), (7, 110, 0, 1), (6, 119, 0, 1), (0, 18, 0, 2), (7, 113, 0, 2), (6, 108, 0, 2), (0, 21, 0, 3), (7, 116, 0, 3), (6, 94, 0, 3), (0, 24, 0, 4), (7, 119, 0, 4), (6, 77, 0, 4), (0, 27, 0, 5), (7, 122, 0, 5), (6, 87, 0, 5), (0, 30, 0, 6), (7, 125, 0, 6), (0, 33, 0, 7), (7, 128, 0, 7), (6, 84, 0, 7), (5, 9, 5, 0), (7, 287, 5, 0), (5, 15, 5, 1), (7, 305, 5, 1), (5, 21, 5, 2), (7, 290, 5, 2), (5, 28, 5, 3), (7, 298, 5, 3), (3, 9, 3, 0), (6, 11, 6, 0), (7, 101, 6, 0), (6, 17, 6, 1), (7, 249, 6, 1), (6, 50, 6, 2), (6, 24, 6, 3), (7, 212, 6, 3), (6, 28, 6, 4), (7, 90, 6, 4), (6, 32, 6, 5), (7, 174, 6, 5), (6, 35, 6, 6), (7, 153, 6, 6), (6, 38, 6, 7), (7, 156, 6, 7), (6, 41, 6, 8), (7, 159, 6, 8), (6, 44, 6, 9), (7, 171, 6, 9), (6, 47, 6, 10), (7, 236, 6, 10), (7, 62, 7, 0), (7, 71, 7, 1), (7, 75, 7, 2), (7, 78, 7, 3), (7, 7, 7, 4), (7, 13, 7, 5), (7, 17, 7, 6), (7, 24, 7, 7), (7, 31, 7, 8), (7, 37, 7, 9), (7, 43, 7, 10), (7, 47, 7, 11), (7, 51, 7, 12), (7, 54, 7, 13), (7, 57, 7, 14), (8, 9, 8, 0), (8, 13, 8, 1), (8, 16, 8, 2), (8, 251, 8, 3), (8, 19, 8, 4), (8, 22, 8, 5), (8, 25, 8, 6), (8, 28, 8, 7), (8, 175, 8, 8), (8, 179, 8, 9), (8, 182, 8, 10), (8, 188, 8, 11), (8, 194, 8, 12), (8, 185, 8, 13), (8, 200, 8, 14), (8, 31, 8, 15), (8, 35, 8, 16), (8, 38, 8, 17), (8, 212, 8, 18), (8, 218, 8, 19), (8, 41, 8, 20), (8, 206, 8, 21), (8, 44, 8, 22), (8, 48, 8, 23), (8, 51, 8, 24), (8, 54, 8, 25), (8, 57, 8, 26), (8, 60, 8, 27), (8, 63, 8, 28), (8, 66, 8, 29), (8, 69, 8, 30), (8, 72, 8, 31), (8, 75, 8, 32), (8, 78, 8, 33), (8, 248, 8, 34)]
def mx_fn : List (Nat × Nat × Nat × Nat) := [(7, 233, 2, 4)]
def mx_ct : List (Nat × Nat × Int32) := [(7, 89, -1000000001), (7, 93, -1000000003), (7, 146, -1000000012), (7, 147, -99999), (7, 148, 99999), (7, 149, -1000000002), (6, 72, 1103515245), (7, 189, -1000000005), (7, 203, -1000000011), (4, 32, -1000000005), (6, 63, -1000000003), (7, 255, -1000000014), (7, 257, -1000000013), (8, 89, -1000000001), (8, 90, -1000000003), (8, 126, -1000000012), (8, 130, -99999), (8, 131, 99999), (8, 132, -1000000002), (8, 137, 1103515245), (8, 160, -1000000005), (8, 167, -1000000011), (8, 243, -1000000014), (8, 244, -1000000013)]
def mx_cl : List (Nat × Nat × Nat) := [(9, 7, 7), (7, 21, 2), (2, 19, 1), (7, 28, 1), (7, 35, 4), (7, 41, 5), (5, 18, 0), (5, 25, 4), (7, 66, 6), (6, 9, 0), (6, 21, 3), (9, 10, 8)]
def mx_wfl (q : Nat × Nat × Nat × Nat) : Cond := match vwCl[q.2.2.1]? with | some r => .fieldLink (mx_rc q.1) q.2.1 (r.2.1 q.2.2.2).1 (r.2.1 q.2.2.2).2.1 (r.2.1 q.2.2.2).2.2.1 | none => .initialized ""
def mx_wfn (q : Nat × Nat × Nat × Nat) : Cond := match vwCl[q.2.2.1]? with | some r => .fieldLinkNest (mx_rc q.1) q.2.1 (r.2.1 q.2.2.2).1 (r.2.1 q.2.2.2).2.1 (r.2.1 q.2.2.2).2.2.1 RX7 | none => .initialized ""
def mx_wct (q : Nat × Nat × Int32) : Cond := .constant (mx_rc q.1) q.2.1 q.2.2
def mx_wcl (q : Nat × Nat × Nat) : Cond := .classLink (mx_rc q.1) q.2.1 (mx_rc q.2.2)
/-- the words that every method has: those of the tables that a call keeps -/
def gw : List Cond := lw_tbl.filter goodWord
def mx_at (i : Nat) (w : Cond) : Bool := (lw_tbl[i]? == some w) && goodWord w
theorem mx_gw {i : Nat} {w : Cond} (h : mx_at i w = true) : w ∈ gw := by
  simp only [mx_at, Bool.and_eq_true, beq_iff_eq] at h
  exact List.mem_filter.mpr ⟨List.mem_of_getElem? h.1, h.2⟩
theorem mx_gwz {α : Type} (f : α → Cond) (is : List Nat) (l : List α) (h : (is.zip l).all (fun q => mx_at q.1 (f q.2)) = true) (hl : l.length ≤ is.length) : ∀ q ∈ l, f q ∈ gw := by
  intro q hq
  obtain ⟨k, hk⟩ := List.getElem?_of_mem hq
  have hlt : k < l.length := (List.getElem?_eq_some_iff.mp hk).1
  have h1 : (is.zip l)[k]? = some (is[k], q) := by
    rw [List.getElem?_zip_eq_some]
    exact ⟨List.getElem?_eq_getElem (by omega), hk⟩
  exact mx_gw (List.all_eq_true.mp h _ (List.mem_of_getElem? h1))
theorem mx_fl_in : ∀ q ∈ mx_fl, mx_wfl q ∈ gw := mx_gwz mx_wfl [91, 92, 93, 94, 95, 96, 97, 98, 99, 100, 112, 113, 114, 115, 116, 118, 119, 147, 148, 149, 150, 151, 152, 171, 172, 173, 174, 175, 176, 177, 178, 179, 180, 181, 182, 183, 184, 185, 186, 187, 188, 189, 190, 191, 192, 212, 213, 214, 215, 216, 217, 218, 219, 243, 248, 249, 250, 251, 252, 253, 254, 255, 256, 257, 258, 259, 260, 261, 262, 263, 264, 265, 266, 267, 268, 292, 293, 294, 295, 296, 297, 298, 299, 300, 301, 302, 303, 304, 305, 306, 895, 896, 897, 898, 899, 900, 901, 902, 903, 904, 905, 906, 907, 908, 909, 910, 911, 912, 913, 914, 915, 916, 917, 918, 919, 920, 921, 922, 923, 924, 925, 926, 927, 928, 929] mx_fl (by decide +kernel) (by decide +kernel)
theorem mx_ct_in : ∀ q ∈ mx_ct, mx_wct q ∈ gw := mx_gwz mx_wct [350, 351, 422, 431, 432, 437, 454, 509, 546, 559, 781, 805, 811, 1010, 1011, 1069, 1082, 1083, 1088, 1105, 1146, 1174, 1254, 1259] mx_ct (by decide +kernel) (by decide +kernel)
theorem mx_cl_in : ∀ q ∈ mx_cl, mx_wcl q ∈ gw := mx_gwz mx_wcl [71, 79, 85, 135, 137, 139, 165, 210, 229, 235, 237, 889] mx_cl (by decide +kernel) (by decide +kernel)
theorem inX0 : ∀ w ∈ u_ws RX0 TX0 8, w ∈ gw := mx_gwz id [193, 195, 197, 199, 201, 203, 205, 207] (u_ws RX0 TX0 8) (by decide +kernel) (by decide +kernel)
theorem inX1 : ∀ w ∈ u_ws RX1 TX1 4, w ∈ gw := mx_gwz id [101, 103, 105, 107] (u_ws RX1 TX1 4) (by decide +kernel) (by decide +kernel)
theorem inX2 : ∀ w ∈ u_ws RX2 TX2 7, w ∈ gw := mx_gwz id [120, 122, 124, 126, 128, 130, 132] (u_ws RX2 TX2 7) (by decide +kernel) (by decide +kernel)
theorem inX3 : ∀ w ∈ u_ws RX3 TX3 1, w ∈ gw := mx_gwz id [244] (u_ws RX3 TX3 1) (by decide +kernel) (by decide +kernel)
theorem inX4 : ∀ w ∈ u_ws RX4 TX4 3, w ∈ gw := mx_gwz id [153, 155, 157] (u_ws RX4 TX4 3) (by decide +kernel) (by decide +kernel)
theorem inX5 : ∀ w ∈ u_ws RX5 TX5 4, w ∈ gw := mx_gwz id [220, 222, 224, 226] (u_ws RX5 TX5 4) (by decide +kernel) (by decide +kernel)
theorem inX6 : ∀ w ∈ u_ws RX6 TX6 11, w ∈ gw := mx_gwz id [269, 271, 273, 275, 277, 279, 281, 283, 285, 287, 289] (u_ws RX6 TX6 11) (by decide +kernel) (by decide +kernel)
theorem inX7 : ∀ w ∈ u_ws RX7 TX7 15, w ∈ gw := mx_gwz id [307, 309, 311, 313, 315, 317, 319, 321, 323, 325, 327, 329, 331, 333, 335] (u_ws RX7 TX7 15) (by decide +kernel) (by decide +kernel)
theorem inX8 : ∀ w ∈ u_ws RX8 TX8 35, w ∈ gw := mx_gwz id [930, 932, 934, 936, 938, 940, 942, 944, 946, 948, 950, 952, 954, 956, 958, 960, 962, 964, 966, 968, 970, 972, 974, 976, 978, 980, 982, 984, 986, 988, 990, 992, 994, 996, 998] (u_ws RX8 TX8 35) (by decide +kernel) (by decide +kernel)
end
section
/-! THE SMALL MACHINE: a method's body over the store M, its locals L and its stack S; 'mx_i' says what one instruction does, as a condition on what comes behind it -/
abbrev Mm : Type := Nat → Nat → Int32
abbrev Lv : Type := List (Option Value)
abbrev Sk : Type := List Value
/-- the heap at the law's start; class numbers and slots; array classes; addresses of what stood there before -/
abbrev Gt : Type := Heap × va_G × (Nat → ClassId) × (Nat → Nat)
def mx_wr (M : Mm) (k j : Nat) (x : Int32) : Mm := fun q => if q = k then (fun i => if i = j then x else M k i) else M q
def mx_NT : Nat := 127
def mx_ad (G : Gt) (k : Nat) : Nat := if k < 1000 then G.1.size + k else G.2.2.2 k
def mx_cv (G : Gt) : Value → Value
  | .ref k => .ref (mx_ad G k)
  | v => v
def mx_rv (x : Int32) : Value := if x = 0 then .null else .ref x.toNatClampNeg
def mx_sv (md : Bool) (t : Nat × Nat) (k : Nat) (x : Int32) : Value := match t with
  | (0, _) => .int x
  | (1, _) => (match md with | true => .ref x.toNatClampNeg | false => mx_rv x)
  | (2, a) => (match md with | true => .ref (k + a) | false => mx_rv x)
  | (_, a) => (match md with | true => .ref a | false => mx_rv x)
/-- where an array of references points, once all is made -/
def mx_el (c k i : Nat) : Nat := match c with
  | 13 => k + 4 + i
  | 14 => 14 + 2 * i
  | 15 => 42 + 2 * i
  | _ => 50 + 4 * i
def mx_ev (md : Bool) (c k j : Nat) (x : Int32) : Value := if c < 13 then .int x else match md with | true => .ref (mx_el c k j) | false => mx_rv x
def mx_cell (G : Gt) (md : Bool) (k : Nat) (r : Nat → Int32) (H : Heap) : Prop :=
  if (kd k).1 < 9 then t_OB (G.1.size + k) (G.2.1.1 (kd k).1) (kd k).2 (G.2.1.2 (kd k).1) H (fun j => mx_cv G (mx_sv md (ft (kd k).1 j) k (r j)))
  else H[G.1.size + k]? = some (arrV (G.2.2.1 (kd k).1) (kd k).2 (fun j => mx_cv G (mx_ev md (kd k).1 k j (r j))))
def mx_H (G : Gt) (md : Bool) (n : Nat) (M : Mm) (H : Heap) : Prop :=
  H.size = G.1.size + n ∧ n ≤ mx_NT ∧ (md = true → n = mx_NT) ∧ (∀ q, q < G.1.size → H[q]? = G.1[q]?) ∧ ∀ k, k < n → mx_cell G md k (M k) H
def mx_tys (G : Gt) : List (ClassId × FieldType) := [(G.2.2.1 9, .byte), (G.2.2.1 10, .char), (G.2.2.1 11, .int), (G.2.2.1 12, .boolean), (G.2.2.1 13, .object RX0), (G.2.2.1 14, .object RX1), (G.2.2.1 15, .object RX4), (G.2.2.1 16, .object RX5)]
/-- a kind of cell: that of k, which is made -/
def mx_in (md : Bool) (c k n : Nat) : Prop := match md with
  | true => (kd k).1 = c
  | false => (kd k).1 = c ∧ k < n
def mx_get : Lv → Nat → (Value → Prop) → Prop
  | [], _, _ => False
  | a :: _, 0, K => (match a with | some v => K v | none => False)
  | _ :: l, i + 1, K => mx_get l i K
def mx_lg (a : Option Value) : Bool := match a with
  | some (.long _) => true
  | some (.double _) => true
  | _ => false
/-- a new list of locals; not behind a long -/
def mx_set : Lv → Nat → Option Value → (Lv → Prop) → Prop
  | [], _, _, _ => False
  | _ :: l, 0, v, K => K (v :: l)
  | a :: l, i + 1, v, K => (match i, mx_lg a with | 0, true => False | _, _ => mx_set l i v (fun l' => K (a :: l')))
def mx_p1 (S : Sk) (K : Int32 → Sk → Prop) : Prop := match S with
  | .int x :: r => K x r
  | _ => False
def mx_p2 (S : Sk) (K : Int32 → Int32 → Sk → Prop) : Prop := match S with
  | .int y :: .int x :: r => K x y r
  | _ => False
def mx_l1 (S : Sk) (K : Int64 → Sk → Prop) : Prop := match S with
  | .long x :: r => K x r
  | _ => False
def mx_l2 (S : Sk) (K : Int64 → Int64 → Sk → Prop) : Prop := match S with
  | .long y :: .long x :: r => K x y r
  | _ => False
def mx_pr (S : Sk) (K : Nat → Sk → Prop) : Prop := match S with
  | .ref x :: r => K x r
  | _ => False
/-- an array and an index on the stack -/
def mx_pa (S : Sk) (K : Nat → Int32 → Sk → Prop) : Prop := match S with
  | .int i :: .ref k :: r => K k i r
  | _ => False
def mx_pb (S : Sk) (K : Nat → Int32 → Int32 → Sk → Prop) : Prop := match S with
  | .int x :: .int i :: .ref k :: r => K k i x r
  | _ => False
abbrev Kt : Type := Nat → Mm → Lv → Sk → Prop
def mx_ld (md : Bool) (c n : Nat) (M : Mm) (S : Sk) (K : Sk → Prop) : Prop := mx_pa S (fun k i r => mx_in md c k n ∧ vp_in i (kd k).2 ∧ K (.int (M k i.toNatClampNeg) :: r))
def mx_st (md : Bool) (c n : Nat) (M : Mm) (S : Sk) (f : Int32 → Int32) (K : Mm → Sk → Prop) : Prop := mx_pb S (fun k i x r => mx_in md c k n ∧ vp_in i (kd k).2 ∧ K (mx_wr M k i.toNatClampNeg (f x)) r)
def mx_ty (c j : Nat) : FieldType := match c with
  | 0 => tyX0 j
  | 1 => tyX1 j
  | 2 => tyX2 j
  | 3 => tyX3 j
  | 4 => tyX4 j
  | 5 => tyX5 j
  | 6 => tyX6 j
  | 7 => tyX7 j
  | _ => tyX8 j
/-- a field is written: a number, or a reference that moves (while all is being made: any) -/
def mx_pf (md : Bool) (c j n : Nat) (M : Mm) (S : Sk) (K : Mm → Sk → Prop) : Prop := match S with
  | .int x :: .ref k :: r => mx_in md c k n ∧ (ft c j).1 = 0 ∧ narrow (mx_ty c j) (.int x) = .int x ∧ K (mx_wr M k j x) r
  | .ref t :: .ref k :: r => mx_in md c k n ∧ ((ft c j).1 = 1 ∨ md = false ∧ (ft c j).1 ≠ 0) ∧ (0 < t ∧ t < 1000) ∧ K (mx_wr M k j (nI t)) r
  | _ => False
abbrev Ai : Type := Instr ⊕ Value
/-- one instruction, in its plain form: constants as .inr; fields by (64 * class + slot); aaload as .anewarray kind; boolean arrays as .daload, .dastore; new as .new class; new arrays as .ldc2_w kind -/
def mx_i (md : Bool) (a : Ai) (n : Nat) (M : Mm) (L : Lv) (S : Sk) (K : Kt) : Prop := match a with
  | .inr v => K n M L (v :: S)
  | .inl i => match i with
    | .iload j => mx_get L j (fun v => match v with | .int x => K n M L (.int x :: S) | _ => False)
    | .lload j => mx_get L j (fun v => match v with | .long x => K n M L (.long x :: S) | _ => False)
    | .aload j => mx_get L j (fun v => match v with | .ref x => K n M L (.ref x :: S) | .null => K n M L (.null :: S) | _ => False)
    | .istore j => mx_p1 S (fun x r => mx_set L j (some (.int x)) (fun L' => K n M L' r))
    | .astore j => (match S with
      | .ref x :: r => mx_set L j (some (.ref x)) (fun L' => K n M L' r)
      | .null :: r => mx_set L j (some .null) (fun L' => K n M L' r)
      | _ => False)
    | .lstore j => mx_l1 S (fun x r => mx_set L (j + 1) none (fun L1 => mx_set L1 j (some (.long x)) (fun L' => K n M L' r)))
    | .iinc j d => mx_get L j (fun v => match v with | .int x => mx_set L j (some (.int (x + Int32.ofInt d))) (fun L' => K n M L' S) | _ => False)
    | .iadd => mx_p2 S (fun x y r => K n M L (.int (x + y) :: r))
    | .isub => mx_p2 S (fun x y r => K n M L (.int (x - y) :: r))
    | .imul => mx_p2 S (fun x y r => K n M L (.int (x * y) :: r))
    | .iand => mx_p2 S (fun x y r => K n M L (.int (x &&& y) :: r))
    | .ior => mx_p2 S (fun x y r => K n M L (.int (x ||| y) :: r))
    | .idiv => mx_p2 S (fun x y r => ¬ y = 0 ∧ K n M L (.int (x / y) :: r))
    | .irem => mx_p2 S (fun x y r => ¬ y = 0 ∧ K n M L (.int (x - x / y * y) :: r))
    | .ishl => mx_p2 S (fun x y r => K n M L (.int (x <<< (y &&& 31)) :: r))
    | .ishr => mx_p2 S (fun x y r => K n M L (.int (x >>> (y &&& 31)) :: r))
    | .iushr => mx_p2 S (fun x y r => K n M L (.int (x.toUInt32 >>> (y.toUInt32 &&& Int32.toUInt32 31)).toInt32 :: r))
    | .ineg => mx_p1 S (fun x r => K n M L (.int (-x) :: r))
    | .i2l => mx_p1 S (fun x r => K n M L (.long x.toInt64 :: r))
    | .i2b => mx_p1 S (fun x r => K n M L (.int x.toInt8.toInt32 :: r))
    | .i2s => mx_p1 S (fun x r => K n M L (.int x.toInt16.toInt32 :: r))
    | .i2c => mx_p1 S (fun x r => K n M L (.int (x.toUInt32 % 65536).toInt32 :: r))
    | .l2i => mx_l1 S (fun x r => K n M L (.int x.toInt32 :: r))
    | .lneg => mx_l1 S (fun x r => K n M L (.long (-x) :: r))
    | .ladd => mx_l2 S (fun x y r => K n M L (.long (x + y) :: r))
    | .lsub => mx_l2 S (fun x y r => K n M L (.long (x - y) :: r))
    | .lcmp => mx_l2 S (fun x y r => K n M L (.int (lg_cmp x y) :: r))
    | .dup => (match S with
      | .int x :: r => K n M L (.int x :: .int x :: r)
      | .ref x :: r => K n M L (.ref x :: .ref x :: r)
      | _ => False)
    | .dup2 => mx_pa S (fun k i r => K n M L (.int i :: .ref k :: .int i :: .ref k :: r))
    | .pop => mx_p1 S (fun _ r => K n M L r)
    | .getfield q => mx_pr S (fun k r => mx_in md (q / 64) k n ∧ K n M L (mx_sv md (ft (q / 64) (q % 64)) k (M k (q % 64)) :: r))
    | .putfield q => mx_pf md (q / 64) (q % 64) n M S (fun M' r => K n M' L r)
    | .iaload => mx_ld md 11 n M S (fun S' => K n M L S')
    | .baload => mx_ld md 9 n M S (fun S' => K n M L S')
    | .caload => mx_ld md 10 n M S (fun S' => K n M L S')
    | .daload => mx_ld md 12 n M S (fun S' => K n M L S')
    | .anewarray c => mx_pa S (fun k i r => (13 ≤ c ∧ c < 17 ∧ md = true) ∧ mx_in md c k n ∧ vp_in i (kd k).2 ∧ K n M L (.ref (mx_el c k i.toNatClampNeg) :: r))
    | .iastore => mx_st md 11 n M S (fun x => x) (fun M' r => K n M' L r)
    | .bastore => mx_st md 9 n M S (fun x => vp_nar .byte x) (fun M' r => K n M' L r)
    | .castore => mx_st md 10 n M S (fun x => vp_nar .char x) (fun M' r => K n M' L r)
    | .dastore => mx_st md 12 n M S (fun x => vp_nar .boolean x) (fun M' r => K n M' L r)
    | .arraylength => mx_pr S (fun k r => (∃ c, 9 ≤ c ∧ c < 17 ∧ mx_in md c k n) ∧ K n M L (.int (nI (kd k).2) :: r))
    | _ => False
/-- a row of them -/
def mx_b (md : Bool) : List Ai → Nat → Mm → Lv → Sk → Kt → Prop
  | [], n, M, L, S, K => K n M L S
  | a :: r, n, M, L, S, K => mx_i md a n M L S (fun n' M' L' S' => mx_b md r n' M' L' S' K)
/-- the plain form of an instruction of class o -/
def mx_ok (o : Nat) (w : Instr) (a : Ai) : Bool := match w with
  | .iconst v => decide (a = .inr (.int (Int32.ofInt v)))
  | .bipush v => decide (a = .inr (.int (Int8.ofInt v).toInt32))
  | .sipush v => decide (a = .inr (.int (Int16.ofInt v).toInt32))
  | .lconst v => decide (a = .inr (.long (Int64.ofNat (v : Nat))))
  | .aconst_null => decide (a = .inr .null)
  | .ldc q => (match a with | .inr (.int v) => mx_ct.contains (o, q, v) | _ => false)
  | .ldc_w q => (match a with | .inr (.int v) => mx_ct.contains (o, q, v) | _ => false)
  | .iload j => decide (a = .inl (.iload j))
  | .iload_n j => decide (a = .inl (.iload j.val))
  | .lload j => decide (a = .inl (.lload j))
  | .lload_n j => decide (a = .inl (.lload j.val))
  | .aload j => decide (a = .inl (.aload j))
  | .aload_n j => decide (a = .inl (.aload j.val))
  | .istore j => decide (a = .inl (.istore j))
  | .istore_n j => decide (a = .inl (.istore j.val))
  | .astore j => decide (a = .inl (.astore j))
  | .astore_n j => decide (a = .inl (.astore j.val))
  | .lstore j => decide (a = .inl (.lstore j))
  | .lstore_n j => decide (a = .inl (.lstore j.val))
  | .iinc j d => decide (a = .inl (.iinc j d))
  | .iadd => decide (a = .inl .iadd)
  | .isub => decide (a = .inl .isub)
  | .imul => decide (a = .inl .imul)
  | .iand => decide (a = .inl .iand)
  | .ior => decide (a = .inl .ior)
  | .idiv => decide (a = .inl .idiv)
  | .irem => decide (a = .inl .irem)
  | .ishl => decide (a = .inl .ishl)
  | .ishr => decide (a = .inl .ishr)
  | .iushr => decide (a = .inl .iushr)
  | .ineg => decide (a = .inl .ineg)
  | .i2l => decide (a = .inl .i2l)
  | .i2b => decide (a = .inl .i2b)
  | .i2s => decide (a = .inl .i2s)
  | .i2c => decide (a = .inl .i2c)
  | .l2i => decide (a = .inl .l2i)
  | .lneg => decide (a = .inl .lneg)
  | .ladd => decide (a = .inl .ladd)
  | .lsub => decide (a = .inl .lsub)
  | .lcmp => decide (a = .inl .lcmp)
  | .dup => decide (a = .inl .dup)
  | .dup2 => decide (a = .inl .dup2)
  | .pop => decide (a = .inl .pop)
  | .getfield q => (match a with | .inl (.getfield z) => mx_fl.contains (o, q, z / 64, z % 64) || mx_fn.contains (o, q, z / 64, z % 64) | _ => false)
  | .putfield q => (match a with | .inl (.putfield z) => mx_fl.contains (o, q, z / 64, z % 64) && (decide ((ft (z / 64) (z % 64)).1 < 2) || o == z / 64) | _ => false)
  | .iaload => decide (a = .inl .iaload)
  | .baload => decide (a = .inl .baload) || decide (a = .inl .daload)
  | .caload => decide (a = .inl .caload)
  | .aaload => (match a with | .inl (.anewarray _) => true | _ => false)
  | .iastore => decide (a = .inl .iastore)
  | .bastore => decide (a = .inl .bastore) || decide (a = .inl .dastore)
  | .castore => decide (a = .inl .castore)
  | .arraylength => decide (a = .inl .arraylength)
  | _ => false
def mx_len (w : Instr) : Nat := match w with
  | .bipush _ => 2
  | .sipush _ => 3
  | .ldc _ => 2
  | .ldc_w _ => 3
  | .iload _ => 2
  | .lload _ => 2
  | .aload _ => 2
  | .istore _ => 2
  | .lstore _ => 2
  | .astore _ => 2
  | .iinc _ _ => 3
  | .getfield _ => 3
  | .putfield _ => 3
  | _ => 1
/-- the code from pc on is that row, up to pc' -/
def mx_blk (o : Nat) (cc : ByteArray) : Nat → List Ai → Nat → Bool
  | pc, [], pc' => pc == pc'
  | pc, a :: r, pc' => match decode cc pc with
    | .ok (w, len) => mx_ok o w a && (len == mx_len w) && mx_blk o cc (pc + len) r pc'
    | .error _ => false
end
section
/-! the small machine is the machine's -/
def mx_nw : List Cond := lw_tbl.filter (fun w => match w with | .fieldLinkNest _ _ _ _ _ _ => true | .methodLinkNest _ _ _ _ => true | _ => false)
/-- what stands below the law's start: free of our writing -/
def mx_A (G : Gt) : Nat → Prop := fun q => G.1.size ≤ q
def mx_above (i : Nat) : Value := .int (([-1, 0, 0, 1, 2, 0] : List Int32).getD i 0)
/-- the class's String constants, by their places; their bytes -/
def mx_si : List Nat := [108, 114, 116, 102, 104, 106]
def mx_sl_ : List Nat := [5, 4, 4, 3, 2, 2]
def mx_sb : List (List Int32) := [[98, 105, 114, 116, 104], [119, 97, 103, 101], [102, 105, 110, 101], [120, 108, 112], [108, 119], [100, 98]]
def mx_st_ : List String := ["birth", "wage", "fine", "xlp", "lw", "db"]
def mx_adK (G : Gt) (j : Nat) : Nat := mx_ad G (1001 + j)
def mx_adV (G : Gt) (j : Nat) : Nat := mx_ad G (1011 + j)
def mx_Ks (G : Gt) (U : State) : Prop := vk_S 6 mx_sl_ mx_sb (mx_adK G) (mx_adV G) (mx_A G) U G.1 ∧ (∀ j, j < 6 → vk_R RX2 (mx_si.getD j 0) (mx_st_.getD j "") (mx_adK G j) U) ∧ va_Z "java/lang/String" "COMPACT_STRINGS" "Z" (.int 1) (mx_A G) U G.1
def mx_Ka (G : Gt) (U : State) : Prop := (va_Z RX7 "ABOVE" "[I" (.ref (mx_ad G 1000)) (mx_A G) U G.1 ∧ va_T .int (mx_ad G 1000) 6 mx_above (mx_A G) U G.1) ∧ mx_Ks G U
theorem mx_Ka.moved {G : Gt} {s U : State} (hvm : s.vm.Alike U.vm) (hr : ∀ j, j < 6 → vk_R RX2 (mx_si.getD j 0) (mx_st_.getD j "") (mx_adK G j) U) (h : mx_Ka G s) : mx_Ka G U :=
  ⟨⟨va_Z.moved hvm h.1.1, va_T.moved hvm h.1.2⟩, vk_S.moved hvm h.2.1, hr, va_Z.moved hvm h.2.2.2⟩
def mx_Ko (U : State) : Prop := va_AO RX0 U ∧ va_AO RX1 U ∧ va_AO RX4 U ∧ va_AO RX5 U
theorem mx_Ko.moved {s U : State} (hvm : s.vm.Alike U.vm) (h : mx_Ko s) : mx_Ko U := ⟨va_AO.moved hvm h.1, va_AO.moved hvm h.2.1, va_AO.moved hvm h.2.2.1, va_AO.moved hvm h.2.2.2⟩
def mx_K (G : Gt) (U : State) : Prop := va_K G.2.1 vwCl (mx_tys G) U ∧ (∀ w ∈ mx_nw, va_Nw w U) ∧ mx_Ko U ∧ mx_Ka G U
theorem mx_nw_warm {s U : State} (hW : s.WarmedH U.vm) (h : ∀ w ∈ mx_nw, va_Nw w s) : ∀ w ∈ mx_nw, va_Nw w U := by
  intro w hw
  have h1 := h w hw
  have h2 := (List.mem_filter.mp hw).2
  cases w <;> simp at h2
  · exact va_Nw.warmM hW h1
  · exact va_Nw.warmF hW h1
theorem mx_K.warm {G : Gt} {s U : State} (hW : s.WarmedH U.vm) (h : mx_K G s) : mx_K G U := ⟨va_K.moved hW.alike h.1, mx_nw_warm hW h.2.1, mx_Ko.moved hW.alike h.2.2.1, mx_Ka.moved hW.alike (fun j hj => vk_R.warm hW (h.2.2.2.2.2.1 j hj)) h.2.2.2⟩
theorem mx_nw_same {s U : State} (e : s.vm = U.vm) (h : ∀ w ∈ mx_nw, va_Nw w s) : ∀ w ∈ mx_nw, va_Nw w U := by
  intro w hw
  have h1 := h w hw
  have h2 := (List.mem_filter.mp hw).2
  cases w <;> simp at h2
  · exact va_Nw.same rfl e h1
  · exact va_Nw.same rfl e h1
theorem mx_K.calling {G : Gt} {U : State} {g : JFrame} {mk : MethodId} {a : Array Value} (h : mx_K G U) : mx_K G (U.calling g mk a) := ⟨va_K.moved (u := U) (U := U.calling g mk a) (Vm.Alike.refl U.vm) h.1, mx_nw_same (s := U) (U := U.calling g mk a) rfl h.2.1, mx_Ko.moved (s := U) (U := U.calling g mk a) (Vm.Alike.refl U.vm) h.2.2.1, mx_Ka.moved (s := U) (U := U.calling g mk a) (Vm.Alike.refl U.vm) (fun j hj => vk_R.same (u := U) (U := U.calling g mk a) rfl (h.2.2.2.2.2.1 j hj)) h.2.2.2⟩
/-- the classes' tables -/
def mx_nf : List Nat := [8, 4, 7, 1, 3, 4, 11, 15, 35]
theorem mx_cls : ∀ (c : Nat) (r : vw_C), vwCl[c]? = some r → c < 9 ∧ r.1 = mx_rc c ∧ r.2.2 = mx_nf.getD c 0 ∧ (∀ w ∈ u_ws r.1 r.2.1 r.2.2, w ∈ gw) ∧ (∀ a, a < r.2.2 → ∀ b, b < r.2.2 → a ≠ b → (r.2.1 a).2.1 ≠ (r.2.1 b).2.1) ∧ (∀ k, k < r.2.2 → parseFieldDescriptor (r.2.1 k).2.2.1 = some (mx_ty c k)) := by
  intro c r h
  match c, h with
  | 0, h => cases h; exact ⟨by decide, rfl, rfl, inX0, nmX0, tyX0_ok⟩
  | 1, h => cases h; exact ⟨by decide, rfl, rfl, inX1, nmX1, tyX1_ok⟩
  | 2, h => cases h; exact ⟨by decide, rfl, rfl, inX2, nmX2, tyX2_ok⟩
  | 3, h => cases h; exact ⟨by decide, rfl, rfl, inX3, nmX3, tyX3_ok⟩
  | 4, h => cases h; exact ⟨by decide, rfl, rfl, inX4, nmX4, tyX4_ok⟩
  | 5, h => cases h; exact ⟨by decide, rfl, rfl, inX5, nmX5, tyX5_ok⟩
  | 6, h => cases h; exact ⟨by decide, rfl, rfl, inX6, nmX6, tyX6_ok⟩
  | 7, h => cases h; exact ⟨by decide, rfl, rfl, inX7, nmX7, tyX7_ok⟩
  | 8, h => cases h; exact ⟨by decide, rfl, rfl, inX8, nmX8, tyX8_ok⟩
  | c + 9, h => simp [vwCl] at h
theorem mx_vw {c : Nat} (h : c < 9) : ∃ r : vw_C, vwCl[c]? = some r := ⟨vwCl[c], List.getElem?_eq_getElem h⟩
theorem mx_kd9 : ∀ k, k < 127 → (kd k).1 < 9 → mx_nf.getD (kd k).1 0 = (kd k).2 := by decide +kernel
theorem mx_kdlt {k : Nat} (h : (kd k).1 < 99) : k < 127 := by
  rcases Nat.lt_or_ge k 127 with q | q
  · exact q
  · have : kd k = (99, 0) := by
      unfold kd
      rw [List.getD_eq_getElem?_getD, List.getElem?_eq_none (by exact q)]
      rfl
    rw [this] at h
    exact absurd h (by decide)
theorem mx_flj : ∀ q ∈ mx_fl, q.2.2.1 < 9 ∧ q.2.2.2 < mx_nf.getD q.2.2.1 0 := by decide +kernel
theorem mx_fnj : ∀ q ∈ mx_fn, q.2.2.1 < 9 ∧ q.2.2.2 < mx_nf.getD q.2.2.1 0 ∧ mx_wfn q ∈ mx_nw := by decide +kernel
theorem mx_lt {G : Gt} {md : Bool} {n c k : Nat} {M : Mm} {H : Heap} (hH : mx_H G md n M H) (h : mx_in md c k n) (hc : c < 99) : k < n ∧ (kd k).1 = c := by
  cases md with
  | true =>
    have h1 : (kd k).1 = c := h
    exact ⟨by rw [hH.2.2.1 rfl]; exact mx_kdlt (by omega), h1⟩
  | false => exact ⟨h.2, h.1⟩
theorem mx_adk {G : Gt} {md : Bool} {n k : Nat} {M : Mm} {H : Heap} (hH : mx_H G md n M H) (h : k < n) : mx_ad G k = G.1.size + k := by
  have := hH.2.1
  unfold mx_NT at this
  simp [mx_ad, show k < 1000 by omega]
def mx_al (G : Gt) : Nat → Lv → List (Nat × Value)
  | _, [] => []
  | i, a :: l => match a with
    | some v => (i, mx_cv G v) :: mx_al G (i + 1) l
    | none => mx_al G (i + 1) l
theorem mx_al_mem {G : Gt} : ∀ (L : Lv) (j i : Nat) (v : Value), L[i]? = some (some v) → (j + i, mx_cv G v) ∈ mx_al G j L
  | [], j, i, v, h => by simp at h
  | a :: l, j, 0, v, h => by
    simp at h
    subst h
    exact List.mem_cons_self
  | a :: l, j, i + 1, v, h => by
    have h1 := mx_al_mem (G := G) l (j + 1) i v (by simpa using h)
    rw [show j + 1 + i = j + (i + 1) by omega] at h1
    cases a with
    | none => exact h1
    | some w => exact List.mem_cons_of_mem _ h1
theorem mx_al_inv {G : Gt} : ∀ (L : Lv) (j : Nat) (q : Nat × Value), q ∈ mx_al G j L → ∃ (i : Nat) (v : Value), L[i]? = some (some v) ∧ q = (j + i, mx_cv G v)
  | [], j, q, h => by simp [mx_al] at h
  | a :: l, j, q, h => by
    cases a with
    | none =>
      obtain ⟨i, v, h1, h2⟩ := mx_al_inv (G := G) l (j + 1) q h
      exact ⟨i + 1, v, by simpa using h1, by rw [h2, show j + 1 + i = j + (i + 1) by omega]⟩
    | some w =>
      rcases List.mem_cons.mp h with h | h
      · exact ⟨0, w, rfl, h⟩
      · obtain ⟨i, v, h1, h2⟩ := mx_al_inv (G := G) l (j + 1) q h
        exact ⟨i + 1, v, by simpa using h1, by rw [h2, show j + 1 + i = j + (i + 1) by omega]⟩
theorem mx_get_inv : ∀ {L : Lv} {i : Nat} {K : Value → Prop}, mx_get L i K → ∃ v, L[i]? = some (some v) ∧ K v
  | [], _, _, h => h.elim
  | a :: l, 0, K, h => by
    cases a with
    | none => exact h.elim
    | some v => exact ⟨v, rfl, h⟩
  | a :: l, i + 1, K, h => by
    obtain ⟨v, h1, h2⟩ := mx_get_inv (L := l) h
    exact ⟨v, by simpa using h1, h2⟩
theorem mx_set_inv : ∀ {L : Lv} {i : Nat} {v : Option Value} {K : Lv → Prop}, mx_set L i v K → i < L.length ∧ (∀ (j : Nat) (x : Value), j + 1 = i → L[j]? = some (some x) → x.category = 1) ∧ K (L.set i v)
  | [], _, _, _, h => h.elim
  | a :: l, 0, v, K, h => ⟨by simp, fun j x e => by omega, h⟩
  | a :: l, i + 1, v, K, h => by
    have h1 : mx_set l i v (fun l' => K (a :: l')) ∧ (i = 0 → mx_lg a = false) := by
      unfold mx_set at h
      split at h
      · exact h.elim
      · rename_i hn
        exact ⟨h, fun e => by
          cases hb : mx_lg a with
          | false => rfl
          | true => exact (hn e hb).elim⟩
    obtain ⟨h2, h3, h4⟩ := mx_set_inv h1.1
    refine ⟨by simpa using h2, fun j x e q => ?_, h4⟩
    cases j with
    | zero =>
      have hq : a = some x := by simpa using q
      have := h1.2 (by omega)
      rw [hq] at this
      cases x <;> first | rfl | cases this
    | succ j => exact h3 j x (by omega) (by simpa using q)
theorem mx_cv_cat {G : Gt} (v : Value) : (mx_cv G v).category = v.category := by cases v <;> rfl
/-- a store of one word into a local -/
theorem mx_store1 {G : Gt} {ls : Array Slot} {nL i : Nat} {L : Lv} {v : Value} (h : lv_has ls nL ((i, mx_cv G v) :: (mx_al G 0 L).filter (fun q => !(q.1 == i) && !(q.1 + 1 == i && q.2.category == 2)))) (hb : ∀ (j : Nat) (x : Value), j + 1 = i → L[j]? = some (some x) → x.category = 1) : lv_has ls nL (mx_al G 0 (L.set i (some v))) := by
  refine ⟨h.1, h.2.1, fun q hq => h.2.2 q ?_⟩
  obtain ⟨j, w, h1, h2⟩ := mx_al_inv _ _ _ hq
  rw [Nat.zero_add] at h2
  subst h2
  by_cases hj : i = j
  · subst hj
    by_cases hl : i < L.length
    · rw [List.getElem?_set_self hl] at h1
      cases h1
      exact List.mem_cons_self
    · rw [List.getElem?_eq_none (by simp; omega)] at h1
      cases h1
  · rw [List.getElem?_set_ne hj] at h1
    refine List.mem_cons_of_mem _ (List.mem_filter.mpr ⟨by simpa using mx_al_mem (G := G) L 0 j w h1, ?_⟩)
    have e1 : (j == i) = false := by simp; omega
    simp only [e1, Bool.not_false, Bool.true_and, Bool.not_eq_true', Bool.and_eq_false_iff]
    by_cases hji : j + 1 = i
    · right
      rw [mx_cv_cat, hb j w hji h1]
      rfl
    · left
      simp [hji]
theorem mx_store2 {G : Gt} {ls : Array Slot} {nL i : Nat} {L : Lv} {v : Value} (h : lv_has ls nL ((i, mx_cv G v) :: (mx_al G 0 L).filter (fun q => !(q.1 == i) && (!(q.1 == i + 1) && !(q.1 + 1 == i && q.2.category == 2))))) (hb : ∀ (j : Nat) (x : Value), j + 1 = i → L[j]? = some (some x) → x.category = 1) : lv_has ls nL (mx_al G 0 ((L.set (i + 1) none).set i (some v))) := by
  refine ⟨h.1, h.2.1, fun q hq => h.2.2 q ?_⟩
  obtain ⟨j, w, h1, h2⟩ := mx_al_inv _ _ _ hq
  rw [Nat.zero_add] at h2
  subst h2
  by_cases hj : i = j
  · subst hj
    by_cases hl : i < L.length
    · rw [List.getElem?_set_self (by simpa using hl)] at h1
      cases h1
      exact List.mem_cons_self
    · rw [List.getElem?_eq_none (by simp; omega)] at h1
      cases h1
  · rw [List.getElem?_set_ne hj] at h1
    by_cases hj2 : i + 1 = j
    · subst hj2
      by_cases hl : i + 1 < L.length
      · rw [List.getElem?_set_self hl] at h1
        cases h1
      · rw [List.getElem?_eq_none (by simp; omega)] at h1
        cases h1
    · rw [List.getElem?_set_ne hj2] at h1
      refine List.mem_cons_of_mem _ (List.mem_filter.mpr ⟨by simpa using mx_al_mem (G := G) L 0 j w h1, ?_⟩)
      have e1 : (j == i) = false := by simp; omega
      have e2 : (j == i + 1) = false := by simp; omega
      simp only [e1, e2, Bool.not_false, Bool.true_and, Bool.not_eq_true', Bool.and_eq_false_iff]
      by_cases hji : j + 1 = i
      · right
        rw [mx_cv_cat, hb j w hji h1]
        rfl
      · left
        simp [hji]
end
section
theorem mx_sv0 {md : Bool} {t : Nat × Nat} {k : Nat} {x : Int32} (h : t.1 = 0) : mx_sv md t k x = .int x := by
  obtain ⟨a, b⟩ := t
  have h : a = 0 := h
  subst h
  rfl
theorem mx_sv1 {t : Nat × Nat} {k a : Nat} {x : Int32} (h : t.1 = 1) (hx : x.toNatClampNeg = a) : mx_sv true t k x = .ref a := by
  obtain ⟨a, b⟩ := t
  have h : a = 1 := h
  subst h
  show Value.ref x.toNatClampNeg = _
  rw [hx]
theorem mx_svN {t : Nat × Nat} {k : Nat} {x : Int32} {v : Value} (h : t.1 ≠ 0) (hv : mx_rv x = v) : mx_sv false t k x = v := by
  obtain ⟨a, b⟩ := t
  match a, h with
  | 0, h => exact absurd rfl h
  | 1, _ => exact hv
  | 2, _ => exact hv
  | n + 3, _ => exact hv
theorem mx_cell.kept {G : Gt} {md : Bool} {k : Nat} {r : Nat → Int32} {H H1 : Heap} (h : mx_cell G md k r H) (hq : H1[G.1.size + k]? = H[G.1.size + k]?) : mx_cell G md k r H1 := by
  unfold mx_cell at h ⊢
  split at h
  · rename_i h1
    rw [if_pos h1]
    exact h.kept hq
  · rename_i h1
    rw [if_neg h1]
    exact hq.trans h
theorem mx_H.put {G : Gt} {md : Bool} {n k : Nat} {M M' : Mm} {H H1 : Heap} (hH : mx_H G md n M H) (hM : ∀ q, q ≠ k → M' q = M q) (hz : H1.size = H.size) (ho : ∀ q, q ≠ G.1.size + k → H1[q]? = H[q]?) (hc : mx_cell G md k (M' k) H1) : mx_H G md n M' H1 := by
  obtain ⟨h1, h2, h3, h4, h5⟩ := hH
  refine ⟨hz.trans h1, h2, h3, fun q hq => (ho q (by omega)).trans (h4 q hq), fun q hq => ?_⟩
  by_cases e : q = k
  · subst e
    exact hc
  · rw [hM q e]
    exact (h5 q hq).kept (ho _ (by omega))
theorem mx_wr_ne {M : Mm} {k j q : Nat} {x : Int32} (h : q ≠ k) : mx_wr M k j x q = M q := by simp [mx_wr, h]
theorem mx_wr_self {M : Mm} {k j i : Nat} {x : Int32} : mx_wr M k j x k i = if i = j then x else M k i := by simp [mx_wr]
section MX
variable {p : Program} {l : Launch} {e : Env} {R : Room} {s : State} {m : MethodId} {args : Array Value} {below : List Frame} {meth : Method} {c : Code} {Q : State → Prop} {G : Gt} {md : Bool} {n0 nL o : Nat} {cc : ByteArray}
def mx_C (p : Program) (s : State) (m : MethodId) (args : Array Value) (meth : Method) (c : Code) (G : Gt) (md : Bool) (nL o : Nat) (cc : ByteArray) : Prop :=
  p.tables.exec = Jvm.exec ∧ c.code = cc ∧ c.maxLocals = nL ∧ s.vm.findClass (mx_rc o) = some m.cls ∧ (∀ w ∈ gw, w.before args s = true) ∧ mx_K G s ∧ (md = false → meth.name = "<init>") ∧ meth.locks = false
def mx_X (p : Program) (l : Launch) (e : Env) (R : Room) (s : State) (m : MethodId) (args : Array Value) (below : List Frame) (meth : Method) (c : Code) (Q : State → Prop) (G : Gt) (md : Bool) (n0 nL : Nat) (n : Nat) (M : Mm) (pc : Nat) (L : Lv) (S : Sk) : Prop :=
  L.length = nL → n0 ≤ n → ∀ (H : Heap) (locs : List Loc) (ls : Array Slot), mx_H G md n M H → (∀ q ∈ locs, G.1.size ≤ q.base) → lv_has ls nL (mx_al G 0 L) → W p l e R s m args below meth c H locs (n - n0) (mx_sz n - mx_sz n0) Q (F0 m pc ls (S.map (mx_cv G)))
theorem mx_p1_inv {S : Sk} {K : Int32 → Sk → Prop} (h : mx_p1 S K) : ∃ x r, S = .int x :: r ∧ K x r := by
  unfold mx_p1 at h
  split at h
  · exact ⟨_, _, rfl, h⟩
  · exact h.elim
theorem mx_p2_inv {S : Sk} {K : Int32 → Int32 → Sk → Prop} (h : mx_p2 S K) : ∃ x y r, S = .int y :: .int x :: r ∧ K x y r := by
  unfold mx_p2 at h
  split at h
  · exact ⟨_, _, _, rfl, h⟩
  · exact h.elim
theorem mx_l1_inv {S : Sk} {K : Int64 → Sk → Prop} (h : mx_l1 S K) : ∃ x r, S = .long x :: r ∧ K x r := by
  unfold mx_l1 at h
  split at h
  · exact ⟨_, _, rfl, h⟩
  · exact h.elim
theorem mx_l2_inv {S : Sk} {K : Int64 → Int64 → Sk → Prop} (h : mx_l2 S K) : ∃ x y r, S = .long y :: .long x :: r ∧ K x y r := by
  unfold mx_l2 at h
  split at h
  · exact ⟨_, _, _, rfl, h⟩
  · exact h.elim
theorem mx_pr_inv {S : Sk} {K : Nat → Sk → Prop} (h : mx_pr S K) : ∃ x r, S = .ref x :: r ∧ K x r := by
  unfold mx_pr at h
  split at h
  · exact ⟨_, _, rfl, h⟩
  · exact h.elim
theorem mx_pa_inv {S : Sk} {K : Nat → Int32 → Sk → Prop} (h : mx_pa S K) : ∃ k i r, S = .int i :: .ref k :: r ∧ K k i r := by
  unfold mx_pa at h
  split at h
  · exact ⟨_, _, _, rfl, h⟩
  · exact h.elim
theorem mx_pb_inv {S : Sk} {K : Nat → Int32 → Int32 → Sk → Prop} (h : mx_pb S K) : ∃ k i x r, S = .int x :: .int i :: .ref k :: r ∧ K k i x r := by
  unfold mx_pb at h
  split at h
  · exact ⟨_, _, _, _, rfl, h⟩
  · exact h.elim
theorem mx_lat {ls : Array Slot} {nL i : Nat} {L : Lv} {v : Value} (h : lv_has ls nL (mx_al G 0 L)) (hv : L[i]? = some (some v)) : ls[i]? = some (.val (mx_cv G v)) := by
  have := h.2.2 _ (mx_al_mem (G := G) L 0 i v hv)
  simpa using this
theorem mx_getf {pc q c1 j k n : Nat} {M : Mm} {L : Lv} {r : Sk} (C : mx_C p s m args meth c G md nL o cc) (hd : decode cc pc = .ok (.getfield q, 3)) (hq : (o, q, c1, j) ∈ mx_fl ∨ (o, q, c1, j) ∈ mx_fn) (hi : mx_in md c1 k n) (K : mx_X p l e R s m args below meth c Q G md n0 nL n M (pc + 3) L (mx_sv md (ft c1 j) k (M k j) :: r)) : mx_X p l e R s m args below meth c Q G md n0 nL n M pc L (.ref k :: r) := by
  intro hL hn H locs ls hH hlo hls
  obtain ⟨hx, hb, hml, ho, hts, hK, -⟩ := C
  have hcj : c1 < 9 ∧ j < mx_nf.getD c1 0 := by
    rcases hq with hq | hq
    · exact mx_flj _ hq
    · exact ⟨(mx_fnj _ hq).1, (mx_fnj _ hq).2.1⟩
  obtain ⟨hk, hkc⟩ := mx_lt hH hi (by omega)
  have hcell := hH.2.2.2.2 k hk
  unfold mx_cell at hcell
  rw [if_pos (by omega), hkc] at hcell
  obtain ⟨cell, q1, q2, q3, q4⟩ := hcell
  obtain ⟨vr, hvr⟩ := mx_vw hcj.1
  obtain ⟨-, -, hN, hin, -, -⟩ := mx_cls c1 vr hvr
  obtain ⟨hS, hfc, kC, hkC, hkind⟩ := hK.1.1 c1 _ hvr
  have hj : j < vr.2.2 := by rw [hN]; exact hcj.2
  obtain ⟨cf, kf, fi, f, hif, hsl⟩ := hS j hj
  have h2 : (kd k).2 = mx_nf.getD c1 0 := by rw [← mx_kd9 k (mx_kdlt (by omega)) (by omega), hkc]
  have hslot : cell.slots[f.slot]? = some (mx_cv G (mx_sv md (ft c1 j) k (M k j))) := by
    rw [hsl]
    exact q4 j (by rw [h2]; exact hcj.2)
  have hst := (u_facts hfc hkC (u_lays hts hin hj) hif).1
  have hz : mx_ad G k = G.1.size + k := mx_adk hH hk
  rw [← hz] at q1
  rcases hq with hq | hq
  · have hw := hts _ (mx_fl_in _ hq)
    simp only [mx_wfl, hvr] at hw
    exact W.getf hx hb ho hw hif hst q1 (by rw [q3]; exact fun h => by cases h) hslot rfl rfl hd (K hL hn H locs ls hH hlo hls)
  · have hw := hK.2.1 _ (mx_fnj _ hq).2.2
    simp only [mx_wfn, hvr] at hw
    exact va_Wgetf hx hb ho (va_Nw.use rfl hw) hif hst q1 (by rw [q3]; exact fun h => by cases h) hslot rfl rfl hd (K hL hn H locs ls hH hlo hls)
def mx_finb (q : Nat × Nat × Nat × Nat) : Bool := match vwCl[q.2.2.1]? with
  | some r => ((r.2.1 q.2.2.2).2.2.2 == decide (2 ≤ (ft q.2.2.1 q.2.2.2).1)) && ((r.2.1 q.2.2.2).1 == r.1)
  | none => false
theorem mx_fin : ∀ q ∈ mx_fl, mx_finb q = true := by decide +kernel
def mx_isr (t : FieldType) : Bool := match t with
  | .object _ => true
  | .array _ => true
  | _ => false
theorem mx_tyq : ∀ q ∈ mx_fl, ((ft q.2.2.1 q.2.2.2).1 = 0 → mx_ty q.2.2.1 q.2.2.2 = .int ∨ mx_ty q.2.2.1 q.2.2.2 = .boolean) ∧ ((ft q.2.2.1 q.2.2.2).1 ≠ 0 → mx_isr (mx_ty q.2.2.1 q.2.2.2) = true) := by decide +kernel
theorem mx_isr_ok {t : FieldType} {a : Nat} (h : mx_isr t = true) : narrow t (.ref a) = .ref a ∧ fits t (.ref a) = true := by
  cases t <;> simp [mx_isr] at h <;> exact ⟨rfl, rfl⟩
theorem mx_bool {x : Int32} (h : narrow .boolean (.int x) = .int x) : x = 0 ∨ x = 1 := by
  have h1 : x &&& 1 = x := by simpa [narrow] using h
  obtain ⟨j, hj, e⟩ := pk_andE x (m := 1) 1 (by decide)
  rw [← h1, e]
  match j, hj with
  | 0, _ => exact Or.inl rfl
  | 1, _ => exact Or.inr rfl
theorem mx_putf {pc q c1 j k n : Nat} {M : Mm} {L : Lv} {r : Sk} {v : Value} {x : Int32} (C : mx_C p s m args meth c G md nL o cc) (hd : decode cc pc = .ok (.putfield q, 3)) (hq : (o, q, c1, j) ∈ mx_fl) (hf : (ft c1 j).1 < 2 ∨ o = c1 ∧ md = false) (hi : mx_in md c1 k n) (hv : mx_sv md (ft c1 j) k x = v) (hna : narrow (mx_ty c1 j) (mx_cv G v) = mx_cv G v) (hfi : fits (mx_ty c1 j) (mx_cv G v) = true) (K : mx_X p l e R s m args below meth c Q G md n0 nL n (mx_wr M k j x) (pc + 3) L r) : mx_X p l e R s m args below meth c Q G md n0 nL n M pc L (v :: .ref k :: r) := by
  intro hL hn H locs ls hH hlo hls
  obtain ⟨hx, hb, hml, ho, hts, hK, hini, -⟩ := C
  have hcj := mx_flj _ hq
  dsimp only at hcj
  obtain ⟨hk, hkc⟩ := mx_lt hH hi (by omega)
  have hcell := hH.2.2.2.2 k hk
  unfold mx_cell at hcell
  rw [if_pos (by omega), hkc] at hcell
  obtain ⟨cell, q1, q2, q3, q4⟩ := hcell
  obtain ⟨vr, hvr⟩ := mx_vw hcj.1
  obtain ⟨-, hrc, hN, hin, hnm, hty⟩ := mx_cls c1 vr hvr
  have hfin := mx_fin _ hq
  simp only [mx_finb, hvr, Bool.and_eq_true, beq_iff_eq] at hfin
  obtain ⟨hS, hfc, kC, hkC, hkind⟩ := hK.1.1 c1 _ hvr
  have hj : j < vr.2.2 := by rw [hN]; exact hcj.2
  have hap := va_apart (own := mx_rc o) hts hin (mx_ty c1) hty hnm hK.1 (show vwCl[c1]? = some (vr.1, vr.2.1, vr.2.2) from hvr)
  obtain ⟨cf, kf, fi, f, hif, hsl⟩ := hS j hj
  have h2 : (kd k).2 = mx_nf.getD c1 0 := by rw [← mx_kd9 k (mx_kdlt (by omega)) (by omega), hkc]
  rw [h2, ← hN] at q4
  have hst := (u_facts hfc hkC (u_lays hts hin hj) hif).1
  have hz : mx_ad G k = G.1.size + k := mx_adk hH hk
  rw [← hz] at q1
  have hw := hts _ (mx_fl_in _ hq)
  simp only [mx_wfl, hvr] at hw
  have hlay := hts _ (hin _ (u_in_lay hj))
  have fin : ∀ H' : Heap, H'[mx_ad G k]? = some (cell.setSlot f.slot (mx_cv G v)) → H'.size = H.size → (∀ q, q ≠ mx_ad G k → H'[q]? = H[q]?) → W p l e R s m args below meth c H' (locs ++ [⟨mx_ad G k, f.slot⟩]) (n - n0) (mx_sz n - mx_sz n0) Q (F0 m (pc + 3) ls (r.map (mx_cv G))) := by
    intro H' e1 e2 e3
    refine K hL hn H' _ ls (hH.put (k := k) (fun q hq => mx_wr_ne hq) e2 (fun q hq => e3 q (by rw [hz]; exact hq)) ?_) (fun q hq => ?_) hls
    · unfold mx_cell
      rw [if_pos (by omega), hkc, h2, ← hN]
      rw [hsl, hz] at e1
      refine t_OB.to (V := updV (fun j => mx_cv G (mx_sv md (ft c1 j) k (M k j))) j (mx_cv G v)) ⟨_, e1, q2, q3, t_set q4 hap hj _⟩ (fun i hi => ?_)
      by_cases hij : i = j
      · subst hij
        rw [mx_wr_self]
        simp [updV, hv]
      · rw [mx_wr_self]
        simp [updV, hij]
    · rcases List.mem_append.mp hq with h | h
      · exact hlo q h
      · rw [List.mem_singleton.mp h]
        show G.1.size ≤ mx_ad G k
        omega
  by_cases hf2 : (ft c1 j).1 < 2
  · unfold u_lay at hlay
    rw [if_neg (by rw [hfin.1]; simp; omega)] at hlay
    have h6 := u_store hfc hkC hkind hlay hif (hty j hj) hna hfi
    exact W.putK hx hb (f := f) ⟨ho, hw, ⟨_, _, _, hif⟩, hst⟩ (by rw [q2]; exact h6) q1 q3 (by rw [hsl]; exact k2_hasslot (q4 j hj)) rfl rfl hd fin
  · obtain ⟨hoc, hmd⟩ := hf.resolve_left hf2
    unfold u_lay at hlay
    rw [if_pos (by rw [hfin.1]; simp; omega)] at hlay
    have hcf : m.cls = cf := by
      obtain ⟨_, _, c', _, _, _, -, -, hf', -, -, -, hown2, -⟩ := Cond.laysFinal_spec hlay
      have e1 : c' = cf := by have := hif.symm.trans hf'; simp at this; exact this.1.symm
      rw [hfin.2, hrc, ← hoc] at hown2
      rw [← e1]; exact Option.some.inj (ho.symm.trans hown2)
    have h6 := u_fits hfc hkC hkind (Or.inr hlay) hif (hty j hj) hna hfi
    exact W.putFinK hx hb ho hw hif hst hcf (hini hmd) (by rw [q2]; exact h6) q1 q3 (by rw [hsl]; exact k2_hasslot (q4 j hj)) rfl rfl hd fin
end MX
end
section
section MX
variable {p : Program} {l : Launch} {e : Env} {R : Room} {s : State} {m : MethodId} {args : Array Value} {below : List Frame} {meth : Method} {c : Code} {Q : State → Prop} {G : Gt} {md : Bool} {n0 nL o : Nat} {cc : ByteArray}
theorem mx_arr {n c1 k : Nat} {M : Mm} {H : Heap} (hH : mx_H G md n M H) (hi : mx_in md c1 k n) (h9 : 9 ≤ c1) (h17 : c1 < 17) : k < n ∧ (kd k).1 = c1 ∧ H[mx_ad G k]? = some (arrV (G.2.2.1 c1) (kd k).2 (fun j => mx_cv G (mx_ev md c1 k j (M k j)))) := by
  obtain ⟨hk, hkc⟩ := mx_lt hH hi (by omega)
  have hcell := hH.2.2.2.2 k hk
  unfold mx_cell at hcell
  rw [if_neg (by omega), hkc] at hcell
  rw [mx_adk hH hk]
  exact ⟨hk, hkc, hcell⟩
theorem mx_iald {pc k n : Nat} {M : Mm} {L : Lv} {r : Sk} {i : Int32} (C : mx_C p s m args meth c G md nL o cc) (hd : decode cc pc = .ok (.iaload, 1)) (hi : mx_in md 11 k n) (hr : vp_in i (kd k).2) (K : mx_X p l e R s m args below meth c Q G md n0 nL n M (pc + 1) L (.int (M k i.toNatClampNeg) :: r)) : mx_X p l e R s m args below meth c Q G md n0 nL n M pc L (.int i :: .ref k :: r) := by
  intro hL hn H locs ls hH hlo hls
  obtain ⟨hx, hb, hml, ho, hts, hK, -⟩ := C
  obtain ⟨hk, hkc, hcell⟩ := mx_arr hH hi (by decide) (by decide)
  have hlt : i.toNatClampNeg < (kd k).2 := Nat.not_le.mp fun q => hr (Or.inr q)
  exact W.iald (v := .int (M k i.toNatClampNeg)) hx hb hcell ((hK.1.2 2 _ rfl).1 _ _) (fun q => by cases q) (by rw [arrV_size]; exact hr) (by rw [arrV_read _ _ hlt]; rfl) rfl rfl hd (K hL hn H locs ls hH hlo hls)
theorem mx_bald {pc k n : Nat} {M : Mm} {L : Lv} {r : Sk} {i : Int32} (C : mx_C p s m args meth c G md nL o cc) (hd : decode cc pc = .ok (.baload, 1)) (hi : mx_in md 9 k n) (hr : vp_in i (kd k).2) (K : mx_X p l e R s m args below meth c Q G md n0 nL n M (pc + 1) L (.int (M k i.toNatClampNeg) :: r)) : mx_X p l e R s m args below meth c Q G md n0 nL n M pc L (.int i :: .ref k :: r) := by
  intro hL hn H locs ls hH hlo hls
  obtain ⟨hx, hb, hml, ho, hts, hK, -⟩ := C
  obtain ⟨hk, hkc, hcell⟩ := mx_arr hH hi (by decide) (by decide)
  have hlt : i.toNatClampNeg < (kd k).2 := Nat.not_le.mp fun q => hr (Or.inr q)
  exact W.bald (v := .int (M k i.toNatClampNeg)) hx hb hcell ((hK.1.2 0 _ rfl).1 _ _) (fun q => by cases q) (by rw [arrV_size]; exact hr) (by rw [arrV_read _ _ hlt]; rfl) rfl rfl hd (K hL hn H locs ls hH hlo hls)
theorem mx_cald {pc k n : Nat} {M : Mm} {L : Lv} {r : Sk} {i : Int32} (C : mx_C p s m args meth c G md nL o cc) (hd : decode cc pc = .ok (.caload, 1)) (hi : mx_in md 10 k n) (hr : vp_in i (kd k).2) (K : mx_X p l e R s m args below meth c Q G md n0 nL n M (pc + 1) L (.int (M k i.toNatClampNeg) :: r)) : mx_X p l e R s m args below meth c Q G md n0 nL n M pc L (.int i :: .ref k :: r) := by
  intro hL hn H locs ls hH hlo hls
  obtain ⟨hx, hb, hml, ho, hts, hK, -⟩ := C
  obtain ⟨hk, hkc, hcell⟩ := mx_arr hH hi (by decide) (by decide)
  have hlt : i.toNatClampNeg < (kd k).2 := Nat.not_le.mp fun q => hr (Or.inr q)
  exact W.cald (v := .int (M k i.toNatClampNeg)) hx hb hcell ((hK.1.2 1 _ rfl).1 _ _) (fun q => by cases q) (by rw [arrV_size]; exact hr) (by rw [arrV_read _ _ hlt]; rfl) rfl rfl hd (K hL hn H locs ls hH hlo hls)
theorem mx_zald {pc k n : Nat} {M : Mm} {L : Lv} {r : Sk} {i : Int32} (C : mx_C p s m args meth c G md nL o cc) (hd : decode cc pc = .ok (.baload, 1)) (hi : mx_in md 12 k n) (hr : vp_in i (kd k).2) (K : mx_X p l e R s m args below meth c Q G md n0 nL n M (pc + 1) L (.int (M k i.toNatClampNeg) :: r)) : mx_X p l e R s m args below meth c Q G md n0 nL n M pc L (.int i :: .ref k :: r) := by
  intro hL hn H locs ls hH hlo hls
  obtain ⟨hx, hb, hml, ho, hts, hK, -⟩ := C
  obtain ⟨hk, hkc, hcell⟩ := mx_arr hH hi (by decide) (by decide)
  have hlt : i.toNatClampNeg < (kd k).2 := Nat.not_le.mp fun q => hr (Or.inr q)
  exact W.zald (v := .int (M k i.toNatClampNeg)) hx hb hcell ((hK.1.2 3 _ rfl).1 _ _) (fun q => by cases q) (by rw [arrV_size]; exact hr) (by rw [arrV_read _ _ hlt]; rfl) rfl rfl hd (K hL hn H locs ls hH hlo hls)
theorem mx_iast {pc k n : Nat} {M : Mm} {L : Lv} {r : Sk} {i x : Int32} (C : mx_C p s m args meth c G md nL o cc) (hd : decode cc pc = .ok (.iastore, 1)) (hi : mx_in md 11 k n) (hr : vp_in i (kd k).2) (K : mx_X p l e R s m args below meth c Q G md n0 nL n (mx_wr M k i.toNatClampNeg x) (pc + 1) L r) : mx_X p l e R s m args below meth c Q G md n0 nL n M pc L (.int x :: .int i :: .ref k :: r) := by
  intro hL hn H locs ls hH hlo hls
  obtain ⟨hx, hb, hml, ho, hts, hK, -⟩ := C
  obtain ⟨hk, hkc, hcell⟩ := mx_arr hH hi (by decide) (by decide)
  have hz : mx_ad G k = G.1.size + k := mx_adk hH hk
  refine W.iast hx hb hcell ((hK.1.2 2 _ rfl).1 _ _) (fun q => by cases q) (by rw [arrV_size]; exact hr) rfl rfl hd fun H1 e z oq => ?_
  refine K hL hn H1 _ ls (hH.put (k := k) (fun q hq => mx_wr_ne hq) z (fun q hq => oq q (by rw [hz]; exact hq)) ?_) (fun q hq => ?_) hls
  · unfold mx_cell
    rw [if_neg (by omega), hkc]
    rw [arrV_store, hz] at e
    rw [e]
    congr 2
    funext q
    rw [mx_wr_self]
    by_cases hq : q = i.toNatClampNeg
    · subst hq
      simp [updV, mx_ev, mx_cv, vp_nar]
      try rfl
    · simp [updV, hq]
  · rcases List.mem_append.mp hq with h | h
    · exact hlo q h
    · rw [List.mem_singleton.mp h]
      show G.1.size ≤ mx_ad G k
      omega
theorem mx_bast {pc k n : Nat} {M : Mm} {L : Lv} {r : Sk} {i x : Int32} (C : mx_C p s m args meth c G md nL o cc) (hd : decode cc pc = .ok (.bastore, 1)) (hi : mx_in md 9 k n) (hr : vp_in i (kd k).2) (K : mx_X p l e R s m args below meth c Q G md n0 nL n (mx_wr M k i.toNatClampNeg (vp_nar .byte x)) (pc + 1) L r) : mx_X p l e R s m args below meth c Q G md n0 nL n M pc L (.int x :: .int i :: .ref k :: r) := by
  intro hL hn H locs ls hH hlo hls
  obtain ⟨hx, hb, hml, ho, hts, hK, -⟩ := C
  obtain ⟨hk, hkc, hcell⟩ := mx_arr hH hi (by decide) (by decide)
  have hz : mx_ad G k = G.1.size + k := mx_adk hH hk
  refine W.bast hx hb hcell ((hK.1.2 0 _ rfl).1 _ _) (fun q => by cases q) (by rw [arrV_size]; exact hr) rfl rfl hd fun H1 e z oq => ?_
  refine K hL hn H1 _ ls (hH.put (k := k) (fun q hq => mx_wr_ne hq) z (fun q hq => oq q (by rw [hz]; exact hq)) ?_) (fun q hq => ?_) hls
  · unfold mx_cell
    rw [if_neg (by omega), hkc]
    rw [arrV_store, hz] at e
    rw [e]
    congr 2
    funext q
    rw [mx_wr_self]
    by_cases hq : q = i.toNatClampNeg
    · subst hq
      simp [updV, mx_ev, mx_cv, vp_nar]
      try rfl
    · simp [updV, hq]
  · rcases List.mem_append.mp hq with h | h
    · exact hlo q h
    · rw [List.mem_singleton.mp h]
      show G.1.size ≤ mx_ad G k
      omega
theorem mx_cast {pc k n : Nat} {M : Mm} {L : Lv} {r : Sk} {i x : Int32} (C : mx_C p s m args meth c G md nL o cc) (hd : decode cc pc = .ok (.castore, 1)) (hi : mx_in md 10 k n) (hr : vp_in i (kd k).2) (K : mx_X p l e R s m args below meth c Q G md n0 nL n (mx_wr M k i.toNatClampNeg (vp_nar .char x)) (pc + 1) L r) : mx_X p l e R s m args below meth c Q G md n0 nL n M pc L (.int x :: .int i :: .ref k :: r) := by
  intro hL hn H locs ls hH hlo hls
  obtain ⟨hx, hb, hml, ho, hts, hK, -⟩ := C
  obtain ⟨hk, hkc, hcell⟩ := mx_arr hH hi (by decide) (by decide)
  have hz : mx_ad G k = G.1.size + k := mx_adk hH hk
  refine W.cast hx hb hcell ((hK.1.2 1 _ rfl).1 _ _) (fun q => by cases q) (by rw [arrV_size]; exact hr) rfl rfl hd fun H1 e z oq => ?_
  refine K hL hn H1 _ ls (hH.put (k := k) (fun q hq => mx_wr_ne hq) z (fun q hq => oq q (by rw [hz]; exact hq)) ?_) (fun q hq => ?_) hls
  · unfold mx_cell
    rw [if_neg (by omega), hkc]
    rw [arrV_store, hz] at e
    rw [e]
    congr 2
    funext q
    rw [mx_wr_self]
    by_cases hq : q = i.toNatClampNeg
    · subst hq
      simp [updV, mx_ev, mx_cv, vp_nar]
      try rfl
    · simp [updV, hq]
  · rcases List.mem_append.mp hq with h | h
    · exact hlo q h
    · rw [List.mem_singleton.mp h]
      show G.1.size ≤ mx_ad G k
      omega
theorem mx_zast {pc k n : Nat} {M : Mm} {L : Lv} {r : Sk} {i x : Int32} (C : mx_C p s m args meth c G md nL o cc) (hd : decode cc pc = .ok (.bastore, 1)) (hi : mx_in md 12 k n) (hr : vp_in i (kd k).2) (K : mx_X p l e R s m args below meth c Q G md n0 nL n (mx_wr M k i.toNatClampNeg (vp_nar .boolean x)) (pc + 1) L r) : mx_X p l e R s m args below meth c Q G md n0 nL n M pc L (.int x :: .int i :: .ref k :: r) := by
  intro hL hn H locs ls hH hlo hls
  obtain ⟨hx, hb, hml, ho, hts, hK, -⟩ := C
  obtain ⟨hk, hkc, hcell⟩ := mx_arr hH hi (by decide) (by decide)
  have hz : mx_ad G k = G.1.size + k := mx_adk hH hk
  refine W.zast hx hb hcell ((hK.1.2 3 _ rfl).1 _ _) (fun q => by cases q) (by rw [arrV_size]; exact hr) rfl rfl hd fun H1 e z oq => ?_
  refine K hL hn H1 _ ls (hH.put (k := k) (fun q hq => mx_wr_ne hq) z (fun q hq => oq q (by rw [hz]; exact hq)) ?_) (fun q hq => ?_) hls
  · unfold mx_cell
    rw [if_neg (by omega), hkc]
    rw [arrV_store, hz] at e
    rw [e]
    congr 2
    funext q
    rw [mx_wr_self]
    by_cases hq : q = i.toNatClampNeg
    · subst hq
      simp [updV, mx_ev, mx_cv, vp_nar]
      try rfl
    · simp [updV, hq]
  · rcases List.mem_append.mp hq with h | h
    · exact hlo q h
    · rw [List.mem_singleton.mp h]
      show G.1.size ≤ mx_ad G k
      omega
theorem mx_tyA {c1 : Nat} (h9 : 9 ≤ c1) (h17 : c1 < 17) (hK : mx_K G s) : ∃ ty, ArrOfT s (G.2.2.1 c1) ty ∧ (13 ≤ c1 → ty.isReference = true) := by
  rcases (show c1 = 9 ∨ c1 = 10 ∨ c1 = 11 ∨ c1 = 12 ∨ c1 = 13 ∨ c1 = 14 ∨ c1 = 15 ∨ c1 = 16 by omega) with rfl | rfl | rfl | rfl | rfl | rfl | rfl | rfl
  · exact ⟨_, (hK.1.2 0 _ rfl).1, fun h => absurd h (by decide)⟩
  · exact ⟨_, (hK.1.2 1 _ rfl).1, fun h => absurd h (by decide)⟩
  · exact ⟨_, (hK.1.2 2 _ rfl).1, fun h => absurd h (by decide)⟩
  · exact ⟨_, (hK.1.2 3 _ rfl).1, fun h => absurd h (by decide)⟩
  · exact ⟨_, (hK.1.2 4 _ rfl).1, fun h => rfl⟩
  · exact ⟨_, (hK.1.2 5 _ rfl).1, fun h => rfl⟩
  · exact ⟨_, (hK.1.2 6 _ rfl).1, fun h => rfl⟩
  · exact ⟨_, (hK.1.2 7 _ rfl).1, fun h => rfl⟩
theorem mx_aald {pc k n c1 : Nat} {M : Mm} {L : Lv} {r : Sk} {i : Int32} (C : mx_C p s m args meth c G md nL o cc) (hd : decode cc pc = .ok (.aaload, 1)) (h13 : 13 ≤ c1 ∧ c1 < 17 ∧ md = true) (hi : mx_in md c1 k n) (hr : vp_in i (kd k).2) (K : mx_X p l e R s m args below meth c Q G md n0 nL n M (pc + 1) L (.ref (mx_el c1 k i.toNatClampNeg) :: r)) : mx_X p l e R s m args below meth c Q G md n0 nL n M pc L (.int i :: .ref k :: r) := by
  intro hL hn H locs ls hH hlo hls
  obtain ⟨hx, hb, hml, ho, hts, hK, -⟩ := C
  obtain ⟨h13, h17, rfl⟩ := h13
  obtain ⟨hk, hkc, hcell⟩ := mx_arr hH hi (by omega) h17
  obtain ⟨ty, hty, hir⟩ := mx_tyA (by omega) h17 hK
  have hlt : i.toNatClampNeg < (kd k).2 := Nat.not_le.mp fun q => hr (Or.inr q)
  exact W.aald (v := mx_cv G (.ref (mx_el c1 k i.toNatClampNeg))) hx hb hcell (hty _ _) (hir h13) (fun q => by cases q) (by rw [arrV_size]; exact hr) (by rw [arrV_read _ _ hlt]; simp [mx_ev, show ¬ c1 < 13 by omega]) rfl rfl hd (K hL hn H locs ls hH hlo hls)
theorem mx_alen {pc k n : Nat} {M : Mm} {L : Lv} {r : Sk} (C : mx_C p s m args meth c G md nL o cc) (hd : decode cc pc = .ok (.arraylength, 1)) (hi : ∃ c1, 9 ≤ c1 ∧ c1 < 17 ∧ mx_in md c1 k n) (K : mx_X p l e R s m args below meth c Q G md n0 nL n M (pc + 1) L (.int (nI (kd k).2) :: r)) : mx_X p l e R s m args below meth c Q G md n0 nL n M pc L (.ref k :: r) := by
  intro hL hn H locs ls hH hlo hls
  obtain ⟨hx, hb, hml, ho, hts, hK, -⟩ := C
  obtain ⟨c1, h9, h17, hi⟩ := hi
  obtain ⟨hk, hkc, hcell⟩ := mx_arr hH hi h9 h17
  obtain ⟨ty, hty, hir⟩ := mx_tyA h9 h17 hK
  exact W.alen (n := nI (kd k).2) hx hb hcell (hty _ _) (by rw [arrV_size]; rfl) rfl rfl hd (K hL hn H locs ls hH hlo hls)
end MX
end
section
section MX
variable {p : Program} {l : Launch} {e : Env} {R : Room} {s : State} {m : MethodId} {args : Array Value} {below : List Frame} {meth : Method} {c : Code} {Q : State → Prop} {G : Gt} {md : Bool} {n0 nL o : Nat} {cc : ByteArray}
theorem mx_setL {L : Lv} {i nL : Nat} {v : Option Value} (h : L.length = nL) : (L.set i v).length = nL := by rw [List.length_set]; exact h
/-- one instruction -/
theorem mx_one {n pc len : Nat} {M : Mm} {L : Lv} {S : Sk} {w : Instr} {a : Ai} (C : mx_C p s m args meth c G md nL o cc) (hd : decode cc pc = .ok (w, len)) (hok : mx_ok o w a = true) (h : mx_i md a n M L S (fun n' M' L' S' => mx_X p l e R s m args below meth c Q G md n0 nL n' M' (pc + len) L' S')) : len = mx_len w → mx_X p l e R s m args below meth c Q G md n0 nL n M pc L S := by
  intro hlen
  obtain ⟨hx, hb, hml, ho, hts, hK, hini, hlk⟩ := id C
  cases w <;> first | exact Bool.noConfusion (show false = true from hok) | skip
  case iconst v =>
    simp only [mx_ok, decide_eq_true_eq] at hok
    subst hok
    subst hlen
    intro hL hn H locs ls hH hlo hls
    exact lv_iconst hx hb hd rfl (h hL hn H locs ls hH hlo hls)
  case bipush v =>
    simp only [mx_ok, decide_eq_true_eq] at hok
    subst hok
    subst hlen
    intro hL hn H locs ls hH hlo hls
    exact lv_bipush hx hb hd rfl (h hL hn H locs ls hH hlo hls)
  case sipush v =>
    simp only [mx_ok, decide_eq_true_eq] at hok
    subst hok
    subst hlen
    intro hL hn H locs ls hH hlo hls
    exact lv_sipush hx hb hd rfl (h hL hn H locs ls hH hlo hls)
  case lconst v =>
    simp only [mx_ok, decide_eq_true_eq] at hok
    subst hok
    subst hlen
    intro hL hn H locs ls hH hlo hls
    exact lv_lconst hx hb hd rfl (h hL hn H locs ls hH hlo hls)
  case aconst_null =>
    simp only [mx_ok, decide_eq_true_eq] at hok
    subst hok
    subst hlen
    intro hL hn H locs ls hH hlo hls
    exact lv_null hx hb hd (h hL hn H locs ls hH hlo hls)
  case ldc q =>
    simp only [mx_ok] at hok
    split at hok
    · rename_i v
      subst hlen
      have hq := List.contains_iff_mem.mp hok
      intro hL hn H locs ls hH hlo hls
      exact lv_ldc hx hb ho (hts _ (mx_ct_in _ hq)) hd (h hL hn H locs ls hH hlo hls)
    · cases hok
  case ldc_w q =>
    simp only [mx_ok] at hok
    split at hok
    · rename_i v
      subst hlen
      have hq := List.contains_iff_mem.mp hok
      intro hL hn H locs ls hH hlo hls
      exact lv_ldcw hx hb ho (hts _ (mx_ct_in _ hq)) hd (h hL hn H locs ls hH hlo hls)
    · cases hok
  case iload j =>
    simp only [mx_ok, decide_eq_true_eq] at hok
    subst hok
    subst hlen
    obtain ⟨v, h1, h2⟩ := mx_get_inv h
    cases v <;> first | exact h2.elim | skip
    intro hL hn H locs ls hH hlo hls
    exact lv_iload hx hb hd (mx_lat hls h1) (h2 hL hn H locs ls hH hlo hls)
  case iload_n j =>
    simp only [mx_ok, decide_eq_true_eq] at hok
    subst hok
    subst hlen
    obtain ⟨v, h1, h2⟩ := mx_get_inv h
    cases v <;> first | exact h2.elim | skip
    intro hL hn H locs ls hH hlo hls
    exact lv_iload_n hx hb hd rfl (mx_lat hls h1) (h2 hL hn H locs ls hH hlo hls)
  case lload j =>
    simp only [mx_ok, decide_eq_true_eq] at hok
    subst hok
    subst hlen
    obtain ⟨v, h1, h2⟩ := mx_get_inv h
    cases v <;> first | exact h2.elim | skip
    intro hL hn H locs ls hH hlo hls
    exact lv_lload hx hb hd (mx_lat hls h1) (h2 hL hn H locs ls hH hlo hls)
  case lload_n j =>
    simp only [mx_ok, decide_eq_true_eq] at hok
    subst hok
    subst hlen
    obtain ⟨v, h1, h2⟩ := mx_get_inv h
    cases v <;> first | exact h2.elim | skip
    intro hL hn H locs ls hH hlo hls
    exact lv_lload_n hx hb hd rfl (mx_lat hls h1) (h2 hL hn H locs ls hH hlo hls)
  case aload j =>
    simp only [mx_ok, decide_eq_true_eq] at hok
    subst hok
    subst hlen
    obtain ⟨v, h1, h2⟩ := mx_get_inv h
    cases v <;> first | exact h2.elim | skip
    · intro hL hn H locs ls hH hlo hls
      exact lv_aloadN hx hb hd (mx_lat hls h1) (h2 hL hn H locs ls hH hlo hls)
    · intro hL hn H locs ls hH hlo hls
      exact lv_aload hx hb hd (mx_lat hls h1) (h2 hL hn H locs ls hH hlo hls)
  case aload_n j =>
    simp only [mx_ok, decide_eq_true_eq] at hok
    subst hok
    subst hlen
    obtain ⟨v, h1, h2⟩ := mx_get_inv h
    cases v <;> first | exact h2.elim | skip
    · intro hL hn H locs ls hH hlo hls
      exact lv_aload_nN hx hb hd rfl (mx_lat hls h1) (h2 hL hn H locs ls hH hlo hls)
    · intro hL hn H locs ls hH hlo hls
      exact lv_aload_n hx hb hd rfl (mx_lat hls h1) (h2 hL hn H locs ls hH hlo hls)
  case istore j =>
    simp only [mx_ok, decide_eq_true_eq] at hok
    subst hok
    subst hlen
    obtain ⟨x, r, rfl, h⟩ := mx_p1_inv h
    obtain ⟨h1, h2, h3⟩ := mx_set_inv h
    intro hL hn H locs ls hH hlo hls
    exact lv_istore hx hb hd hls (by rw [← hL]; exact h1) rfl (fun ls2 hl2 => h3 (mx_setL hL) hn H locs ls2 hH hlo (mx_store1 (v := .int x) hl2 h2))
  case istore_n j =>
    simp only [mx_ok, decide_eq_true_eq] at hok
    subst hok
    subst hlen
    obtain ⟨x, r, rfl, h⟩ := mx_p1_inv h
    obtain ⟨h1, h2, h3⟩ := mx_set_inv h
    intro hL hn H locs ls hH hlo hls
    exact lv_istore_n hx hb hd rfl hls (by rw [← hL]; exact h1) rfl (fun ls2 hl2 => h3 (mx_setL hL) hn H locs ls2 hH hlo (mx_store1 (v := .int x) hl2 h2))
  case astore j =>
    simp only [mx_ok, decide_eq_true_eq] at hok
    subst hok
    subst hlen
    dsimp only [mx_i] at h
    split at h
    · rename_i x r
      obtain ⟨h1, h2, h3⟩ := mx_set_inv h
      intro hL hn H locs ls hH hlo hls
      exact lv_astore hx hb hd hls (by rw [← hL]; exact h1) rfl (fun ls2 hl2 => h3 (mx_setL hL) hn H locs ls2 hH hlo (mx_store1 (v := .ref x) hl2 h2))
    · rename_i r
      obtain ⟨h1, h2, h3⟩ := mx_set_inv h
      intro hL hn H locs ls hH hlo hls
      exact lv_astoreN hx hb hd hls (by rw [← hL]; exact h1) rfl (fun ls2 hl2 => h3 (mx_setL hL) hn H locs ls2 hH hlo (mx_store1 (v := .null) hl2 h2))
    · exact h.elim
  case astore_n j =>
    simp only [mx_ok, decide_eq_true_eq] at hok
    subst hok
    subst hlen
    dsimp only [mx_i] at h
    split at h
    · rename_i x r
      obtain ⟨h1, h2, h3⟩ := mx_set_inv h
      intro hL hn H locs ls hH hlo hls
      exact lv_astore_n hx hb hd rfl hls (by rw [← hL]; exact h1) rfl (fun ls2 hl2 => h3 (mx_setL hL) hn H locs ls2 hH hlo (mx_store1 (v := .ref x) hl2 h2))
    · rename_i r
      obtain ⟨h1, h2, h3⟩ := mx_set_inv h
      intro hL hn H locs ls hH hlo hls
      exact lv_astore_nN hx hb hd rfl hls (by rw [← hL]; exact h1) rfl (fun ls2 hl2 => h3 (mx_setL hL) hn H locs ls2 hH hlo (mx_store1 (v := .null) hl2 h2))
    · exact h.elim
  case lstore j =>
    simp only [mx_ok, decide_eq_true_eq] at hok
    subst hok
    subst hlen
    obtain ⟨x, r, rfl, h⟩ := mx_l1_inv h
    obtain ⟨h1, h2, h3⟩ := mx_set_inv h
    obtain ⟨h4, h5, h6⟩ := mx_set_inv h3
    intro hL hn H locs ls hH hlo hls
    exact lv_lstore hx hb hd hls (by rw [← hL]; exact h1) rfl (fun ls2 hl2 => h6 (mx_setL (mx_setL hL)) hn H locs ls2 hH hlo (mx_store2 (v := .long x) hl2 (fun j2 x2 e2 q2 => h5 j2 x2 e2 (by rw [List.getElem?_set_ne (by omega)]; exact q2))))
  case lstore_n j =>
    simp only [mx_ok, decide_eq_true_eq] at hok
    subst hok
    subst hlen
    obtain ⟨x, r, rfl, h⟩ := mx_l1_inv h
    obtain ⟨h1, h2, h3⟩ := mx_set_inv h
    obtain ⟨h4, h5, h6⟩ := mx_set_inv h3
    intro hL hn H locs ls hH hlo hls
    exact lv_lstore_n hx hb hd rfl hls (by rw [← hL]; exact h1) rfl (fun ls2 hl2 => h6 (mx_setL (mx_setL hL)) hn H locs ls2 hH hlo (mx_store2 (v := .long x) hl2 (fun j2 x2 e2 q2 => h5 j2 x2 e2 (by rw [List.getElem?_set_ne (by omega)]; exact q2))))
  case iinc j d =>
    simp only [mx_ok, decide_eq_true_eq] at hok
    subst hok
    subst hlen
    obtain ⟨v, h1, h2⟩ := mx_get_inv h
    cases v <;> first | exact h2.elim | skip
    rename_i x
    obtain ⟨h3, h4, h5⟩ := mx_set_inv h2
    intro hL hn H locs ls hH hlo hls
    obtain ⟨k, hk⟩ := List.getElem?_of_mem (mx_al_mem (G := G) L 0 j _ h1)
    rw [Nat.zero_add] at hk
    exact lv_iinc hx hb hd hls hk rfl (by rw [← hL]; exact h3) rfl (fun ls2 hl2 => h5 (mx_setL hL) hn H locs ls2 hH hlo (mx_store1 (v := .int (x + Int32.ofInt d)) hl2 h4))
  case iadd =>
    simp only [mx_ok, decide_eq_true_eq] at hok
    subst hok
    subst hlen
    obtain ⟨x, y, r, rfl, h⟩ := mx_p2_inv h
    intro hL hn H locs ls hH hlo hls
    exact lv_iadd hx hb hd (h hL hn H locs ls hH hlo hls)
  case isub =>
    simp only [mx_ok, decide_eq_true_eq] at hok
    subst hok
    subst hlen
    obtain ⟨x, y, r, rfl, h⟩ := mx_p2_inv h
    intro hL hn H locs ls hH hlo hls
    exact lv_isub hx hb hd (h hL hn H locs ls hH hlo hls)
  case imul =>
    simp only [mx_ok, decide_eq_true_eq] at hok
    subst hok
    subst hlen
    obtain ⟨x, y, r, rfl, h⟩ := mx_p2_inv h
    intro hL hn H locs ls hH hlo hls
    exact lv_imul hx hb hd (h hL hn H locs ls hH hlo hls)
  case iand =>
    simp only [mx_ok, decide_eq_true_eq] at hok
    subst hok
    subst hlen
    obtain ⟨x, y, r, rfl, h⟩ := mx_p2_inv h
    intro hL hn H locs ls hH hlo hls
    exact lv_iand hx hb hd (h hL hn H locs ls hH hlo hls)
  case ior =>
    simp only [mx_ok, decide_eq_true_eq] at hok
    subst hok
    subst hlen
    obtain ⟨x, y, r, rfl, h⟩ := mx_p2_inv h
    intro hL hn H locs ls hH hlo hls
    exact lv_ior hx hb hd (h hL hn H locs ls hH hlo hls)
  case ishl =>
    simp only [mx_ok, decide_eq_true_eq] at hok
    subst hok
    subst hlen
    obtain ⟨x, y, r, rfl, h⟩ := mx_p2_inv h
    intro hL hn H locs ls hH hlo hls
    exact lv_ishl hx hb hd (h hL hn H locs ls hH hlo hls)
  case ishr =>
    simp only [mx_ok, decide_eq_true_eq] at hok
    subst hok
    subst hlen
    obtain ⟨x, y, r, rfl, h⟩ := mx_p2_inv h
    intro hL hn H locs ls hH hlo hls
    exact lv_ishr hx hb hd (h hL hn H locs ls hH hlo hls)
  case iushr =>
    simp only [mx_ok, decide_eq_true_eq] at hok
    subst hok
    subst hlen
    obtain ⟨x, y, r, rfl, h⟩ := mx_p2_inv h
    intro hL hn H locs ls hH hlo hls
    exact lv_iushr hx hb hd rfl (h hL hn H locs ls hH hlo hls)
  case idiv =>
    simp only [mx_ok, decide_eq_true_eq] at hok
    subst hok
    subst hlen
    obtain ⟨x, y, r, rfl, h0, h⟩ := mx_p2_inv h
    intro hL hn H locs ls hH hlo hls
    exact lv_idiv hx hb hd h0 (h hL hn H locs ls hH hlo hls)
  case irem =>
    simp only [mx_ok, decide_eq_true_eq] at hok
    subst hok
    subst hlen
    obtain ⟨x, y, r, rfl, h0, h⟩ := mx_p2_inv h
    intro hL hn H locs ls hH hlo hls
    exact lv_irem hx hb hd h0 (h hL hn H locs ls hH hlo hls)
  case ineg =>
    simp only [mx_ok, decide_eq_true_eq] at hok
    subst hok
    subst hlen
    obtain ⟨x, r, rfl, h⟩ := mx_p1_inv h
    intro hL hn H locs ls hH hlo hls
    exact lv_ineg hx hb hd (h hL hn H locs ls hH hlo hls)
  case i2l =>
    simp only [mx_ok, decide_eq_true_eq] at hok
    subst hok
    subst hlen
    obtain ⟨x, r, rfl, h⟩ := mx_p1_inv h
    intro hL hn H locs ls hH hlo hls
    exact lv_i2l hx hb hd rfl (h hL hn H locs ls hH hlo hls)
  case i2b =>
    simp only [mx_ok, decide_eq_true_eq] at hok
    subst hok
    subst hlen
    obtain ⟨x, r, rfl, h⟩ := mx_p1_inv h
    intro hL hn H locs ls hH hlo hls
    exact lv_i2b hx hb hd rfl (h hL hn H locs ls hH hlo hls)
  case i2s =>
    simp only [mx_ok, decide_eq_true_eq] at hok
    subst hok
    subst hlen
    obtain ⟨x, r, rfl, h⟩ := mx_p1_inv h
    intro hL hn H locs ls hH hlo hls
    exact lv_i2s hx hb hd rfl (h hL hn H locs ls hH hlo hls)
  case i2c =>
    simp only [mx_ok, decide_eq_true_eq] at hok
    subst hok
    subst hlen
    obtain ⟨x, r, rfl, h⟩ := mx_p1_inv h
    intro hL hn H locs ls hH hlo hls
    exact lv_i2c hx hb hd rfl (h hL hn H locs ls hH hlo hls)
  case l2i =>
    simp only [mx_ok, decide_eq_true_eq] at hok
    subst hok
    subst hlen
    obtain ⟨x, r, rfl, h⟩ := mx_l1_inv h
    intro hL hn H locs ls hH hlo hls
    exact lv_l2i hx hb hd rfl (h hL hn H locs ls hH hlo hls)
  case lneg =>
    simp only [mx_ok, decide_eq_true_eq] at hok
    subst hok
    subst hlen
    obtain ⟨x, r, rfl, h⟩ := mx_l1_inv h
    intro hL hn H locs ls hH hlo hls
    exact lv_lneg hx hb hd (h hL hn H locs ls hH hlo hls)
  case ladd =>
    simp only [mx_ok, decide_eq_true_eq] at hok
    subst hok
    subst hlen
    obtain ⟨x, y, r, rfl, h⟩ := mx_l2_inv h
    intro hL hn H locs ls hH hlo hls
    exact lv_ladd hx hb hd (h hL hn H locs ls hH hlo hls)
  case lsub =>
    simp only [mx_ok, decide_eq_true_eq] at hok
    subst hok
    subst hlen
    obtain ⟨x, y, r, rfl, h⟩ := mx_l2_inv h
    intro hL hn H locs ls hH hlo hls
    exact lv_lsub hx hb hd (h hL hn H locs ls hH hlo hls)
  case lcmp =>
    simp only [mx_ok, decide_eq_true_eq] at hok
    subst hok
    subst hlen
    obtain ⟨x, y, r, rfl, h⟩ := mx_l2_inv h
    intro hL hn H locs ls hH hlo hls
    exact W.lcmp hx hb hd (h hL hn H locs ls hH hlo hls)
  case dup =>
    simp only [mx_ok, decide_eq_true_eq] at hok
    subst hok
    subst hlen
    dsimp only [mx_i] at h
    split at h
    · intro hL hn H locs ls hH hlo hls
      exact lv_dup hx hb hd rfl (h hL hn H locs ls hH hlo hls)
    · intro hL hn H locs ls hH hlo hls
      exact lv_dup hx hb hd rfl (h hL hn H locs ls hH hlo hls)
    · exact h.elim
  case dup2 =>
    simp only [mx_ok, decide_eq_true_eq] at hok
    subst hok
    subst hlen
    obtain ⟨k, i, r, rfl, h⟩ := mx_pa_inv h
    intro hL hn H locs ls hH hlo hls
    exact lv_dup2_11 hx hb hd rfl rfl (h hL hn H locs ls hH hlo hls)
  case pop =>
    simp only [mx_ok, decide_eq_true_eq] at hok
    subst hok
    subst hlen
    obtain ⟨x, r, rfl, h⟩ := mx_p1_inv h
    intro hL hn H locs ls hH hlo hls
    exact lv_pop hx hb hd rfl (h hL hn H locs ls hH hlo hls)
  case getfield q =>
    simp only [mx_ok] at hok
    split at hok
    · rename_i z
      subst hlen
      obtain ⟨k, r, rfl, h1, h2⟩ := mx_pr_inv h
      refine mx_getf C hd ?_ h1 h2
      rcases (Bool.or_eq_true _ _).mp hok with h3 | h3
      · exact Or.inl (List.contains_iff_mem.mp h3)
      · exact Or.inr (List.contains_iff_mem.mp h3)
    · cases hok
  case putfield q =>
    simp only [mx_ok] at hok
    split at hok
    · rename_i z
      subst hlen
      simp only [Bool.and_eq_true, Bool.or_eq_true, decide_eq_true_eq, beq_iff_eq] at hok
      have hq := List.contains_iff_mem.mp hok.1
      have hty := mx_tyq _ hq
      dsimp only at hty
      dsimp only [mx_i, mx_pf] at h
      split at h
      · rename_i x k r
        obtain ⟨h1, h2, h3, h4⟩ := h
        refine mx_putf C hd hq (Or.inl (by omega)) h1 (x := x) (mx_sv0 h2) h3 ?_ h4
        rcases hty.1 h2 with ht | ht
        · rw [ht]; rfl
        · rw [ht] at h3 ⊢
          rcases mx_bool h3 with rfl | rfl <;> rfl
      · rename_i t k r
        obtain ⟨h1, h2, h3, h4⟩ := h
        have hne : (ft (z / 64) (z % 64)).1 ≠ 0 := by omega
        have hr := mx_isr_ok (a := mx_ad G t) (hty.2 hne)
        refine mx_putf C hd hq ?_ h1 (x := nI t) ?_ hr.1 hr.2 h4
        · rcases hok.2 with h5 | h5
          · exact Or.inl h5
          · rcases h2 with h6 | h6
            · exact Or.inl (by omega)
            · exact Or.inr ⟨h5, h6.1⟩
        · have h31 : 0 < t := h3.1
          have h32 : t < 1000 := h3.2
          have h33 : t < 2 ^ 31 := Nat.lt_trans h32 (by decide)
          have ht : (nI t).toNatClampNeg = t := nI_clamp h33
          have h0 : ¬ nI t = 0 := nI_ne0 h31 h33
          have hv : mx_rv (nI t) = .ref t := by simp [mx_rv, h0, ht]
          cases md with
          | false =>
            exact mx_svN hne hv
          | true =>
            have h7 : (ft (z / 64) (z % 64)).1 = 1 := h2.resolve_right (fun h => by cases h.1)
            exact mx_sv1 h7 ht
      · exact h.elim
    · cases hok
  case iaload =>
    simp only [mx_ok, decide_eq_true_eq] at hok
    subst hok
    subst hlen
    obtain ⟨k, i, r, rfl, h1, h2, h3⟩ := mx_pa_inv h
    exact mx_iald C hd h1 h2 h3
  case caload =>
    simp only [mx_ok, decide_eq_true_eq] at hok
    subst hok
    subst hlen
    obtain ⟨k, i, r, rfl, h1, h2, h3⟩ := mx_pa_inv h
    exact mx_cald C hd h1 h2 h3
  case baload =>
    simp only [mx_ok, Bool.or_eq_true, decide_eq_true_eq] at hok
    subst hlen
    rcases hok with rfl | rfl
    · obtain ⟨k, i, r, rfl, h1, h2, h3⟩ := mx_pa_inv h
      exact mx_bald C hd h1 h2 h3
    · obtain ⟨k, i, r, rfl, h1, h2, h3⟩ := mx_pa_inv h
      exact mx_zald C hd h1 h2 h3
  case aaload =>
    simp only [mx_ok] at hok
    split at hok
    · rename_i c1
      subst hlen
      obtain ⟨k, i, r, rfl, h0, h1, h2, h3⟩ := mx_pa_inv h
      exact mx_aald C hd h0 h1 h2 h3
    · cases hok
  case iastore =>
    simp only [mx_ok, decide_eq_true_eq] at hok
    subst hok
    subst hlen
    obtain ⟨k, i, x, r, rfl, h1, h2, h3⟩ := mx_pb_inv h
    exact mx_iast C hd h1 h2 h3
  case castore =>
    simp only [mx_ok, decide_eq_true_eq] at hok
    subst hok
    subst hlen
    obtain ⟨k, i, x, r, rfl, h1, h2, h3⟩ := mx_pb_inv h
    exact mx_cast C hd h1 h2 h3
  case bastore =>
    simp only [mx_ok, Bool.or_eq_true, decide_eq_true_eq] at hok
    subst hlen
    rcases hok with rfl | rfl
    · obtain ⟨k, i, x, r, rfl, h1, h2, h3⟩ := mx_pb_inv h
      exact mx_bast C hd h1 h2 h3
    · obtain ⟨k, i, x, r, rfl, h1, h2, h3⟩ := mx_pb_inv h
      exact mx_zast C hd h1 h2 h3
  case arraylength =>
    simp only [mx_ok, decide_eq_true_eq] at hok
    subst hok
    subst hlen
    obtain ⟨k, r, rfl, h1, h2⟩ := mx_pr_inv h
    exact mx_alen C hd h1 h2
end MX
end
section
/-! a method: its name, code, locals, what it returns, its class -/
abbrev Md : Type := MethodName × ByteArray × Nat × Option FieldType × Nat
def mx_rm (d n n' : Nat) : Room := { frames := d, cells := n' - n, slots := mx_sz n' - mx_sz n, locals := 100 * d }
def mx_wT (D : Md) : List Cond := Cond.code D.1 D.2.1 D.2.2.1 D.2.2.2.1 :: gw
/-- the contract of a method: from the store M (n cells made), with these values, it comes back with a value and a store (n' cells) of which P holds -/
def Rn (l : Launch) (G : Gt) (md : Bool) (d : Nat) (D : Md) (n : Nat) (as : List Value) (M : Mm) (n' : Nat) (P : Option Value → Mm → Prop) : Prop :=
  Met l D.1 (mx_wT D) (mx_rm d n n') (va_Pc (as.map (mx_cv G)) (fun U => mx_H G md n M U.heap ∧ mx_K G U)) (fun _ _ oc t => ∃ (v : Option Value) (M' : Mm), oc = .returned (v.map (mx_cv G)) ∧ P v M' ∧ mx_H G md n' M' t.heap) (n' - n) (mx_sz n' - mx_sz n) (mx_A G)
/-- at every depth from k on -/
def Runs (l : Launch) (G : Gt) (md : Bool) (D : Md) (k n : Nat) (as : List Value) (M : Mm) (n' : Nat) (P : Option Value → Mm → Prop) : Prop := ∀ d, k ≤ d → Rn l G md d D n as M n' P
def mx_br (br : Instr) (S : Sk) (Kt Kf : Sk → Prop) : Prop := match br with
  | .ifCond .eq _ => mx_p1 S (fun x r => (x = 0 → Kt r) ∧ (¬ x = 0 → Kf r))
  | .ifCond .ne _ => mx_p1 S (fun x r => (¬ x = 0 → Kt r) ∧ (x = 0 → Kf r))
  | .ifCond .lt _ => mx_p1 S (fun x r => (x < 0 → Kt r) ∧ (¬ x < 0 → Kf r))
  | .ifCond .ge _ => mx_p1 S (fun x r => (0 ≤ x → Kt r) ∧ (¬ 0 ≤ x → Kf r))
  | .ifCond .gt _ => mx_p1 S (fun x r => (0 < x → Kt r) ∧ (¬ 0 < x → Kf r))
  | .ifCond .le _ => mx_p1 S (fun x r => (x ≤ 0 → Kt r) ∧ (¬ x ≤ 0 → Kf r))
  | .if_icmp .eq _ => mx_p2 S (fun x y r => (x = y → Kt r) ∧ (¬ x = y → Kf r))
  | .if_icmp .ne _ => mx_p2 S (fun x y r => (¬ x = y → Kt r) ∧ (x = y → Kf r))
  | .if_icmp .lt _ => mx_p2 S (fun x y r => (x < y → Kt r) ∧ (¬ x < y → Kf r))
  | .if_icmp .ge _ => mx_p2 S (fun x y r => (y ≤ x → Kt r) ∧ (¬ y ≤ x → Kf r))
  | .if_icmp .gt _ => mx_p2 S (fun x y r => (y < x → Kt r) ∧ (¬ y < x → Kf r))
  | .if_icmp .le _ => mx_p2 S (fun x y r => (x ≤ y → Kt r) ∧ (¬ x ≤ y → Kf r))
  | .ifnonnull _ => (match S with
    | .ref _ :: r => Kt r
    | .null :: r => Kf r
    | _ => False)
  | _ => False
def mx_brk (cc : ByteArray) (pc : Nat) (br : Instr) (t f : Nat) : Bool := match decode cc pc with
  | .ok (w, len) => decide (w = br) && (len == 3) && (f == pc + 3) && (match br with
    | .ifCond _ off => decide ((pc : Int) + off = (t : Int))
    | .if_icmp _ off => decide ((pc : Int) + off = (t : Int))
    | .ifnonnull off => decide ((pc : Int) + off = (t : Int))
    | _ => false)
  | .error _ => false
def mx_jmp (cc : ByteArray) (pc t : Nat) : Bool := match decode cc pc with
  | .ok (.goto off, len) => (len == 3) && decide ((pc : Int) + off = (t : Int))
  | _ => false
def mx_sw (x : Int32) : List (Int32 × Nat) → Nat → (Nat → Prop) → Prop
  | [], d, K => K d
  | (v, t) :: r, d, K => (x = v → K t) ∧ (¬ x = v → mx_sw x r d K)
def mx_swk (cc : ByteArray) (pc : Nat) (tb : List (Int32 × Nat)) (d : Nat) : Bool := match decode cc pc with
  | .ok (.tableswitch dflt lo hi offs, _) => decide ((pc : Int) + dflt = (d : Int)) && decide (tb.map (fun q => ((q.1.toInt : Int), (q.2 : Int) - (pc : Int))) = offs.toList.zipIdx.map (fun q => (lo + (q.2 : Int), q.1))) && decide (hi - lo + 1 = (offs.size : Int))
  | .ok (.lookupswitch dflt ps, _) => decide ((pc : Int) + dflt = (d : Int)) && decide (tb.map (fun q => ((q.1.toInt : Int), (q.2 : Int) - (pc : Int))) = ps.toList) && (ps.toList.zip (ps.toList.drop 1)).all (fun (a, next) => a.1 < next.1)
  | _ => false
/-- how a method is called: static, on an object, a constructor; of a nest mate too -/
def mx_cS (o : Nat) (i : Nat) (D : Md) : Prop := Cond.methodLink (mx_rc o) i D.1 ∈ gw ∧ Cond.static D.1 ∈ gw
def mx_cN (o : Nat) (i : Nat) (D : Md) : Prop := Cond.methodLinkNest (mx_rc o) i D.1 RX7 ∈ mx_nw ∧ Cond.static D.1 ∈ gw
def mx_cV (o : Nat) (i : Nat) (D : Md) : Prop := Cond.methodLink (mx_rc o) i D.1 ∈ gw ∧ Cond.instanceMethod D.1 ∈ gw ∧ Cond.selects D.1.cls D.1 D.1 ∈ gw
def mx_cI (o : Nat) (i : Nat) (D : Md) : Prop := (Cond.methodLink (mx_rc o) i D.1 ∈ gw ∨ Cond.methodLinkNest (mx_rc o) i D.1 RX7 ∈ mx_nw) ∧ D.1.name = "<init>" ∧ Cond.instanceMethod D.1 ∈ gw ∧ D.2.2.2.1 = none
/-- a method that can be called at all -/
def mx_D (D : Md) (na : Nat) : Prop := Cond.code D.1 D.2.1 D.2.2.1 D.2.2.2.1 ∈ gw ∧ Cond.initialized D.1.cls ∈ gw ∧ (D.1.cls ≠ "java/lang/invoke/MethodHandle" ∧ D.1.cls ≠ "java/lang/invoke/VarHandle" ∧ (parseMethodDescriptor D.1.desc).map (fun d => d.parameters.length) = some na) ∧ D.2.2.1 ≤ 80
def mx_abv (i : Nat) : Int32 := ([-1, 0, 0, 1, 2, 0] : List Int32).getD i 0
def mx_mth (o i : Nat) (y : MethodName) : Prop := Cond.methodLink (mx_rc o) i y ∈ gw
/-- instructions that read what stood there before: the static row, String constants, Math -/
def mx_odd (o : Nat) (w : Instr) (len : Nat) (S S' : Sk) : Prop :=
  (∃ i, w = .getstatic i ∧ len = 3 ∧ (Cond.fieldLink (mx_rc o) i RX7 "ABOVE" "[I" ∈ gw ∨ Cond.fieldLinkNest (mx_rc o) i RX7 "ABOVE" "[I" RX7 ∈ mx_nw) ∧ S' = .ref 1000 :: S) ∨
  (∃ r, w = .arraylength ∧ len = 1 ∧ S = .ref 1000 :: r ∧ S' = .int 6 :: r) ∨
  (∃ (i : Int32) (r : Sk), w = .iaload ∧ len = 1 ∧ vp_in i 6 ∧ S = .int i :: .ref 1000 :: r ∧ S' = .int (mx_abv i.toNatClampNeg) :: r) ∨
  (∃ (i : Nat) (r : Sk) (x y : Int32), w = .invokestatic i ∧ len = 3 ∧ mx_mth o i Lib.Math.max.name ∧ (r.map fun v => v.category).sum ≤ 8 ∧ S = .int y :: .int x :: r ∧ S' = .int (if x < y then y else x) :: r) ∨
  (∃ (i : Nat) (r : Sk) (x y : Int32), w = .invokestatic i ∧ len = 3 ∧ mx_mth o i Lib.Math.min.name ∧ (r.map fun v => v.category).sum ≤ 8 ∧ S = .int y :: .int x :: r ∧ S' = .int (if y < x then y else x) :: r) ∨
  (∃ (i : Nat) (r : Sk) (x : Int32), w = .invokestatic i ∧ len = 3 ∧ mx_mth o i Lib.Math.abs.name ∧ (r.map fun v => v.category).sum ≤ 8 ∧ S = .int x :: r ∧ S' = .int (if 0 ≤ x then x else 0 - x) :: r) ∨
  (∃ j : Nat, w = .ldc (mx_si.getD j 0) ∧ len = 2 ∧ o = 2 ∧ j < 6 ∧ S' = .ref (1001 + j) :: S) ∨
  (∃ (i j : Nat) (r : Sk), w = .getfield i ∧ len = 3 ∧ Cond.fieldLink (mx_rc o) i "java/lang/String" "value" "[B" ∈ gw ∧ j < 6 ∧ S = .ref (1001 + j) :: r ∧ S' = .ref (1011 + j) :: r) ∨
  (∃ (i j : Nat) (r : Sk), w = .getfield i ∧ len = 3 ∧ Cond.fieldLink (mx_rc o) i "java/lang/String" "coder" "B" ∈ gw ∧ j < 6 ∧ S = .ref (1001 + j) :: r ∧ S' = .int 0 :: r) ∨
  (∃ (j : Nat) (r : Sk), w = .arraylength ∧ len = 1 ∧ j < 6 ∧ S = .ref (1011 + j) :: r ∧ S' = .int (nI (mx_sl_.getD j 0)) :: r) ∨
  (∃ (j : Nat) (i : Int32) (r : Sk), w = .baload ∧ len = 1 ∧ j < 6 ∧ vp_in i (mx_sl_.getD j 0) ∧ S = .int i :: .ref (1011 + j) :: r ∧ S' = .int ((mx_sb.getD j []).getD i.toNatClampNeg 0) :: r) ∨
  (∃ i, w = .getstatic i ∧ len = 3 ∧ Cond.fieldLink (mx_rc o) i "java/lang/String" "COMPACT_STRINGS" "Z" ∈ gw ∧ S' = .int 1 :: S)
def mx_cpy (M : Mm) (k1 sp k2 dp cnt : Nat) : Mm := fun q => if q = k2 then va_cpy (M k1) (M k2) sp dp cnt else M q
/-- the kinds of arrays that newarray makes -/
def mx_aty (aty : ArrayType) : Nat := match aty with
  | .int => 11
  | .byte => 9
  | .char => 10
  | .boolean => 12
  | _ => 0
/-- the class of an array's entries -/
def mx_ec (k : Nat) : Nat := match k with
  | 13 => 0
  | 14 => 1
  | 15 => 4
  | _ => 5
/-- a new cell, all 0 -/
def mx_z (M : Mm) (n : Nat) : Mm := fun q => if q = n then (fun _ => 0) else M q
/-- what a predicate X on the places of a method's body owes: the rules of the small machine -/
def mx_Rl (l : Launch) (G : Gt) (md : Bool) (D : Md) (d : Nat) (nE : Nat) (P : Option Value → Mm → Prop) (X : Nat → Mm → Nat → Lv → Sk → Prop) : Prop :=
  (∀ (pc : Nat) (is : List Ai) (pc' n : Nat) (M : Mm) (L : Lv) (S : Sk), mx_blk D.2.2.2.2 D.2.1 pc is pc' = true → mx_b md is n M L S (fun n' M' L' S' => X n' M' pc' L' S') → X n M pc L S) ∧
  (∀ (pc t n : Nat) (M : Mm) (L : Lv) (S : Sk), mx_jmp D.2.1 pc t = true → X n M t L S → X n M pc L S) ∧
  (∀ (pc : Nat) (br : Instr) (t f n : Nat) (M : Mm) (L : Lv) (S : Sk), mx_brk D.2.1 pc br t f = true → mx_br br S (fun r => X n M t L r) (fun r => X n M f L r) → X n M pc L S) ∧
  (∀ (pc : Nat) (tb : List (Int32 × Nat)) (df n : Nat) (M : Mm) (L : Lv) (S : Sk), mx_swk D.2.1 pc tb df = true → mx_p1 S (fun x r => mx_sw x tb df (fun t => X n M t L r)) → X n M pc L S) ∧
  (∀ (pc i : Nat) (E : Md) (k n n' : Nat) (M : Mm) (L : Lv) (S r : Sk) (as : List Value) (PE : Option Value → Mm → Prop), decode D.2.1 pc = .ok (.invokestatic i, 3) → mx_D E as.length → mx_cS D.2.2.2.2 i E ∨ mx_cN D.2.2.2.2 i E → k < d → n ≤ n' → n' ≤ nE → Runs l G md E k n as M n' PE → S = as.reverse ++ r → (r.map fun v => v.category).sum ≤ 8 → (∀ (v : Option Value) (M' : Mm), PE v M' → X n' M' (pc + 3) L (v.toList ++ r)) → X n M pc L S) ∧
  (∀ (pc i : Nat) (E : Md) (k n n' b c : Nat) (M : Mm) (L : Lv) (S r : Sk) (as : List Value) (PE : Option Value → Mm → Prop), decode D.2.1 pc = .ok (.invokevirtual i, 3) → mx_D E as.length → mx_cV D.2.2.2.2 i E → k < d → n ≤ n' → n' ≤ nE → (c < 9 ∧ mx_rc c = E.1.cls) → mx_in md c b n → Runs l G md E k n (.ref b :: as) M n' PE → S = as.reverse ++ .ref b :: r → (r.map fun v => v.category).sum ≤ 8 → (∀ (v : Option Value) (M' : Mm), PE v M' → X n' M' (pc + 3) L (v.toList ++ r)) → X n M pc L S) ∧
  (∀ (pc i : Nat) (E : Md) (k n n' b : Nat) (M : Mm) (L : Lv) (S r : Sk) (as : List Value) (PE : Option Value → Mm → Prop), decode D.2.1 pc = .ok (.invokespecial i, 3) → mx_D E as.length → mx_cI D.2.2.2.2 i E → k < d → n ≤ n' → n' ≤ nE → Runs l G md E k n (.ref b :: as) M n' PE → S = as.reverse ++ .ref b :: r → (r.map fun v => v.category).sum ≤ 8 → (∀ (v : Option Value) (M' : Mm), PE v M' → X n' M' (pc + 3) L (v.toList ++ r)) → X n M pc L S) ∧
  (∀ (pc : Nat) (M : Mm) (L : Lv) (x : Int32) (ty : FieldType), decode D.2.1 pc = .ok (.ireturn, 1) → D.2.2.2.1 = some ty → narrow ty (.int x) = .int x → P (some (.int x)) M → X nE M pc L [.int x]) ∧
  (∀ (pc : Nat) (M : Mm) (L : Lv), decode D.2.1 pc = .ok (.return_, 1) → D.2.2.2.1 = none → P none M → X nE M pc L []) ∧
  (∀ (pc : Nat) (M : Mm) (L : Lv) (x : Int64), decode D.2.1 pc = .ok (.lreturn, 1) → D.2.2.2.1 = some .long → P (some (.long x)) M → X nE M pc L [.long x]) ∧
  (∀ (pc : Nat) (M : Mm) (L : Lv) (x : Value) (ty : FieldType), decode D.2.1 pc = .ok (.areturn, 1) → D.2.2.2.1 = some ty → mx_isr ty = true → (x = .null ∨ ∃ a, x = .ref a) → P (some x) M → X nE M pc L [x]) ∧
  (∀ (pc : Nat) (w : Instr) (len n : Nat) (M : Mm) (L : Lv) (S S' : Sk), decode D.2.1 pc = .ok (w, len) → mx_odd D.2.2.2.2 w len S S' → 1 ≤ d → n ≤ nE → X n M (pc + len) L S' → X n M pc L S) ∧
  (∀ (pc i n k1 k2 : Nat) (M : Mm) (L : Lv) (r : Sk) (sp dp cnt : Int32), decode D.2.1 pc = .ok (.invokestatic i, 3) → Cond.methodLink (mx_rc D.2.2.2.2) i arraycopyName ∈ gw → 1 ≤ d → mx_in md 11 k1 n → mx_in md 11 k2 n → ¬ sp < 0 → ¬ dp < 0 → ¬ cnt < 0 → sp.toNatClampNeg + cnt.toNatClampNeg ≤ (kd k1).2 → dp.toNatClampNeg + cnt.toNatClampNeg ≤ (kd k2).2 → (r.map fun v => v.category).sum ≤ 8 → X n (mx_cpy M k1 sp.toNatClampNeg k2 dp.toNatClampNeg cnt.toNatClampNeg) (pc + 3) L r → X n M pc L (.int cnt :: .int dp :: .ref k2 :: .int sp :: .ref k1 :: r)) ∧
  (∀ (pc i : Nat) (E : Md) (k n j : Nat) (M : Mm) (L : Lv) (S r : Sk) (as : List Value) (PE : Option Value → Mm → Prop), decode D.2.1 pc = .ok (.invokevirtual i, 3) → mx_D E as.length → mx_cV D.2.2.2.2 i E → k < d → n ≤ nE → E.1.cls = "java/lang/String" ∧ j < 6 → Runs l G md E k n (.ref (1001 + j) :: as) M n PE → S = as.reverse ++ .ref (1001 + j) :: r → (r.map fun v => v.category).sum ≤ 8 → (∀ (v : Option Value) (M' : Mm), PE v M' → X n M' (pc + 3) L (v.toList ++ r)) → X n M pc L S) ∧
  (∀ (pc i c n : Nat) (M : Mm) (L : Lv) (S : Sk), md = false → decode D.2.1 pc = .ok (.new i, 3) → (D.2.2.2.2, i, c) ∈ mx_cl → c < 9 → (kd n).1 = c → n + 1 ≤ nE → X (n + 1) (mx_z M n) (pc + 3) L (.ref n :: S) → X n M pc L S) ∧
  (∀ (pc n : Nat) (aty : ArrayType) (M : Mm) (L : Lv) (r : Sk) (x : Int32), md = false → decode D.2.1 pc = .ok (.newarray aty, 2) → (kd n).1 = mx_aty aty ∧ mx_aty aty ≠ 0 → ¬ x < 0 → x.toNatClampNeg = (kd n).2 → (kd n).2 ≤ 100000 → n + 1 ≤ nE → X (n + 1) (mx_z M n) (pc + 2) L (.ref n :: r) → X n M pc L (.int x :: r)) ∧
  (∀ (pc i n k1 : Nat) (M : Mm) (L : Lv) (r : Sk) (x : Int32), md = false → decode D.2.1 pc = .ok (.anewarray i, 3) → (D.2.2.2.2, i, mx_ec k1) ∈ mx_cl → (kd n).1 = k1 → 13 ≤ k1 → k1 < 17 → ¬ x < 0 → x.toNatClampNeg = (kd n).2 → (kd n).2 ≤ 100000 → n + 1 ≤ nE → X (n + 1) (mx_z M n) (pc + 3) L (.ref n :: r) → X n M pc L (.int x :: r)) ∧
  (∀ (pc n k1 k t : Nat) (M : Mm) (L : Lv) (r : Sk) (i : Int32), md = false → decode D.2.1 pc = .ok (.aastore, 1) → (kd k).1 = k1 ∧ k < n → 13 ≤ k1 → k1 < 17 → (kd t).1 = mx_ec k1 ∧ t < n ∧ 0 < t → vp_in i (kd k).2 → X n (mx_wr M k i.toNatClampNeg (nI t)) (pc + 1) L r → X n M pc L (.ref t :: .int i :: .ref k :: r)) ∧
  (∀ (pc i n b : Nat) (M : Mm) (L : Lv) (r : Sk), decode D.2.1 pc = .ok (.invokespecial i, 3) → Cond.methodLink (mx_rc D.2.2.2.2) i Lib.objectInit ∈ gw → 1 ≤ d → (r.map fun v => v.category).sum ≤ 8 → X n M (pc + 3) L r → X n M pc L (.ref b :: r))
end
section
theorem mx_getm : ∀ {L : Lv} {i : Nat} {K1 K2 : Value → Prop}, (∀ v, K1 v → K2 v) → mx_get L i K1 → mx_get L i K2
  | [], _, _, _, _, h => h
  | a :: l, 0, K1, K2, hk, h => by
    cases a with
    | none => exact h
    | some v => exact hk v h
  | a :: l, i + 1, K1, K2, hk, h => mx_getm (L := l) (i := i) hk h
theorem mx_setm : ∀ {L : Lv} {i : Nat} {v : Option Value} {K1 K2 : Lv → Prop}, (∀ v, K1 v → K2 v) → mx_set L i v K1 → mx_set L i v K2
  | [], _, _, _, _, _, h => h
  | a :: l, 0, v, K1, K2, hk, h => hk _ h
  | a :: l, i + 1, v, K1, K2, hk, h => by
    have ih : mx_set l i v (fun l' => K1 (a :: l')) → mx_set l i v (fun l' => K2 (a :: l')) := mx_setm (L := l) (i := i) (fun l' => hk (a :: l'))
    unfold mx_set at h ⊢
    cases hb : mx_lg a with
    | false =>
      rw [hb] at h
      cases i <;> exact ih h
    | true =>
      rw [hb] at h
      cases i with
      | zero => exact h
      | succ i => exact ih h
theorem mx_imono {md : Bool} {a : Ai} {n : Nat} {M : Mm} {L : Lv} {S : Sk} {K1 K2 : Kt} (hk : ∀ n M L S, K1 n M L S → K2 n M L S) (h : mx_i md a n M L S K1) : mx_i md a n M L S K2 := by
  cases a with
  | inr v => exact hk _ _ _ _ h
  | inl w =>
    cases w <;> first | exact h.elim | skip
    case iload j =>
      refine mx_getm (fun v hv => ?_) h
      cases v <;> first | exact hk _ _ _ _ hv | exact hv.elim
    case lload j =>
      refine mx_getm (fun v hv => ?_) h
      cases v <;> first | exact hk _ _ _ _ hv | exact hv.elim
    case aload j =>
      refine mx_getm (fun v hv => ?_) h
      cases v <;> first | exact hk _ _ _ _ hv | exact hv.elim
    case istore j =>
      obtain ⟨x, r, rfl, h⟩ := mx_p1_inv h
      exact mx_setm (fun L1 h1 => hk _ _ _ _ h1) h
    case lstore j =>
      obtain ⟨x, r, rfl, h⟩ := mx_l1_inv h
      exact mx_setm (fun L1 h1 => mx_setm (fun L2 h2 => hk _ _ _ _ h2) h1) h
    case astore j =>
      dsimp only [mx_i] at h ⊢
      split at h
      · exact mx_setm (fun L1 h1 => hk _ _ _ _ h1) h
      · exact mx_setm (fun L1 h1 => hk _ _ _ _ h1) h
      · exact h.elim
    case iinc j d =>
      refine mx_getm (fun v hv => ?_) h
      cases v <;> first | exact mx_setm (fun L1 h1 => hk _ _ _ _ h1) hv | exact hv.elim
    case iadd =>
      obtain ⟨x, y, r, rfl, h⟩ := mx_p2_inv h
      exact hk _ _ _ _ h
    case isub =>
      obtain ⟨x, y, r, rfl, h⟩ := mx_p2_inv h
      exact hk _ _ _ _ h
    case imul =>
      obtain ⟨x, y, r, rfl, h⟩ := mx_p2_inv h
      exact hk _ _ _ _ h
    case iand =>
      obtain ⟨x, y, r, rfl, h⟩ := mx_p2_inv h
      exact hk _ _ _ _ h
    case ior =>
      obtain ⟨x, y, r, rfl, h⟩ := mx_p2_inv h
      exact hk _ _ _ _ h
    case ishl =>
      obtain ⟨x, y, r, rfl, h⟩ := mx_p2_inv h
      exact hk _ _ _ _ h
    case ishr =>
      obtain ⟨x, y, r, rfl, h⟩ := mx_p2_inv h
      exact hk _ _ _ _ h
    case iushr =>
      obtain ⟨x, y, r, rfl, h⟩ := mx_p2_inv h
      exact hk _ _ _ _ h
    case idiv =>
      obtain ⟨x, y, r, rfl, h0, h⟩ := mx_p2_inv h
      exact ⟨h0, hk _ _ _ _ h⟩
    case irem =>
      obtain ⟨x, y, r, rfl, h0, h⟩ := mx_p2_inv h
      exact ⟨h0, hk _ _ _ _ h⟩
    case ineg =>
      obtain ⟨x, r, rfl, h⟩ := mx_p1_inv h
      exact hk _ _ _ _ h
    case i2l =>
      obtain ⟨x, r, rfl, h⟩ := mx_p1_inv h
      exact hk _ _ _ _ h
    case i2b =>
      obtain ⟨x, r, rfl, h⟩ := mx_p1_inv h
      exact hk _ _ _ _ h
    case i2s =>
      obtain ⟨x, r, rfl, h⟩ := mx_p1_inv h
      exact hk _ _ _ _ h
    case i2c =>
      obtain ⟨x, r, rfl, h⟩ := mx_p1_inv h
      exact hk _ _ _ _ h
    case pop =>
      obtain ⟨x, r, rfl, h⟩ := mx_p1_inv h
      exact hk _ _ _ _ h
    case l2i =>
      obtain ⟨x, r, rfl, h⟩ := mx_l1_inv h
      exact hk _ _ _ _ h
    case lneg =>
      obtain ⟨x, r, rfl, h⟩ := mx_l1_inv h
      exact hk _ _ _ _ h
    case ladd =>
      obtain ⟨x, y, r, rfl, h⟩ := mx_l2_inv h
      exact hk _ _ _ _ h
    case lsub =>
      obtain ⟨x, y, r, rfl, h⟩ := mx_l2_inv h
      exact hk _ _ _ _ h
    case lcmp =>
      obtain ⟨x, y, r, rfl, h⟩ := mx_l2_inv h
      exact hk _ _ _ _ h
    case dup =>
      dsimp only [mx_i] at h ⊢
      split at h
      · exact hk _ _ _ _ h
      · exact hk _ _ _ _ h
      · exact h.elim
    case dup2 =>
      obtain ⟨k, i, r, rfl, h⟩ := mx_pa_inv h
      exact hk _ _ _ _ h
    case getfield q =>
      obtain ⟨k, r, rfl, h1, h⟩ := mx_pr_inv h
      exact ⟨h1, hk _ _ _ _ h⟩
    case arraylength =>
      obtain ⟨k, r, rfl, h1, h⟩ := mx_pr_inv h
      exact ⟨h1, hk _ _ _ _ h⟩
    case putfield q =>
      dsimp only [mx_i, mx_pf] at h ⊢
      split at h
      · exact ⟨h.1, h.2.1, h.2.2.1, hk _ _ _ _ h.2.2.2⟩
      · exact ⟨h.1, h.2.1, h.2.2.1, hk _ _ _ _ h.2.2.2⟩
      · exact h.elim
    case iaload =>
      obtain ⟨k, i, r, rfl, h1, h2, h⟩ := mx_pa_inv h
      exact ⟨h1, h2, hk _ _ _ _ h⟩
    case baload =>
      obtain ⟨k, i, r, rfl, h1, h2, h⟩ := mx_pa_inv h
      exact ⟨h1, h2, hk _ _ _ _ h⟩
    case caload =>
      obtain ⟨k, i, r, rfl, h1, h2, h⟩ := mx_pa_inv h
      exact ⟨h1, h2, hk _ _ _ _ h⟩
    case daload =>
      obtain ⟨k, i, r, rfl, h1, h2, h⟩ := mx_pa_inv h
      exact ⟨h1, h2, hk _ _ _ _ h⟩
    case anewarray c1 =>
      obtain ⟨k, i, r, rfl, h0, h1, h2, h⟩ := mx_pa_inv h
      exact ⟨h0, h1, h2, hk _ _ _ _ h⟩
    case iastore =>
      obtain ⟨k, i, x, r, rfl, h1, h2, h⟩ := mx_pb_inv h
      exact ⟨h1, h2, hk _ _ _ _ h⟩
    case bastore =>
      obtain ⟨k, i, x, r, rfl, h1, h2, h⟩ := mx_pb_inv h
      exact ⟨h1, h2, hk _ _ _ _ h⟩
    case castore =>
      obtain ⟨k, i, x, r, rfl, h1, h2, h⟩ := mx_pb_inv h
      exact ⟨h1, h2, hk _ _ _ _ h⟩
    case dastore =>
      obtain ⟨k, i, x, r, rfl, h1, h2, h⟩ := mx_pb_inv h
      exact ⟨h1, h2, hk _ _ _ _ h⟩
theorem mx_szs (n : Nat) : mx_sz (n + 1) = mx_sz n + (kd n).2 := by
  unfold mx_sz kd
  by_cases h : n < kdL.length
  · rw [List.take_add_one, List.getElem?_eq_getElem h, List.getD_eq_getElem?_getD, List.getElem?_eq_getElem h]
    simp only [List.map_append, Option.toList, List.map_cons, List.map_nil, List.sum_append, List.sum_cons, List.sum_nil, Option.getD_some, Nat.add_zero]
  · have h1 : kdL.length ≤ n := by omega
    rw [List.take_of_length_le (by omega), List.take_of_length_le h1, List.getD_eq_getElem?_getD, List.getElem?_eq_none h1]
    simp only [Option.getD_none, Nat.add_zero]
theorem mx_szm {a b : Nat} (h : a ≤ b) : mx_sz a ≤ mx_sz b := by
  induction b with
  | zero =>
    have : a = 0 := by omega
    rw [this]
    exact Nat.le_refl _
  | succ b ih =>
    by_cases e : a = b + 1
    · rw [e]
      exact Nat.le_refl _
    · rw [mx_szs]
      exact Nat.le_trans (ih (by omega)) (Nat.le_add_right _ _)
theorem mx_sw_inv {x : Int32} {d : Nat} {K : Nat → Prop} : ∀ {tb : List (Int32 × Nat)}, mx_sw x tb d K → (∃ (i : Nat) (t : Nat), tb[i]? = some (x, t) ∧ K t) ∨ ((∀ q ∈ tb, x ≠ q.1) ∧ K d)
  | [], h => Or.inr ⟨fun q hq => absurd hq List.not_mem_nil, h⟩
  | (v, t) :: r, h => by
    by_cases e : x = v
    · subst e
      exact Or.inl ⟨0, t, rfl, h.1 rfl⟩
    · rcases mx_sw_inv (h.2 e) with ⟨i, t2, h1, h2⟩ | ⟨h1, h2⟩
      · exact Or.inl ⟨i + 1, t2, by simpa using h1, h2⟩
      · exact Or.inr ⟨fun q hq => by
          rcases List.mem_cons.mp hq with rfl | hq
          · exact e
          · exact h1 q hq, h2⟩
section MX
variable {p : Program} {l : Launch} {e : Env} {R : Room} {s : State} {m : MethodId} {args : Array Value} {below : List Frame} {meth : Method} {c : Code} {Q : State → Prop} {G : Gt} {md : Bool} {n0 nL o : Nat} {cc : ByteArray}
theorem mx_blkS (C : mx_C p s m args meth c G md nL o cc) : ∀ (is : List Ai) (pc pc' n : Nat) (M : Mm) (L : Lv) (S : Sk), mx_blk o cc pc is pc' = true → mx_b md is n M L S (fun n' M' L' S' => mx_X p l e R s m args below meth c Q G md n0 nL n' M' pc' L' S') → mx_X p l e R s m args below meth c Q G md n0 nL n M pc L S
  | [], pc, pc', n, M, L, S, h, k => by
    simp only [mx_blk, beq_iff_eq] at h
    subst h
    exact k
  | a :: r, pc, pc', n, M, L, S, h, k => by
    unfold mx_blk at h
    split at h
    · rename_i w len hd
      simp only [Bool.and_eq_true, beq_iff_eq] at h
      obtain ⟨⟨h1, h2⟩, h3⟩ := h
      refine mx_one C hd h1 ?_ h2
      have mono : ∀ (K1 K2 : Kt), (∀ n M L S, K1 n M L S → K2 n M L S) → mx_i md a n M L S K1 → mx_i md a n M L S K2 := fun K1 K2 hk h => mx_imono hk h
      exact mono _ _ (fun n' M' L' S' hb => mx_blkS C r (pc + len) pc' n' M' L' S' h3 hb) k
    · cases h
theorem mx_jmpS {pc t n : Nat} {M : Mm} {L : Lv} {S : Sk} (C : mx_C p s m args meth c G md nL o cc) (h : mx_jmp cc pc t = true) (k : mx_X p l e R s m args below meth c Q G md n0 nL n M t L S) : mx_X p l e R s m args below meth c Q G md n0 nL n M pc L S := by
  intro hL hn H locs ls hH hlo hls
  obtain ⟨hx, hb, -⟩ := C
  unfold mx_jmp at h
  split at h
  · rename_i off len hd
    simp only [Bool.and_eq_true, beq_iff_eq, decide_eq_true_eq] at h
    obtain ⟨rfl, h2⟩ := h
    exact lv_goto hx hb hd h2 (k hL hn H locs ls hH hlo hls)
  · cases h
theorem mx_brS {pc t f n : Nat} {br : Instr} {M : Mm} {L : Lv} {S : Sk} (C : mx_C p s m args meth c G md nL o cc) (h : mx_brk cc pc br t f = true) (k : mx_br br S (fun r => mx_X p l e R s m args below meth c Q G md n0 nL n M t L r) (fun r => mx_X p l e R s m args below meth c Q G md n0 nL n M f L r)) : mx_X p l e R s m args below meth c Q G md n0 nL n M pc L S := by
  intro hL hn H locs ls hH hlo hls
  obtain ⟨hx, hb, -⟩ := C
  unfold mx_brk at h
  split at h
  · rename_i w len hd
    simp only [Bool.and_eq_true, beq_iff_eq, decide_eq_true_eq] at h
    obtain ⟨⟨⟨rfl, rfl⟩, rfl⟩, h4⟩ := h
    cases w <;> first | exact Bool.noConfusion (show false = true from h4) | skip
    case if_icmp cd off =>
      have h5 : (pc : Int) + off = (t : Int) := by simpa using h4
      cases cd <;> obtain ⟨x, y, r, rfl, k1, k2⟩ := mx_p2_inv k
      case eq => exact lv_icmp_eq hx hb hd h5 (fun q => k1 q hL hn H locs ls hH hlo hls) (fun q => k2 q hL hn H locs ls hH hlo hls)
      case ne => exact lv_icmp_ne hx hb hd h5 (fun q => k1 q hL hn H locs ls hH hlo hls) (fun q => k2 q hL hn H locs ls hH hlo hls)
      case lt => exact lv_icmp_lt hx hb hd h5 (fun q => k1 q hL hn H locs ls hH hlo hls) (fun q => k2 q hL hn H locs ls hH hlo hls)
      case ge => exact lv_icmp_ge hx hb hd h5 (fun q => k1 q hL hn H locs ls hH hlo hls) (fun q => k2 q hL hn H locs ls hH hlo hls)
      case gt => exact lv_icmp_gt hx hb hd h5 (fun q => k1 q hL hn H locs ls hH hlo hls) (fun q => k2 q hL hn H locs ls hH hlo hls)
      case le => exact lv_icmp_le hx hb hd h5 (fun q => k1 q hL hn H locs ls hH hlo hls) (fun q => k2 q hL hn H locs ls hH hlo hls)
    case ifCond cd off =>
      have h5 : (pc : Int) + off = (t : Int) := by simpa using h4
      cases cd <;> obtain ⟨x, r, rfl, k1, k2⟩ := mx_p1_inv k
      case eq => exact lv_if_eq hx hb hd h5 (fun q => k1 q hL hn H locs ls hH hlo hls) (fun q => k2 q hL hn H locs ls hH hlo hls)
      case ne => exact lv_if_ne hx hb hd h5 (fun q => k1 q hL hn H locs ls hH hlo hls) (fun q => k2 q hL hn H locs ls hH hlo hls)
      case lt => exact lv_if_lt hx hb hd h5 (fun q => k1 q hL hn H locs ls hH hlo hls) (fun q => k2 q hL hn H locs ls hH hlo hls)
      case ge => exact lv_if_ge hx hb hd h5 (fun q => k1 q hL hn H locs ls hH hlo hls) (fun q => k2 q hL hn H locs ls hH hlo hls)
      case gt => exact lv_if_gt hx hb hd h5 (fun q => k1 q hL hn H locs ls hH hlo hls) (fun q => k2 q hL hn H locs ls hH hlo hls)
      case le => exact lv_if_le hx hb hd h5 (fun q => k1 q hL hn H locs ls hH hlo hls) (fun q => k2 q hL hn H locs ls hH hlo hls)
    case ifnonnull off =>
      have h5 : (pc : Int) + off = (t : Int) := by simpa using h4
      dsimp only [mx_br] at k
      split at k
      · exact lv_ifnonnull hx hb hd h5 (k hL hn H locs ls hH hlo hls)
      · exact lv_ifnonnullN hx hb hd (k hL hn H locs ls hH hlo hls)
      · exact k.elim
  · cases h
theorem mx_lk {x : Int32} {pc d : Nat} {K : Nat → Prop} {dflt : Int} : ∀ {tb : List (Int32 × Nat)} {ps : List (Int × Int)}, tb.map (fun q => ((q.1.toInt : Int), (q.2 : Int) - (pc : Int))) = ps → (pc : Int) + dflt = (d : Int) → mx_sw x tb d K → ∃ t : Nat, (pc : Int) + Op.lookupswitch.offset ps dflt x.toInt = (t : Int) ∧ K t
  | [], ps, h, hd, k => by
    subst h
    exact ⟨d, hd, k⟩
  | (v, t) :: r, ps, h, hd, k => by
    subst h
    by_cases e : x = v
    · subst e
      refine ⟨t, ?_, k.1 rfl⟩
      rw [List.map_cons, Op.lookupswitch.offset_cons, if_pos rfl]
      omega
    · obtain ⟨t2, h1, h2⟩ := mx_lk (tb := r) rfl hd (k.2 e)
      refine ⟨t2, ?_, h2⟩
      rw [List.map_cons, lv_osw e rfl]
      exact h1
theorem mx_swS {pc d n : Nat} {tb : List (Int32 × Nat)} {M : Mm} {L : Lv} {S : Sk} (C : mx_C p s m args meth c G md nL o cc) (h : mx_swk cc pc tb d = true) (k : mx_p1 S (fun x r => mx_sw x tb d (fun t => mx_X p l e R s m args below meth c Q G md n0 nL n M t L r))) : mx_X p l e R s m args below meth c Q G md n0 nL n M pc L S := by
  obtain ⟨x, r, rfl, k⟩ := mx_p1_inv k
  obtain ⟨hx, hb, -⟩ := C
  unfold mx_swk at h
  split at h
  · rename_i dflt lo hi offs len hd
    simp only [Bool.and_eq_true, decide_eq_true_eq] at h
    obtain ⟨⟨h1, h2⟩, h3⟩ := h
    have at' : ∀ (i : Nat) (v : Int32) (t : Nat), tb[i]? = some (v, t) → i < offs.size ∧ ∃ off, offs[i]? = some off ∧ v.toInt = lo + (i : Int) ∧ (pc : Int) + off = (t : Int) := by
      intro i v t hi
      have e1 : (tb.map (fun q => ((q.1.toInt : Int), (q.2 : Int) - (pc : Int))))[i]? = some (v.toInt, (t : Int) - (pc : Int)) := by rw [List.getElem?_map, hi]; rfl
      rw [h2, List.getElem?_map] at e1
      have e2 : (offs.toList.zipIdx)[i]? = offs.toList[i]?.map (fun a => (a, i)) := by
        rw [List.getElem?_zipIdx]
        simp
      rw [e2] at e1
      cases ho : offs.toList[i]? with
      | none => rw [ho] at e1; cases e1
      | some off =>
        rw [ho] at e1
        simp at e1
        have hlt : i < offs.toList.length := (List.getElem?_eq_some_iff.mp ho).1
        exact ⟨by simpa using hlt, off, by rw [← Array.getElem?_toList]; exact ho, e1.1.symm, by omega⟩
    rcases mx_sw_inv k with ⟨i, t, hi, k⟩ | ⟨hn, k⟩
    · obtain ⟨h4, off, h5, h6, h7⟩ := at' i x t hi
      intro hL hn H locs ls hH hlo hls
      refine lv_tableIn hx hb hd (by omega) (by omega) (off := off) (tgt := t) ?_ h7 (k hL hn H locs ls hH hlo hls)
      rw [show (x.toInt - lo).toNat = i by omega]
      exact h5
    · intro hL hn' H locs ls hH hlo hls
      refine lv_tableOut hx hb hd ?_ h1 (k hL hn' H locs ls hH hlo hls)
      apply Classical.byContradiction
      intro hc
      have hlen : tb.length = offs.size := by
        have := congrArg List.length h2
        simpa using this
      have hlt : (x.toInt - lo).toNat < tb.length := by omega
      obtain ⟨-, off, -, h6, -⟩ := at' (x.toInt - lo).toNat tb[(x.toInt - lo).toNat].1 tb[(x.toInt - lo).toNat].2 (List.getElem?_eq_getElem hlt)
      refine hn _ (List.getElem_mem hlt) (Int32.toInt_inj.mp ?_)
      rw [h6]
      omega
  · rename_i dflt ps len hd
    simp only [Bool.and_eq_true, decide_eq_true_eq] at h
    obtain ⟨⟨h1, h2⟩, h3⟩ := h
    obtain ⟨t, h4, k⟩ := mx_lk h2 h1 k
    intro hL hn H locs ls hH hlo hls
    exact lv_lookup hx hb hd h3 rfl h4 (k hL hn H locs ls hH hlo hls)
  · cases h
end MX
end
section
section MX
variable {p : Program} {l : Launch} {e : Env} {s : State} {m : MethodId} {args : Array Value} {below : List Frame} {meth : Method} {c : Code} {Q : State → Prop} {G : Gt} {md : Bool} {n0 nL o : Nat} {cc : ByteArray}
theorem mx_good {s : State} {args : Array Value} (hts : ∀ w ∈ gw, w.before args s = true) {E : Md} (hE : Cond.code E.1 E.2.1 E.2.2.1 E.2.2.2.1 ∈ gw) : ∀ w ∈ mx_wT E, ∀ (a' : Array Value) (U : State), s.WarmedH U.vm → w.before a' U = true := by
  refine pay_in hts (fun w hw => ?_)
  have h1 : w ∈ gw := by
    rcases List.mem_cons.mp hw with rfl | h
    · exact hE
    · exact h
  exact ⟨h1, good_of_word (List.mem_filter.mp h1).2⟩
theorem mx_pre {as : List Value} {M : Mm} {n : Nat} {H : Heap} (hH : mx_H G md n M H) (hK : mx_K G s) : PreS s H (va_Pc (as.map (mx_cv G)) (fun U => mx_H G md n M U.heap ∧ mx_K G U)) (as.map (mx_cv G)) :=
  ⟨fun a U g mk q => ⟨q.1, q.2.1, q.2.2.calling⟩, fun U hU hW => ⟨rfl, by rw [hU]; exact hH, hK.warm hW⟩⟩
theorem mx_recv {M : Mm} {n b c1 : Nat} {H : Heap} (hH : mx_H G md n M H) (hK : mx_K G s) (hc : c1 < 9) (hi : mx_in md c1 b n) : ∃ cellB : Cell, H[mx_ad G b]? = some cellB ∧ cellB.vm.isStatics = false ∧ s.vm.findClass (mx_rc c1) = some cellB.cls := by
  obtain ⟨hk, hkc⟩ := mx_lt hH hi (by omega)
  have hcell := hH.2.2.2.2 b hk
  unfold mx_cell at hcell
  rw [if_pos (by omega), hkc] at hcell
  obtain ⟨cell, q1, q2, q3, q4⟩ := hcell
  obtain ⟨vr, hvr⟩ := mx_vw hc
  obtain ⟨-, hrc, -⟩ := mx_cls c1 vr hvr
  obtain ⟨hS, hfc, -⟩ := hK.1.1 c1 _ hvr
  rw [← mx_adk hH hk] at q1
  exact ⟨cell, q1, by rw [q3]; rfl, by rw [q2, ← hrc]; exact hfc⟩
/-- behind a call -/
theorem mx_behind {d n n' nE pc : Nat} {H : Heap} {locs : List Loc} {ls : Array Slot} {PE : Option Value → Mm → Prop} {L : Lv} {r S : Sk} {a : Array Value} (hL : L.length = nL) (hn : n0 ≤ n) (hnn : n ≤ n') (hlo : ∀ q ∈ locs, G.1.size ≤ q.base) (hls : lv_has ls nL (mx_al G 0 L))
    (hr : va_Run p l e (mx_rm d n0 nE) s m args below meth c H locs (n - n0) (mx_sz n - mx_sz n0) (n' - n) (mx_sz n' - mx_sz n) (F0 m pc ls S) (r.map (mx_cv G)) (fun _ oc t => ∃ (v : Option Value) (M' : Mm), oc = .returned (v.map (mx_cv G)) ∧ PE v M' ∧ mx_H G md n' M' t.heap) (mx_A G))
    (K : ∀ (v : Option Value) (M' : Mm), PE v M' → mx_X p l e (mx_rm d n0 nE) s m args below meth c Q G md n0 nL n' M' (pc + 3) L (v.toList ++ r)) : W p l e (mx_rm d n0 nE) s m args below meth c H locs (n - n0) (mx_sz n - mx_sz n0) Q (F0 m pc ls S) := by
  intro T hT X
  obtain ⟨v', st₀, t, T', L', h0, X', hL', e1, e2, ⟨v, M', hv, hPE, hH'⟩, st⟩ := hr T hT X
  cases hv
  have e3 : n - n0 + (n' - n) = n' - n0 := by omega
  have e4 : mx_sz n - mx_sz n0 + (mx_sz n' - mx_sz n) = mx_sz n' - mx_sz n0 := by
    have := mx_szm hn
    have := mx_szm hnn
    omega
  rw [e3, e4] at X'
  rw [← e1] at hH'
  obtain ⟨t2, a1, b1⟩ := K v M' hPE hL (by omega) T'.heap (locs ++ L') ls hH' (fun q hq => by
    rcases List.mem_append.mp hq with h | h
    · exact hlo q h
    · exact hL' q h) hls T' rfl X'
  refine ⟨t2, st t2 ?_, b1⟩
  have e5 : (v.toList ++ r).map (mx_cv G) = (v.map (mx_cv G)).toList ++ r.map (mx_cv G) := by
    cases v <;> simp
  rw [e5] at a1
  exact a1
theorem mx_catm (r : Sk) : ((r.map (mx_cv G)).map fun v => v.category) = r.map fun v => v.category := by
  rw [List.map_map]
  exact List.map_congr_left (fun v _ => mx_cv_cat v)
theorem mx_fit {n n' nE : Nat} (hn : n0 ≤ n) (hnn : n ≤ n') (hE : n' ≤ nE) : n - n0 + (n' - n) ≤ nE - n0 ∧ mx_sz n - mx_sz n0 + (mx_sz n' - mx_sz n) ≤ mx_sz nE - mx_sz n0 := by
  have h1 := mx_szm hn
  have h2 := mx_szm hnn
  have h3 := mx_szm hE
  omega
theorem mx_callB {d n n' nE i na : Nat} {E : Md} (hts : ∀ w ∈ gw, w.before args s = true) (hE : mx_D E na) (hk : 0 < d) (hl : Cond.methodLink (mx_rc o) i E.1 ∈ gw) : CallB (mx_rm d n0 nE) s args (mx_rc o) i E.1 E.2.1 E.2.2.1 E.2.2.2.1 (mx_wT E) (mx_rm (d - 1) n n') (n' - n) (mx_sz n' - mx_sz n) na := by
  obtain ⟨h1, h2, h3, h4⟩ := hE
  refine ⟨rfl, rfl, ?_, ?_, mx_good hts h1, List.mem_cons_self, hts _ h1, hts _ h2, ⟨h3.1, h3.2.1⟩, fun sig h => ?_, hts _ hl⟩
  · show d - 1 + 1 ≤ d
    omega
  · show 8 + (E.2.2.1 + 11) + 100 * (d - 1) ≤ 100 * d
    omega
  · have h5 := h3.2.2
    rw [h] at h5
    exact (Option.some.inj h5).symm
theorem mx_callN {d n n' nE i na : Nat} {E : Md} (hts : ∀ w ∈ gw, w.before args s = true) (hK : mx_K G s) (hE : mx_D E na) (hk : 0 < d) (hl : Cond.methodLinkNest (mx_rc o) i E.1 RX7 ∈ mx_nw) : va_CN (mx_rm d n0 nE) s args (mx_rc o) i E.1 RX7 E.2.1 E.2.2.1 E.2.2.2.1 (mx_wT E) (mx_rm (d - 1) n n') (n' - n) (mx_sz n' - mx_sz n) na := by
  obtain ⟨h1, h2, h3, h4⟩ := hE
  refine ⟨⟨rfl, rfl, ?_, ?_, mx_good hts h1, List.mem_cons_self⟩, hts _ h1, hts _ h2, ⟨h3.1, h3.2.1⟩, fun sig h => ?_, va_Nw.use rfl (hK.2.1 _ hl)⟩
  · show d - 1 + 1 ≤ d
    omega
  · show 8 + (E.2.2.1 + 11) + 100 * (d - 1) ≤ 100 * d
    omega
  · have h5 := h3.2.2
    rw [h] at h5
    exact (Option.some.inj h5).symm
theorem mx_callS {d nE pc i k n n' : Nat} {E : Md} {M : Mm} {L : Lv} {S r : Sk} {as : List Value} {PE : Option Value → Mm → Prop} (C : mx_C p s m args meth c G md nL o cc) (hd : decode cc pc = .ok (.invokestatic i, 3)) (hE : mx_D E as.length) (hc : mx_cS o i E ∨ mx_cN o i E) (hk : k < d) (hnn : n ≤ n') (hnE : n' ≤ nE) (hR : Runs l G md E k n as M n' PE) (hS : S = as.reverse ++ r) (hr : (r.map fun v => v.category).sum ≤ 8)
    (K : ∀ (v : Option Value) (M' : Mm), PE v M' → mx_X p l e (mx_rm d n0 nE) s m args below meth c Q G md n0 nL n' M' (pc + 3) L (v.toList ++ r)) : mx_X p l e (mx_rm d n0 nE) s m args below meth c Q G md n0 nL n M pc L S := by
  intro hL hn H locs ls hH hlo hls
  obtain ⟨hx, hb, hml, ho, hts, hK, -⟩ := C
  subst hS
  have hcat : 2 * (F0 m pc ls ((as.reverse ++ r).map (mx_cv G))).monitorRoom + ((r.map (mx_cv G)).map fun v => v.category).sum ≤ 8 := lv_room (by rw [mx_catm]; exact hr)
  rcases hc with hc | hc
  · refine mx_behind (a := (as.map (mx_cv G)).toArray) hL hn hnn hlo hls (va_runS (As := as.map (mx_cv G)) (rest := r.map (mx_cv G)) ⟨hx, hb, hml, ho, hts⟩ (hR (d - 1) (by omega)) ⟨mx_callB (na := as.length) hts hE (by omega) hc.1, hts _ hc.2⟩ (mx_pre hH hK) rfl (by simp) hls.1 (by simp) hcat hd (mx_fit hn hnn hnE)) K
  · refine mx_behind (a := (as.map (mx_cv G)).toArray) hL hn hnn hlo hls (va_runSN (As := as.map (mx_cv G)) (rest := r.map (mx_cv G)) ⟨hx, hb, hml, ho, hts⟩ (hR (d - 1) (by omega)) ⟨mx_callN (na := as.length) hts hK hE (by omega) hc.1, hts _ hc.2, trivial⟩ (mx_pre hH hK) rfl (by simp) hls.1 (by simp) hcat hd (mx_fit hn hnn hnE)) K
theorem mx_callV {d nE pc i k n n' b c1 : Nat} {E : Md} {M : Mm} {L : Lv} {S r : Sk} {as : List Value} {PE : Option Value → Mm → Prop} (C : mx_C p s m args meth c G md nL o cc) (hd : decode cc pc = .ok (.invokevirtual i, 3)) (hE : mx_D E as.length) (hc : mx_cV o i E) (hk : k < d) (hnn : n ≤ n') (hnE : n' ≤ nE) (hc1 : c1 < 9 ∧ mx_rc c1 = E.1.cls) (hi : mx_in md c1 b n) (hR : Runs l G md E k n (.ref b :: as) M n' PE) (hS : S = as.reverse ++ .ref b :: r) (hr : (r.map fun v => v.category).sum ≤ 8)
    (K : ∀ (v : Option Value) (M' : Mm), PE v M' → mx_X p l e (mx_rm d n0 nE) s m args below meth c Q G md n0 nL n' M' (pc + 3) L (v.toList ++ r)) : mx_X p l e (mx_rm d n0 nE) s m args below meth c Q G md n0 nL n M pc L S := by
  intro hL hn H locs ls hH hlo hls
  obtain ⟨hx, hb, hml, ho, hts, hK, -⟩ := C
  subst hS
  have hcat : 2 * (F0 m pc ls ((as.reverse ++ .ref b :: r).map (mx_cv G))).monitorRoom + ((r.map (mx_cv G)).map fun v => v.category).sum ≤ 8 := lv_room (by rw [mx_catm]; exact hr)
  have hrec := mx_recv (s := s) hH hK hc1.1 hi
  rw [hc1.2] at hrec
  have hpre := mx_pre (as := .ref b :: as) (s := s) hH hK
  exact mx_behind (a := ((Value.ref b :: as).map (mx_cv G)).toArray) hL hn hnn hlo hls (va_runV (C := E.1.cls) (b := mx_ad G b) (As := as.map (mx_cv G)) (rest := r.map (mx_cv G)) ⟨hx, hb, hml, ho, hts⟩ (hR (d - 1) (by omega)) ⟨mx_callB (na := as.length) hts hE (by omega) hc.1, hts _ hc.2.1, hts _ hc.2.2⟩ ⟨hpre.1, hrec, hpre.2⟩ rfl (by simp) hls.1 (by simp; rfl) hcat hd (mx_fit hn hnn hnE)) K
theorem mx_callI {d nE pc i k n n' b : Nat} {E : Md} {M : Mm} {L : Lv} {S r : Sk} {as : List Value} {PE : Option Value → Mm → Prop} (C : mx_C p s m args meth c G md nL o cc) (hd : decode cc pc = .ok (.invokespecial i, 3)) (hE : mx_D E as.length) (hc : mx_cI o i E) (hk : k < d) (hnn : n ≤ n') (hnE : n' ≤ nE) (hR : Runs l G md E k n (.ref b :: as) M n' PE) (hS : S = as.reverse ++ .ref b :: r) (hr : (r.map fun v => v.category).sum ≤ 8)
    (K : ∀ (v : Option Value) (M' : Mm), PE v M' → mx_X p l e (mx_rm d n0 nE) s m args below meth c Q G md n0 nL n' M' (pc + 3) L (v.toList ++ r)) : mx_X p l e (mx_rm d n0 nE) s m args below meth c Q G md n0 nL n M pc L S := by
  intro hL hn H locs ls hH hlo hls
  obtain ⟨hx, hb, hml, ho, hts, hK, -⟩ := C
  subst hS
  have hcat : 2 * (F0 m pc ls ((as.reverse ++ .ref b :: r).map (mx_cv G))).monitorRoom + ((r.map (mx_cv G)).map fun v => v.category).sum ≤ 8 := lv_room (by rw [mx_catm]; exact hr)
  have hpre := mx_pre (as := .ref b :: as) (s := s) hH hK
  obtain ⟨hc0, hc1, hc2, hc3⟩ := hc
  rcases hc0 with hc0 | hc0
  · have hB := mx_callB (n0 := n0) (n := n) (n' := n') (nE := nE) (na := as.length) (o := o) hts hE (show 0 < d by omega) hc0
    rw [hc3] at hB
    exact mx_behind (a := ((Value.ref b :: as).map (mx_cv G)).toArray) hL hn hnn hlo hls (va_runI (b := mx_ad G b) (As := as.map (mx_cv G)) (rest := r.map (mx_cv G)) ⟨hx, hb, hml, ho, hts⟩ (hR (d - 1) (by omega)) ⟨hB, hc1, hts _ hc2⟩ hpre rfl (by simp) hls.1 (by simp; rfl) hcat hd (mx_fit hn hnn hnE)) K
  · have hB := mx_callN (G := G) (n0 := n0) (n := n) (n' := n') (nE := nE) (na := as.length) (o := o) hts hK hE (show 0 < d by omega) hc0
    rw [hc3] at hB
    exact mx_behind (a := ((Value.ref b :: as).map (mx_cv G)).toArray) hL hn hnn hlo hls (va_runIN (b := mx_ad G b) (As := as.map (mx_cv G)) (rest := r.map (mx_cv G)) ⟨hx, hb, hml, ho, hts⟩ (hR (d - 1) (by omega)) ⟨hB, hc1, hts _ hc2⟩ hpre rfl (by simp) hls.1 (by simp; rfl) hcat hd (mx_fit hn hnn hnE)) K
end MX
end
section
section MX
variable {p : Program} {l : Launch} {e : Env} {s : State} {m : MethodId} {args : Array Value} {below : List Frame} {meth : Method} {c : Code} {Q : State → Prop} {G : Gt} {md : Bool} {n0 nL o : Nat} {cc : ByteArray}
theorem mx_old {n : Nat} {M : Mm} {H : Heap} (hH : mx_H G md n M H) : ∀ a : Nat, a < G.1.size → ¬ mx_A G a → H[a]? = G.1[a]? := fun a h _ => hH.2.2.2.1 a h
theorem mx_mth1 : Cond.static Lib.Math.max.name ∈ gw ∧ Cond.static Lib.Math.min.name ∈ gw ∧ Cond.static Lib.Math.abs.name ∈ gw ∧ Cond.initialized "java/lang/Math" ∈ gw ∧ Cond.code Lib.Math.max.name Lib.Math.max.code 2 (some .int) ∈ gw ∧ Cond.code Lib.Math.min.name Lib.Math.min.code 2 (some .int) ∈ gw ∧ Cond.code Lib.Math.abs.name Lib.Math.abs.code 1 (some .int) ∈ gw :=
  ⟨mx_gw (i := 406) (by decide +kernel), mx_gw (i := 403) (by decide +kernel), mx_gw (i := 561) (by decide +kernel), mx_gw (i := 64) (by decide +kernel), mx_gw (i := 407) (by decide +kernel), mx_gw (i := 404) (by decide +kernel), mx_gw (i := 562) (by decide +kernel)⟩
theorem mx_cpyw : Cond.native arraycopyName ∈ gw ∧ Cond.static arraycopyName ∈ gw ∧ Cond.initialized "java/lang/System" ∈ gw := ⟨mx_gw (i := 788) (by decide +kernel), mx_gw (i := 787) (by decide +kernel), mx_gw (i := 70) (by decide +kernel)⟩
theorem mx_oddS {d nE pc len n : Nat} {w : Instr} {M : Mm} {L : Lv} {S S' : Sk} (C : mx_C p s m args meth c G md nL o cc) (hd : decode cc pc = .ok (w, len)) (h : mx_odd o w len S S') (h1d : 1 ≤ d) (hnE : n ≤ nE) (K : mx_X p l e (mx_rm d n0 nE) s m args below meth c Q G md n0 nL n M (pc + len) L S') : mx_X p l e (mx_rm d n0 nE) s m args below meth c Q G md n0 nL n M pc L S := by
  intro hL hn H locs ls hH hlo hls
  have K := K hL hn H locs ls hH hlo hls
  obtain ⟨hx, hb, hml, ho, hts, hK, -⟩ := C
  obtain ⟨hKa, hKs, hKr, hKc⟩ := hK.2.2.2
  have hr1 : 1 ≤ (mx_rm d n0 nE).frames := h1d
  have hsz := mx_fit hn (Nat.le_refl n) hnE
  have hcl : n - n0 ≤ (mx_rm d n0 nE).cells := by show n - n0 ≤ nE - n0; omega
  have hsl : mx_sz n - mx_sz n0 ≤ (mx_rm d n0 nE).slots := by
    show mx_sz n - mx_sz n0 ≤ mx_sz nE - mx_sz n0
    omega
  have hroom : ∀ r : Sk, (r.map fun v => v.category).sum ≤ 8 → ((r.map (mx_cv G)).map fun v => v.category).sum + 13 ≤ (mx_rm d n0 nE).locals := by
    intro r hr
    rw [mx_catm]
    show _ ≤ 100 * d
    omega
  rcases h with ⟨i, rfl, rfl, hl, rfl⟩ | ⟨r, rfl, rfl, rfl, rfl⟩ | ⟨i, r, rfl, rfl, hi, rfl, rfl⟩ | ⟨i, r, x, y, rfl, rfl, hl, hr, rfl, rfl⟩ | ⟨i, r, x, y, rfl, rfl, hl, hr, rfl, rfl⟩ | ⟨i, r, x, rfl, rfl, hl, hr, rfl, rfl⟩ | ⟨j, rfl, rfl, rfl, hj, rfl⟩ | ⟨i, j, r, rfl, rfl, hl, hj, rfl, rfl⟩ | ⟨i, j, r, rfl, rfl, hl, hj, rfl, rfl⟩ | ⟨j, r, rfl, rfl, hj, rfl, rfl⟩ | ⟨j, i, r, rfl, rfl, hj, hi, rfl, rfl⟩ | ⟨i, rfl, rfl, hl, rfl⟩
  · obtain ⟨cf, kf, fi, f, a, cell, z1, z2, z3, z4, z5, z6, z7, z8⟩ := hKa.1.kept (mx_old hH)
    rcases hl with hl | hl
    · exact W.gets hx hb ho (hts _ hl) z1 z2 z3 z4 z5 (fun e => by rw [e] at z6; cases z6) z7 rfl hd K
    · exact va_WgetsN hx hb ho (va_Nw.use rfl (hK.2.1 _ hl)) z1 z2 z3 z4 z5 (fun e => by rw [e] at z6; cases z6) z7 rfl hd K
  · obtain ⟨cell, z1, z2, z3, z4, z5, z6, z7⟩ := hKa.2.kept (mx_old hH)
    exact W.alen hx hb z1 z2 z5 rfl rfl hd K
  · obtain ⟨cell, z1, z2, z3, z4, z5, z6, z7⟩ := hKa.2.kept (mx_old hH)
    have hlt : i.toNatClampNeg < 6 := Nat.not_le.mp fun q => hi (Or.inr q)
    exact W.iald (v := .int (mx_abv i.toNatClampNeg)) hx hb z1 z2 z3 (fun q => by
      rcases q with q | q
      · exact hi (Or.inl q)
      · omega) (z6 _ hlt) rfl rfl hd K
  · exact va_mmax hx hb (by rw [hml]; exact hls.1.symm) ho (hts _ hl) (hts _ mx_mth1.1) (hts _ mx_mth1.2.2.2.1) (hts _ mx_mth1.2.2.2.2.1) hr1 (hroom r hr) hcl hsl hd K
  · exact va_mmin hx hb (by rw [hml]; exact hls.1.symm) ho (hts _ hl) (hts _ mx_mth1.2.1) (hts _ mx_mth1.2.2.2.1) (hts _ mx_mth1.2.2.2.2.2.1) hr1 (hroom r hr) hcl hsl hd K
  · exact va_mabs hx hb (by rw [hml]; exact hls.1.symm) ho (hts _ hl) (hts _ mx_mth1.2.2.1) (hts _ mx_mth1.2.2.2.1) (hts _ mx_mth1.2.2.2.2.2.2) hr1 (hroom r hr) hcl hsl hd K
  · exact va_ldcS hx hb ho (hKr j hj) hd K
  · obtain ⟨cf, k, fi, f, cell, z1, z2, z3, z4, z5, z6⟩ := (hKs.1 j hj).2.2.1.kept (mx_old hH)
    exact W.getf hx hb ho (hts _ hl) z1 z2 z3 z4 z5 rfl rfl hd K
  · obtain ⟨cf, k, fi, f, cell, z1, z2, z3, z4, z5, z6⟩ := (hKs.1 j hj).2.1.kept (mx_old hH)
    exact W.getf hx hb ho (hts _ hl) z1 z2 z3 z4 z5 rfl rfl hd K
  · obtain ⟨cell, z1, z2, z3, z4, z5, z6, z7⟩ := (hKs.1 j hj).2.2.2.kept (mx_old hH)
    exact W.alen hx hb z1 z2 z5 rfl rfl hd K
  · obtain ⟨cell, z1, z2, z3, z4, z5, z6, z7⟩ := (hKs.1 j hj).2.2.2.kept (mx_old hH)
    have hlt : i.toNatClampNeg < mx_sl_.getD j 0 := Nat.not_le.mp fun q => hi (Or.inr q)
    exact W.bald (v := .int ((mx_sb.getD j []).getD i.toNatClampNeg 0)) hx hb z1 z2 z3 (fun q => by
      rcases q with q | q
      · exact hi (Or.inl q)
      · omega) (z6 _ hlt) rfl rfl hd K
  · obtain ⟨cf, kf, fi, f, a, cell, z1, z2, z3, z4, z5, z6, z7, z8⟩ := hKc.kept (mx_old hH)
    exact W.gets hx hb ho (hts _ hl) z1 z2 z3 z4 z5 (fun e => by rw [e] at z6; cases z6) z7 rfl hd K
theorem mx_cpyS {d nE pc i n k1 k2 : Nat} {M : Mm} {L : Lv} {r : Sk} {sp dp cnt : Int32} (C : mx_C p s m args meth c G md nL o cc) (hd : decode cc pc = .ok (.invokestatic i, 3)) (hl : Cond.methodLink (mx_rc o) i arraycopyName ∈ gw) (h1d : 1 ≤ d) (hi1 : mx_in md 11 k1 n) (hi2 : mx_in md 11 k2 n) (h1 : ¬ sp < 0) (h2 : ¬ dp < 0) (h3 : ¬ cnt < 0) (h4 : sp.toNatClampNeg + cnt.toNatClampNeg ≤ (kd k1).2) (h5 : dp.toNatClampNeg + cnt.toNatClampNeg ≤ (kd k2).2) (hr : (r.map fun v => v.category).sum ≤ 8)
    (K : mx_X p l e (mx_rm d n0 nE) s m args below meth c Q G md n0 nL n (mx_cpy M k1 sp.toNatClampNeg k2 dp.toNatClampNeg cnt.toNatClampNeg) (pc + 3) L r) : mx_X p l e (mx_rm d n0 nE) s m args below meth c Q G md n0 nL n M pc L (.int cnt :: .int dp :: .ref k2 :: .int sp :: .ref k1 :: r) := by
  intro hL hn H locs ls hH hlo hls
  obtain ⟨hx, hb, hml, ho, hts, hK, -⟩ := C
  obtain ⟨hk1, hkc1, hc1⟩ := mx_arr hH hi1 (by decide) (by decide)
  obtain ⟨hk2, hkc2, hc2⟩ := mx_arr hH hi2 (by decide) (by decide)
  have hz2 : mx_ad G k2 = G.1.size + k2 := mx_adk hH hk2
  have nn : ∀ z : Int32, ¬ z < 0 → z.toInt = (z.toNatClampNeg : Int) := by
    intro z hz
    have hz0 : (0 : Int) ≤ z.toInt := by
      have := Int32.not_lt.mp hz
      simpa using Int32.le_iff_toInt_le.mp this
    show z.toInt = ((z.toInt.toNat : Nat) : Int)
    omega
  have hc1 : H[mx_ad G k1]? = some (arrV (G.2.2.1 11) (kd k1).2 (fun j => .int (M k1 j))) := hc1
  have hc2 : H[mx_ad G k2]? = some (arrV (G.2.2.1 11) (kd k2).2 (fun j => .int (M k2 j))) := hc2
  intro T hT X
  obtain ⟨-, kA, hkA, cmA, hkkA⟩ := (hK.1.2 2 _ rfl).1 0 (fun j => .int 0)
  obtain ⟨vm', X', step⟩ := X.arraycopy hx ho (hts _ hl) (hts _ mx_cpyw.1) (hts _ mx_cpyw.2.1) (hts _ mx_cpyw.2.2) (src := mx_ad G k1) (dst := mx_ad G k2) (cs := arrV (G.2.2.1 11) (kd k1).2 (fun j => .int (M k1 j))) (cd := arrV (G.2.2.1 11) (kd k2).2 (fun j => .int (M k2 j))) (srcPos := sp) (destPos := dp) (n := cnt) (by rw [hT]; exact hc1) (by rw [hT]; exact hc2)
    (fun _ h => by cases h) (fun _ h => by cases h) (fun h => by cases h) (fun h => by cases h) hkA hkA hkkA hkkA (by simp) h1 h2 h3
    (by rw [nn sp h1, nn cnt h3, arrV_size]; omega)
    (by rw [nn dp h2, nn cnt h3, arrV_size]; omega)
    (fun vm₁ _ i hi => by
      have e : (arrV (G.2.2.1 11) (kd k1).2 (fun j => Value.int (M k1 j))).slots.getD (sp.toNatClampNeg + i) .null = .int (M k1 (sp.toNatClampNeg + i)) := by
        rw [Array.getD_eq_getD_getElem?, arrV_read _ _ (by omega)]
        rfl
      refine ⟨?_, ?_⟩
      · rw [e]
        rfl
      · rw [e]
        exact trivial)
    (g := F0 m pc ls ((Value.int cnt :: .int dp :: .ref k2 :: .int sp :: .ref k1 :: r).map (mx_cv G))) rfl (by rw [hml]; exact hls.1) (rest := r.map (mx_cv G)) rfl (by rw [hb]; exact hd) h1d (by
      rw [mx_catm]
      have : nativeFrameWords "java/lang/System" "arraycopy" 5 ≤ 60 := by decide
      show 2 * 0 + _ + _ ≤ 100 * d
      omega)
  have e1 : copied (arrV (G.2.2.1 11) (kd k1).2 (fun j => Value.int (M k1 j))) (arrV (G.2.2.1 11) (kd k2).2 (fun j => Value.int (M k2 j))) sp dp cnt = arrV (G.2.2.1 11) (kd k2).2 (fun j => .int (va_cpy (M k1) (M k2) sp.toNatClampNeg dp.toNatClampNeg cnt.toNatClampNeg j)) := va_copied (fun z => .int z) _ _ (M k1) (M k2) h4
  rw [e1] at X' step
  have hl2 : mx_ad G k2 < H.size := (Array.getElem?_eq_some_iff.mp hc2).1
  generalize hcell : arrV (G.2.2.1 11) (kd k2).2 (fun j => Value.int (va_cpy (M k1) (M k2) sp.toNatClampNeg dp.toNatClampNeg cnt.toNatClampNeg j)) = cell at X' step
  have hheap : ((T.setVm vm').setCell (mx_ad G k2) cell).heap = H.setIfInBounds (mx_ad G k2) cell := by rw [← hT]; rfl
  have oq : ∀ q : Nat, q ≠ mx_ad G k2 → (H.setIfInBounds (mx_ad G k2) cell)[q]? = H[q]? := fun q hq => by simp [Array.getElem?_setIfInBounds, Ne.symm hq]
  obtain ⟨t, a1, b1⟩ := K hL hn (H.setIfInBounds (mx_ad G k2) cell) _ ls (hH.put (k := k2) (M' := mx_cpy M k1 sp.toNatClampNeg k2 dp.toNatClampNeg cnt.toNatClampNeg) (fun q hq => by simp [mx_cpy, hq]) (by simp) (fun q hq => oq q (by rw [hz2]; exact hq)) (by
      unfold mx_cell
      rw [if_neg (by omega), hkc2, ← hz2]
      have e2 : (H.setIfInBounds (mx_ad G k2) cell)[mx_ad G k2]? = some cell := by simp [Array.getElem?_setIfInBounds, hl2]
      rw [e2, ← hcell]
      congr 2
      funext j
      simp [mx_cpy, mx_ev, mx_cv])) (fun q hq => by
      rcases List.mem_append.mp hq with h | h
      · exact hlo q h
      · obtain ⟨z, -, hz⟩ := List.mem_map.mp h
        rw [← hz]
        show G.1.size ≤ mx_ad G k2
        omega) hls _ hheap X'
  exact ⟨t, step t a1, b1⟩
theorem mx_callT {d nE pc i k n j : Nat} {E : Md} {M : Mm} {L : Lv} {S r : Sk} {as : List Value} {PE : Option Value → Mm → Prop} (C : mx_C p s m args meth c G md nL o cc) (hd : decode cc pc = .ok (.invokevirtual i, 3)) (hE : mx_D E as.length) (hc : mx_cV o i E) (hk : k < d) (hnE : n ≤ nE) (hj : E.1.cls = "java/lang/String" ∧ j < 6) (hR : Runs l G md E k n (.ref (1001 + j) :: as) M n PE) (hS : S = as.reverse ++ .ref (1001 + j) :: r) (hr : (r.map fun v => v.category).sum ≤ 8)
    (K : ∀ (v : Option Value) (M' : Mm), PE v M' → mx_X p l e (mx_rm d n0 nE) s m args below meth c Q G md n0 nL n M' (pc + 3) L (v.toList ++ r)) : mx_X p l e (mx_rm d n0 nE) s m args below meth c Q G md n0 nL n M pc L S := by
  intro hL hn H locs ls hH hlo hls
  obtain ⟨hx, hb, hml, ho, hts, hK, -⟩ := C
  subst hS
  have hcat : 2 * (F0 m pc ls ((as.reverse ++ .ref (1001 + j) :: r).map (mx_cv G))).monitorRoom + ((r.map (mx_cv G)).map fun v => v.category).sum ≤ 8 := lv_room (by rw [mx_catm]; exact hr)
  obtain ⟨cell, h1, h2, h3, -⟩ := (hK.2.2.2.2.1.1 j hj.2).1.kept (mx_old hH)
  rw [← hj.1] at h3
  have hpre := mx_pre (as := .ref (1001 + j) :: as) (s := s) hH hK
  exact mx_behind (a := ((Value.ref (1001 + j) :: as).map (mx_cv G)).toArray) hL hn (Nat.le_refl n) hlo hls (va_runV (C := E.1.cls) (b := mx_ad G (1001 + j)) (As := as.map (mx_cv G)) (rest := r.map (mx_cv G)) ⟨hx, hb, hml, ho, hts⟩ (hR (d - 1) (by omega)) ⟨mx_callB (na := as.length) hts hE (by omega) hc.1, hts _ hc.2.1, hts _ hc.2.2⟩ ⟨hpre.1, ⟨cell, h1, h2, h3⟩, hpre.2⟩ rfl (by simp) hls.1 (by simp; rfl) hcat hd (mx_fit hn (Nat.le_refl n) hnE)) K
end MX
end
section
section MX
variable {p : Program} {l : Launch} {e : Env} {s : State} {m : MethodId} {args : Array Value} {below : List Frame} {meth : Method} {c : Code} {Q : State → Prop} {G : Gt} {n0 nL o : Nat} {cc : ByteArray}
theorem mx_instw : ∀ q ∈ [0, 1, 2, 3, 4, 5, 6, 7, 8], Cond.instantiable (mx_rc q) (mx_nf.getD q 0) ∈ gw ∧ Cond.initialized (mx_rc q) ∈ gw := by
  have h1 := mx_gwz (fun q : Nat => Cond.instantiable (mx_rc q) (mx_nf.getD q 0)) [166, 86, 80, 238, 142, 160, 230, 72, 890] [0, 1, 2, 3, 4, 5, 6, 7, 8] (by decide +kernel) (by decide +kernel)
  have h2 := mx_gwz (fun q : Nat => Cond.initialized (mx_rc q)) [60, 57, 56, 62, 58, 59, 61, 55, 63] [0, 1, 2, 3, 4, 5, 6, 7, 8] (by decide +kernel) (by decide +kernel)
  exact fun q hq => ⟨h1 q hq, h2 q hq⟩
theorem mx_arrw : Cond.arrayClass .int ∈ gw ∧ Cond.arrayClass .byte ∈ gw ∧ Cond.arrayClass .char ∈ gw ∧ Cond.arrayClass .boolean ∈ gw := ⟨mx_gw (i := 111) (by decide +kernel), mx_gw (i := 110) (by decide +kernel), mx_gw (i := 1001) (by decide +kernel), mx_gw (i := 1002) (by decide +kernel)⟩
def mx_deft (c j : Nat) : Bool := decide (defaultValue (mx_ty c j) = mx_sv false (ft c j) 0 0)
theorem mx_def : ∀ c, c < 9 → ∀ j, j < mx_nf.getD c 0 → mx_deft c j = true := by decide +kernel
theorem mx_svk {t : Nat × Nat} {k k' : Nat} {x : Int32} : mx_sv false t k x = mx_sv false t k' x := by
  obtain ⟨a, b⟩ := t
  match a with
  | 0 => rfl
  | 1 => rfl
  | 2 => rfl
  | n + 3 => rfl
theorem mx_cv0 {t : Nat × Nat} {k : Nat} : mx_cv G (mx_sv false t k 0) = mx_sv false t k 0 := by
  obtain ⟨a, b⟩ := t
  match a with
  | 0 => rfl
  | 1 => rfl
  | 2 => rfl
  | n + 3 => rfl
theorem mx_H.push {n : Nat} {M : Mm} {H H1 : Heap} (hH : mx_H G false n M H) (hn : n < mx_NT) (hz : H1.size = H.size + 1) (ho : ∀ q, q < H.size → H1[q]? = H[q]?) (hc : mx_cell G false n (fun _ => 0) H1) : mx_H G false (n + 1) (mx_z M n) H1 := by
  obtain ⟨h1, h2, h3, h4, h5⟩ := hH
  refine ⟨by omega, by omega, fun h => absurd h (by decide), fun q hq => (ho q (by omega)).trans (h4 q hq), fun q hq => ?_⟩
  by_cases e : q = n
  · subst e
    rw [show mx_z M q q = fun _ => 0 by simp [mx_z]]
    exact hc
  · rw [show mx_z M n q = M q by simp [mx_z, e]]
    exact (h5 q (by omega)).kept (ho _ (by omega))
theorem mx_room1 {d n nE : Nat} (hn : n0 ≤ n) (hE : n + 1 ≤ nE) : n - n0 + 1 ≤ (mx_rm d n0 nE).cells ∧ mx_sz n - mx_sz n0 + (kd n).2 ≤ (mx_rm d n0 nE).slots ∧ n - n0 + 1 = n + 1 - n0 ∧ mx_sz n - mx_sz n0 + (kd n).2 = mx_sz (n + 1) - mx_sz n0 := by
  have h1 := mx_szm hn
  have h2 := mx_szm hE
  rw [mx_szs] at h2
  refine ⟨?_, ?_, by omega, by rw [mx_szs]; omega⟩
  · show n - n0 + 1 ≤ nE - n0
    omega
  · show _ ≤ mx_sz nE - mx_sz n0
    omega
theorem mx_newS {d nE pc i c1 n : Nat} {M : Mm} {L : Lv} {S : Sk} (C : mx_C p s m args meth c G false nL o cc) (hd : decode cc pc = .ok (.new i, 3)) (hl : (o, i, c1) ∈ mx_cl) (hc : c1 < 9) (hkd : (kd n).1 = c1) (hE : n + 1 ≤ nE)
    (K : mx_X p l e (mx_rm d n0 nE) s m args below meth c Q G false n0 nL (n + 1) (mx_z M n) (pc + 3) L (.ref n :: S)) : mx_X p l e (mx_rm d n0 nE) s m args below meth c Q G false n0 nL n M pc L S := by
  intro hL hn H locs ls hH hlo hls
  obtain ⟨hx, hb, hml, ho, hts, hK, -⟩ := C
  have hn1 : n < 127 := mx_kdlt (by omega)
  obtain ⟨vr, hvr⟩ := mx_vw hc
  obtain ⟨-, hrc, hN, hin, hnm, hty⟩ := mx_cls c1 vr hvr
  have hKn := hK.1.1 c1 _ hvr
  have hm9 : c1 ∈ [0, 1, 2, 3, 4, 5, 6, 7, 8] := by simp; omega
  have hkn : (kd n).2 = mx_nf.getD c1 0 := by rw [← mx_kd9 n hn1 (by omega), hkd]
  obtain ⟨r1, r2, r3, r4⟩ := mx_room1 (d := d) hn hE
  rw [hkn] at r2 r4
  refine W.newcK (C := mx_rc c1) hx hb ho (hts _ (mx_cl_in _ hl)) (hts _ (mx_instw c1 hm9).1) (hts _ (mx_instw c1 hm9).2) rfl hd r1 r2 (by rw [← hrc]; exact hKn.2.1) rfl fun H1 kC hkC e1 z1 o1 => ?_
  rw [r3, r4]
  have hadn : mx_cv G (.ref n) = .ref H.size := by
    show Value.ref (mx_ad G n) = _
    rw [mx_ad, if_pos (by omega), hH.1]
  have K := K hL (by omega) H1 locs ls (hH.push (by unfold mx_NT; omega) z1 o1 ?_) hlo hls
  · rw [List.map_cons, hadn] at K
    exact K
  · unfold mx_cell
    rw [if_pos (by omega), hkd, hkn, ← hN]
    rw [hH.1] at e1
    refine (u_born (mx_ty c1) hts hin hKn hkC e1 hty).to (fun j hj => ?_)
    have hdj := mx_def c1 hc j (by rw [← hN]; exact hj)
    simp only [mx_deft, decide_eq_true_eq] at hdj
    rw [hdj, mx_cv0]
    exact mx_svk
theorem mx_cb {a b : Nat} (ha : a ≤ 100000) (hb : b ≤ 8) : a * b ≤ 536870912 := Nat.le_trans (Nat.mul_le_mul ha hb) (by decide)
theorem mx_newa1 {d nE pc n k1 : Nat} {aty : ArrayType} {M : Mm} {L : Lv} {r : Sk} {x : Int32} (C : mx_C p s m args meth c G false nL o cc) (hd : decode cc pc = .ok (.newarray aty, 2)) (haw : Cond.arrayClass (newarray.typeOf aty) ∈ gw) (hk1 : k1 = (kd n).1) (h9 : 9 ≤ k1) (h13 : k1 < 13) (hty : s.vm.findClass ("[" ++ (newarray.typeOf aty).toString) = some (G.2.2.1 k1)) (hdv : defaultValue (newarray.typeOf aty) = .int 0) (hx0 : ¬ x < 0) (hxn : x.toNatClampNeg = (kd n).2) (hby : (kd n).2 * componentBytes (newarray.typeOf aty) ≤ 536870912) (hE : n + 1 ≤ nE)
    (K : mx_X p l e (mx_rm d n0 nE) s m args below meth c Q G false n0 nL (n + 1) (mx_z M n) (pc + 2) L (.ref n :: r)) : mx_X p l e (mx_rm d n0 nE) s m args below meth c Q G false n0 nL n M pc L (.int x :: r) := by
  intro hL hn H locs ls hH hlo hls
  obtain ⟨hx, hb, hml, ho, hts, hK, -⟩ := C
  have hn1 : n < 127 := mx_kdlt (by omega)
  obtain ⟨r1, r2, r3, r4⟩ := mx_room1 (d := d) hn hE
  refine va_newaK hx hb (hts _ haw) rfl hd rfl hx0 hxn hby r1 r2 rfl fun H1 cA e1 z1 o1 hAr hNm => ?_
  rw [r3, r4]
  have hcA : cA = G.2.2.1 k1 := Option.some.inj (hNm.symm.trans hty)
  subst hcA
  have hadn : mx_cv G (.ref n) = .ref H.size := by
    show Value.ref (mx_ad G n) = _
    rw [mx_ad, if_pos (by omega), hH.1]
  have K := K hL (by omega) H1 locs ls (hH.push (by unfold mx_NT; omega) z1 o1 ?_) hlo hls
  · rw [List.map_cons, hadn] at K
    exact K
  · unfold mx_cell
    rw [if_neg (by omega), ← hk1]
    rw [hH.1, hdv] at e1
    rw [e1]
    congr 2
    funext j
    simp [mx_ev, h13, mx_cv]
theorem mx_newaS {d nE pc n : Nat} {aty : ArrayType} {M : Mm} {L : Lv} {r : Sk} {x : Int32} (C : mx_C p s m args meth c G false nL o cc) (hd : decode cc pc = .ok (.newarray aty, 2)) (hk : (kd n).1 = mx_aty aty ∧ mx_aty aty ≠ 0) (hx0 : ¬ x < 0) (hxn : x.toNatClampNeg = (kd n).2) (hby : (kd n).2 ≤ 100000) (hE : n + 1 ≤ nE)
    (K : mx_X p l e (mx_rm d n0 nE) s m args below meth c Q G false n0 nL (n + 1) (mx_z M n) (pc + 2) L (.ref n :: r)) : mx_X p l e (mx_rm d n0 nE) s m args below meth c Q G false n0 nL n M pc L (.int x :: r) := by
  obtain ⟨hk, hk0⟩ := hk
  obtain ⟨w1, w2, w3, w4⟩ := mx_arrw
  have hK := (id C).2.2.2.2.2.1
  cases aty <;> first | exact absurd rfl hk0 | skip
  case int => exact mx_newa1 C hd w1 hk.symm (by decide) (by decide) (hK.1.2 2 _ rfl).2 rfl hx0 hxn (mx_cb hby (show componentBytes (newarray.typeOf .int) ≤ 8 by decide)) hE K
  case byte => exact mx_newa1 C hd w2 hk.symm (by decide) (by decide) (hK.1.2 0 _ rfl).2 rfl hx0 hxn (mx_cb hby (show componentBytes (newarray.typeOf .byte) ≤ 8 by decide)) hE K
  case char => exact mx_newa1 C hd w3 hk.symm (by decide) (by decide) (hK.1.2 1 _ rfl).2 rfl hx0 hxn (mx_cb hby (show componentBytes (newarray.typeOf .char) ≤ 8 by decide)) hE K
  case boolean => exact mx_newa1 C hd w4 hk.symm (by decide) (by decide) (hK.1.2 3 _ rfl).2 rfl hx0 hxn (mx_cb hby (show componentBytes (newarray.typeOf .boolean) ≤ 8 by decide)) hE K
theorem mx_tyR {k1 : Nat} (h13 : 13 ≤ k1) (h17 : k1 < 17) (hK : mx_K G s) : va_AO (mx_rc (mx_ec k1)) s ∧ va_RA s (G.2.2.1 k1) (.object (mx_rc (mx_ec k1))) ∧ ArrOfT s (G.2.2.1 k1) (.object (mx_rc (mx_ec k1))) := by
  rcases (show k1 = 13 ∨ k1 = 14 ∨ k1 = 15 ∨ k1 = 16 by omega) with rfl | rfl | rfl | rfl
  · exact ⟨hK.2.2.1.1, (hK.1.2 4 _ rfl).2, (hK.1.2 4 _ rfl).1⟩
  · exact ⟨hK.2.2.1.2.1, (hK.1.2 5 _ rfl).2, (hK.1.2 5 _ rfl).1⟩
  · exact ⟨hK.2.2.1.2.2.1, (hK.1.2 6 _ rfl).2, (hK.1.2 6 _ rfl).1⟩
  · exact ⟨hK.2.2.1.2.2.2, (hK.1.2 7 _ rfl).2, (hK.1.2 7 _ rfl).1⟩
theorem mx_anewS {d nE pc i n k1 : Nat} {M : Mm} {L : Lv} {r : Sk} {x : Int32} (C : mx_C p s m args meth c G false nL o cc) (hd : decode cc pc = .ok (.anewarray i, 3)) (hl : (o, i, mx_ec k1) ∈ mx_cl) (hk1 : (kd n).1 = k1) (h13 : 13 ≤ k1) (h17 : k1 < 17) (hx0 : ¬ x < 0) (hxn : x.toNatClampNeg = (kd n).2) (hby : (kd n).2 ≤ 100000) (hE : n + 1 ≤ nE)
    (K : mx_X p l e (mx_rm d n0 nE) s m args below meth c Q G false n0 nL (n + 1) (mx_z M n) (pc + 3) L (.ref n :: r)) : mx_X p l e (mx_rm d n0 nE) s m args below meth c Q G false n0 nL n M pc L (.int x :: r) := by
  intro hL hn H locs ls hH hlo hls
  obtain ⟨hx, hb, hml, ho, hts, hK, -⟩ := C
  have hn1 : n < 127 := mx_kdlt (by omega)
  obtain ⟨r1, r2, r3, r4⟩ := mx_room1 (d := d) hn hE
  rw [← hxn] at r2 r4 hby
  obtain ⟨w1, w2, w3⟩ := mx_tyR h13 h17 hK
  refine W.anew hx hb ho (hts _ (mx_cl_in _ hl)) (va_AO.use w1) rfl hd rfl hx0 (by omega) r1 r2 fun cA kA comp f1 f2 f3 f4 => ?_
  rw [r3, r4]
  obtain ⟨kA', comp', g1, g2, g3, g4⟩ := w2
  have hcA : cA = G.2.2.1 k1 := Option.some.inj (f1.symm.trans g4)
  subst hcA
  generalize hH1 : H.push ({ cls := G.2.2.1 k1, slots := Array.replicate x.toNatClampNeg .null, vm := .none } : Cell) = H1
  have z1 : H1.size = H.size + 1 := by rw [← hH1, Array.size_push]
  have e1 : H1[H.size]? = some (arrV (G.2.2.1 k1) x.toNatClampNeg (fun _ => .null)) := by rw [← hH1, Array.getElem?_push_size, ← arrV_new]
  have o1 : ∀ q : Nat, q < H.size → H1[q]? = H[q]? := fun q hq => by rw [← hH1, Array.getElem?_push, if_neg (Nat.ne_of_lt hq)]
  have hadn : mx_cv G (.ref n) = .ref H.size := by
    show Value.ref (mx_ad G n) = _
    rw [mx_ad, if_pos (by omega), hH.1]
  have K := K hL (by omega) H1 locs ls (hH.push (by unfold mx_NT; omega) z1 o1 ?_) hlo hls
  · rw [List.map_cons, hadn] at K
    exact K
  · unfold mx_cell
    rw [if_neg (by omega), hk1]
    rw [hH.1, hxn] at e1
    rw [e1]
    congr 2
    funext j
    have : ¬ k1 < 13 := by omega
    simp [mx_ev, this, mx_rv, mx_cv]
theorem mx_aastS {d nE pc n k1 k t : Nat} {M : Mm} {L : Lv} {r : Sk} {i : Int32} (C : mx_C p s m args meth c G false nL o cc) (hd : decode cc pc = .ok (.aastore, 1)) (hk : (kd k).1 = k1 ∧ k < n) (h13 : 13 ≤ k1) (h17 : k1 < 17) (ht : (kd t).1 = mx_ec k1 ∧ t < n ∧ 0 < t) (hr : vp_in i (kd k).2)
    (K : mx_X p l e (mx_rm d n0 nE) s m args below meth c Q G false n0 nL n (mx_wr M k i.toNatClampNeg (nI t)) (pc + 1) L r) : mx_X p l e (mx_rm d n0 nE) s m args below meth c Q G false n0 nL n M pc L (.ref t :: .int i :: .ref k :: r) := by
  intro hL hn H locs ls hH hlo hls
  obtain ⟨hx, hb, hml, ho, hts, hK, -⟩ := C
  obtain ⟨hkn, hkc, hcell⟩ := mx_arr (md := false) hH (show mx_in false k1 k n from hk) (by omega) h17
  have hz : mx_ad G k = G.1.size + k := mx_adk hH hkn
  have hec : mx_ec k1 < 9 := by
    rcases (show k1 = 13 ∨ k1 = 14 ∨ k1 = 15 ∨ k1 = 16 by omega) with rfl | rfl | rfl | rfl <;> decide
  obtain ⟨w1, ⟨kA, comp, g1, g2, g3, g4⟩, w3⟩ := mx_tyR h13 h17 hK
  have hct := hH.2.2.2.2 t ht.2.1
  unfold mx_cell at hct
  rw [if_pos (by rw [ht.1]; exact hec), ht.1] at hct
  obtain ⟨cellV, v1, v2, v3, -⟩ := hct
  rw [← mx_adk hH ht.2.1] at v1
  obtain ⟨vr, hvr⟩ := mx_vw hec
  obtain ⟨-, hrc, -⟩ := mx_cls _ vr hvr
  have hcls := (hK.1.1 _ _ hvr).2
  rw [hrc] at hcls
  have hcomp : comp = G.2.1.1 (mx_ec k1) := Option.some.inj (g3.symm.trans hcls.1)
  subst hcomp
  obtain ⟨kC, hkC, -⟩ := hcls.2
  have hlt : i.toNatClampNeg < (kd k).2 := Nat.not_le.mp fun q => hr (Or.inr q)
  refine W.aast hx hb hcell (fun q h => by cases h) (fun h => by cases h) g1 g2 rfl hkC ⟨fun q => hr (Or.inl q), by rw [arrV_size]; exact hlt⟩ v1 (fun q h => by rw [v3] at h; cases h) (by rw [v2]; exact hkC) (by rw [v2]; exact va_assign hcls) rfl rfl hd fun H1 e z oq => ?_
  refine K hL hn H1 _ ls (hH.put (k := k) (fun q hq => mx_wr_ne hq) z (fun q hq => oq q (by rw [hz]; exact hq)) ?_) (fun q hq => ?_) hls
  · unfold mx_cell
    rw [if_neg (by omega), hkc]
    rw [arrV_store, hz] at e
    rw [e]
    congr 2
    funext q
    rw [mx_wr_self]
    have h13' : ¬ k1 < 13 := by omega
    have ht31 : t < 2 ^ 31 := by
      have h1 := hH.2.1
      unfold mx_NT at h1
      omega
    by_cases hq : q = i.toNatClampNeg
    · subst hq
      have h0 : ¬ nI t = 0 := nI_ne0 ht.2.2 ht31
      simp [updV, mx_ev, h13', mx_rv, h0, nI_clamp ht31, mx_cv]
    · simp [updV, hq]
  · rcases List.mem_append.mp hq with h | h
    · exact hlo q h
    · rw [List.mem_singleton.mp h]
      show G.1.size ≤ mx_ad G k
      omega
theorem mx_oiw : Cond.instanceMethod Lib.objectInit ∈ gw ∧ Cond.code Lib.objectInit ⟨#[0xb1]⟩ 1 none ∈ gw := ⟨mx_gw (i := 77) (by decide +kernel), mx_gw (i := 78) (by decide +kernel)⟩
theorem mx_objS {md : Bool} {d nE pc i n b : Nat} {M : Mm} {L : Lv} {r : Sk} (C : mx_C p s m args meth c G md nL o cc) (hd : decode cc pc = .ok (.invokespecial i, 3)) (hl : Cond.methodLink (mx_rc o) i Lib.objectInit ∈ gw) (h1d : 1 ≤ d) (hr : (r.map fun v => v.category).sum ≤ 8)
    (K : mx_X p l e (mx_rm d n0 nE) s m args below meth c Q G md n0 nL n M (pc + 3) L r) : mx_X p l e (mx_rm d n0 nE) s m args below meth c Q G md n0 nL n M pc L (.ref b :: r) := by
  intro hL hn H locs ls hH hlo hls
  obtain ⟨hx, hb, hml, ho, hts, hK, -⟩ := C
  refine W.objInit hx hb ho (hts _ hl) (hts _ mx_oiw.1) (hts _ mx_oiw.2) rfl (by rw [hml]; exact hls.1) (rest := r.map (mx_cv G)) rfl hd h1d ?_ (K hL hn H locs ls hH hlo hls)
  rw [mx_catm]
  show 2 * 0 + _ + 12 ≤ 100 * d
  omega
end MX
end
section
theorem mx_isr_of {t : FieldType} (h : mx_isr t = true) : (∃ n, t = .object n) ∨ ∃ u, t = .array u := by
  cases t <;> simp [mx_isr] at h
  · exact Or.inl ⟨_, rfl⟩
  · exact Or.inr ⟨_, rfl⟩
section MX
variable {p : Program} {l : Launch} {e : Env} {s : State} {m : MethodId} {args : Array Value} {below : List Frame} {meth : Method} {c : Code} {G : Gt} {md : Bool} {n0 : Nat}
theorem mx_sound {D : Md} {d nE : Nat} {P : Option Value → Mm → Prop} {Qc : Array Value → State → Outcome → State → Prop} (C : mx_C p s m args meth c G md D.2.2.1 D.2.2.2.2 D.2.1) (hr : meth.sig.returnType = D.2.2.2.1) (hQ : ∀ (v : Option Value) (M' : Mm) (t : State), P v M' → mx_H G md nE M' t.heap → Qc args s (.returned (v.map (mx_cv G))) t) :
    mx_Rl l G md D d nE P (mx_X p l e (mx_rm d n0 nE) s m args below meth c (MQ below Qc args s (nE - n0) (mx_sz nE - mx_sz n0) (mx_A G)) G md n0 D.2.2.1) := by
  obtain ⟨hx, hb, hml, ho, hts, hK, hini, hlk⟩ := id C
  refine ⟨fun pc is pc' n M L S h k => mx_blkS C is pc pc' n M L S h k, fun pc t n M L S h k => mx_jmpS C h k, fun pc br t f n M L S h k => mx_brS C h k, fun pc tb df n M L S h k => mx_swS C h k,
    fun pc i E k n n' M L S r as v hd hE hc hk hnn hnE hR hS hr K => mx_callS C hd hE hc hk hnn hnE hR hS hr K,
    fun pc i E k n n' b c1 M L S r as v hd hE hc hk hnn hnE hc1 hi hR hS hr K => mx_callV C hd hE hc hk hnn hnE hc1 hi hR hS hr K,
    fun pc i E k n n' b M L S r as v hd hE hc hk hnn hnE hR hS hr K => mx_callI C hd hE hc hk hnn hnE hR hS hr K, ?_, ?_, ?_, ?_, fun pc w len n M L S S' hd h h1 h2 K => mx_oddS C hd h h1 h2 K, fun pc i n k1 k2 M L r sp dp cnt hd hl h1d hi1 hi2 h1 h2 h3 h4 h5 hr K => mx_cpyS C hd hl h1d hi1 hi2 h1 h2 h3 h4 h5 hr K, fun pc i E k n j M L S r as v hd hE hc hk hnE hj hR hS hr K => mx_callT C hd hE hc hk hnE hj hR hS hr K, fun pc i c1 n M L S hmd hd hl hc hkd hE K => by subst hmd; exact mx_newS C hd hl hc hkd hE K, fun pc n aty M L r x hmd hd hk hx0 hxn hby hE K => by subst hmd; exact mx_newaS C hd hk hx0 hxn hby hE K, fun pc i n k1 M L r x hmd hd hl hk1 h13 h17 hx0 hxn hby hE K => by subst hmd; exact mx_anewS C hd hl hk1 h13 h17 hx0 hxn hby hE K, fun pc n k1 k t M L r i hmd hd hk h13 h17 ht hr K => by subst hmd; exact mx_aastS C hd hk h13 h17 ht hr K, fun pc i n b M L r hd hl h1d hr K => mx_objS C hd hl h1d hr K⟩
  · intro pc M L x ty hd hty hna hP hL hn H locs ls hH hlo hls
    exact W.zret hx hb (hr.trans hty) hna (fun t ht _ => hQ _ M t hP (by rw [ht]; exact hH)) hlo hd hlk
  · intro pc M L hd hty hP hL hn H locs ls hH hlo hls
    exact W.vret hx hb (hr.trans hty) (fun t ht _ => hQ _ M t hP (by rw [ht]; exact hH)) hlo hd hlk
  · intro pc M L x hd hty hP hL hn H locs ls hH hlo hls
    exact W.lret hx hb (hr.trans hty) (fun t ht _ => hQ _ M t hP (by rw [ht]; exact hH)) hlo hd hlk
  · intro pc M L x ty hd hty hir hxr hP hL hn H locs ls hH hlo hls
    exact W.aret hx hb (hr.trans hty) (mx_isr_of hir) (by
      rcases hxr with rfl | ⟨a, rfl⟩
      · exact Or.inl rfl
      · exact Or.inr ⟨_, rfl⟩) (fun t ht _ => hQ _ M t hP (by rw [ht]; exact hH)) hlo hd hlk
end MX
theorem mx_sl : ∀ (vs : List Value), (∀ v ∈ vs, v.category = 1) → (lg_sl vs).length = vs.length
  | [], _ => rfl
  | v :: vs, h => by
    have h1 := mx_sl vs (fun v hv => h v (List.mem_cons_of_mem _ hv))
    have h2 := h v List.mem_cons_self
    unfold lg_sl at h1 ⊢
    rw [List.flatMap_cons, List.length_append, h1, h2]
    simp
    omega
theorem mx_alE {G : Gt} {k : Nat} : ∀ (as : List Value) (i : Nat), (∀ v ∈ as, v.category = 1) → mx_al G i (as.map some ++ List.replicate k none) = lv_args i (as.map (mx_cv G))
  | [], i, _ => by
    simp only [List.map_nil, List.nil_append]
    induction k generalizing i with
    | zero => rfl
    | succ k ih => exact ih (i + 1)
  | v :: as, i, h => by
    have h1 := mx_alE (G := G) (k := k) as (i + 1) (fun v hv => h v (List.mem_cons_of_mem _ hv))
    have h2 : (mx_cv G v).category = 1 := by rw [mx_cv_cat]; exact h v List.mem_cons_self
    show (i, mx_cv G v) :: mx_al G (i + 1) (as.map some ++ List.replicate k none) = (i, mx_cv G v) :: lv_args (if (mx_cv G v).category = 2 then i + 2 else i + 1) (as.map (mx_cv G))
    rw [h1, h2]
    rfl
/-- the locals at a method's start -/
def mx_L0 (D : Md) (as : List Value) : Lv := as.map some ++ List.replicate (D.2.2.1 - as.length) none
/-- a method's own part: plain facts of its name -/
def mx_own (D : Md) : Prop := plainName D.1.cls = true ∧ mx_rc D.2.2.2.2 = D.1.cls
theorem mx_met {l : Launch} {G : Gt} {md : Bool} {D : Md} {d n0 nE : Nat} {as : List Value} {M : Mm} {P : Option Value → Mm → Prop} (hD : mx_own D) (hini : md = false → D.1.name = "<init>") (has : ∀ v ∈ as, v.category = 1) (hla : as.length ≤ D.2.2.1) (hn : n0 ≤ nE)
    (body : ∀ X : Nat → Mm → Nat → Lv → Sk → Prop, mx_Rl l G md D d nE P X → X n0 M 0 (mx_L0 D as) []) : Rn l G md d D n0 as M nE P := by
  unfold Rn
  refine Met.ofW (cc := D.2.1) (maxL := D.2.2.1) (ret := D.2.2.2.1) hD.1 rfl ?_
  intro p e s m args below meth c s₁ B hml hv
  obtain ⟨rfl, hH, hK⟩ := hv
  have hts0 := atoms_spec (ws := mx_wT D) B.pre
  have hown : s.vm.findClass D.1.cls = some m.cls := findClass_of_methodNamed B.named
  have hname : meth.name = D.1.name := (name_of_methodNamed B.named B.method).1
  have C : mx_C p s m ((as.map (mx_cv G)).toArray) meth c G md D.2.2.1 D.2.2.2.2 D.2.1 := ⟨B.exec, B.bytes, hml, by rw [hD.2]; exact hown, fun w hw => hts0 w (List.mem_cons_of_mem _ hw), hK, fun h => hname.trans (hini h), B.notSynchronized⟩
  have h := body _ (mx_sound (l := l) (e := e) (below := below) (n0 := n0) (d := d) (nE := nE) (P := P) (Qc := fun _ _ oc t => ∃ (v : Option Value) (M' : Mm), oc = .returned (v.map (mx_cv G)) ∧ P v M' ∧ mx_H G md nE M' t.heap) C B.returns (fun v' M2 t hP hH' => ⟨v', M2, rfl, hP, hH'⟩))
  have hc1 : ∀ v ∈ as.map (mx_cv G), v.category = 1 := fun w hw => by
    obtain ⟨u, hu, rfl⟩ := List.mem_map.mp hw
    rw [mx_cv_cat]
    exact has u hu
  have hl := lv_entry (as.map (mx_cv G)) (n := D.2.2.1) (by rw [mx_sl _ hc1, List.length_map]; exact hla)
  rw [lg_entry_eq]
  have h2 := h (by simp [mx_L0]; omega) (Nat.le_refl _) s.heap [] _ hH (fun q hq => absurd hq List.not_mem_nil) (by
    rw [show mx_al G 0 (mx_L0 D as) = lv_args 0 (as.map (mx_cv G)) from mx_alE as 0 has]
    exact hl)
  rw [Nat.sub_self, Nat.sub_self] at h2
  exact h2
end
section
/-! the rules, as they are used (all made: 127 cells; md = true) -/
def Pi (Q : Int32 → Mm → Prop) : Option Value → Mm → Prop := fun v M => ∃ x, v = some (.int x) ∧ Q x M
def Pv (Q : Mm → Prop) : Option Value → Mm → Prop := fun v M => v = none ∧ Q M
def Pl (Q : Int64 → Mm → Prop) : Option Value → Mm → Prop := fun v M => ∃ x, v = some (.long x) ∧ Q x M
def Pa (Q : Value → Mm → Prop) : Option Value → Mm → Prop := fun v M => ∃ x, v = some x ∧ Q x M
def mx_few (r : Sk) : Bool := Nat.ble (r.map fun v => v.category).sum 8
theorem mx_few_ok {r : Sk} (h : mx_few r = true) : (r.map fun v => v.category).sum ≤ 8 := Nat.le_of_ble_eq_true h
/-- a call's place: static, on an object of class c, a constructor -/
def mx_kS (D : Md) (pc : Nat) (E : Md) (na : Nat) : Prop := ∃ i, decode D.2.1 pc = .ok (.invokestatic i, 3) ∧ mx_D E na ∧ (mx_cS D.2.2.2.2 i E ∨ mx_cN D.2.2.2.2 i E)
def mx_kV (D : Md) (pc : Nat) (E : Md) (c na : Nat) : Prop := ∃ i, decode D.2.1 pc = .ok (.invokevirtual i, 3) ∧ mx_D E na ∧ mx_cV D.2.2.2.2 i E ∧ c < 9 ∧ mx_rc c = E.1.cls
def mx_kI (D : Md) (pc : Nat) (E : Md) (na : Nat) : Prop := ∃ i, decode D.2.1 pc = .ok (.invokespecial i, 3) ∧ mx_D E na ∧ mx_cI D.2.2.2.2 i E
/-- a return's place -/
def mx_kr (D : Md) (pc : Nat) (ty : FieldType) : Prop := decode D.2.1 pc = .ok (.ireturn, 1) ∧ D.2.2.2.1 = some ty
def mx_kv (D : Md) (pc : Nat) : Prop := decode D.2.1 pc = .ok (.return_, 1) ∧ D.2.2.2.1 = none
def mx_kl (D : Md) (pc : Nat) : Prop := decode D.2.1 pc = .ok (.lreturn, 1) ∧ D.2.2.2.1 = some .long
def mx_ka (D : Md) (pc : Nat) : Prop := decode D.2.1 pc = .ok (.areturn, 1) ∧ ∃ ty, D.2.2.2.1 = some ty ∧ mx_isr ty = true
def mx_kn (D : Md) (pc c : Nat) : Prop := ∃ i, decode D.2.1 pc = .ok (.new i, 3) ∧ (D.2.2.2.2, i, c) ∈ mx_cl ∧ c < 9
def mx_kq (D : Md) (pc k1 : Nat) : Prop := ∃ i, decode D.2.1 pc = .ok (.anewarray i, 3) ∧ (D.2.2.2.2, i, mx_ec k1) ∈ mx_cl ∧ 13 ≤ k1 ∧ k1 < 17
def mx_ko (D : Md) (pc : Nat) : Prop := ∃ i, decode D.2.1 pc = .ok (.invokespecial i, 3) ∧ Cond.methodLink (mx_rc D.2.2.2.2) i Lib.objectInit ∈ gw
section RL
variable {l : Launch} {G : Gt} {md : Bool} {D : Md} {d nE : Nat} {P : Option Value → Mm → Prop} {X : Nat → Mm → Nat → Lv → Sk → Prop}
theorem mx_Rl.b (R : mx_Rl l G md D d nE P X) {pc : Nat} {is : List Ai} {pc' n : Nat} {M : Mm} {L : Lv} {S : Sk} (h : mx_blk D.2.2.2.2 D.2.1 pc is pc' = true) (k : mx_b md is n M L S (fun n' M' L' S' => X n' M' pc' L' S')) : X n M pc L S := R.1 pc is pc' n M L S h k
theorem mx_Rl.j (R : mx_Rl l G md D d nE P X) {pc t n : Nat} {M : Mm} {L : Lv} {S : Sk} (h : mx_jmp D.2.1 pc t = true) (k : X n M t L S) : X n M pc L S := R.2.1 pc t n M L S h k
theorem mx_Rl.c (R : mx_Rl l G md D d nE P X) {pc : Nat} {br : Instr} {t f n : Nat} {M : Mm} {L : Lv} {S : Sk} (h : mx_brk D.2.1 pc br t f = true) (k : mx_br br S (fun r => X n M t L r) (fun r => X n M f L r)) : X n M pc L S := R.2.2.1 pc br t f n M L S h k
theorem mx_Rl.s (R : mx_Rl l G md D d nE P X) {pc : Nat} {tb : List (Int32 × Nat)} {df n : Nat} {M : Mm} {L : Lv} {x : Int32} {r : Sk} (h : mx_swk D.2.1 pc tb df = true) (k : mx_sw x tb df (fun t => X n M t L r)) : X n M pc L (.int x :: r) := R.2.2.2.1 pc tb df n M L (.int x :: r) h k
theorem mx_Rl.ri (R : mx_Rl l G md D d nE P X) {pc : Nat} {M : Mm} {L : Lv} {x : Int32} {ty : FieldType} (h : mx_kr D pc ty) (hn : narrow ty (.int x) = .int x) (k : P (some (.int x)) M) : X nE M pc L [.int x] := R.2.2.2.2.2.2.2.1 pc M L x ty h.1 h.2 hn k
theorem mx_Rl.rv (R : mx_Rl l G md D d nE P X) {pc : Nat} {M : Mm} {L : Lv} (h : mx_kv D pc) (k : P none M) : X nE M pc L [] := R.2.2.2.2.2.2.2.2.1 pc M L h.1 h.2 k
theorem mx_Rl.rl (R : mx_Rl l G md D d nE P X) {pc : Nat} {M : Mm} {L : Lv} {x : Int64} (h : mx_kl D pc) (k : P (some (.long x)) M) : X nE M pc L [.long x] := R.2.2.2.2.2.2.2.2.2.1 pc M L x h.1 h.2 k
theorem mx_Rl.ra (R : mx_Rl l G md D d nE P X) {pc : Nat} {M : Mm} {L : Lv} {a : Nat} (h : mx_ka D pc) (k : P (some (.ref a)) M) : X nE M pc L [.ref a] := by
  obtain ⟨h1, ty, h2, h3⟩ := h
  exact R.2.2.2.2.2.2.2.2.2.2.1 pc M L (.ref a) ty h1 h2 h3 (Or.inr ⟨a, rfl⟩) k
theorem mx_Rl.rn (R : mx_Rl l G md D d nE P X) {pc : Nat} {M : Mm} {L : Lv} (h : mx_ka D pc) (k : P (some .null) M) : X nE M pc L [.null] := by
  obtain ⟨h1, ty, h2, h3⟩ := h
  exact R.2.2.2.2.2.2.2.2.2.2.1 pc M L .null ty h1 h2 h3 (Or.inl rfl) k
theorem mx_Rl.S0i (R : mx_Rl l G md D d nE P X) {pc k n n' : Nat} {E : Md} {M : Mm} {L : Lv} {r : Sk} {Q : Int32 → Mm → Prop} (h : mx_kS D pc E 0) (hR : Runs l G md E k n [] M n' (Pi Q)) (hk : k < d) (hr : mx_few r = true) (hn : n ≤ n' ∧ n' ≤ nE) (K : ∀ (x : Int32) (M' : Mm), Q x M' → X n' M' (pc + 3) L (.int x :: r)) : X n M pc L (r) := by
  obtain ⟨i, h1, h2, h3⟩ := h
  refine R.2.2.2.2.1 pc i E k n n' M L _ r [] _ h1 h2 h3 hk hn.1 hn.2 hR rfl (mx_few_ok hr) (fun v M' hv => ?_)
  · obtain ⟨x, rfl, hq⟩ := hv
    exact K x M' hq
theorem mx_Rl.V0i (R : mx_Rl l G md D d nE P X) {pc k n n' b c : Nat} {E : Md} {M : Mm} {L : Lv} {r : Sk} {Q : Int32 → Mm → Prop} (h : mx_kV D pc E c 0) (hi : mx_in md c b n) (hR : Runs l G md E k n [.ref b] M n' (Pi Q)) (hk : k < d) (hr : mx_few r = true) (hn : n ≤ n' ∧ n' ≤ nE) (K : ∀ (x : Int32) (M' : Mm), Q x M' → X n' M' (pc + 3) L (.int x :: r)) : X n M pc L (.ref b :: r) := by
  obtain ⟨i, h1, h2, h3, h4⟩ := h
  refine R.2.2.2.2.2.1 pc i E k n n' b c M L _ r [] _ h1 h2 h3 hk hn.1 hn.2 h4 hi hR rfl (mx_few_ok hr) (fun v M' hv => ?_)
  · obtain ⟨x, rfl, hq⟩ := hv
    exact K x M' hq
theorem mx_Rl.S0v (R : mx_Rl l G md D d nE P X) {pc k n n' : Nat} {E : Md} {M : Mm} {L : Lv} {r : Sk} {Q : Mm → Prop} (h : mx_kS D pc E 0) (hR : Runs l G md E k n [] M n' (Pv Q)) (hk : k < d) (hr : mx_few r = true) (hn : n ≤ n' ∧ n' ≤ nE) (K : ∀ (M' : Mm), Q M' → X n' M' (pc + 3) L r) : X n M pc L (r) := by
  obtain ⟨i, h1, h2, h3⟩ := h
  refine R.2.2.2.2.1 pc i E k n n' M L _ r [] _ h1 h2 h3 hk hn.1 hn.2 hR rfl (mx_few_ok hr) (fun v M' hv => ?_)
  · obtain ⟨rfl, hq⟩ := hv
    exact K M' hq
theorem mx_Rl.V0v (R : mx_Rl l G md D d nE P X) {pc k n n' b c : Nat} {E : Md} {M : Mm} {L : Lv} {r : Sk} {Q : Mm → Prop} (h : mx_kV D pc E c 0) (hi : mx_in md c b n) (hR : Runs l G md E k n [.ref b] M n' (Pv Q)) (hk : k < d) (hr : mx_few r = true) (hn : n ≤ n' ∧ n' ≤ nE) (K : ∀ (M' : Mm), Q M' → X n' M' (pc + 3) L r) : X n M pc L (.ref b :: r) := by
  obtain ⟨i, h1, h2, h3, h4⟩ := h
  refine R.2.2.2.2.2.1 pc i E k n n' b c M L _ r [] _ h1 h2 h3 hk hn.1 hn.2 h4 hi hR rfl (mx_few_ok hr) (fun v M' hv => ?_)
  · obtain ⟨rfl, hq⟩ := hv
    exact K M' hq
theorem mx_Rl.S0l (R : mx_Rl l G md D d nE P X) {pc k n n' : Nat} {E : Md} {M : Mm} {L : Lv} {r : Sk} {Q : Int64 → Mm → Prop} (h : mx_kS D pc E 0) (hR : Runs l G md E k n [] M n' (Pl Q)) (hk : k < d) (hr : mx_few r = true) (hn : n ≤ n' ∧ n' ≤ nE) (K : ∀ (x : Int64) (M' : Mm), Q x M' → X n' M' (pc + 3) L (.long x :: r)) : X n M pc L (r) := by
  obtain ⟨i, h1, h2, h3⟩ := h
  refine R.2.2.2.2.1 pc i E k n n' M L _ r [] _ h1 h2 h3 hk hn.1 hn.2 hR rfl (mx_few_ok hr) (fun v M' hv => ?_)
  · obtain ⟨x, rfl, hq⟩ := hv
    exact K x M' hq
theorem mx_Rl.V0l (R : mx_Rl l G md D d nE P X) {pc k n n' b c : Nat} {E : Md} {M : Mm} {L : Lv} {r : Sk} {Q : Int64 → Mm → Prop} (h : mx_kV D pc E c 0) (hi : mx_in md c b n) (hR : Runs l G md E k n [.ref b] M n' (Pl Q)) (hk : k < d) (hr : mx_few r = true) (hn : n ≤ n' ∧ n' ≤ nE) (K : ∀ (x : Int64) (M' : Mm), Q x M' → X n' M' (pc + 3) L (.long x :: r)) : X n M pc L (.ref b :: r) := by
  obtain ⟨i, h1, h2, h3, h4⟩ := h
  refine R.2.2.2.2.2.1 pc i E k n n' b c M L _ r [] _ h1 h2 h3 hk hn.1 hn.2 h4 hi hR rfl (mx_few_ok hr) (fun v M' hv => ?_)
  · obtain ⟨x, rfl, hq⟩ := hv
    exact K x M' hq
theorem mx_Rl.S0a (R : mx_Rl l G md D d nE P X) {pc k n n' : Nat} {E : Md} {M : Mm} {L : Lv} {r : Sk} {Q : Value → Mm → Prop} (h : mx_kS D pc E 0) (hR : Runs l G md E k n [] M n' (Pa Q)) (hk : k < d) (hr : mx_few r = true) (hn : n ≤ n' ∧ n' ≤ nE) (K : ∀ (x : Value) (M' : Mm), Q x M' → X n' M' (pc + 3) L (x :: r)) : X n M pc L (r) := by
  obtain ⟨i, h1, h2, h3⟩ := h
  refine R.2.2.2.2.1 pc i E k n n' M L _ r [] _ h1 h2 h3 hk hn.1 hn.2 hR rfl (mx_few_ok hr) (fun v M' hv => ?_)
  · obtain ⟨x, rfl, hq⟩ := hv
    exact K x M' hq
theorem mx_Rl.V0a (R : mx_Rl l G md D d nE P X) {pc k n n' b c : Nat} {E : Md} {M : Mm} {L : Lv} {r : Sk} {Q : Value → Mm → Prop} (h : mx_kV D pc E c 0) (hi : mx_in md c b n) (hR : Runs l G md E k n [.ref b] M n' (Pa Q)) (hk : k < d) (hr : mx_few r = true) (hn : n ≤ n' ∧ n' ≤ nE) (K : ∀ (x : Value) (M' : Mm), Q x M' → X n' M' (pc + 3) L (x :: r)) : X n M pc L (.ref b :: r) := by
  obtain ⟨i, h1, h2, h3, h4⟩ := h
  refine R.2.2.2.2.2.1 pc i E k n n' b c M L _ r [] _ h1 h2 h3 hk hn.1 hn.2 h4 hi hR rfl (mx_few_ok hr) (fun v M' hv => ?_)
  · obtain ⟨x, rfl, hq⟩ := hv
    exact K x M' hq
theorem mx_Rl.I0 (R : mx_Rl l G md D d nE P X) {pc k n n' b : Nat} {E : Md} {M : Mm} {L : Lv} {r : Sk} {Q : Mm → Prop} (h : mx_kI D pc E 0) (hR : Runs l G md E k n [.ref b] M n' (Pv Q)) (hk : k < d) (hr : mx_few r = true) (hn : n ≤ n' ∧ n' ≤ nE) (K : ∀ (M' : Mm), Q M' → X n' M' (pc + 3) L r) : X n M pc L (.ref b :: r) := by
  obtain ⟨i, h1, h2, h3⟩ := h
  refine R.2.2.2.2.2.2.1 pc i E k n n' b M L _ r [] _ h1 h2 h3 hk hn.1 hn.2 hR rfl (mx_few_ok hr) (fun v M' hv => ?_)
  · obtain ⟨rfl, hq⟩ := hv
    exact K M' hq
theorem mx_Rl.S1i (R : mx_Rl l G md D d nE P X) {pc k n n' : Nat} {E : Md} {M : Mm} {L : Lv} {r : Sk} {a1 : Value} {Q : Int32 → Mm → Prop} (h : mx_kS D pc E 1) (hR : Runs l G md E k n [a1] M n' (Pi Q)) (hk : k < d) (hr : mx_few r = true) (hn : n ≤ n' ∧ n' ≤ nE) (K : ∀ (x : Int32) (M' : Mm), Q x M' → X n' M' (pc + 3) L (.int x :: r)) : X n M pc L (a1 :: r) := by
  obtain ⟨i, h1, h2, h3⟩ := h
  refine R.2.2.2.2.1 pc i E k n n' M L _ r [a1] _ h1 h2 h3 hk hn.1 hn.2 hR rfl (mx_few_ok hr) (fun v M' hv => ?_)
  · obtain ⟨x, rfl, hq⟩ := hv
    exact K x M' hq
theorem mx_Rl.V1i (R : mx_Rl l G md D d nE P X) {pc k n n' b c : Nat} {E : Md} {M : Mm} {L : Lv} {r : Sk} {a1 : Value} {Q : Int32 → Mm → Prop} (h : mx_kV D pc E c 1) (hi : mx_in md c b n) (hR : Runs l G md E k n [.ref b, a1] M n' (Pi Q)) (hk : k < d) (hr : mx_few r = true) (hn : n ≤ n' ∧ n' ≤ nE) (K : ∀ (x : Int32) (M' : Mm), Q x M' → X n' M' (pc + 3) L (.int x :: r)) : X n M pc L (a1 :: .ref b :: r) := by
  obtain ⟨i, h1, h2, h3, h4⟩ := h
  refine R.2.2.2.2.2.1 pc i E k n n' b c M L _ r [a1] _ h1 h2 h3 hk hn.1 hn.2 h4 hi hR rfl (mx_few_ok hr) (fun v M' hv => ?_)
  · obtain ⟨x, rfl, hq⟩ := hv
    exact K x M' hq
theorem mx_Rl.S1v (R : mx_Rl l G md D d nE P X) {pc k n n' : Nat} {E : Md} {M : Mm} {L : Lv} {r : Sk} {a1 : Value} {Q : Mm → Prop} (h : mx_kS D pc E 1) (hR : Runs l G md E k n [a1] M n' (Pv Q)) (hk : k < d) (hr : mx_few r = true) (hn : n ≤ n' ∧ n' ≤ nE) (K : ∀ (M' : Mm), Q M' → X n' M' (pc + 3) L r) : X n M pc L (a1 :: r) := by
  obtain ⟨i, h1, h2, h3⟩ := h
  refine R.2.2.2.2.1 pc i E k n n' M L _ r [a1] _ h1 h2 h3 hk hn.1 hn.2 hR rfl (mx_few_ok hr) (fun v M' hv => ?_)
  · obtain ⟨rfl, hq⟩ := hv
    exact K M' hq
theorem mx_Rl.V1v (R : mx_Rl l G md D d nE P X) {pc k n n' b c : Nat} {E : Md} {M : Mm} {L : Lv} {r : Sk} {a1 : Value} {Q : Mm → Prop} (h : mx_kV D pc E c 1) (hi : mx_in md c b n) (hR : Runs l G md E k n [.ref b, a1] M n' (Pv Q)) (hk : k < d) (hr : mx_few r = true) (hn : n ≤ n' ∧ n' ≤ nE) (K : ∀ (M' : Mm), Q M' → X n' M' (pc + 3) L r) : X n M pc L (a1 :: .ref b :: r) := by
  obtain ⟨i, h1, h2, h3, h4⟩ := h
  refine R.2.2.2.2.2.1 pc i E k n n' b c M L _ r [a1] _ h1 h2 h3 hk hn.1 hn.2 h4 hi hR rfl (mx_few_ok hr) (fun v M' hv => ?_)
  · obtain ⟨rfl, hq⟩ := hv
    exact K M' hq
theorem mx_Rl.S1l (R : mx_Rl l G md D d nE P X) {pc k n n' : Nat} {E : Md} {M : Mm} {L : Lv} {r : Sk} {a1 : Value} {Q : Int64 → Mm → Prop} (h : mx_kS D pc E 1) (hR : Runs l G md E k n [a1] M n' (Pl Q)) (hk : k < d) (hr : mx_few r = true) (hn : n ≤ n' ∧ n' ≤ nE) (K : ∀ (x : Int64) (M' : Mm), Q x M' → X n' M' (pc + 3) L (.long x :: r)) : X n M pc L (a1 :: r) := by
  obtain ⟨i, h1, h2, h3⟩ := h
  refine R.2.2.2.2.1 pc i E k n n' M L _ r [a1] _ h1 h2 h3 hk hn.1 hn.2 hR rfl (mx_few_ok hr) (fun v M' hv => ?_)
  · obtain ⟨x, rfl, hq⟩ := hv
    exact K x M' hq
theorem mx_Rl.V1l (R : mx_Rl l G md D d nE P X) {pc k n n' b c : Nat} {E : Md} {M : Mm} {L : Lv} {r : Sk} {a1 : Value} {Q : Int64 → Mm → Prop} (h : mx_kV D pc E c 1) (hi : mx_in md c b n) (hR : Runs l G md E k n [.ref b, a1] M n' (Pl Q)) (hk : k < d) (hr : mx_few r = true) (hn : n ≤ n' ∧ n' ≤ nE) (K : ∀ (x : Int64) (M' : Mm), Q x M' → X n' M' (pc + 3) L (.long x :: r)) : X n M pc L (a1 :: .ref b :: r) := by
  obtain ⟨i, h1, h2, h3, h4⟩ := h
  refine R.2.2.2.2.2.1 pc i E k n n' b c M L _ r [a1] _ h1 h2 h3 hk hn.1 hn.2 h4 hi hR rfl (mx_few_ok hr) (fun v M' hv => ?_)
  · obtain ⟨x, rfl, hq⟩ := hv
    exact K x M' hq
theorem mx_Rl.S1a (R : mx_Rl l G md D d nE P X) {pc k n n' : Nat} {E : Md} {M : Mm} {L : Lv} {r : Sk} {a1 : Value} {Q : Value → Mm → Prop} (h : mx_kS D pc E 1) (hR : Runs l G md E k n [a1] M n' (Pa Q)) (hk : k < d) (hr : mx_few r = true) (hn : n ≤ n' ∧ n' ≤ nE) (K : ∀ (x : Value) (M' : Mm), Q x M' → X n' M' (pc + 3) L (x :: r)) : X n M pc L (a1 :: r) := by
  obtain ⟨i, h1, h2, h3⟩ := h
  refine R.2.2.2.2.1 pc i E k n n' M L _ r [a1] _ h1 h2 h3 hk hn.1 hn.2 hR rfl (mx_few_ok hr) (fun v M' hv => ?_)
  · obtain ⟨x, rfl, hq⟩ := hv
    exact K x M' hq
theorem mx_Rl.V1a (R : mx_Rl l G md D d nE P X) {pc k n n' b c : Nat} {E : Md} {M : Mm} {L : Lv} {r : Sk} {a1 : Value} {Q : Value → Mm → Prop} (h : mx_kV D pc E c 1) (hi : mx_in md c b n) (hR : Runs l G md E k n [.ref b, a1] M n' (Pa Q)) (hk : k < d) (hr : mx_few r = true) (hn : n ≤ n' ∧ n' ≤ nE) (K : ∀ (x : Value) (M' : Mm), Q x M' → X n' M' (pc + 3) L (x :: r)) : X n M pc L (a1 :: .ref b :: r) := by
  obtain ⟨i, h1, h2, h3, h4⟩ := h
  refine R.2.2.2.2.2.1 pc i E k n n' b c M L _ r [a1] _ h1 h2 h3 hk hn.1 hn.2 h4 hi hR rfl (mx_few_ok hr) (fun v M' hv => ?_)
  · obtain ⟨x, rfl, hq⟩ := hv
    exact K x M' hq
theorem mx_Rl.I1 (R : mx_Rl l G md D d nE P X) {pc k n n' b : Nat} {E : Md} {M : Mm} {L : Lv} {r : Sk} {a1 : Value} {Q : Mm → Prop} (h : mx_kI D pc E 1) (hR : Runs l G md E k n [.ref b, a1] M n' (Pv Q)) (hk : k < d) (hr : mx_few r = true) (hn : n ≤ n' ∧ n' ≤ nE) (K : ∀ (M' : Mm), Q M' → X n' M' (pc + 3) L r) : X n M pc L (a1 :: .ref b :: r) := by
  obtain ⟨i, h1, h2, h3⟩ := h
  refine R.2.2.2.2.2.2.1 pc i E k n n' b M L _ r [a1] _ h1 h2 h3 hk hn.1 hn.2 hR rfl (mx_few_ok hr) (fun v M' hv => ?_)
  · obtain ⟨rfl, hq⟩ := hv
    exact K M' hq
theorem mx_Rl.S2i (R : mx_Rl l G md D d nE P X) {pc k n n' : Nat} {E : Md} {M : Mm} {L : Lv} {r : Sk} {a1 a2 : Value} {Q : Int32 → Mm → Prop} (h : mx_kS D pc E 2) (hR : Runs l G md E k n [a1, a2] M n' (Pi Q)) (hk : k < d) (hr : mx_few r = true) (hn : n ≤ n' ∧ n' ≤ nE) (K : ∀ (x : Int32) (M' : Mm), Q x M' → X n' M' (pc + 3) L (.int x :: r)) : X n M pc L (a2 :: a1 :: r) := by
  obtain ⟨i, h1, h2, h3⟩ := h
  refine R.2.2.2.2.1 pc i E k n n' M L _ r [a1, a2] _ h1 h2 h3 hk hn.1 hn.2 hR rfl (mx_few_ok hr) (fun v M' hv => ?_)
  · obtain ⟨x, rfl, hq⟩ := hv
    exact K x M' hq
theorem mx_Rl.V2i (R : mx_Rl l G md D d nE P X) {pc k n n' b c : Nat} {E : Md} {M : Mm} {L : Lv} {r : Sk} {a1 a2 : Value} {Q : Int32 → Mm → Prop} (h : mx_kV D pc E c 2) (hi : mx_in md c b n) (hR : Runs l G md E k n [.ref b, a1, a2] M n' (Pi Q)) (hk : k < d) (hr : mx_few r = true) (hn : n ≤ n' ∧ n' ≤ nE) (K : ∀ (x : Int32) (M' : Mm), Q x M' → X n' M' (pc + 3) L (.int x :: r)) : X n M pc L (a2 :: a1 :: .ref b :: r) := by
  obtain ⟨i, h1, h2, h3, h4⟩ := h
  refine R.2.2.2.2.2.1 pc i E k n n' b c M L _ r [a1, a2] _ h1 h2 h3 hk hn.1 hn.2 h4 hi hR rfl (mx_few_ok hr) (fun v M' hv => ?_)
  · obtain ⟨x, rfl, hq⟩ := hv
    exact K x M' hq
theorem mx_Rl.S2v (R : mx_Rl l G md D d nE P X) {pc k n n' : Nat} {E : Md} {M : Mm} {L : Lv} {r : Sk} {a1 a2 : Value} {Q : Mm → Prop} (h : mx_kS D pc E 2) (hR : Runs l G md E k n [a1, a2] M n' (Pv Q)) (hk : k < d) (hr : mx_few r = true) (hn : n ≤ n' ∧ n' ≤ nE) (K : ∀ (M' : Mm), Q M' → X n' M' (pc + 3) L r) : X n M pc L (a2 :: a1 :: r) := by
  obtain ⟨i, h1, h2, h3⟩ := h
  refine R.2.2.2.2.1 pc i E k n n' M L _ r [a1, a2] _ h1 h2 h3 hk hn.1 hn.2 hR rfl (mx_few_ok hr) (fun v M' hv => ?_)
  · obtain ⟨rfl, hq⟩ := hv
    exact K M' hq
theorem mx_Rl.V2v (R : mx_Rl l G md D d nE P X) {pc k n n' b c : Nat} {E : Md} {M : Mm} {L : Lv} {r : Sk} {a1 a2 : Value} {Q : Mm → Prop} (h : mx_kV D pc E c 2) (hi : mx_in md c b n) (hR : Runs l G md E k n [.ref b, a1, a2] M n' (Pv Q)) (hk : k < d) (hr : mx_few r = true) (hn : n ≤ n' ∧ n' ≤ nE) (K : ∀ (M' : Mm), Q M' → X n' M' (pc + 3) L r) : X n M pc L (a2 :: a1 :: .ref b :: r) := by
  obtain ⟨i, h1, h2, h3, h4⟩ := h
  refine R.2.2.2.2.2.1 pc i E k n n' b c M L _ r [a1, a2] _ h1 h2 h3 hk hn.1 hn.2 h4 hi hR rfl (mx_few_ok hr) (fun v M' hv => ?_)
  · obtain ⟨rfl, hq⟩ := hv
    exact K M' hq
theorem mx_Rl.S2l (R : mx_Rl l G md D d nE P X) {pc k n n' : Nat} {E : Md} {M : Mm} {L : Lv} {r : Sk} {a1 a2 : Value} {Q : Int64 → Mm → Prop} (h : mx_kS D pc E 2) (hR : Runs l G md E k n [a1, a2] M n' (Pl Q)) (hk : k < d) (hr : mx_few r = true) (hn : n ≤ n' ∧ n' ≤ nE) (K : ∀ (x : Int64) (M' : Mm), Q x M' → X n' M' (pc + 3) L (.long x :: r)) : X n M pc L (a2 :: a1 :: r) := by
  obtain ⟨i, h1, h2, h3⟩ := h
  refine R.2.2.2.2.1 pc i E k n n' M L _ r [a1, a2] _ h1 h2 h3 hk hn.1 hn.2 hR rfl (mx_few_ok hr) (fun v M' hv => ?_)
  · obtain ⟨x, rfl, hq⟩ := hv
    exact K x M' hq
theorem mx_Rl.V2l (R : mx_Rl l G md D d nE P X) {pc k n n' b c : Nat} {E : Md} {M : Mm} {L : Lv} {r : Sk} {a1 a2 : Value} {Q : Int64 → Mm → Prop} (h : mx_kV D pc E c 2) (hi : mx_in md c b n) (hR : Runs l G md E k n [.ref b, a1, a2] M n' (Pl Q)) (hk : k < d) (hr : mx_few r = true) (hn : n ≤ n' ∧ n' ≤ nE) (K : ∀ (x : Int64) (M' : Mm), Q x M' → X n' M' (pc + 3) L (.long x :: r)) : X n M pc L (a2 :: a1 :: .ref b :: r) := by
  obtain ⟨i, h1, h2, h3, h4⟩ := h
  refine R.2.2.2.2.2.1 pc i E k n n' b c M L _ r [a1, a2] _ h1 h2 h3 hk hn.1 hn.2 h4 hi hR rfl (mx_few_ok hr) (fun v M' hv => ?_)
  · obtain ⟨x, rfl, hq⟩ := hv
    exact K x M' hq
theorem mx_Rl.S2a (R : mx_Rl l G md D d nE P X) {pc k n n' : Nat} {E : Md} {M : Mm} {L : Lv} {r : Sk} {a1 a2 : Value} {Q : Value → Mm → Prop} (h : mx_kS D pc E 2) (hR : Runs l G md E k n [a1, a2] M n' (Pa Q)) (hk : k < d) (hr : mx_few r = true) (hn : n ≤ n' ∧ n' ≤ nE) (K : ∀ (x : Value) (M' : Mm), Q x M' → X n' M' (pc + 3) L (x :: r)) : X n M pc L (a2 :: a1 :: r) := by
  obtain ⟨i, h1, h2, h3⟩ := h
  refine R.2.2.2.2.1 pc i E k n n' M L _ r [a1, a2] _ h1 h2 h3 hk hn.1 hn.2 hR rfl (mx_few_ok hr) (fun v M' hv => ?_)
  · obtain ⟨x, rfl, hq⟩ := hv
    exact K x M' hq
theorem mx_Rl.V2a (R : mx_Rl l G md D d nE P X) {pc k n n' b c : Nat} {E : Md} {M : Mm} {L : Lv} {r : Sk} {a1 a2 : Value} {Q : Value → Mm → Prop} (h : mx_kV D pc E c 2) (hi : mx_in md c b n) (hR : Runs l G md E k n [.ref b, a1, a2] M n' (Pa Q)) (hk : k < d) (hr : mx_few r = true) (hn : n ≤ n' ∧ n' ≤ nE) (K : ∀ (x : Value) (M' : Mm), Q x M' → X n' M' (pc + 3) L (x :: r)) : X n M pc L (a2 :: a1 :: .ref b :: r) := by
  obtain ⟨i, h1, h2, h3, h4⟩ := h
  refine R.2.2.2.2.2.1 pc i E k n n' b c M L _ r [a1, a2] _ h1 h2 h3 hk hn.1 hn.2 h4 hi hR rfl (mx_few_ok hr) (fun v M' hv => ?_)
  · obtain ⟨x, rfl, hq⟩ := hv
    exact K x M' hq
theorem mx_Rl.S3i (R : mx_Rl l G md D d nE P X) {pc k n n' : Nat} {E : Md} {M : Mm} {L : Lv} {r : Sk} {a1 a2 a3 : Value} {Q : Int32 → Mm → Prop} (h : mx_kS D pc E 3) (hR : Runs l G md E k n [a1, a2, a3] M n' (Pi Q)) (hk : k < d) (hr : mx_few r = true) (hn : n ≤ n' ∧ n' ≤ nE) (K : ∀ (x : Int32) (M' : Mm), Q x M' → X n' M' (pc + 3) L (.int x :: r)) : X n M pc L (a3 :: a2 :: a1 :: r) := by
  obtain ⟨i, h1, h2, h3⟩ := h
  refine R.2.2.2.2.1 pc i E k n n' M L _ r [a1, a2, a3] _ h1 h2 h3 hk hn.1 hn.2 hR rfl (mx_few_ok hr) (fun v M' hv => ?_)
  · obtain ⟨x, rfl, hq⟩ := hv
    exact K x M' hq
theorem mx_Rl.V3i (R : mx_Rl l G md D d nE P X) {pc k n n' b c : Nat} {E : Md} {M : Mm} {L : Lv} {r : Sk} {a1 a2 a3 : Value} {Q : Int32 → Mm → Prop} (h : mx_kV D pc E c 3) (hi : mx_in md c b n) (hR : Runs l G md E k n [.ref b, a1, a2, a3] M n' (Pi Q)) (hk : k < d) (hr : mx_few r = true) (hn : n ≤ n' ∧ n' ≤ nE) (K : ∀ (x : Int32) (M' : Mm), Q x M' → X n' M' (pc + 3) L (.int x :: r)) : X n M pc L (a3 :: a2 :: a1 :: .ref b :: r) := by
  obtain ⟨i, h1, h2, h3, h4⟩ := h
  refine R.2.2.2.2.2.1 pc i E k n n' b c M L _ r [a1, a2, a3] _ h1 h2 h3 hk hn.1 hn.2 h4 hi hR rfl (mx_few_ok hr) (fun v M' hv => ?_)
  · obtain ⟨x, rfl, hq⟩ := hv
    exact K x M' hq
theorem mx_Rl.S3v (R : mx_Rl l G md D d nE P X) {pc k n n' : Nat} {E : Md} {M : Mm} {L : Lv} {r : Sk} {a1 a2 a3 : Value} {Q : Mm → Prop} (h : mx_kS D pc E 3) (hR : Runs l G md E k n [a1, a2, a3] M n' (Pv Q)) (hk : k < d) (hr : mx_few r = true) (hn : n ≤ n' ∧ n' ≤ nE) (K : ∀ (M' : Mm), Q M' → X n' M' (pc + 3) L r) : X n M pc L (a3 :: a2 :: a1 :: r) := by
  obtain ⟨i, h1, h2, h3⟩ := h
  refine R.2.2.2.2.1 pc i E k n n' M L _ r [a1, a2, a3] _ h1 h2 h3 hk hn.1 hn.2 hR rfl (mx_few_ok hr) (fun v M' hv => ?_)
  · obtain ⟨rfl, hq⟩ := hv
    exact K M' hq
theorem mx_Rl.V3v (R : mx_Rl l G md D d nE P X) {pc k n n' b c : Nat} {E : Md} {M : Mm} {L : Lv} {r : Sk} {a1 a2 a3 : Value} {Q : Mm → Prop} (h : mx_kV D pc E c 3) (hi : mx_in md c b n) (hR : Runs l G md E k n [.ref b, a1, a2, a3] M n' (Pv Q)) (hk : k < d) (hr : mx_few r = true) (hn : n ≤ n' ∧ n' ≤ nE) (K : ∀ (M' : Mm), Q M' → X n' M' (pc + 3) L r) : X n M pc L (a3 :: a2 :: a1 :: .ref b :: r) := by
  obtain ⟨i, h1, h2, h3, h4⟩ := h
  refine R.2.2.2.2.2.1 pc i E k n n' b c M L _ r [a1, a2, a3] _ h1 h2 h3 hk hn.1 hn.2 h4 hi hR rfl (mx_few_ok hr) (fun v M' hv => ?_)
  · obtain ⟨rfl, hq⟩ := hv
    exact K M' hq
theorem mx_Rl.S3l (R : mx_Rl l G md D d nE P X) {pc k n n' : Nat} {E : Md} {M : Mm} {L : Lv} {r : Sk} {a1 a2 a3 : Value} {Q : Int64 → Mm → Prop} (h : mx_kS D pc E 3) (hR : Runs l G md E k n [a1, a2, a3] M n' (Pl Q)) (hk : k < d) (hr : mx_few r = true) (hn : n ≤ n' ∧ n' ≤ nE) (K : ∀ (x : Int64) (M' : Mm), Q x M' → X n' M' (pc + 3) L (.long x :: r)) : X n M pc L (a3 :: a2 :: a1 :: r) := by
  obtain ⟨i, h1, h2, h3⟩ := h
  refine R.2.2.2.2.1 pc i E k n n' M L _ r [a1, a2, a3] _ h1 h2 h3 hk hn.1 hn.2 hR rfl (mx_few_ok hr) (fun v M' hv => ?_)
  · obtain ⟨x, rfl, hq⟩ := hv
    exact K x M' hq
theorem mx_Rl.V3l (R : mx_Rl l G md D d nE P X) {pc k n n' b c : Nat} {E : Md} {M : Mm} {L : Lv} {r : Sk} {a1 a2 a3 : Value} {Q : Int64 → Mm → Prop} (h : mx_kV D pc E c 3) (hi : mx_in md c b n) (hR : Runs l G md E k n [.ref b, a1, a2, a3] M n' (Pl Q)) (hk : k < d) (hr : mx_few r = true) (hn : n ≤ n' ∧ n' ≤ nE) (K : ∀ (x : Int64) (M' : Mm), Q x M' → X n' M' (pc + 3) L (.long x :: r)) : X n M pc L (a3 :: a2 :: a1 :: .ref b :: r) := by
  obtain ⟨i, h1, h2, h3, h4⟩ := h
  refine R.2.2.2.2.2.1 pc i E k n n' b c M L _ r [a1, a2, a3] _ h1 h2 h3 hk hn.1 hn.2 h4 hi hR rfl (mx_few_ok hr) (fun v M' hv => ?_)
  · obtain ⟨x, rfl, hq⟩ := hv
    exact K x M' hq
theorem mx_Rl.S3a (R : mx_Rl l G md D d nE P X) {pc k n n' : Nat} {E : Md} {M : Mm} {L : Lv} {r : Sk} {a1 a2 a3 : Value} {Q : Value → Mm → Prop} (h : mx_kS D pc E 3) (hR : Runs l G md E k n [a1, a2, a3] M n' (Pa Q)) (hk : k < d) (hr : mx_few r = true) (hn : n ≤ n' ∧ n' ≤ nE) (K : ∀ (x : Value) (M' : Mm), Q x M' → X n' M' (pc + 3) L (x :: r)) : X n M pc L (a3 :: a2 :: a1 :: r) := by
  obtain ⟨i, h1, h2, h3⟩ := h
  refine R.2.2.2.2.1 pc i E k n n' M L _ r [a1, a2, a3] _ h1 h2 h3 hk hn.1 hn.2 hR rfl (mx_few_ok hr) (fun v M' hv => ?_)
  · obtain ⟨x, rfl, hq⟩ := hv
    exact K x M' hq
theorem mx_Rl.V3a (R : mx_Rl l G md D d nE P X) {pc k n n' b c : Nat} {E : Md} {M : Mm} {L : Lv} {r : Sk} {a1 a2 a3 : Value} {Q : Value → Mm → Prop} (h : mx_kV D pc E c 3) (hi : mx_in md c b n) (hR : Runs l G md E k n [.ref b, a1, a2, a3] M n' (Pa Q)) (hk : k < d) (hr : mx_few r = true) (hn : n ≤ n' ∧ n' ≤ nE) (K : ∀ (x : Value) (M' : Mm), Q x M' → X n' M' (pc + 3) L (x :: r)) : X n M pc L (a3 :: a2 :: a1 :: .ref b :: r) := by
  obtain ⟨i, h1, h2, h3, h4⟩ := h
  refine R.2.2.2.2.2.1 pc i E k n n' b c M L _ r [a1, a2, a3] _ h1 h2 h3 hk hn.1 hn.2 h4 hi hR rfl (mx_few_ok hr) (fun v M' hv => ?_)
  · obtain ⟨x, rfl, hq⟩ := hv
    exact K x M' hq
theorem mx_Rl.S4i (R : mx_Rl l G md D d nE P X) {pc k n n' : Nat} {E : Md} {M : Mm} {L : Lv} {r : Sk} {a1 a2 a3 a4 : Value} {Q : Int32 → Mm → Prop} (h : mx_kS D pc E 4) (hR : Runs l G md E k n [a1, a2, a3, a4] M n' (Pi Q)) (hk : k < d) (hr : mx_few r = true) (hn : n ≤ n' ∧ n' ≤ nE) (K : ∀ (x : Int32) (M' : Mm), Q x M' → X n' M' (pc + 3) L (.int x :: r)) : X n M pc L (a4 :: a3 :: a2 :: a1 :: r) := by
  obtain ⟨i, h1, h2, h3⟩ := h
  refine R.2.2.2.2.1 pc i E k n n' M L _ r [a1, a2, a3, a4] _ h1 h2 h3 hk hn.1 hn.2 hR rfl (mx_few_ok hr) (fun v M' hv => ?_)
  · obtain ⟨x, rfl, hq⟩ := hv
    exact K x M' hq
theorem mx_Rl.V4i (R : mx_Rl l G md D d nE P X) {pc k n n' b c : Nat} {E : Md} {M : Mm} {L : Lv} {r : Sk} {a1 a2 a3 a4 : Value} {Q : Int32 → Mm → Prop} (h : mx_kV D pc E c 4) (hi : mx_in md c b n) (hR : Runs l G md E k n [.ref b, a1, a2, a3, a4] M n' (Pi Q)) (hk : k < d) (hr : mx_few r = true) (hn : n ≤ n' ∧ n' ≤ nE) (K : ∀ (x : Int32) (M' : Mm), Q x M' → X n' M' (pc + 3) L (.int x :: r)) : X n M pc L (a4 :: a3 :: a2 :: a1 :: .ref b :: r) := by
  obtain ⟨i, h1, h2, h3, h4⟩ := h
  refine R.2.2.2.2.2.1 pc i E k n n' b c M L _ r [a1, a2, a3, a4] _ h1 h2 h3 hk hn.1 hn.2 h4 hi hR rfl (mx_few_ok hr) (fun v M' hv => ?_)
  · obtain ⟨x, rfl, hq⟩ := hv
    exact K x M' hq
theorem mx_Rl.S4v (R : mx_Rl l G md D d nE P X) {pc k n n' : Nat} {E : Md} {M : Mm} {L : Lv} {r : Sk} {a1 a2 a3 a4 : Value} {Q : Mm → Prop} (h : mx_kS D pc E 4) (hR : Runs l G md E k n [a1, a2, a3, a4] M n' (Pv Q)) (hk : k < d) (hr : mx_few r = true) (hn : n ≤ n' ∧ n' ≤ nE) (K : ∀ (M' : Mm), Q M' → X n' M' (pc + 3) L r) : X n M pc L (a4 :: a3 :: a2 :: a1 :: r) := by
  obtain ⟨i, h1, h2, h3⟩ := h
  refine R.2.2.2.2.1 pc i E k n n' M L _ r [a1, a2, a3, a4] _ h1 h2 h3 hk hn.1 hn.2 hR rfl (mx_few_ok hr) (fun v M' hv => ?_)
  · obtain ⟨rfl, hq⟩ := hv
    exact K M' hq
theorem mx_Rl.V4v (R : mx_Rl l G md D d nE P X) {pc k n n' b c : Nat} {E : Md} {M : Mm} {L : Lv} {r : Sk} {a1 a2 a3 a4 : Value} {Q : Mm → Prop} (h : mx_kV D pc E c 4) (hi : mx_in md c b n) (hR : Runs l G md E k n [.ref b, a1, a2, a3, a4] M n' (Pv Q)) (hk : k < d) (hr : mx_few r = true) (hn : n ≤ n' ∧ n' ≤ nE) (K : ∀ (M' : Mm), Q M' → X n' M' (pc + 3) L r) : X n M pc L (a4 :: a3 :: a2 :: a1 :: .ref b :: r) := by
  obtain ⟨i, h1, h2, h3, h4⟩ := h
  refine R.2.2.2.2.2.1 pc i E k n n' b c M L _ r [a1, a2, a3, a4] _ h1 h2 h3 hk hn.1 hn.2 h4 hi hR rfl (mx_few_ok hr) (fun v M' hv => ?_)
  · obtain ⟨rfl, hq⟩ := hv
    exact K M' hq
theorem mx_Rl.S4l (R : mx_Rl l G md D d nE P X) {pc k n n' : Nat} {E : Md} {M : Mm} {L : Lv} {r : Sk} {a1 a2 a3 a4 : Value} {Q : Int64 → Mm → Prop} (h : mx_kS D pc E 4) (hR : Runs l G md E k n [a1, a2, a3, a4] M n' (Pl Q)) (hk : k < d) (hr : mx_few r = true) (hn : n ≤ n' ∧ n' ≤ nE) (K : ∀ (x : Int64) (M' : Mm), Q x M' → X n' M' (pc + 3) L (.long x :: r)) : X n M pc L (a4 :: a3 :: a2 :: a1 :: r) := by
  obtain ⟨i, h1, h2, h3⟩ := h
  refine R.2.2.2.2.1 pc i E k n n' M L _ r [a1, a2, a3, a4] _ h1 h2 h3 hk hn.1 hn.2 hR rfl (mx_few_ok hr) (fun v M' hv => ?_)
  · obtain ⟨x, rfl, hq⟩ := hv
    exact K x M' hq
theorem mx_Rl.V4l (R : mx_Rl l G md D d nE P X) {pc k n n' b c : Nat} {E : Md} {M : Mm} {L : Lv} {r : Sk} {a1 a2 a3 a4 : Value} {Q : Int64 → Mm → Prop} (h : mx_kV D pc E c 4) (hi : mx_in md c b n) (hR : Runs l G md E k n [.ref b, a1, a2, a3, a4] M n' (Pl Q)) (hk : k < d) (hr : mx_few r = true) (hn : n ≤ n' ∧ n' ≤ nE) (K : ∀ (x : Int64) (M' : Mm), Q x M' → X n' M' (pc + 3) L (.long x :: r)) : X n M pc L (a4 :: a3 :: a2 :: a1 :: .ref b :: r) := by
  obtain ⟨i, h1, h2, h3, h4⟩ := h
  refine R.2.2.2.2.2.1 pc i E k n n' b c M L _ r [a1, a2, a3, a4] _ h1 h2 h3 hk hn.1 hn.2 h4 hi hR rfl (mx_few_ok hr) (fun v M' hv => ?_)
  · obtain ⟨x, rfl, hq⟩ := hv
    exact K x M' hq
theorem mx_Rl.S4a (R : mx_Rl l G md D d nE P X) {pc k n n' : Nat} {E : Md} {M : Mm} {L : Lv} {r : Sk} {a1 a2 a3 a4 : Value} {Q : Value → Mm → Prop} (h : mx_kS D pc E 4) (hR : Runs l G md E k n [a1, a2, a3, a4] M n' (Pa Q)) (hk : k < d) (hr : mx_few r = true) (hn : n ≤ n' ∧ n' ≤ nE) (K : ∀ (x : Value) (M' : Mm), Q x M' → X n' M' (pc + 3) L (x :: r)) : X n M pc L (a4 :: a3 :: a2 :: a1 :: r) := by
  obtain ⟨i, h1, h2, h3⟩ := h
  refine R.2.2.2.2.1 pc i E k n n' M L _ r [a1, a2, a3, a4] _ h1 h2 h3 hk hn.1 hn.2 hR rfl (mx_few_ok hr) (fun v M' hv => ?_)
  · obtain ⟨x, rfl, hq⟩ := hv
    exact K x M' hq
theorem mx_Rl.V4a (R : mx_Rl l G md D d nE P X) {pc k n n' b c : Nat} {E : Md} {M : Mm} {L : Lv} {r : Sk} {a1 a2 a3 a4 : Value} {Q : Value → Mm → Prop} (h : mx_kV D pc E c 4) (hi : mx_in md c b n) (hR : Runs l G md E k n [.ref b, a1, a2, a3, a4] M n' (Pa Q)) (hk : k < d) (hr : mx_few r = true) (hn : n ≤ n' ∧ n' ≤ nE) (K : ∀ (x : Value) (M' : Mm), Q x M' → X n' M' (pc + 3) L (x :: r)) : X n M pc L (a4 :: a3 :: a2 :: a1 :: .ref b :: r) := by
  obtain ⟨i, h1, h2, h3, h4⟩ := h
  refine R.2.2.2.2.2.1 pc i E k n n' b c M L _ r [a1, a2, a3, a4] _ h1 h2 h3 hk hn.1 hn.2 h4 hi hR rfl (mx_few_ok hr) (fun v M' hv => ?_)
  · obtain ⟨x, rfl, hq⟩ := hv
    exact K x M' hq
theorem mx_Rl.S5i (R : mx_Rl l G md D d nE P X) {pc k n n' : Nat} {E : Md} {M : Mm} {L : Lv} {r : Sk} {a1 a2 a3 a4 a5 : Value} {Q : Int32 → Mm → Prop} (h : mx_kS D pc E 5) (hR : Runs l G md E k n [a1, a2, a3, a4, a5] M n' (Pi Q)) (hk : k < d) (hr : mx_few r = true) (hn : n ≤ n' ∧ n' ≤ nE) (K : ∀ (x : Int32) (M' : Mm), Q x M' → X n' M' (pc + 3) L (.int x :: r)) : X n M pc L (a5 :: a4 :: a3 :: a2 :: a1 :: r) := by
  obtain ⟨i, h1, h2, h3⟩ := h
  refine R.2.2.2.2.1 pc i E k n n' M L _ r [a1, a2, a3, a4, a5] _ h1 h2 h3 hk hn.1 hn.2 hR rfl (mx_few_ok hr) (fun v M' hv => ?_)
  · obtain ⟨x, rfl, hq⟩ := hv
    exact K x M' hq
theorem mx_Rl.V5i (R : mx_Rl l G md D d nE P X) {pc k n n' b c : Nat} {E : Md} {M : Mm} {L : Lv} {r : Sk} {a1 a2 a3 a4 a5 : Value} {Q : Int32 → Mm → Prop} (h : mx_kV D pc E c 5) (hi : mx_in md c b n) (hR : Runs l G md E k n [.ref b, a1, a2, a3, a4, a5] M n' (Pi Q)) (hk : k < d) (hr : mx_few r = true) (hn : n ≤ n' ∧ n' ≤ nE) (K : ∀ (x : Int32) (M' : Mm), Q x M' → X n' M' (pc + 3) L (.int x :: r)) : X n M pc L (a5 :: a4 :: a3 :: a2 :: a1 :: .ref b :: r) := by
  obtain ⟨i, h1, h2, h3, h4⟩ := h
  refine R.2.2.2.2.2.1 pc i E k n n' b c M L _ r [a1, a2, a3, a4, a5] _ h1 h2 h3 hk hn.1 hn.2 h4 hi hR rfl (mx_few_ok hr) (fun v M' hv => ?_)
  · obtain ⟨x, rfl, hq⟩ := hv
    exact K x M' hq
theorem mx_Rl.S5v (R : mx_Rl l G md D d nE P X) {pc k n n' : Nat} {E : Md} {M : Mm} {L : Lv} {r : Sk} {a1 a2 a3 a4 a5 : Value} {Q : Mm → Prop} (h : mx_kS D pc E 5) (hR : Runs l G md E k n [a1, a2, a3, a4, a5] M n' (Pv Q)) (hk : k < d) (hr : mx_few r = true) (hn : n ≤ n' ∧ n' ≤ nE) (K : ∀ (M' : Mm), Q M' → X n' M' (pc + 3) L r) : X n M pc L (a5 :: a4 :: a3 :: a2 :: a1 :: r) := by
  obtain ⟨i, h1, h2, h3⟩ := h
  refine R.2.2.2.2.1 pc i E k n n' M L _ r [a1, a2, a3, a4, a5] _ h1 h2 h3 hk hn.1 hn.2 hR rfl (mx_few_ok hr) (fun v M' hv => ?_)
  · obtain ⟨rfl, hq⟩ := hv
    exact K M' hq
theorem mx_Rl.V5v (R : mx_Rl l G md D d nE P X) {pc k n n' b c : Nat} {E : Md} {M : Mm} {L : Lv} {r : Sk} {a1 a2 a3 a4 a5 : Value} {Q : Mm → Prop} (h : mx_kV D pc E c 5) (hi : mx_in md c b n) (hR : Runs l G md E k n [.ref b, a1, a2, a3, a4, a5] M n' (Pv Q)) (hk : k < d) (hr : mx_few r = true) (hn : n ≤ n' ∧ n' ≤ nE) (K : ∀ (M' : Mm), Q M' → X n' M' (pc + 3) L r) : X n M pc L (a5 :: a4 :: a3 :: a2 :: a1 :: .ref b :: r) := by
  obtain ⟨i, h1, h2, h3, h4⟩ := h
  refine R.2.2.2.2.2.1 pc i E k n n' b c M L _ r [a1, a2, a3, a4, a5] _ h1 h2 h3 hk hn.1 hn.2 h4 hi hR rfl (mx_few_ok hr) (fun v M' hv => ?_)
  · obtain ⟨rfl, hq⟩ := hv
    exact K M' hq
theorem mx_Rl.S5l (R : mx_Rl l G md D d nE P X) {pc k n n' : Nat} {E : Md} {M : Mm} {L : Lv} {r : Sk} {a1 a2 a3 a4 a5 : Value} {Q : Int64 → Mm → Prop} (h : mx_kS D pc E 5) (hR : Runs l G md E k n [a1, a2, a3, a4, a5] M n' (Pl Q)) (hk : k < d) (hr : mx_few r = true) (hn : n ≤ n' ∧ n' ≤ nE) (K : ∀ (x : Int64) (M' : Mm), Q x M' → X n' M' (pc + 3) L (.long x :: r)) : X n M pc L (a5 :: a4 :: a3 :: a2 :: a1 :: r) := by
  obtain ⟨i, h1, h2, h3⟩ := h
  refine R.2.2.2.2.1 pc i E k n n' M L _ r [a1, a2, a3, a4, a5] _ h1 h2 h3 hk hn.1 hn.2 hR rfl (mx_few_ok hr) (fun v M' hv => ?_)
  · obtain ⟨x, rfl, hq⟩ := hv
    exact K x M' hq
theorem mx_Rl.V5l (R : mx_Rl l G md D d nE P X) {pc k n n' b c : Nat} {E : Md} {M : Mm} {L : Lv} {r : Sk} {a1 a2 a3 a4 a5 : Value} {Q : Int64 → Mm → Prop} (h : mx_kV D pc E c 5) (hi : mx_in md c b n) (hR : Runs l G md E k n [.ref b, a1, a2, a3, a4, a5] M n' (Pl Q)) (hk : k < d) (hr : mx_few r = true) (hn : n ≤ n' ∧ n' ≤ nE) (K : ∀ (x : Int64) (M' : Mm), Q x M' → X n' M' (pc + 3) L (.long x :: r)) : X n M pc L (a5 :: a4 :: a3 :: a2 :: a1 :: .ref b :: r) := by
  obtain ⟨i, h1, h2, h3, h4⟩ := h
  refine R.2.2.2.2.2.1 pc i E k n n' b c M L _ r [a1, a2, a3, a4, a5] _ h1 h2 h3 hk hn.1 hn.2 h4 hi hR rfl (mx_few_ok hr) (fun v M' hv => ?_)
  · obtain ⟨x, rfl, hq⟩ := hv
    exact K x M' hq
theorem mx_Rl.S5a (R : mx_Rl l G md D d nE P X) {pc k n n' : Nat} {E : Md} {M : Mm} {L : Lv} {r : Sk} {a1 a2 a3 a4 a5 : Value} {Q : Value → Mm → Prop} (h : mx_kS D pc E 5) (hR : Runs l G md E k n [a1, a2, a3, a4, a5] M n' (Pa Q)) (hk : k < d) (hr : mx_few r = true) (hn : n ≤ n' ∧ n' ≤ nE) (K : ∀ (x : Value) (M' : Mm), Q x M' → X n' M' (pc + 3) L (x :: r)) : X n M pc L (a5 :: a4 :: a3 :: a2 :: a1 :: r) := by
  obtain ⟨i, h1, h2, h3⟩ := h
  refine R.2.2.2.2.1 pc i E k n n' M L _ r [a1, a2, a3, a4, a5] _ h1 h2 h3 hk hn.1 hn.2 hR rfl (mx_few_ok hr) (fun v M' hv => ?_)
  · obtain ⟨x, rfl, hq⟩ := hv
    exact K x M' hq
theorem mx_Rl.V5a (R : mx_Rl l G md D d nE P X) {pc k n n' b c : Nat} {E : Md} {M : Mm} {L : Lv} {r : Sk} {a1 a2 a3 a4 a5 : Value} {Q : Value → Mm → Prop} (h : mx_kV D pc E c 5) (hi : mx_in md c b n) (hR : Runs l G md E k n [.ref b, a1, a2, a3, a4, a5] M n' (Pa Q)) (hk : k < d) (hr : mx_few r = true) (hn : n ≤ n' ∧ n' ≤ nE) (K : ∀ (x : Value) (M' : Mm), Q x M' → X n' M' (pc + 3) L (x :: r)) : X n M pc L (a5 :: a4 :: a3 :: a2 :: a1 :: .ref b :: r) := by
  obtain ⟨i, h1, h2, h3, h4⟩ := h
  refine R.2.2.2.2.2.1 pc i E k n n' b c M L _ r [a1, a2, a3, a4, a5] _ h1 h2 h3 hk hn.1 hn.2 h4 hi hR rfl (mx_few_ok hr) (fun v M' hv => ?_)
  · obtain ⟨x, rfl, hq⟩ := hv
    exact K x M' hq
theorem mx_Rl.o (R : mx_Rl l G md D d nE P X) {pc : Nat} {w : Instr} {len n : Nat} {M : Mm} {L : Lv} {S S' : Sk} (hd : decode D.2.1 pc = .ok (w, len)) (h : mx_odd D.2.2.2.2 w len S S') (h1 : 1 ≤ d) (hn : n ≤ nE) (K : X n M (pc + len) L S') : X n M pc L S := R.2.2.2.2.2.2.2.2.2.2.2.1 pc w len n M L S S' hd h h1 hn K
def mx_km (D : Md) (pc : Nat) (y : MethodName) : Prop := ∃ i, decode D.2.1 pc = .ok (.invokestatic i, 3) ∧ Cond.methodLink (mx_rc D.2.2.2.2) i y ∈ gw
theorem mx_Rl.max (R : mx_Rl l G md D d nE P X) {pc n : Nat} {M : Mm} {L : Lv} {r : Sk} {x y : Int32} (h : mx_km D pc Lib.Math.max.name) (h1 : 1 ≤ d) (hr : mx_few r = true) (hn : n ≤ nE) (K : X n M (pc + 3) L (.int (if x < y then y else x) :: r)) : X n M pc L (.int y :: .int x :: r) := by
  obtain ⟨i, h2, h3⟩ := h
  exact R.o h2 (Or.inr (Or.inr (Or.inr (Or.inl ⟨i, r, x, y, rfl, rfl, h3, mx_few_ok hr, rfl, rfl⟩)))) h1 hn K
theorem mx_Rl.min (R : mx_Rl l G md D d nE P X) {pc n : Nat} {M : Mm} {L : Lv} {r : Sk} {x y : Int32} (h : mx_km D pc Lib.Math.min.name) (h1 : 1 ≤ d) (hr : mx_few r = true) (hn : n ≤ nE) (K : X n M (pc + 3) L (.int (if y < x then y else x) :: r)) : X n M pc L (.int y :: .int x :: r) := by
  obtain ⟨i, h2, h3⟩ := h
  exact R.o h2 (Or.inr (Or.inr (Or.inr (Or.inr (Or.inl ⟨i, r, x, y, rfl, rfl, h3, mx_few_ok hr, rfl, rfl⟩))))) h1 hn K
theorem mx_Rl.abs (R : mx_Rl l G md D d nE P X) {pc n : Nat} {M : Mm} {L : Lv} {r : Sk} {x : Int32} (h : mx_km D pc Lib.Math.abs.name) (h1 : 1 ≤ d) (hr : mx_few r = true) (hn : n ≤ nE) (K : X n M (pc + 3) L (.int (if 0 ≤ x then x else 0 - x) :: r)) : X n M pc L (.int x :: r) := by
  obtain ⟨i, h2, h3⟩ := h
  exact R.o h2 (Or.inr (Or.inr (Or.inr (Or.inr (Or.inr (Or.inl ⟨i, r, x, rfl, rfl, h3, mx_few_ok hr, rfl, rfl⟩)))))) h1 hn K
theorem mx_Rl.copy (R : mx_Rl l G md D d nE P X) {pc n k1 k2 : Nat} {M : Mm} {L : Lv} {r : Sk} {sp dp cnt : Int32} (h : mx_km D pc arraycopyName) (h1 : 1 ≤ d) (hr : mx_few r = true) (hi1 : mx_in md 11 k1 n) (hi2 : mx_in md 11 k2 n) (h0 : ¬ sp < 0 ∧ ¬ dp < 0 ∧ ¬ cnt < 0) (h4 : sp.toNatClampNeg + cnt.toNatClampNeg ≤ (kd k1).2 ∧ dp.toNatClampNeg + cnt.toNatClampNeg ≤ (kd k2).2) (K : X n (mx_cpy M k1 sp.toNatClampNeg k2 dp.toNatClampNeg cnt.toNatClampNeg) (pc + 3) L r) : X n M pc L (.int cnt :: .int dp :: .ref k2 :: .int sp :: .ref k1 :: r) := by
  obtain ⟨i, h2, h3⟩ := h
  exact R.2.2.2.2.2.2.2.2.2.2.2.2.1 pc i n k1 k2 M L r sp dp cnt h2 h3 h1 hi1 hi2 h0.1 h0.2.1 h0.2.2 h4.1 h4.2 (mx_few_ok hr) K
/-- a call on a String constant -/
def mx_kT (D : Md) (pc : Nat) (E : Md) (na : Nat) : Prop := ∃ i, decode D.2.1 pc = .ok (.invokevirtual i, 3) ∧ mx_D E na ∧ mx_cV D.2.2.2.2 i E ∧ E.1.cls = "java/lang/String"
theorem mx_Rl.T0i (R : mx_Rl l G md D d nE P X) {pc k n j : Nat} {E : Md} {M : Mm} {L : Lv} {r : Sk} {Q : Int32 → Mm → Prop} (h : mx_kT D pc E 0) (hj : j < 6) (hR : Runs l G md E k n [.ref (1001 + j)] M n (Pi Q)) (hk : k < d) (hr : mx_few r = true) (hn : n ≤ nE) (K : ∀ (x : Int32) (M' : Mm), Q x M' → X n M' (pc + 3) L (.int x :: r)) : X n M pc L (.ref (1001 + j) :: r) := by
  obtain ⟨i, h1, h2, h3, h4⟩ := h
  refine R.2.2.2.2.2.2.2.2.2.2.2.2.2.1 pc i E k n j M L _ r [] _ h1 h2 h3 hk hn ⟨h4, hj⟩ hR rfl (mx_few_ok hr) (fun v M' hv => ?_)
  obtain ⟨x, rfl, hq⟩ := hv
  exact K x M' hq
theorem mx_Rl.T1i (R : mx_Rl l G md D d nE P X) {pc k n j : Nat} {E : Md} {M : Mm} {L : Lv} {r : Sk} {a1 : Value} {Q : Int32 → Mm → Prop} (h : mx_kT D pc E 1) (hj : j < 6) (hR : Runs l G md E k n [.ref (1001 + j), a1] M n (Pi Q)) (hk : k < d) (hr : mx_few r = true) (hn : n ≤ nE) (K : ∀ (x : Int32) (M' : Mm), Q x M' → X n M' (pc + 3) L (.int x :: r)) : X n M pc L (a1 :: .ref (1001 + j) :: r) := by
  obtain ⟨i, h1, h2, h3, h4⟩ := h
  refine R.2.2.2.2.2.2.2.2.2.2.2.2.2.1 pc i E k n j M L _ r [a1] _ h1 h2 h3 hk hn ⟨h4, hj⟩ hR rfl (mx_few_ok hr) (fun v M' hv => ?_)
  obtain ⟨x, rfl, hq⟩ := hv
  exact K x M' hq
theorem mx_Rl.T2i (R : mx_Rl l G md D d nE P X) {pc k n j : Nat} {E : Md} {M : Mm} {L : Lv} {r : Sk} {a1 a2 : Value} {Q : Int32 → Mm → Prop} (h : mx_kT D pc E 2) (hj : j < 6) (hR : Runs l G md E k n [.ref (1001 + j), a1, a2] M n (Pi Q)) (hk : k < d) (hr : mx_few r = true) (hn : n ≤ nE) (K : ∀ (x : Int32) (M' : Mm), Q x M' → X n M' (pc + 3) L (.int x :: r)) : X n M pc L (a2 :: a1 :: .ref (1001 + j) :: r) := by
  obtain ⟨i, h1, h2, h3, h4⟩ := h
  refine R.2.2.2.2.2.2.2.2.2.2.2.2.2.1 pc i E k n j M L _ r [a1, a2] _ h1 h2 h3 hk hn ⟨h4, hj⟩ hR rfl (mx_few_ok hr) (fun v M' hv => ?_)
  obtain ⟨x, rfl, hq⟩ := hv
  exact K x M' hq
theorem mx_Rl.nw (R : mx_Rl l G false D d nE P X) {pc c n : Nat} {M : Mm} {L : Lv} {S : Sk} (h : mx_kn D pc c) (hkd : (kd n).1 = c) (hE : n + 1 ≤ nE) (K : X (n + 1) (mx_z M n) (pc + 3) L (.ref n :: S)) : X n M pc L S := by
  obtain ⟨i, h1, h2, h3⟩ := h
  exact R.2.2.2.2.2.2.2.2.2.2.2.2.2.2.1 pc i c n M L S rfl h1 h2 h3 hkd hE K
theorem mx_Rl.na (R : mx_Rl l G false D d nE P X) {pc n : Nat} {aty : ArrayType} {M : Mm} {L : Lv} {r : Sk} {x : Int32} (h : decode D.2.1 pc = .ok (.newarray aty, 2)) (hk : (kd n).1 = mx_aty aty ∧ mx_aty aty ≠ 0) (hx : ¬ x < 0 ∧ x.toNatClampNeg = (kd n).2 ∧ (kd n).2 ≤ 100000) (hE : n + 1 ≤ nE) (K : X (n + 1) (mx_z M n) (pc + 2) L (.ref n :: r)) : X n M pc L (.int x :: r) := R.2.2.2.2.2.2.2.2.2.2.2.2.2.2.2.1 pc n aty M L r x rfl h hk hx.1 hx.2.1 hx.2.2 hE K
theorem mx_Rl.an (R : mx_Rl l G false D d nE P X) {pc n k1 : Nat} {M : Mm} {L : Lv} {r : Sk} {x : Int32} (h : mx_kq D pc k1) (hk1 : (kd n).1 = k1) (hx : ¬ x < 0 ∧ x.toNatClampNeg = (kd n).2 ∧ (kd n).2 ≤ 100000) (hE : n + 1 ≤ nE) (K : X (n + 1) (mx_z M n) (pc + 3) L (.ref n :: r)) : X n M pc L (.int x :: r) := by
  obtain ⟨i, h1, h2, h3, h4⟩ := h
  exact R.2.2.2.2.2.2.2.2.2.2.2.2.2.2.2.2.1 pc i n k1 M L r x rfl h1 h2 hk1 h3 h4 hx.1 hx.2.1 hx.2.2 hE K
theorem mx_Rl.as (R : mx_Rl l G false D d nE P X) {pc n k1 k t : Nat} {M : Mm} {L : Lv} {r : Sk} {i : Int32} (h : decode D.2.1 pc = .ok (.aastore, 1)) (hk : (kd k).1 = k1 ∧ k < n) (h13 : 13 ≤ k1 ∧ k1 < 17) (ht : (kd t).1 = mx_ec k1 ∧ t < n ∧ 0 < t) (hr : vp_in i (kd k).2) (K : X n (mx_wr M k i.toNatClampNeg (nI t)) (pc + 1) L r) : X n M pc L (.ref t :: .int i :: .ref k :: r) := R.2.2.2.2.2.2.2.2.2.2.2.2.2.2.2.2.2.1 pc n k1 k t M L r i rfl h hk h13.1 h13.2 ht hr K
theorem mx_Rl.oi (R : mx_Rl l G md D d nE P X) {pc n b : Nat} {M : Mm} {L : Lv} {r : Sk} (h : mx_ko D pc) (h1 : 1 ≤ d) (hr : mx_few r = true) (K : X n M (pc + 3) L r) : X n M pc L (.ref b :: r) := by
  obtain ⟨i, h2, h3⟩ := h
  exact R.2.2.2.2.2.2.2.2.2.2.2.2.2.2.2.2.2.2 pc i n b M L r h2 h3 h1 (mx_few_ok hr) K
end RL
/-- a method of all that is made -/
theorem mx_run {l : Launch} {G : Gt} {D : Md} {k : Nat} {as : List Value} {M : Mm} {P : Option Value → Mm → Prop} (hD : mx_own D) (has : as.all (fun v => v.category == 1) = true) (hla : Nat.ble as.length D.2.2.1 = true)
    (body : ∀ (d : Nat) (X : Nat → Mm → Nat → Lv → Sk → Prop), k ≤ d → mx_Rl l G true D d 127 P X → X 127 M 0 (mx_L0 D as) []) : Runs l G true D k 127 as M 127 P := by
  intro d hd
  refine mx_met hD (fun h => by cases h) (fun v hv => ?_) (Nat.le_of_ble_eq_true hla) (Nat.le_refl _) (fun X R => body d X hd R)
  have := List.all_eq_true.mp has v hv
  simpa using this
theorem mx_runs_mono {l : Launch} {G : Gt} {md : Bool} {D : Md} {k k' n n' : Nat} {as : List Value} {M : Mm} {P : Option Value → Mm → Prop} (h : Runs l G md D k n as M n' P) (hk : k ≤ k') : Runs l G md D k' n as M n' P := fun d hd => h d (Nat.le_trans hk hd)
end
