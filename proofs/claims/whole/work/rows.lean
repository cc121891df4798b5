section
-- ===== PART A: goes FIRST, ahead of the names: the tables' words, and 'selects' of the private methods out of them =====
/-- a private method of a class that the tables say can be made, by its rows of tables_1 -/
def lw_okq (q : MethodName × Nat) : Prop := (q.1.cls ≠ "java/lang/invoke/MethodHandle" ∧ q.1.cls ≠ "java/lang/invoke/VarHandle") ∧ Cond.instantiable q.1.cls q.2 ∈ tables_1 ∧ Cond.privateMethod q.1 ∈ tables_1 ∧ Cond.instanceMethod q.1 ∈ tables_1
theorem lw_p0 : lw_okq (⟨"BirthWeeks$World", "dayOf", "(LBirthWeeks$District;I)I"⟩, 11) := ⟨⟨by decide +kernel, by decide +kernel⟩, List.mem_of_getElem? (i := 176) (by decide +kernel), List.mem_of_getElem? (i := 415) (by decide +kernel), List.mem_of_getElem? (i := 416) (by decide +kernel)⟩
theorem lw_p1 : lw_okq (⟨"BirthWeeks", "thinkFromNow", "()V"⟩, 15) := ⟨⟨by decide +kernel, by decide +kernel⟩, List.mem_of_getElem? (i := 18) (by decide +kernel), List.mem_of_getElem? (i := 433) (by decide +kernel), List.mem_of_getElem? (i := 434) (by decide +kernel)⟩
theorem lw_p2 : lw_okq (⟨"BirthWeeks", "thinkOn", "(II)V"⟩, 15) := ⟨⟨by decide +kernel, by decide +kernel⟩, List.mem_of_getElem? (i := 18) (by decide +kernel), List.mem_of_getElem? (i := 448) (by decide +kernel), List.mem_of_getElem? (i := 449) (by decide +kernel)⟩
theorem lw_p3 : lw_okq (⟨"BirthWeeks", "tradeOneDay", "()V"⟩, 15) := ⟨⟨by decide +kernel, by decide +kernel⟩, List.mem_of_getElem? (i := 18) (by decide +kernel), List.mem_of_getElem? (i := 465) (by decide +kernel), List.mem_of_getElem? (i := 466) (by decide +kernel)⟩
theorem lw_p4 : lw_okq (⟨"BirthWeeks", "mostSeenAt", "()I"⟩, 15) := ⟨⟨by decide +kernel, by decide +kernel⟩, List.mem_of_getElem? (i := 18) (by decide +kernel), List.mem_of_getElem? (i := 469) (by decide +kernel), List.mem_of_getElem? (i := 470) (by decide +kernel)⟩
theorem lw_p5 : lw_okq (⟨"BirthWeeks", "isSheet", "(I)Z"⟩, 15) := ⟨⟨by decide +kernel, by decide +kernel⟩, List.mem_of_getElem? (i := 18) (by decide +kernel), List.mem_of_getElem? (i := 485) (by decide +kernel), List.mem_of_getElem? (i := 486) (by decide +kernel)⟩
theorem lw_p6 : lw_okq (⟨"BirthWeeks", "differences", "(LBirthWeeks$Sheet;II)I"⟩, 15) := ⟨⟨by decide +kernel, by decide +kernel⟩, List.mem_of_getElem? (i := 18) (by decide +kernel), List.mem_of_getElem? (i := 494) (by decide +kernel), List.mem_of_getElem? (i := 495) (by decide +kernel)⟩
theorem lw_p7 : lw_okq (⟨"BirthWeeks", "thinkTillNextWeek", "(I)V"⟩, 15) := ⟨⟨by decide +kernel, by decide +kernel⟩, List.mem_of_getElem? (i := 18) (by decide +kernel), List.mem_of_getElem? (i := 515) (by decide +kernel), List.mem_of_getElem? (i := 516) (by decide +kernel)⟩
theorem lw_p8 : lw_okq (⟨"BirthWeeks", "feedOne", "(I)V"⟩, 15) := ⟨⟨by decide +kernel, by decide +kernel⟩, List.mem_of_getElem? (i := 18) (by decide +kernel), List.mem_of_getElem? (i := 533) (by decide +kernel), List.mem_of_getElem? (i := 534) (by decide +kernel)⟩
theorem lw_p9 : lw_okq (⟨"BirthWeeks$Reader", "goOn", "()V"⟩, 7) := ⟨⟨by decide +kernel, by decide +kernel⟩, List.mem_of_getElem? (i := 26) (by decide +kernel), List.mem_of_getElem? (i := 550) (by decide +kernel), List.mem_of_getElem? (i := 551) (by decide +kernel)⟩
theorem lw_p10 : lw_okq (⟨"BirthWeeks$Reader", "byteAt", "(I)I"⟩, 7) := ⟨⟨by decide +kernel, by decide +kernel⟩, List.mem_of_getElem? (i := 26) (by decide +kernel), List.mem_of_getElem? (i := 554) (by decide +kernel), List.mem_of_getElem? (i := 555) (by decide +kernel)⟩
theorem lw_p11 : lw_okq (⟨"BirthWeeks$Reader", "keyHere", "()I"⟩, 7) := ⟨⟨by decide +kernel, by decide +kernel⟩, List.mem_of_getElem? (i := 26) (by decide +kernel), List.mem_of_getElem? (i := 561) (by decide +kernel), List.mem_of_getElem? (i := 562) (by decide +kernel)⟩
theorem lw_p12 : lw_okq (⟨"BirthWeeks$Reader", "spells", "(Ljava/lang/String;)Z"⟩, 7) := ⟨⟨by decide +kernel, by decide +kernel⟩, List.mem_of_getElem? (i := 26) (by decide +kernel), List.mem_of_getElem? (i := 566) (by decide +kernel), List.mem_of_getElem? (i := 567) (by decide +kernel)⟩
theorem lw_p13 : lw_okq (⟨"BirthWeeks$Reader", "takesLevel", "(III)Z"⟩, 7) := ⟨⟨by decide +kernel, by decide +kernel⟩, List.mem_of_getElem? (i := 26) (by decide +kernel), List.mem_of_getElem? (i := 624) (by decide +kernel), List.mem_of_getElem? (i := 625) (by decide +kernel)⟩
theorem lw_p14 : lw_okq (⟨"BirthWeeks$Reader", "takesPiece", "(II)Z"⟩, 7) := ⟨⟨by decide +kernel, by decide +kernel⟩, List.mem_of_getElem? (i := 26) (by decide +kernel), List.mem_of_getElem? (i := 628) (by decide +kernel), List.mem_of_getElem? (i := 629) (by decide +kernel)⟩
theorem lw_p15 : lw_okq (⟨"BirthWeeks$Reader", "takesNumber", "()Z"⟩, 7) := ⟨⟨by decide +kernel, by decide +kernel⟩, List.mem_of_getElem? (i := 26) (by decide +kernel), List.mem_of_getElem? (i := 632) (by decide +kernel), List.mem_of_getElem? (i := 633) (by decide +kernel)⟩
def lw_privs_1 : List (MethodName × Nat) := [(⟨"BirthWeeks$World", "dayOf", "(LBirthWeeks$District;I)I"⟩, 11), (⟨"BirthWeeks", "thinkFromNow", "()V"⟩, 15), (⟨"BirthWeeks", "thinkOn", "(II)V"⟩, 15), (⟨"BirthWeeks", "tradeOneDay", "()V"⟩, 15), (⟨"BirthWeeks", "mostSeenAt", "()I"⟩, 15), (⟨"BirthWeeks", "isSheet", "(I)Z"⟩, 15), (⟨"BirthWeeks", "differences", "(LBirthWeeks$Sheet;II)I"⟩, 15), (⟨"BirthWeeks", "thinkTillNextWeek", "(I)V"⟩, 15), (⟨"BirthWeeks", "feedOne", "(I)V"⟩, 15), (⟨"BirthWeeks$Reader", "goOn", "()V"⟩, 7), (⟨"BirthWeeks$Reader", "byteAt", "(I)I"⟩, 7), (⟨"BirthWeeks$Reader", "keyHere", "()I"⟩, 7), (⟨"BirthWeeks$Reader", "spells", "(Ljava/lang/String;)Z"⟩, 7), (⟨"BirthWeeks$Reader", "takesLevel", "(III)Z"⟩, 7), (⟨"BirthWeeks$Reader", "takesPiece", "(II)Z"⟩, 7), (⟨"BirthWeeks$Reader", "takesNumber", "()Z"⟩, 7)]
theorem lw_r1 : ∀ q ∈ lw_privs_1, lw_okq q := List.forall_mem_cons.mpr ⟨lw_p0, List.forall_mem_cons.mpr ⟨lw_p1, List.forall_mem_cons.mpr ⟨lw_p2, List.forall_mem_cons.mpr ⟨lw_p3, List.forall_mem_cons.mpr ⟨lw_p4, List.forall_mem_cons.mpr ⟨lw_p5, List.forall_mem_cons.mpr ⟨lw_p6, List.forall_mem_cons.mpr ⟨lw_p7, List.forall_mem_cons.mpr ⟨lw_p8, List.forall_mem_cons.mpr ⟨lw_p9, List.forall_mem_cons.mpr ⟨lw_p10, List.forall_mem_cons.mpr ⟨lw_p11, List.forall_mem_cons.mpr ⟨lw_p12, List.forall_mem_cons.mpr ⟨lw_p13, List.forall_mem_cons.mpr ⟨lw_p14, List.forall_mem_cons.mpr ⟨lw_p15, fun _ h => absurd h List.not_mem_nil⟩⟩⟩⟩⟩⟩⟩⟩⟩⟩⟩⟩⟩⟩⟩⟩
theorem lw_p16 : lw_okq (⟨"BirthWeeks$Law", "addStep", "(I)V"⟩, 4) := ⟨⟨by decide +kernel, by decide +kernel⟩, List.mem_of_getElem? (i := 32) (by decide +kernel), List.mem_of_getElem? (i := 640) (by decide +kernel), List.mem_of_getElem? (i := 641) (by decide +kernel)⟩
theorem lw_p17 : lw_okq (⟨"BirthWeeks$Reader", "takesName", "()Z"⟩, 7) := ⟨⟨by decide +kernel, by decide +kernel⟩, List.mem_of_getElem? (i := 26) (by decide +kernel), List.mem_of_getElem? (i := 644) (by decide +kernel), List.mem_of_getElem? (i := 645) (by decide +kernel)⟩
theorem lw_p18 : lw_okq (⟨"BirthWeeks$Reader", "takesNot", "(II)Z"⟩, 7) := ⟨⟨by decide +kernel, by decide +kernel⟩, List.mem_of_getElem? (i := 26) (by decide +kernel), List.mem_of_getElem? (i := 709) (by decide +kernel), List.mem_of_getElem? (i := 710) (by decide +kernel)⟩
theorem lw_p19 : lw_okq (⟨"BirthWeeks$Reader", "takesInner", "(II)Z"⟩, 7) := ⟨⟨by decide +kernel, by decide +kernel⟩, List.mem_of_getElem? (i := 26) (by decide +kernel), List.mem_of_getElem? (i := 717) (by decide +kernel), List.mem_of_getElem? (i := 718) (by decide +kernel)⟩
theorem lw_p20 : lw_okq (⟨"BirthWeeks", "isSlot", "(I)Z"⟩, 15) := ⟨⟨by decide +kernel, by decide +kernel⟩, List.mem_of_getElem? (i := 18) (by decide +kernel), List.mem_of_getElem? (i := 781) (by decide +kernel), List.mem_of_getElem? (i := 782) (by decide +kernel)⟩
theorem lw_p21 : lw_okq (⟨"BirthWeeks", "stands", "(III)Z"⟩, 15) := ⟨⟨by decide +kernel, by decide +kernel⟩, List.mem_of_getElem? (i := 18) (by decide +kernel), List.mem_of_getElem? (i := 816) (by decide +kernel), List.mem_of_getElem? (i := 817) (by decide +kernel)⟩
theorem lw_p22 : lw_okq (⟨"BirthWeeksModel", "comes", "(II)I"⟩, 35) := ⟨⟨by decide +kernel, by decide +kernel⟩, List.mem_of_getElem? (i := 836) (by decide +kernel), List.mem_of_getElem? (i := 959) (by decide +kernel), List.mem_of_getElem? (i := 960) (by decide +kernel)⟩
theorem lw_p23 : lw_okq (⟨"BirthWeeksModel", "put", "(III)V"⟩, 35) := ⟨⟨by decide +kernel, by decide +kernel⟩, List.mem_of_getElem? (i := 836) (by decide +kernel), List.mem_of_getElem? (i := 963) (by decide +kernel), List.mem_of_getElem? (i := 964) (by decide +kernel)⟩
theorem lw_p24 : lw_okq (⟨"BirthWeeksModel", "isDistrict", "(I)Z"⟩, 35) := ⟨⟨by decide +kernel, by decide +kernel⟩, List.mem_of_getElem? (i := 836) (by decide +kernel), List.mem_of_getElem? (i := 971) (by decide +kernel), List.mem_of_getElem? (i := 972) (by decide +kernel)⟩
theorem lw_p25 : lw_okq (⟨"BirthWeeksModel", "of", "(II)I"⟩, 35) := ⟨⟨by decide +kernel, by decide +kernel⟩, List.mem_of_getElem? (i := 836) (by decide +kernel), List.mem_of_getElem? (i := 975) (by decide +kernel), List.mem_of_getElem? (i := 976) (by decide +kernel)⟩
theorem lw_p26 : lw_okq (⟨"BirthWeeksModel", "worthOf", "(I)I"⟩, 35) := ⟨⟨by decide +kernel, by decide +kernel⟩, List.mem_of_getElem? (i := 836) (by decide +kernel), List.mem_of_getElem? (i := 979) (by decide +kernel), List.mem_of_getElem? (i := 980) (by decide +kernel)⟩
theorem lw_p27 : lw_okq (⟨"BirthWeeksModel", "isFair", "(I)Z"⟩, 35) := ⟨⟨by decide +kernel, by decide +kernel⟩, List.mem_of_getElem? (i := 836) (by decide +kernel), List.mem_of_getElem? (i := 983) (by decide +kernel), List.mem_of_getElem? (i := 984) (by decide +kernel)⟩
theorem lw_p28 : lw_okq (⟨"BirthWeeksModel", "birthsOf", "(II)I"⟩, 35) := ⟨⟨by decide +kernel, by decide +kernel⟩, List.mem_of_getElem? (i := 836) (by decide +kernel), List.mem_of_getElem? (i := 991) (by decide +kernel), List.mem_of_getElem? (i := 992) (by decide +kernel)⟩
theorem lw_p29 : lw_okq (⟨"BirthWeeksModel", "counts", "(I)I"⟩, 35) := ⟨⟨by decide +kernel, by decide +kernel⟩, List.mem_of_getElem? (i := 836) (by decide +kernel), List.mem_of_getElem? (i := 995) (by decide +kernel), List.mem_of_getElem? (i := 996) (by decide +kernel)⟩
theorem lw_p30 : lw_okq (⟨"BirthWeeksModel", "worksOut", "(I)I"⟩, 35) := ⟨⟨by decide +kernel, by decide +kernel⟩, List.mem_of_getElem? (i := 836) (by decide +kernel), List.mem_of_getElem? (i := 999) (by decide +kernel), List.mem_of_getElem? (i := 1000) (by decide +kernel)⟩
theorem lw_p31 : lw_okq (⟨"BirthWeeksModel", "becomes", "(II)I"⟩, 35) := ⟨⟨by decide +kernel, by decide +kernel⟩, List.mem_of_getElem? (i := 836) (by decide +kernel), List.mem_of_getElem? (i := 1021) (by decide +kernel), List.mem_of_getElem? (i := 1022) (by decide +kernel)⟩
def lw_privs_2 : List (MethodName × Nat) := [(⟨"BirthWeeks$Law", "addStep", "(I)V"⟩, 4), (⟨"BirthWeeks$Reader", "takesName", "()Z"⟩, 7), (⟨"BirthWeeks$Reader", "takesNot", "(II)Z"⟩, 7), (⟨"BirthWeeks$Reader", "takesInner", "(II)Z"⟩, 7), (⟨"BirthWeeks", "isSlot", "(I)Z"⟩, 15), (⟨"BirthWeeks", "stands", "(III)Z"⟩, 15), (⟨"BirthWeeksModel", "comes", "(II)I"⟩, 35), (⟨"BirthWeeksModel", "put", "(III)V"⟩, 35), (⟨"BirthWeeksModel", "isDistrict", "(I)Z"⟩, 35), (⟨"BirthWeeksModel", "of", "(II)I"⟩, 35), (⟨"BirthWeeksModel", "worthOf", "(I)I"⟩, 35), (⟨"BirthWeeksModel", "isFair", "(I)Z"⟩, 35), (⟨"BirthWeeksModel", "birthsOf", "(II)I"⟩, 35), (⟨"BirthWeeksModel", "counts", "(I)I"⟩, 35), (⟨"BirthWeeksModel", "worksOut", "(I)I"⟩, 35), (⟨"BirthWeeksModel", "becomes", "(II)I"⟩, 35)]
theorem lw_r2 : ∀ q ∈ lw_privs_2, lw_okq q := List.forall_mem_cons.mpr ⟨lw_p16, List.forall_mem_cons.mpr ⟨lw_p17, List.forall_mem_cons.mpr ⟨lw_p18, List.forall_mem_cons.mpr ⟨lw_p19, List.forall_mem_cons.mpr ⟨lw_p20, List.forall_mem_cons.mpr ⟨lw_p21, List.forall_mem_cons.mpr ⟨lw_p22, List.forall_mem_cons.mpr ⟨lw_p23, List.forall_mem_cons.mpr ⟨lw_p24, List.forall_mem_cons.mpr ⟨lw_p25, List.forall_mem_cons.mpr ⟨lw_p26, List.forall_mem_cons.mpr ⟨lw_p27, List.forall_mem_cons.mpr ⟨lw_p28, List.forall_mem_cons.mpr ⟨lw_p29, List.forall_mem_cons.mpr ⟨lw_p30, List.forall_mem_cons.mpr ⟨lw_p31, fun _ h => absurd h List.not_mem_nil⟩⟩⟩⟩⟩⟩⟩⟩⟩⟩⟩⟩⟩⟩⟩⟩
theorem lw_p32 : lw_okq (⟨"BirthWeeksModel", "hides", "(I)V"⟩, 35) := ⟨⟨by decide +kernel, by decide +kernel⟩, List.mem_of_getElem? (i := 836) (by decide +kernel), List.mem_of_getElem? (i := 1036) (by decide +kernel), List.mem_of_getElem? (i := 1037) (by decide +kernel)⟩
theorem lw_p33 : lw_okq (⟨"BirthWeeksModel", "draw", "()I"⟩, 35) := ⟨⟨by decide +kernel, by decide +kernel⟩, List.mem_of_getElem? (i := 836) (by decide +kernel), List.mem_of_getElem? (i := 1048) (by decide +kernel), List.mem_of_getElem? (i := 1049) (by decide +kernel)⟩
theorem lw_p34 : lw_okq (⟨"BirthWeeksModel", "goesOn", "(I)I"⟩, 35) := ⟨⟨by decide +kernel, by decide +kernel⟩, List.mem_of_getElem? (i := 836) (by decide +kernel), List.mem_of_getElem? (i := 1061) (by decide +kernel), List.mem_of_getElem? (i := 1062) (by decide +kernel)⟩
theorem lw_p35 : lw_okq (⟨"BirthWeeksModel", "day", "()I"⟩, 35) := ⟨⟨by decide +kernel, by decide +kernel⟩, List.mem_of_getElem? (i := 836) (by decide +kernel), List.mem_of_getElem? (i := 1065) (by decide +kernel), List.mem_of_getElem? (i := 1066) (by decide +kernel)⟩
theorem lw_p36 : lw_okq (⟨"BirthWeeksModel", "weekEnds", "(I)V"⟩, 35) := ⟨⟨by decide +kernel, by decide +kernel⟩, List.mem_of_getElem? (i := 836) (by decide +kernel), List.mem_of_getElem? (i := 1069) (by decide +kernel), List.mem_of_getElem? (i := 1070) (by decide +kernel)⟩
theorem lw_p37 : lw_okq (⟨"BirthWeeksModel", "wageOf", "(I)I"⟩, 35) := ⟨⟨by decide +kernel, by decide +kernel⟩, List.mem_of_getElem? (i := 836) (by decide +kernel), List.mem_of_getElem? (i := 1073) (by decide +kernel), List.mem_of_getElem? (i := 1074) (by decide +kernel)⟩
theorem lw_p38 : lw_okq (⟨"BirthWeeksModel", "thinks", "()V"⟩, 35) := ⟨⟨by decide +kernel, by decide +kernel⟩, List.mem_of_getElem? (i := 836) (by decide +kernel), List.mem_of_getElem? (i := 1081) (by decide +kernel), List.mem_of_getElem? (i := 1082) (by decide +kernel)⟩
theorem lw_p39 : lw_okq (⟨"BirthWeeksModel", "putsBack", "()V"⟩, 35) := ⟨⟨by decide +kernel, by decide +kernel⟩, List.mem_of_getElem? (i := 836) (by decide +kernel), List.mem_of_getElem? (i := 1085) (by decide +kernel), List.mem_of_getElem? (i := 1086) (by decide +kernel)⟩
theorem lw_p40 : lw_okq (⟨"BirthWeeksModel", "trades", "()V"⟩, 35) := ⟨⟨by decide +kernel, by decide +kernel⟩, List.mem_of_getElem? (i := 836) (by decide +kernel), List.mem_of_getElem? (i := 1102) (by decide +kernel), List.mem_of_getElem? (i := 1103) (by decide +kernel)⟩
theorem lw_p41 : lw_okq (⟨"BirthWeeksModel", "offBy", "(III)J"⟩, 35) := ⟨⟨by decide +kernel, by decide +kernel⟩, List.mem_of_getElem? (i := 836) (by decide +kernel), List.mem_of_getElem? (i := 1122) (by decide +kernel), List.mem_of_getElem? (i := 1123) (by decide +kernel)⟩
theorem lw_p42 : lw_okq (⟨"BirthWeeksModel", "sumOf", "(I)I"⟩, 35) := ⟨⟨by decide +kernel, by decide +kernel⟩, List.mem_of_getElem? (i := 836) (by decide +kernel), List.mem_of_getElem? (i := 1130) (by decide +kernel), List.mem_of_getElem? (i := 1131) (by decide +kernel)⟩
theorem lw_p43 : lw_okq (⟨"BirthWeeksModel", "go", "()V"⟩, 35) := ⟨⟨by decide +kernel, by decide +kernel⟩, List.mem_of_getElem? (i := 836) (by decide +kernel), List.mem_of_getElem? (i := 1146) (by decide +kernel), List.mem_of_getElem? (i := 1147) (by decide +kernel)⟩
theorem lw_p44 : lw_okq (⟨"BirthWeeksModel", "isLetter", "(I)Z"⟩, 35) := ⟨⟨by decide +kernel, by decide +kernel⟩, List.mem_of_getElem? (i := 836) (by decide +kernel), List.mem_of_getElem? (i := 1150) (by decide +kernel), List.mem_of_getElem? (i := 1151) (by decide +kernel)⟩
theorem lw_p45 : lw_okq (⟨"BirthWeeksModel", "isFigure", "(I)Z"⟩, 35) := ⟨⟨by decide +kernel, by decide +kernel⟩, List.mem_of_getElem? (i := 836) (by decide +kernel), List.mem_of_getElem? (i := 1154) (by decide +kernel), List.mem_of_getElem? (i := 1155) (by decide +kernel)⟩
theorem lw_p46 : lw_okq (⟨"BirthWeeksModel", "takesKey", "()Z"⟩, 35) := ⟨⟨by decide +kernel, by decide +kernel⟩, List.mem_of_getElem? (i := 836) (by decide +kernel), List.mem_of_getElem? (i := 1158) (by decide +kernel), List.mem_of_getElem? (i := 1159) (by decide +kernel)⟩
theorem lw_p47 : lw_okq (⟨"BirthWeeksModel", "takesE", "()Z"⟩, 35) := ⟨⟨by decide +kernel, by decide +kernel⟩, List.mem_of_getElem? (i := 836) (by decide +kernel), List.mem_of_getElem? (i := 1162) (by decide +kernel), List.mem_of_getElem? (i := 1163) (by decide +kernel)⟩
def lw_privs_3 : List (MethodName × Nat) := [(⟨"BirthWeeksModel", "hides", "(I)V"⟩, 35), (⟨"BirthWeeksModel", "draw", "()I"⟩, 35), (⟨"BirthWeeksModel", "goesOn", "(I)I"⟩, 35), (⟨"BirthWeeksModel", "day", "()I"⟩, 35), (⟨"BirthWeeksModel", "weekEnds", "(I)V"⟩, 35), (⟨"BirthWeeksModel", "wageOf", "(I)I"⟩, 35), (⟨"BirthWeeksModel", "thinks", "()V"⟩, 35), (⟨"BirthWeeksModel", "putsBack", "()V"⟩, 35), (⟨"BirthWeeksModel", "trades", "()V"⟩, 35), (⟨"BirthWeeksModel", "offBy", "(III)J"⟩, 35), (⟨"BirthWeeksModel", "sumOf", "(I)I"⟩, 35), (⟨"BirthWeeksModel", "go", "()V"⟩, 35), (⟨"BirthWeeksModel", "isLetter", "(I)Z"⟩, 35), (⟨"BirthWeeksModel", "isFigure", "(I)Z"⟩, 35), (⟨"BirthWeeksModel", "takesKey", "()Z"⟩, 35), (⟨"BirthWeeksModel", "takesE", "()Z"⟩, 35)]
theorem lw_r3 : ∀ q ∈ lw_privs_3, lw_okq q := List.forall_mem_cons.mpr ⟨lw_p32, List.forall_mem_cons.mpr ⟨lw_p33, List.forall_mem_cons.mpr ⟨lw_p34, List.forall_mem_cons.mpr ⟨lw_p35, List.forall_mem_cons.mpr ⟨lw_p36, List.forall_mem_cons.mpr ⟨lw_p37, List.forall_mem_cons.mpr ⟨lw_p38, List.forall_mem_cons.mpr ⟨lw_p39, List.forall_mem_cons.mpr ⟨lw_p40, List.forall_mem_cons.mpr ⟨lw_p41, List.forall_mem_cons.mpr ⟨lw_p42, List.forall_mem_cons.mpr ⟨lw_p43, List.forall_mem_cons.mpr ⟨lw_p44, List.forall_mem_cons.mpr ⟨lw_p45, List.forall_mem_cons.mpr ⟨lw_p46, List.forall_mem_cons.mpr ⟨lw_p47, fun _ h => absurd h List.not_mem_nil⟩⟩⟩⟩⟩⟩⟩⟩⟩⟩⟩⟩⟩⟩⟩⟩
theorem lw_p48 : lw_okq (⟨"BirthWeeksModel", "takesPart", "()Z"⟩, 35) := ⟨⟨by decide +kernel, by decide +kernel⟩, List.mem_of_getElem? (i := 836) (by decide +kernel), List.mem_of_getElem? (i := 1166) (by decide +kernel), List.mem_of_getElem? (i := 1167) (by decide +kernel)⟩
theorem lw_p49 : lw_okq (⟨"BirthWeeksModel", "nameOf", "(I)I"⟩, 35) := ⟨⟨by decide +kernel, by decide +kernel⟩, List.mem_of_getElem? (i := 836) (by decide +kernel), List.mem_of_getElem? (i := 1170) (by decide +kernel), List.mem_of_getElem? (i := 1171) (by decide +kernel)⟩
theorem lw_p50 : lw_okq (⟨"BirthWeeksModel", "settle", "(I)V"⟩, 35) := ⟨⟨by decide +kernel, by decide +kernel⟩, List.mem_of_getElem? (i := 836) (by decide +kernel), List.mem_of_getElem? (i := 1174) (by decide +kernel), List.mem_of_getElem? (i := 1175) (by decide +kernel)⟩
theorem lw_p51 : lw_okq (⟨"BirthWeeksModel", "notsOpen", "()I"⟩, 35) := ⟨⟨by decide +kernel, by decide +kernel⟩, List.mem_of_getElem? (i := 836) (by decide +kernel), List.mem_of_getElem? (i := 1181) (by decide +kernel), List.mem_of_getElem? (i := 1182) (by decide +kernel)⟩
theorem lw_p52 : lw_okq (⟨"BirthWeeksModel", "signHere", "()I"⟩, 35) := ⟨⟨by decide +kernel, by decide +kernel⟩, List.mem_of_getElem? (i := 836) (by decide +kernel), List.mem_of_getElem? (i := 1185) (by decide +kernel), List.mem_of_getElem? (i := 1186) (by decide +kernel)⟩
theorem lw_p53 : lw_okq (⟨"BirthWeeksModel", "fairs", "()I"⟩, 35) := ⟨⟨by decide +kernel, by decide +kernel⟩, List.mem_of_getElem? (i := 836) (by decide +kernel), List.mem_of_getElem? (i := 1249) (by decide +kernel), List.mem_of_getElem? (i := 1250) (by decide +kernel)⟩
def lw_privs_4 : List (MethodName × Nat) := [(⟨"BirthWeeksModel", "takesPart", "()Z"⟩, 35), (⟨"BirthWeeksModel", "nameOf", "(I)I"⟩, 35), (⟨"BirthWeeksModel", "settle", "(I)V"⟩, 35), (⟨"BirthWeeksModel", "notsOpen", "()I"⟩, 35), (⟨"BirthWeeksModel", "signHere", "()I"⟩, 35), (⟨"BirthWeeksModel", "fairs", "()I"⟩, 35)]
theorem lw_r4 : ∀ q ∈ lw_privs_4, lw_okq q := List.forall_mem_cons.mpr ⟨lw_p48, List.forall_mem_cons.mpr ⟨lw_p49, List.forall_mem_cons.mpr ⟨lw_p50, List.forall_mem_cons.mpr ⟨lw_p51, List.forall_mem_cons.mpr ⟨lw_p52, List.forall_mem_cons.mpr ⟨lw_p53, fun _ h => absurd h List.not_mem_nil⟩⟩⟩⟩⟩⟩
def lw_privs : List (MethodName × Nat) := lw_privs_1 ++ (lw_privs_2 ++ (lw_privs_3 ++ (lw_privs_4)))
def lw_tbl : List Cond := k2_sels lw_privs ++ tables_1
theorem lw_privs_ok : ∀ q ∈ lw_privs, lw_okq q := by
  show ∀ q ∈ lw_privs_1 ++ (lw_privs_2 ++ (lw_privs_3 ++ (lw_privs_4))), lw_okq q
  exact List.forall_mem_append.mpr ⟨lw_r1, List.forall_mem_append.mpr ⟨lw_r2, List.forall_mem_append.mpr ⟨lw_r3, lw_r4⟩⟩⟩
end
section
def RX0 : String := "BirthWeeks$District"
def TX0 : u_T := fun k => match k with
  | 0 => ("BirthWeeks$District", "kind", "I", false)
  | 1 => ("BirthWeeks$District", "rate", "I", false)
  | 2 => ("BirthWeeks$District", "week", "I", false)
  | 3 => ("BirthWeeks$District", "length", "I", false)
  | 4 => ("BirthWeeks$District", "place", "I", false)
  | 5 => ("BirthWeeks$District", "born", "I", false)
  | 6 => ("BirthWeeks$District", "hidden", "I", false)
  | _ => ("BirthWeeks$District", "purse", "I", false)
def tyX0 : Nat → FieldType := fun k => match k with
  | 0 => .int
  | 1 => .int
  | 2 => .int
  | 3 => .int
  | 4 => .int
  | 5 => .int
  | 6 => .int
  | _ => .int
theorem nmX0 : ∀ a, a < 8 → ∀ b, b < 8 → a ≠ b → (TX0 a).2.1 ≠ (TX0 b).2.1 := by decide +kernel
theorem tyX0_ok : ∀ k, k < 8 → parseFieldDescriptor (TX0 k).2.2.1 = some (tyX0 k) := by decide +kernel
abbrev cX0_init : ByteArray := prog_2_method_1_code
def yX0_init : MethodName := ⟨RX0, "<init>", "()V"⟩
abbrev cX0_becomeNew : ByteArray := prog_2_method_2_code
def yX0_becomeNew : MethodName := ⟨RX0, "becomeNew", "(II)V"⟩
abbrev cX0_becomeLike : ByteArray := prog_2_method_3_code
def yX0_becomeLike : MethodName := ⟨RX0, "becomeLike", "(LBirthWeeks$District;)V"⟩
abbrev cX0_isOf : ByteArray := prog_2_method_4_code
def yX0_isOf : MethodName := ⟨RX0, "isOf", "(I)Z"⟩
abbrev cX0_worth : ByteArray := prog_2_method_5_code
def yX0_worth : MethodName := ⟨RX0, "worth", "()I"⟩
abbrev cX0_birthsByKind : ByteArray := prog_2_method_6_code
def yX0_birthsByKind : MethodName := ⟨RX0, "birthsByKind", "(I)I"⟩
abbrev cX0_hideOne : ByteArray := prog_2_method_7_code
def yX0_hideOne : MethodName := ⟨RX0, "hideOne", "()V"⟩
abbrev cX0_beginWeek : ByteArray := prog_2_method_8_code
def yX0_beginWeek : MethodName := ⟨RX0, "beginWeek", "()V"⟩
def RX1 : String := "BirthWeeks$Law"
def TX1 : u_T := fun k => match k with
  | 0 => ("BirthWeeks$Law", "key", "I", false)
  | 1 => ("BirthWeeks$Law", "atoms", "I", false)
  | 2 => ("BirthWeeks$Law", "size", "I", false)
  | _ => ("BirthWeeks$Law", "steps", "[I", true)
def tyX1 : Nat → FieldType := fun k => match k with
  | 0 => .int
  | 1 => .int
  | 2 => .int
  | _ => .array .int
theorem nmX1 : ∀ a, a < 4 → ∀ b, b < 4 → a ≠ b → (TX1 a).2.1 ≠ (TX1 b).2.1 := by decide +kernel
theorem tyX1_ok : ∀ k, k < 4 → parseFieldDescriptor (TX1 k).2.2.1 = some (tyX1 k) := by decide +kernel
abbrev cX1_init : ByteArray := prog_3_method_1_code
def yX1_init : MethodName := ⟨RX1, "<init>", "()V"⟩
abbrev cX1_becomeNew : ByteArray := prog_3_method_2_code
def yX1_becomeNew : MethodName := ⟨RX1, "becomeNew", "(I)V"⟩
abbrev cX1_becomeLike : ByteArray := prog_3_method_3_code
def yX1_becomeLike : MethodName := ⟨RX1, "becomeLike", "(LBirthWeeks$Law;)V"⟩
abbrev cX1_addAtom : ByteArray := prog_3_method_4_code
def yX1_addAtom : MethodName := ⟨RX1, "addAtom", "(I)V"⟩
abbrev cX1_addSign : ByteArray := prog_3_method_5_code
def yX1_addSign : MethodName := ⟨RX1, "addSign", "(I)V"⟩
abbrev cX1_addStep : ByteArray := prog_3_method_6_code
def yX1_addStep : MethodName := ⟨RX1, "addStep", "(I)V"⟩
def RX2 : String := "BirthWeeks$Reader"
def TX2 : u_T := fun k => match k with
  | 0 => ("BirthWeeks$Reader", "bytes", "[B", false)
  | 1 => ("BirthWeeks$Reader", "length", "I", false)
  | 2 => ("BirthWeeks$Reader", "law", "LBirthWeeks$Law;", false)
  | 3 => ("BirthWeeks$Reader", "token", "I", false)
  | 4 => ("BirthWeeks$Reader", "start", "I", false)
  | 5 => ("BirthWeeks$Reader", "stop", "I", false)
  | _ => ("BirthWeeks$Reader", "lacksBlank", "Z", false)
def tyX2 : Nat → FieldType := fun k => match k with
  | 0 => .array .byte
  | 1 => .int
  | 2 => .object "BirthWeeks$Law"
  | 3 => .int
  | 4 => .int
  | 5 => .int
  | _ => .boolean
theorem nmX2 : ∀ a, a < 7 → ∀ b, b < 7 → a ≠ b → (TX2 a).2.1 ≠ (TX2 b).2.1 := by decide +kernel
theorem tyX2_ok : ∀ k, k < 7 → parseFieldDescriptor (TX2 k).2.2.1 = some (tyX2 k) := by decide +kernel
abbrev cX2_init : ByteArray := prog_4_method_1_code
def yX2_init : MethodName := ⟨RX2, "<init>", "()V"⟩
abbrev cX2_understands : ByteArray := prog_4_method_2_code
def yX2_understands : MethodName := ⟨RX2, "understands", "([BILBirthWeeks$Law;)Z"⟩
abbrev cX2_takesLevel : ByteArray := prog_4_method_3_code
def yX2_takesLevel : MethodName := ⟨RX2, "takesLevel", "(III)Z"⟩
abbrev cX2_takesPiece : ByteArray := prog_4_method_4_code
def yX2_takesPiece : MethodName := ⟨RX2, "takesPiece", "(II)Z"⟩
abbrev cX2_takesNumber : ByteArray := prog_4_method_5_code
def yX2_takesNumber : MethodName := ⟨RX2, "takesNumber", "()Z"⟩
abbrev cX2_takesName : ByteArray := prog_4_method_6_code
def yX2_takesName : MethodName := ⟨RX2, "takesName", "()Z"⟩
abbrev cX2_takesNot : ByteArray := prog_4_method_7_code
def yX2_takesNot : MethodName := ⟨RX2, "takesNot", "(II)Z"⟩
abbrev cX2_takesInner : ByteArray := prog_4_method_8_code
def yX2_takesInner : MethodName := ⟨RX2, "takesInner", "(II)Z"⟩
abbrev cX2_levelOf : ByteArray := prog_4_method_9_code
def yX2_levelOf : MethodName := ⟨RX2, "levelOf", "(I)I"⟩
abbrev cX2_namesOf : ByteArray := prog_4_method_10_code
def yX2_namesOf : MethodName := ⟨RX2, "namesOf", "(I)Ljava/lang/String;"⟩
abbrev cX2_keyHere : ByteArray := prog_4_method_11_code
def yX2_keyHere : MethodName := ⟨RX2, "keyHere", "()I"⟩
abbrev cX2_spells : ByteArray := prog_4_method_12_code
def yX2_spells : MethodName := ⟨RX2, "spells", "(Ljava/lang/String;)Z"⟩
abbrev cX2_goOn : ByteArray := prog_4_method_13_code
def yX2_goOn : MethodName := ⟨RX2, "goOn", "()V"⟩
abbrev cX2_sortOf : ByteArray := prog_4_method_14_code
def yX2_sortOf : MethodName := ⟨RX2, "sortOf", "(I)I"⟩
abbrev cX2_byteAt : ByteArray := prog_4_method_15_code
def yX2_byteAt : MethodName := ⟨RX2, "byteAt", "(I)I"⟩
def RX3 : String := "BirthWeeks$Reckoner"
def TX3 : u_T := fun k => match k with
  | _ => ("BirthWeeks$Reckoner", "stack", "[I", true)
def tyX3 : Nat → FieldType := fun k => match k with
  | _ => .array .int
theorem nmX3 : ∀ a, a < 1 → ∀ b, b < 1 → a ≠ b → (TX3 a).2.1 ≠ (TX3 b).2.1 := by decide +kernel
theorem tyX3_ok : ∀ k, k < 1 → parseFieldDescriptor (TX3 k).2.2.1 = some (tyX3 k) := by decide +kernel
abbrev cX3_init : ByteArray := prog_5_method_1_code
def yX3_init : MethodName := ⟨RX3, "<init>", "()V"⟩
abbrev cX3_gives : ByteArray := prog_5_method_2_code
def yX3_gives : MethodName := ⟨RX3, "gives", "(LBirthWeeks$Law;III)I"⟩
abbrev cX3_named : ByteArray := prog_5_method_3_code
def yX3_named : MethodName := ⟨RX3, "named", "(IIII)I"⟩
abbrev cX3_joined : ByteArray := prog_5_method_4_code
def yX3_joined : MethodName := ⟨RX3, "joined", "(III)I"⟩
def RX4 : String := "BirthWeeks$Sheet"
def TX4 : u_T := fun k => match k with
  | 0 => ("BirthWeeks$Sheet", "sort", "I", false)
  | 1 => ("BirthWeeks$Sheet", "size", "I", false)
  | _ => ("BirthWeeks$Sheet", "places", "[I", true)
def tyX4 : Nat → FieldType := fun k => match k with
  | 0 => .int
  | 1 => .int
  | _ => .array .int
theorem nmX4 : ∀ a, a < 3 → ∀ b, b < 3 → a ≠ b → (TX4 a).2.1 ≠ (TX4 b).2.1 := by decide +kernel
theorem tyX4_ok : ∀ k, k < 3 → parseFieldDescriptor (TX4 k).2.2.1 = some (tyX4 k) := by decide +kernel
abbrev cX4_init : ByteArray := prog_6_method_1_code
def yX4_init : MethodName := ⟨RX4, "<init>", "()V"⟩
abbrev cX4_become : ByteArray := prog_6_method_2_code
def yX4_become : MethodName := ⟨RX4, "become", "(II)V"⟩
abbrev cX4_becomeLike : ByteArray := prog_6_method_3_code
def yX4_becomeLike : MethodName := ⟨RX4, "becomeLike", "(LBirthWeeks$Sheet;)V"⟩
abbrev cX4_isMissing : ByteArray := prog_6_method_4_code
def yX4_isMissing : MethodName := ⟨RX4, "isMissing", "()Z"⟩
abbrev cX4_has : ByteArray := prog_6_method_5_code
def yX4_has : MethodName := ⟨RX4, "has", "(I)Z"⟩
abbrev cX4_hasRun : ByteArray := prog_6_method_6_code
def yX4_hasRun : MethodName := ⟨RX4, "hasRun", "(II)Z"⟩
abbrev cX4_isNumberAt : ByteArray := prog_6_method_7_code
def yX4_isNumberAt : MethodName := ⟨RX4, "isNumberAt", "(I)Z"⟩
abbrev cX4_hasNumberBehind : ByteArray := prog_6_method_8_code
def yX4_hasNumberBehind : MethodName := ⟨RX4, "hasNumberBehind", "(I)Z"⟩
def RX5 : String := "BirthWeeks$Slot"
def TX5 : u_T := fun k => match k with
  | 0 => ("BirthWeeks$Slot", "thing", "I", false)
  | 1 => ("BirthWeeks$Slot", "number", "I", false)
  | 2 => ("BirthWeeks$Slot", "district", "LBirthWeeks$District;", true)
  | _ => ("BirthWeeks$Slot", "sheet", "LBirthWeeks$Sheet;", true)
def tyX5 : Nat → FieldType := fun k => match k with
  | 0 => .int
  | 1 => .int
  | 2 => .object "BirthWeeks$District"
  | _ => .object "BirthWeeks$Sheet"
theorem nmX5 : ∀ a, a < 4 → ∀ b, b < 4 → a ≠ b → (TX5 a).2.1 ≠ (TX5 b).2.1 := by decide +kernel
theorem tyX5_ok : ∀ k, k < 4 → parseFieldDescriptor (TX5 k).2.2.1 = some (tyX5 k) := by decide +kernel
abbrev cX5_init : ByteArray := prog_7_method_1_code
def yX5_init : MethodName := ⟨RX5, "<init>", "()V"⟩
def RX6 : String := "BirthWeeks$World"
def TX6 : u_T := fun k => match k with
  | 0 => ("BirthWeeks$World", "districts", "[LBirthWeeks$District;", true)
  | 1 => ("BirthWeeks$World", "counting", "[I", true)
  | 2 => ("BirthWeeks$World", "laws", "[LBirthWeeks$Law;", true)
  | 3 => ("BirthWeeks$World", "reckoner", "LBirthWeeks$Reckoner;", true)
  | 4 => ("BirthWeeks$World", "many", "I", false)
  | 5 => ("BirthWeeks$World", "day", "I", false)
  | 6 => ("BirthWeeks$World", "wage", "I", false)
  | 7 => ("BirthWeeks$World", "rent", "I", false)
  | 8 => ("BirthWeeks$World", "fair", "I", false)
  | 9 => ("BirthWeeks$World", "z", "I", false)
  | _ => ("BirthWeeks$World", "texts", "I", false)
def tyX6 : Nat → FieldType := fun k => match k with
  | 0 => .array (.object "BirthWeeks$District")
  | 1 => .array .int
  | 2 => .array (.object "BirthWeeks$Law")
  | 3 => .object "BirthWeeks$Reckoner"
  | 4 => .int
  | 5 => .int
  | 6 => .int
  | 7 => .int
  | 8 => .int
  | 9 => .int
  | _ => .int
theorem nmX6 : ∀ a, a < 11 → ∀ b, b < 11 → a ≠ b → (TX6 a).2.1 ≠ (TX6 b).2.1 := by decide +kernel
theorem tyX6_ok : ∀ k, k < 11 → parseFieldDescriptor (TX6 k).2.2.1 = some (tyX6 k) := by decide +kernel
abbrev cX6_init : ByteArray := prog_8_method_1_code
def yX6_init : MethodName := ⟨RX6, "<init>", "([LBirthWeeks$Law;)V"⟩
abbrev cX6_becomeLike : ByteArray := prog_8_method_2_code
def yX6_becomeLike : MethodName := ⟨RX6, "becomeLike", "(LBirthWeeks$World;)V"⟩
abbrev cX6_has : ByteArray := prog_8_method_3_code
def yX6_has : MethodName := ⟨RX6, "has", "(I)Z"⟩
abbrev cX6_addDistrict : ByteArray := prog_8_method_4_code
def yX6_addDistrict : MethodName := ⟨RX6, "addDistrict", "(II)V"⟩
abbrev cX6_addLaw : ByteArray := prog_8_method_5_code
def yX6_addLaw : MethodName := ⟨RX6, "addLaw", "(LBirthWeeks$Law;)I"⟩
abbrev cX6_lawFor : ByteArray := prog_8_method_6_code
def yX6_lawFor : MethodName := ⟨RX6, "lawFor", "(I)LBirthWeeks$Law;"⟩
abbrev cX6_draw : ByteArray := prog_8_method_7_code
def yX6_draw : MethodName := ⟨RX6, "draw", "()I"⟩
abbrev cX6_fairAt : ByteArray := prog_8_method_8_code
def yX6_fairAt : MethodName := ⟨RX6, "fairAt", "(I)I"⟩
abbrev cX6_fairs : ByteArray := prog_8_method_9_code
def yX6_fairs : MethodName := ⟨RX6, "fairs", "()I"⟩
abbrev cX6_pursesOfAll : ByteArray := prog_8_method_10_code
def yX6_pursesOfAll : MethodName := ⟨RX6, "pursesOfAll", "()I"⟩
abbrev cX6_bornOfAll : ByteArray := prog_8_method_11_code
def yX6_bornOfAll : MethodName := ⟨RX6, "bornOfAll", "()I"⟩
abbrev cX6_birthsOf : ByteArray := prog_8_method_12_code
def yX6_birthsOf : MethodName := ⟨RX6, "birthsOf", "(LBirthWeeks$District;I)I"⟩
abbrev cX6_wageOf : ByteArray := prog_8_method_13_code
def yX6_wageOf : MethodName := ⟨RX6, "wageOf", "(LBirthWeeks$District;)I"⟩
abbrev cX6_liveDay : ByteArray := prog_8_method_14_code
def yX6_liveDay : MethodName := ⟨RX6, "liveDay", "(I)I"⟩
abbrev cX6_dayOf : ByteArray := prog_8_method_15_code
def yX6_dayOf : MethodName := ⟨RX6, "dayOf", "(LBirthWeeks$District;I)I"⟩
def RX7 : String := "BirthWeeks"
def TX7 : u_T := fun k => match k with
  | 0 => ("BirthWeeks", "laws", "[LBirthWeeks$Law;", true)
  | 1 => ("BirthWeeks", "now", "LBirthWeeks$World;", true)
  | 2 => ("BirthWeeks", "image", "LBirthWeeks$World;", true)
  | 3 => ("BirthWeeks", "thought", "LBirthWeeks$World;", true)
  | 4 => ("BirthWeeks", "imageKept", "Z", false)
  | 5 => ("BirthWeeks", "tape", "[B", true)
  | 6 => ("BirthWeeks", "tapeLength", "I", false)
  | 7 => ("BirthWeeks", "reader", "LBirthWeeks$Reader;", true)
  | 8 => ("BirthWeeks", "draft", "LBirthWeeks$Law;", true)
  | 9 => ("BirthWeeks", "sheets", "[LBirthWeeks$Sheet;", true)
  | 10 => ("BirthWeeks", "slots", "[LBirthWeeks$Slot;", true)
  | 11 => ("BirthWeeks", "waiting", "[I", true)
  | 12 => ("BirthWeeks", "waitingMany", "I", false)
  | 13 => ("BirthWeeks", "seen", "[I", false)
  | _ => ("BirthWeeks", "seenNext", "[I", false)
def tyX7 : Nat → FieldType := fun k => match k with
  | 0 => .array (.object "BirthWeeks$Law")
  | 1 => .object "BirthWeeks$World"
  | 2 => .object "BirthWeeks$World"
  | 3 => .object "BirthWeeks$World"
  | 4 => .boolean
  | 5 => .array .byte
  | 6 => .int
  | 7 => .object "BirthWeeks$Reader"
  | 8 => .object "BirthWeeks$Law"
  | 9 => .array (.object "BirthWeeks$Sheet")
  | 10 => .array (.object "BirthWeeks$Slot")
  | 11 => .array .int
  | 12 => .int
  | 13 => .array .int
  | _ => .array .int
theorem nmX7 : ∀ a, a < 15 → ∀ b, b < 15 → a ≠ b → (TX7 a).2.1 ≠ (TX7 b).2.1 := by decide +kernel
theorem tyX7_ok : ∀ k, k < 15 → parseFieldDescriptor (TX7 k).2.2.1 = some (tyX7 k) := by decide +kernel
abbrev cX7_init : ByteArray := prog_1_method_1_code
def yX7_init : MethodName := ⟨RX7, "<init>", "()V"⟩
abbrev cX7_district : ByteArray := prog_1_method_2_code
def yX7_district : MethodName := ⟨RX7, "district", "(II)I"⟩
abbrev cX7_told : ByteArray := prog_1_method_3_code
def yX7_told : MethodName := ⟨RX7, "told", "(II)I"⟩
abbrev cX7_births : ByteArray := prog_1_method_4_code
def yX7_births : MethodName := ⟨RX7, "births", "(II)I"⟩
abbrev cX7_as : ByteArray := prog_1_method_5_code
def yX7_as : MethodName := ⟨RX7, "as", "(II)I"⟩
abbrev cX7_turns : ByteArray := prog_1_method_6_code
def yX7_turns : MethodName := ⟨RX7, "turns", "(II)I"⟩
abbrev cX7_set : ByteArray := prog_1_method_7_code
def yX7_set : MethodName := ⟨RX7, "set", "(III)I"⟩
abbrev cX7_hide : ByteArray := prog_1_method_8_code
def yX7_hide : MethodName := ⟨RX7, "hide", "(I)I"⟩
abbrev cX7_rule : ByteArray := prog_1_method_9_code
def yX7_rule : MethodName := ⟨RX7, "rule", "(II)I"⟩
abbrev cX7_deal : ByteArray := prog_1_method_10_code
def yX7_deal : MethodName := ⟨RX7, "deal", "(I)I"⟩
abbrev cX7_seed : ByteArray := prog_1_method_11_code
def yX7_seed : MethodName := ⟨RX7, "seed", "(I)I"⟩
abbrev cX7_days : ByteArray := prog_1_method_12_code
def yX7_days : MethodName := ⟨RX7, "days", "(I)I"⟩
abbrev cX7_behind : ByteArray := prog_1_method_13_code
def yX7_behind : MethodName := ⟨RX7, "behind", "(III)I"⟩
abbrev cX7_meets : ByteArray := prog_1_method_14_code
def yX7_meets : MethodName := ⟨RX7, "meets", "(II)I"⟩
abbrev cX7_sundays : ByteArray := prog_1_method_15_code
def yX7_sundays : MethodName := ⟨RX7, "sundays", "(II)I"⟩
abbrev cX7_trader : ByteArray := prog_1_method_16_code
def yX7_trader : MethodName := ⟨RX7, "trader", "(II)I"⟩
abbrev cX7_richest : ByteArray := prog_1_method_17_code
def yX7_richest : MethodName := ⟨RX7, "richest", "(I)I"⟩
abbrev cX7_brings : ByteArray := prog_1_method_18_code
def yX7_brings : MethodName := ⟨RX7, "brings", "(II)I"⟩
abbrev cX7_rated : ByteArray := prog_1_method_19_code
def yX7_rated : MethodName := ⟨RX7, "rated", "(III)I"⟩
abbrev cX7_fine : ByteArray := prog_1_method_20_code
def yX7_fine : MethodName := ⟨RX7, "fine", "()I"⟩
abbrev cX7_feed : ByteArray := prog_1_method_21_code
def yX7_feed : MethodName := ⟨RX7, "feed", "(III)I"⟩
abbrev cX7_trim : ByteArray := prog_1_method_22_code
def yX7_trim : MethodName := ⟨RX7, "trim", "(I)I"⟩
abbrev cX7_text : ByteArray := prog_1_method_23_code
def yX7_text : MethodName := ⟨RX7, "text", "()I"⟩
abbrev cX7_textTold : ByteArray := prog_1_method_24_code
def yX7_textTold : MethodName := ⟨RX7, "textTold", "(II)I"⟩
abbrev cX7_why : ByteArray := prog_1_method_25_code
def yX7_why : MethodName := ⟨RX7, "why", "(I)I"⟩
abbrev cX7_sheet : ByteArray := prog_1_method_26_code
def yX7_sheet : MethodName := ⟨RX7, "sheet", "(III)I"⟩
abbrev cX7_mark : ByteArray := prog_1_method_27_code
def yX7_mark : MethodName := ⟨RX7, "mark", "(III)I"⟩
abbrev cX7_pour : ByteArray := prog_1_method_28_code
def yX7_pour : MethodName := ⟨RX7, "pour", "(I)I"⟩
abbrev cX7_reads : ByteArray := prog_1_method_29_code
def yX7_reads : MethodName := ⟨RX7, "reads", "(II)I"⟩
abbrev cX7_copy : ByteArray := prog_1_method_30_code
def yX7_copy : MethodName := ⟨RX7, "copy", "(IIIII)I"⟩
abbrev cX7_lay : ByteArray := prog_1_method_31_code
def yX7_lay : MethodName := ⟨RX7, "lay", "(III)I"⟩
abbrev cX7_ask : ByteArray := prog_1_method_32_code
def yX7_ask : MethodName := ⟨RX7, "ask", "(II)I"⟩
abbrev cX7_item : ByteArray := prog_1_method_33_code
def yX7_item : MethodName := ⟨RX7, "item", "(II)I"⟩
abbrev cX7_rest : ByteArray := prog_1_method_34_code
def yX7_rest : MethodName := ⟨RX7, "rest", "(II)I"⟩
abbrev cX7_tell : ByteArray := prog_1_method_35_code
def yX7_tell : MethodName := ⟨RX7, "tell", "(I)I"⟩
abbrev cX7_check : ByteArray := prog_1_method_36_code
def yX7_check : MethodName := ⟨RX7, "check", "(I)I"⟩
abbrev cX7_keep : ByteArray := prog_1_method_37_code
def yX7_keep : MethodName := ⟨RX7, "keep", "()I"⟩
abbrev cX7_back : ByteArray := prog_1_method_38_code
def yX7_back : MethodName := ⟨RX7, "back", "()I"⟩
abbrev cX7_count : ByteArray := prog_1_method_39_code
def yX7_count : MethodName := ⟨RX7, "count", "(I)I"⟩
abbrev cX7_within : ByteArray := prog_1_method_40_code
def yX7_within : MethodName := ⟨RX7, "within", "(III)Z"⟩
abbrev cX7_held : ByteArray := prog_1_method_41_code
def yX7_held : MethodName := ⟨RX7, "held", "(III)I"⟩
abbrev cX7_isKind : ByteArray := prog_1_method_42_code
def yX7_isKind : MethodName := ⟨RX7, "isKind", "(I)Z"⟩
abbrev cX7_isSheet : ByteArray := prog_1_method_43_code
def yX7_isSheet : MethodName := ⟨RX7, "isSheet", "(I)Z"⟩
abbrev cX7_isSlot : ByteArray := prog_1_method_44_code
def yX7_isSlot : MethodName := ⟨RX7, "isSlot", "(I)Z"⟩
abbrev cX7_only : ByteArray := prog_1_method_45_code
def yX7_only : MethodName := ⟨RX7, "only", "(I)I"⟩
abbrev cX7_thinkFromNow : ByteArray := prog_1_method_46_code
def yX7_thinkFromNow : MethodName := ⟨RX7, "thinkFromNow", "()V"⟩
abbrev cX7_thinkOn : ByteArray := prog_1_method_47_code
def yX7_thinkOn : MethodName := ⟨RX7, "thinkOn", "(II)V"⟩
abbrev cX7_tradeOneDay : ByteArray := prog_1_method_48_code
def yX7_tradeOneDay : MethodName := ⟨RX7, "tradeOneDay", "()V"⟩
abbrev cX7_mostSeenAt : ByteArray := prog_1_method_49_code
def yX7_mostSeenAt : MethodName := ⟨RX7, "mostSeenAt", "()I"⟩
abbrev cX7_differences : ByteArray := prog_1_method_50_code
def yX7_differences : MethodName := ⟨RX7, "differences", "(LBirthWeeks$Sheet;II)I"⟩
abbrev cX7_thinkTillNextWeek : ByteArray := prog_1_method_51_code
def yX7_thinkTillNextWeek : MethodName := ⟨RX7, "thinkTillNextWeek", "(I)V"⟩
abbrev cX7_feedOne : ByteArray := prog_1_method_52_code
def yX7_feedOne : MethodName := ⟨RX7, "feedOne", "(I)V"⟩
abbrev cX7_stands : ByteArray := prog_1_method_53_code
def yX7_stands : MethodName := ⟨RX7, "stands", "(III)Z"⟩
def RX8 : String := "BirthWeeksModel"
def TX8 : u_T := fun k => match k with
  | 0 => ("BirthWeeksModel", "now", "[I", true)
  | 1 => ("BirthWeeksModel", "image", "[I", true)
  | 2 => ("BirthWeeksModel", "aside", "[I", true)
  | 3 => ("BirthWeeksModel", "hasImage", "Z", false)
  | 4 => ("BirthWeeksModel", "before", "[I", true)
  | 5 => ("BirthWeeksModel", "most", "[I", true)
  | 6 => ("BirthWeeksModel", "then", "[I", true)
  | 7 => ("BirthWeeksModel", "tape", "[I", true)
  | 8 => ("BirthWeeksModel", "taped", "I", false)
  | 9 => ("BirthWeeksModel", "next", "I", false)
  | 10 => ("BirthWeeksModel", "from", "I", false)
  | 11 => ("BirthWeeksModel", "token", "I", false)
  | 12 => ("BirthWeeksModel", "value", "I", false)
  | 13 => ("BirthWeeksModel", "ended", "I", false)
  | 14 => ("BirthWeeksModel", "key", "I", false)
  | 15 => ("BirthWeeksModel", "keys", "[C", true)
  | 16 => ("BirthWeeksModel", "keyAt", "[I", true)
  | 17 => ("BirthWeeksModel", "code", "[I", true)
  | 18 => ("BirthWeeksModel", "codes", "I", false)
  | 19 => ("BirthWeeksModel", "atoms", "I", false)
  | 20 => ("BirthWeeksModel", "waits", "[I", true)
  | 21 => ("BirthWeeksModel", "held", "I", false)
  | 22 => ("BirthWeeksModel", "tested", "[Z", true)
  | 23 => ("BirthWeeksModel", "stack", "[I", true)
  | 24 => ("BirthWeeksModel", "facts", "[I", true)
  | 25 => ("BirthWeeksModel", "sorts", "[I", true)
  | 26 => ("BirthWeeksModel", "sizes", "[I", true)
  | 27 => ("BirthWeeksModel", "cells", "[I", true)
  | 28 => ("BirthWeeksModel", "holds", "[I", true)
  | 29 => ("BirthWeeksModel", "holdsA", "[I", true)
  | 30 => ("BirthWeeksModel", "holdsB", "[I", true)
  | 31 => ("BirthWeeksModel", "heldCells", "[I", true)
  | 32 => ("BirthWeeksModel", "moved", "[I", true)
  | 33 => ("BirthWeeksModel", "tells", "[I", true)
  | _ => ("BirthWeeksModel", "waiting", "I", false)
def tyX8 : Nat → FieldType := fun k => match k with
  | 0 => .array .int
  | 1 => .array .int
  | 2 => .array .int
  | 3 => .boolean
  | 4 => .array .int
  | 5 => .array .int
  | 6 => .array .int
  | 7 => .array .int
  | 8 => .int
  | 9 => .int
  | 10 => .int
  | 11 => .int
  | 12 => .int
  | 13 => .int
  | 14 => .int
  | 15 => .array .char
  | 16 => .array .int
  | 17 => .array .int
  | 18 => .int
  | 19 => .int
  | 20 => .array .int
  | 21 => .int
  | 22 => .array .boolean
  | 23 => .array .int
  | 24 => .array .int
  | 25 => .array .int
  | 26 => .array .int
  | 27 => .array .int
  | 28 => .array .int
  | 29 => .array .int
  | 30 => .array .int
  | 31 => .array .int
  | 32 => .array .int
  | 33 => .array .int
  | _ => .int
theorem nmX8 : ∀ a, a < 35 → ∀ b, b < 35 → a ≠ b → (TX8 a).2.1 ≠ (TX8 b).2.1 := by decide +kernel
theorem tyX8_ok : ∀ k, k < 35 → parseFieldDescriptor (TX8 k).2.2.1 = some (tyX8 k) := by decide +kernel
abbrev cX8_init : ByteArray := prog_10_method_1_code
def yX8_init : MethodName := ⟨RX8, "<init>", "()V"⟩
abbrev cX8_in : ByteArray := prog_10_method_2_code
def yX8_in : MethodName := ⟨RX8, "in", "(III)Z"⟩
abbrev cX8_within : ByteArray := prog_10_method_3_code
def yX8_within : MethodName := ⟨RX8, "within", "(III)I"⟩
abbrev cX8_copyAll : ByteArray := prog_10_method_4_code
def yX8_copyAll : MethodName := ⟨RX8, "copyAll", "([I[I)V"⟩
abbrev cX8_isDistrict : ByteArray := prog_10_method_5_code
def yX8_isDistrict : MethodName := ⟨RX8, "isDistrict", "(I)Z"⟩
abbrev cX8_of : ByteArray := prog_10_method_6_code
def yX8_of : MethodName := ⟨RX8, "of", "(II)I"⟩
abbrev cX8_put : ByteArray := prog_10_method_7_code
def yX8_put : MethodName := ⟨RX8, "put", "(III)V"⟩
abbrev cX8_becomes : ByteArray := prog_10_method_8_code
def yX8_becomes : MethodName := ⟨RX8, "becomes", "(II)I"⟩
abbrev cX8_comes : ByteArray := prog_10_method_9_code
def yX8_comes : MethodName := ⟨RX8, "comes", "(II)I"⟩
abbrev cX8_district : ByteArray := prog_10_method_10_code
def yX8_district : MethodName := ⟨RX8, "district", "(II)I"⟩
abbrev cX8_worthOf : ByteArray := prog_10_method_11_code
def yX8_worthOf : MethodName := ⟨RX8, "worthOf", "(I)I"⟩
abbrev cX8_isFair : ByteArray := prog_10_method_12_code
def yX8_isFair : MethodName := ⟨RX8, "isFair", "(I)Z"⟩
abbrev cX8_told : ByteArray := prog_10_method_13_code
def yX8_told : MethodName := ⟨RX8, "told", "(II)I"⟩
abbrev cX8_birthsOf : ByteArray := prog_10_method_14_code
def yX8_birthsOf : MethodName := ⟨RX8, "birthsOf", "(II)I"⟩
abbrev cX8_births : ByteArray := prog_10_method_15_code
def yX8_births : MethodName := ⟨RX8, "births", "(II)I"⟩
abbrev cX8_isUnder : ByteArray := prog_10_method_16_code
def yX8_isUnder : MethodName := ⟨RX8, "isUnder", "(II)Z"⟩
abbrev cX8_as : ByteArray := prog_10_method_17_code
def yX8_as : MethodName := ⟨RX8, "as", "(II)I"⟩
abbrev cX8_turns : ByteArray := prog_10_method_18_code
def yX8_turns : MethodName := ⟨RX8, "turns", "(II)I"⟩
abbrev cX8_set : ByteArray := prog_10_method_19_code
def yX8_set : MethodName := ⟨RX8, "set", "(III)I"⟩
abbrev cX8_hides : ByteArray := prog_10_method_20_code
def yX8_hides : MethodName := ⟨RX8, "hides", "(I)V"⟩
abbrev cX8_hide : ByteArray := prog_10_method_21_code
def yX8_hide : MethodName := ⟨RX8, "hide", "(I)I"⟩
abbrev cX8_rule : ByteArray := prog_10_method_22_code
def yX8_rule : MethodName := ⟨RX8, "rule", "(II)I"⟩
abbrev cX8_draw : ByteArray := prog_10_method_23_code
def yX8_draw : MethodName := ⟨RX8, "draw", "()I"⟩
abbrev cX8_deal : ByteArray := prog_10_method_24_code
def yX8_deal : MethodName := ⟨RX8, "deal", "(I)I"⟩
abbrev cX8_seed : ByteArray := prog_10_method_25_code
def yX8_seed : MethodName := ⟨RX8, "seed", "(I)I"⟩
abbrev cX8_wageOf : ByteArray := prog_10_method_26_code
def yX8_wageOf : MethodName := ⟨RX8, "wageOf", "(I)I"⟩
abbrev cX8_weekEnds : ByteArray := prog_10_method_27_code
def yX8_weekEnds : MethodName := ⟨RX8, "weekEnds", "(I)V"⟩
abbrev cX8_day : ByteArray := prog_10_method_28_code
def yX8_day : MethodName := ⟨RX8, "day", "()I"⟩
abbrev cX8_goesOn : ByteArray := prog_10_method_29_code
def yX8_goesOn : MethodName := ⟨RX8, "goesOn", "(I)I"⟩
abbrev cX8_days : ByteArray := prog_10_method_30_code
def yX8_days : MethodName := ⟨RX8, "days", "(I)I"⟩
abbrev cX8_thinks : ByteArray := prog_10_method_31_code
def yX8_thinks : MethodName := ⟨RX8, "thinks", "()V"⟩
abbrev cX8_putsBack : ByteArray := prog_10_method_32_code
def yX8_putsBack : MethodName := ⟨RX8, "putsBack", "()V"⟩
abbrev cX8_behind : ByteArray := prog_10_method_33_code
def yX8_behind : MethodName := ⟨RX8, "behind", "(III)I"⟩
abbrev cX8_meets : ByteArray := prog_10_method_34_code
def yX8_meets : MethodName := ⟨RX8, "meets", "(II)I"⟩
abbrev cX8_sundays : ByteArray := prog_10_method_35_code
def yX8_sundays : MethodName := ⟨RX8, "sundays", "(II)I"⟩
abbrev cX8_trades : ByteArray := prog_10_method_36_code
def yX8_trades : MethodName := ⟨RX8, "trades", "()V"⟩
abbrev cX8_trader : ByteArray := prog_10_method_37_code
def yX8_trader : MethodName := ⟨RX8, "trader", "(II)I"⟩
abbrev cX8_richest : ByteArray := prog_10_method_38_code
def yX8_richest : MethodName := ⟨RX8, "richest", "(I)I"⟩
abbrev cX8_brings : ByteArray := prog_10_method_39_code
def yX8_brings : MethodName := ⟨RX8, "brings", "(II)I"⟩
abbrev cX8_offBy : ByteArray := prog_10_method_40_code
def yX8_offBy : MethodName := ⟨RX8, "offBy", "(III)J"⟩
abbrev cX8_rated : ByteArray := prog_10_method_41_code
def yX8_rated : MethodName := ⟨RX8, "rated", "(III)I"⟩
abbrev cX8_sumOf : ByteArray := prog_10_method_42_code
def yX8_sumOf : MethodName := ⟨RX8, "sumOf", "(I)I"⟩
abbrev cX8_fine : ByteArray := prog_10_method_43_code
def yX8_fine : MethodName := ⟨RX8, "fine", "()I"⟩
abbrev cX8_feed : ByteArray := prog_10_method_44_code
def yX8_feed : MethodName := ⟨RX8, "feed", "(III)I"⟩
abbrev cX8_trim : ByteArray := prog_10_method_45_code
def yX8_trim : MethodName := ⟨RX8, "trim", "(I)I"⟩
abbrev cX8_isLetter : ByteArray := prog_10_method_46_code
def yX8_isLetter : MethodName := ⟨RX8, "isLetter", "(I)Z"⟩
abbrev cX8_isFigure : ByteArray := prog_10_method_47_code
def yX8_isFigure : MethodName := ⟨RX8, "isFigure", "(I)Z"⟩
abbrev cX8_go : ByteArray := prog_10_method_48_code
def yX8_go : MethodName := ⟨RX8, "go", "()V"⟩
abbrev cX8_takesKey : ByteArray := prog_10_method_49_code
def yX8_takesKey : MethodName := ⟨RX8, "takesKey", "()Z"⟩
abbrev cX8_nameOf : ByteArray := prog_10_method_50_code
def yX8_nameOf : MethodName := ⟨RX8, "nameOf", "(I)I"⟩
abbrev cX8_rank : ByteArray := prog_10_method_51_code
def yX8_rank : MethodName := ⟨RX8, "rank", "(I)I"⟩
abbrev cX8_settle : ByteArray := prog_10_method_52_code
def yX8_settle : MethodName := ⟨RX8, "settle", "(I)V"⟩
abbrev cX8_signHere : ByteArray := prog_10_method_53_code
def yX8_signHere : MethodName := ⟨RX8, "signHere", "()I"⟩
abbrev cX8_takesPart : ByteArray := prog_10_method_54_code
def yX8_takesPart : MethodName := ⟨RX8, "takesPart", "()Z"⟩
abbrev cX8_takesE : ByteArray := prog_10_method_55_code
def yX8_takesE : MethodName := ⟨RX8, "takesE", "()Z"⟩
abbrev cX8_notsOpen : ByteArray := prog_10_method_56_code
def yX8_notsOpen : MethodName := ⟨RX8, "notsOpen", "()I"⟩
abbrev cX8_text : ByteArray := prog_10_method_57_code
def yX8_text : MethodName := ⟨RX8, "text", "()I"⟩
abbrev cX8_textTold : ByteArray := prog_10_method_58_code
def yX8_textTold : MethodName := ⟨RX8, "textTold", "(II)I"⟩
abbrev cX8_counts : ByteArray := prog_10_method_59_code
def yX8_counts : MethodName := ⟨RX8, "counts", "(I)I"⟩
abbrev cX8_why : ByteArray := prog_10_method_60_code
def yX8_why : MethodName := ⟨RX8, "why", "(I)I"⟩
abbrev cX8_two : ByteArray := prog_10_method_61_code
def yX8_two : MethodName := ⟨RX8, "two", "(III)I"⟩
abbrev cX8_worksOut : ByteArray := prog_10_method_62_code
def yX8_worksOut : MethodName := ⟨RX8, "worksOut", "(I)I"⟩
abbrev cX8_isSheet : ByteArray := prog_10_method_63_code
def yX8_isSheet : MethodName := ⟨RX8, "isSheet", "(I)Z"⟩
abbrev cX8_isSlot : ByteArray := prog_10_method_64_code
def yX8_isSlot : MethodName := ⟨RX8, "isSlot", "(I)Z"⟩
abbrev cX8_sheet : ByteArray := prog_10_method_65_code
def yX8_sheet : MethodName := ⟨RX8, "sheet", "(III)I"⟩
abbrev cX8_mark : ByteArray := prog_10_method_66_code
def yX8_mark : MethodName := ⟨RX8, "mark", "(III)I"⟩
abbrev cX8_pour : ByteArray := prog_10_method_67_code
def yX8_pour : MethodName := ⟨RX8, "pour", "(I)I"⟩
abbrev cX8_reads : ByteArray := prog_10_method_68_code
def yX8_reads : MethodName := ⟨RX8, "reads", "(II)I"⟩
abbrev cX8_copy : ByteArray := prog_10_method_69_code
def yX8_copy : MethodName := ⟨RX8, "copy", "(IIIII)I"⟩
abbrev cX8_lay : ByteArray := prog_10_method_70_code
def yX8_lay : MethodName := ⟨RX8, "lay", "(III)I"⟩
abbrev cX8_ask : ByteArray := prog_10_method_71_code
def yX8_ask : MethodName := ⟨RX8, "ask", "(II)I"⟩
abbrev cX8_item : ByteArray := prog_10_method_72_code
def yX8_item : MethodName := ⟨RX8, "item", "(II)I"⟩
abbrev cX8_rest : ByteArray := prog_10_method_73_code
def yX8_rest : MethodName := ⟨RX8, "rest", "(II)I"⟩
abbrev cX8_tell : ByteArray := prog_10_method_74_code
def yX8_tell : MethodName := ⟨RX8, "tell", "(I)I"⟩
abbrev cX8_fairs : ByteArray := prog_10_method_75_code
def yX8_fairs : MethodName := ⟨RX8, "fairs", "()I"⟩
abbrev cX8_check : ByteArray := prog_10_method_76_code
def yX8_check : MethodName := ⟨RX8, "check", "(I)I"⟩
abbrev cX8_keep : ByteArray := prog_10_method_77_code
def yX8_keep : MethodName := ⟨RX8, "keep", "()I"⟩
abbrev cX8_back : ByteArray := prog_10_method_78_code
def yX8_back : MethodName := ⟨RX8, "back", "()I"⟩
abbrev cX8_count : ByteArray := prog_10_method_79_code
def yX8_count : MethodName := ⟨RX8, "count", "(I)I"⟩
def RJ11 : String := "java/lang/Character"
def TJ11 : u_T := fun k => match k with
  | _ => ("", "", "", false)
def tyJ11 : Nat → FieldType := fun k => match k with
  | _ => .int
abbrev cJ11_isValidCodePoint_9a6ad : ByteArray := prog_11_method_11_code
def yJ11_isValidCodePoint_9a6ad : MethodName := ⟨RJ11, "isValidCodePoint", "(I)Z"⟩
abbrev cJ11_highSurrogate_5068e : ByteArray := prog_11_method_28_code
def yJ11_highSurrogate_5068e : MethodName := ⟨RJ11, "highSurrogate", "(I)C"⟩
abbrev cJ11_lowSurrogate_5068e : ByteArray := prog_11_method_29_code
def yJ11_lowSurrogate_5068e : MethodName := ⟨RJ11, "lowSurrogate", "(I)C"⟩
def RJ9 : String := "java/lang/Math"
def TJ9 : u_T := fun k => match k with
  | _ => ("", "", "", false)
def tyJ9 : Nat → FieldType := fun k => match k with
  | _ => .int
abbrev cJ9_abs_0f7a4 : ByteArray := prog_12_method_59_code
def yJ9_abs_0f7a4 : MethodName := ⟨RJ9, "abs", "(I)I"⟩
abbrev cJ9_max_7cf53 : ByteArray := prog_12_method_65_code
def yJ9_max_7cf53 : MethodName := ⟨RJ9, "max", "(II)I"⟩
abbrev cJ9_min_7cf53 : ByteArray := prog_12_method_69_code
def yJ9_min_7cf53 : MethodName := ⟨RJ9, "min", "(II)I"⟩
def RJ0 : String := "java/lang/String"
def TJ0 : u_T := fun k => match k with
  | _ => ("", "", "", false)
def tyJ0 : Nat → FieldType := fun k => match k with
  | _ => .int
abbrev cJ0_length_8abf5 : ByteArray := prog_13_method_54_code
def yJ0_length_8abf5 : MethodName := ⟨RJ0, "length", "()I"⟩
abbrev cJ0_charAt_5068e : ByteArray := prog_13_method_56_code
def yJ0_charAt_5068e : MethodName := ⟨RJ0, "charAt", "(I)C"⟩
abbrev cJ0_indexOf_0f7a4 : ByteArray := prog_13_method_79_code
def yJ0_indexOf_0f7a4 : MethodName := ⟨RJ0, "indexOf", "(I)I"⟩
abbrev cJ0_indexOf_7cf53 : ByteArray := prog_13_method_80_code
def yJ0_indexOf_7cf53 : MethodName := ⟨RJ0, "indexOf", "(II)I"⟩
abbrev cJ0_coder_7d493 : ByteArray := prog_13_method_152_code
def yJ0_coder_7d493 : MethodName := ⟨RJ0, "coder", "()B"⟩
abbrev cJ0_isLatin1_aae02 : ByteArray := prog_13_method_154_code
def yJ0_isLatin1_aae02 : MethodName := ⟨RJ0, "isLatin1", "()Z"⟩
abbrev cJ0_checkIndex_df160 : ByteArray := prog_13_method_155_code
def yJ0_checkIndex_df160 : MethodName := ⟨RJ0, "checkIndex", "(II)V"⟩
abbrev cJ0_checkBoundsBeginEnd_23922 : ByteArray := prog_13_method_158_code
def yJ0_checkBoundsBeginEnd_23922 : MethodName := ⟨RJ0, "checkBoundsBeginEnd", "(III)V"⟩
def RJ1 : String := "java/lang/StringLatin1"
def TJ1 : u_T := fun k => match k with
  | _ => ("", "", "", false)
def tyJ1 : Nat → FieldType := fun k => match k with
  | _ => .int
abbrev cJ1_charAt_3b067 : ByteArray := prog_14_method_2_code
def yJ1_charAt_3b067 : MethodName := ⟨RJ1, "charAt", "([BI)C"⟩
abbrev cJ1_canEncode_9a6ad : ByteArray := prog_14_method_4_code
def yJ1_canEncode_9a6ad : MethodName := ⟨RJ1, "canEncode", "(I)Z"⟩
abbrev cJ1_indexOf_4cfef : ByteArray := prog_14_method_22_code
def yJ1_indexOf_4cfef : MethodName := ⟨RJ1, "indexOf", "([BIII)I"⟩
abbrev cJ1_indexOfChar_4cfef : ByteArray := prog_14_method_23_code
def yJ1_indexOfChar_4cfef : MethodName := ⟨RJ1, "indexOfChar", "([BIII)I"⟩
def RJ2 : String := "java/lang/StringUTF16"
def TJ2 : u_T := fun k => match k with
  | _ => ("", "", "", false)
def tyJ2 : Nat → FieldType := fun k => match k with
  | _ => .int
abbrev cJ2_getChar_3b067 : ByteArray := prog_15_method_5_code
def yJ2_getChar_3b067 : MethodName := ⟨RJ2, "getChar", "([BI)C"⟩
abbrev cJ2_length_9d52b : ByteArray := prog_15_method_6_code
def yJ2_length_9d52b : MethodName := ⟨RJ2, "length", "([B)I"⟩
abbrev cJ2_indexOf_4cfef : ByteArray := prog_15_method_40_code
def yJ2_indexOf_4cfef : MethodName := ⟨RJ2, "indexOf", "([BIII)I"⟩
abbrev cJ2_indexOfChar_4cfef : ByteArray := prog_15_method_47_code
def yJ2_indexOfChar_4cfef : MethodName := ⟨RJ2, "indexOfChar", "([BIII)I"⟩
abbrev cJ2_indexOfCharUnsafe_4cfef : ByteArray := prog_15_method_48_code
def yJ2_indexOfCharUnsafe_4cfef : MethodName := ⟨RJ2, "indexOfCharUnsafe", "([BIII)I"⟩
abbrev cJ2_indexOfSupplementary_4cfef : ByteArray := prog_15_method_49_code
def yJ2_indexOfSupplementary_4cfef : MethodName := ⟨RJ2, "indexOfSupplementary", "([BIII)I"⟩
abbrev cJ2_charAt_3b067 : ByteArray := prog_15_method_83_code
def yJ2_charAt_3b067 : MethodName := ⟨RJ2, "charAt", "([BI)C"⟩
abbrev cJ2_checkIndex_2214a : ByteArray := prog_15_method_91_code
def yJ2_checkIndex_2214a : MethodName := ⟨RJ2, "checkIndex", "(I[B)V"⟩
abbrev cJ2_checkBoundsBeginEnd_d044e : ByteArray := prog_15_method_93_code
def yJ2_checkBoundsBeginEnd_d044e : MethodName := ⟨RJ2, "checkBoundsBeginEnd", "(II[B)V"⟩
def RJ10 : String := "java/lang/System"
def TJ10 : u_T := fun k => match k with
  | _ => ("", "", "", false)
def tyJ10 : Nat → FieldType := fun k => match k with
  | _ => .int
def RJ3 : String := "jdk/internal/util/Preconditions"
def TJ3 : u_T := fun k => match k with
  | _ => ("", "", "", false)
def tyJ3 : Nat → FieldType := fun k => match k with
  | _ => .int
abbrev cJ3_checkIndex_8e157 : ByteArray := prog_17_method_11_code
def yJ3_checkIndex_8e157 : MethodName := ⟨RJ3, "checkIndex", "(IILjava/util/function/BiFunction;)I"⟩
abbrev cJ3_checkFromToIndex_8c36e : ByteArray := prog_17_method_12_code
def yJ3_checkFromToIndex_8c36e : MethodName := ⟨RJ3, "checkFromToIndex", "(IIILjava/util/function/BiFunction;)I"⟩
def RL : String := "BirthWeeksLaw"
abbrev cL_law : ByteArray := code
def yL_law : MethodName := ⟨RL, "law", "([I)Z"⟩
abbrev vwCl : List vw_C := [(RX0, TX0, 8), (RX1, TX1, 4), (RX2, TX2, 7), (RX3, TX3, 1), (RX4, TX4, 3), (RX5, TX5, 4), (RX6, TX6, 11), (RX7, TX7, 15), (RX8, TX8, 35)]
end
section
/-! the store: cells by the order of their making; kinds 0-8 objects of vwCl, 9 byte[], 10 char[], 11 int[], 12 boolean[], 13 District[], 14 Law[], 15 Sheet[], 16 Slot[]; with the number of their places -/
def kdL : List (Nat × Nat) := [(7, 15), (9, 96), (2, 7), (9, 0), (1, 4), (11, 96), (1, 4), (11, 96), (15, 4), (16, 5), (11, 60), (11, 6), (11, 6), (14, 14), (1, 4), (11, 96), (1, 4), (11, 96), (1, 4), (11, 96), (1, 4), (11, 96), (1, 4), (11, 96), (1, 4), (11, 96), (1, 4), (11, 96), (1, 4), (11, 96), (1, 4), (11, 96), (1, 4), (11, 96), (1, 4), (11, 96), (1, 4), (11, 96), (1, 4), (11, 96), (1, 4), (11, 96), (4, 3), (11, 24), (4, 3), (11, 24), (4, 3), (11, 24), (4, 3), (11, 24), (5, 4), (0, 8), (4, 3), (11, 24), (5, 4), (0, 8), (4, 3), (11, 24), (5, 4), (0, 8), (4, 3), (11, 24), (5, 4), (0, 8), (4, 3), (11, 24), (5, 4), (0, 8), (4, 3), (11, 24), (6, 11), (13, 6), (11, 3), (3, 1), (11, 96), (0, 8), (0, 8), (0, 8), (0, 8), (0, 8), (0, 8), (6, 11), (13, 6), (11, 3), (3, 1), (11, 96), (0, 8), (0, 8), (0, 8), (0, 8), (0, 8), (0, 8), (6, 11), (13, 6), (11, 3), (3, 1), (11, 96), (0, 8), (0, 8), (0, 8), (0, 8), (0, 8), (0, 8), (8, 35), (11, 1427), (11, 1427), (11, 1427), (11, 55), (11, 6), (11, 6), (11, 96), (10, 13), (11, 4), (11, 96), (11, 96), (12, 10), (11, 96), (11, 4), (11, 4), (11, 4), (11, 96), (11, 5), (11, 5), (11, 5), (11, 120), (11, 24), (11, 60)]
def kd (k : Nat) : Nat × Nat := kdL.getD k (99, 0)
def mx_sz (n : Nat) : Nat := ((kdL.take n).map (fun q => q.2)).sum
/-- what a field holds: (0, _) a number; (1, _) a reference that moves; (2, d) the cell d behind; (3, a) the cell a -/
def ftL : List (List (Nat × Nat)) := [[(0, 0), (0, 0), (0, 0), (0, 0), (0, 0), (0, 0), (0, 0), (0, 0)], [(0, 0), (0, 0), (0, 0), (2, 1)], [(1, 0), (0, 0), (1, 0), (0, 0), (0, 0), (0, 0), (0, 0)], [(2, 1)], [(0, 0), (0, 0), (2, 1)], [(0, 0), (0, 0), (2, 1), (2, 2)], [(2, 1), (2, 2), (3, 13), (2, 3), (0, 0), (0, 0), (0, 0), (0, 0), (0, 0), (0, 0), (0, 0)], [(3, 13), (3, 70), (3, 81), (3, 92), (0, 0), (3, 1), (0, 0), (3, 2), (3, 6), (3, 8), (3, 9), (3, 10), (0, 0), (1, 0), (1, 0)], [(3, 104), (3, 105), (3, 106), (0, 0), (3, 107), (3, 108), (3, 109), (3, 110), (0, 0), (0, 0), (0, 0), (0, 0), (0, 0), (0, 0), (0, 0), (3, 111), (3, 112), (3, 113), (0, 0), (0, 0), (3, 114), (0, 0), (3, 115), (3, 116), (3, 117), (3, 118), (3, 119), (3, 120), (3, 121), (3, 122), (3, 123), (3, 124), (3, 125), (3, 126), (0, 0)]]
def ft (c j : Nat) : Nat × Nat := (ftL.getD c []).getD j (0, 0)
def mx_RC : List String := [RX0, RX1, RX2, RX3, RX4, RX5, RX6, RX7, RX8, RL, RJ0, RJ1, RJ9]
def mx_rc (o : Nat) : String := mx_RC.getD o ""
/-- pool entries: (class, entry, class of the field, its slot) -/
def mx_fl : List (Nat × Nat × Nat × Nat) := [(1, 9, 1, 0), (6, 69, 1, 0), (2, 90, 1, 0), (7, 243, 1, 0), (1, 15, 1, 1), (7, 246, 1, 1), (1, 18, 1, 2), (3, 15, 1, 2), (1, 21, 1, 3), (3, 21, 1, 3), (2, 9, 2, 0), (2, 15, 2, 1), (2, 22, 2, 2), (2, 26, 2, 3), (2, 29, 2, 4), (2, 32, 2, 5), (2, 35, 2, 6), (4, 9, 4, 0), (7, 258, 4, 0), (4, 15, 4, 1), (7, 271, 4, 1), (4, 18, 4, 2), (7, 261, 4, 2), (0, 9, 0, 0), (7, 105, 0, 0), (0, 15, 0, 1), (7, 110, 0, 1), (6, 119, 0, 1), (0, 18, 0, 2), (7, 113, 0, 2), (6, 108, 0, 2), (0, 21, 0, 3), (7, 116, 0, 3), (6, 94, 0, 3), (0, 24, 0, 4), (7, 119, 0, 4), (6, 77, 0, 4), (0, 27, 0, 5), (7, 122, 0, 5), (6, 87, 0, 5), (0, 30, 0, 6), (7, 125, 0, 6), (0, 33, 0, 7), (7, 128, 0, 7), (6, 84, 0, 7), (5, 9, 5, 0), (7, 287, 5, 0), (5, 15, 5, 1), (7, 305, 5, 1), (5, 21, 5, 2), (7, 290, 5, 2), (5, 28, 5, 3), (7, 298, 5, 3), (3, 9, 3, 0), (6, 11, 6, 0), (7, 101, 6, 0), (6, 17, 6, 1), (7, 249, 6, 1), (6, 50, 6, 2), (6, 24, 6, 3), (7, 212, 6, 3), (6, 28, 6, 4), (7, 90, 6, 4), (6, 32, 6, 5), (7, 174, 6, 5), (6, 35, 6, 6), (7, 153, 6, 6), (6, 38, 6, 7), (7, 156, 6, 7), (6, 41, 6, 8), (7, 159, 6, 8), (6, 44, 6, 9), (7, 171, 6, 9), (6, 47, 6, 10), (7, 236, 6, 10), (7, 62, 7, 0), (7, 71, 7, 1), (7, 75, 7, 2), (7, 78, 7, 3), (7, 7, 7, 4), (7, 13, 7, 5), (7, 17, 7, 6), (7, 24, 7, 7), (7, 31, 7, 8), (7, 37, 7, 9), (7, 43, 7, 10), (7, 47, 7, 11), (7, 51, 7, 12), (7, 54, 7, 13), (7, 57, 7, 14), (8, 9, 8, 0), (8, 13, 8, 1), (8, 16, 8, 2), (8, 251, 8, 3), (8, 19, 8, 4), (8, 22, 8, 5), (8, 25, 8, 6), (8, 28, 8, 7), (8, 175, 8, 8), (8, 179, 8, 9), (8, 182, 8, 10), (8, 188, 8, 11), (8, 194, 8, 12), (8, 185, 8, 13), (8, 200, 8, 14), (8, 31, 8, 15), (8, 35, 8, 16), (8, 38, 8, 17), (8, 212, 8, 18), (8, 218, 8, 19), (8, 41, 8, 20), (8, 206, 8, 21), (8, 44, 8, 22), (8, 48, 8, 23), (8, 51, 8, 24), (8, 54, 8, 25), (8, 57, 8, 26), (8, 60, 8, 27), (8, 63, 8, 28), (8, 66, 8, 29), (8, 69, 8, 30), (8, 72, 8, 31), (8, 75, 8, 32), (8, 78, 8, 33), (8, 248, 8, 34)]
def mx_fn : List (Nat × Nat × Nat × Nat) := [(7, 233, 2, 4)]
def mx_ct : List (Nat × Nat × Int32) := [(7, 89, -1000000001), (7, 93, -1000000003), (7, 146, -1000000012), (7, 147, -99999), (7, 148, 99999), (7, 149, -1000000002), (6, 72, 1103515245), (7, 189, -1000000005), (7, 203, -1000000011), (4, 32, -1000000005), (6, 63, -1000000003), (7, 255, -1000000014), (7, 257, -1000000013), (8, 89, -1000000001), (8, 90, -1000000003), (8, 126, -1000000012), (8, 130, -99999), (8, 131, 99999), (8, 132, -1000000002), (8, 137, 1103515245), (8, 160, -1000000005), (8, 167, -1000000011), (8, 243, -1000000014), (8, 244, -1000000013)]
def mx_cl : List (Nat × Nat × Nat) := [(9, 7, 7), (7, 21, 2), (2, 19, 1), (7, 28, 1), (7, 35, 4), (7, 41, 5), (5, 18, 0), (5, 25, 4), (7, 66, 6), (6, 9, 0), (6, 21, 3), (9, 10, 8)]
def mx_wfl (q : Nat × Nat × Nat × Nat) : Cond := match vwCl[q.2.2.1]? with | some r => .fieldLink (mx_rc q.1) q.2.1 (r.2.1 q.2.2.2).1 (r.2.1 q.2.2.2).2.1 (r.2.1 q.2.2.2).2.2.1 | none => .initialized ""
def mx_wfn (q : Nat × Nat × Nat × Nat) : Cond := match vwCl[q.2.2.1]? with | some r => .fieldLinkNest (mx_rc q.1) q.2.1 (r.2.1 q.2.2.2).1 (r.2.1 q.2.2.2).2.1 (r.2.1 q.2.2.2).2.2.1 RX7 | none => .initialized ""
def mx_wct (q : Nat × Nat × Int32) : Cond := .constant (mx_rc q.1) q.2.1 q.2.2
def mx_wcl (q : Nat × Nat × Nat) : Cond := .classLink (mx_rc q.1) q.2.1 (mx_rc q.2.2)
/-- the words that every method has: those of the tables that a call keeps -/
def gw : List Cond := lw_tbl.filter goodWord
def mx_at (i : Nat) (w : Cond) : Bool := (lw_tbl[i]? == some w) && goodWord w
theorem mx_gw {i : Nat} {w : Cond} (h : mx_at i w = true) : w ∈ gw := by
  simp only [mx_at, Bool.and_eq_true, beq_iff_eq] at h
  exact List.mem_filter.mpr ⟨List.mem_of_getElem? h.1, h.2⟩
theorem mx_gwz {α : Type} (f : α → Cond) (is : List Nat) (l : List α) (h : (is.zip l).all (fun q => mx_at q.1 (f q.2)) = true) (hl : l.length ≤ is.length) : ∀ q ∈ l, f q ∈ gw := by
  intro q hq
  obtain ⟨k, hk⟩ := List.getElem?_of_mem hq
  have hlt : k < l.length := (List.getElem?_eq_some_iff.mp hk).1
  have h1 : (is.zip l)[k]? = some (is[k], q) := by
    rw [List.getElem?_zip_eq_some]
    exact ⟨List.getElem?_eq_getElem (by omega), hk⟩
  exact mx_gw (List.all_eq_true.mp h _ (List.mem_of_getElem? h1))
theorem mx_fl_in : ∀ q ∈ mx_fl, mx_wfl q ∈ gw := mx_gwz mx_wfl [91, 92, 93, 94, 95, 96, 97, 98, 99, 100, 112, 113, 114, 115, 116, 118, 119, 147, 148, 149, 150, 151, 152, 171, 172, 173, 174, 175, 176, 177, 178, 179, 180, 181, 182, 183, 184, 185, 186, 187, 188, 189, 190, 191, 192, 212, 213, 214, 215, 216, 217, 218, 219, 243, 248, 249, 250, 251, 252, 253, 254, 255, 256, 257, 258, 259, 260, 261, 262, 263, 264, 265, 266, 267, 268, 292, 293, 294, 295, 296, 297, 298, 299, 300, 301, 302, 303, 304, 305, 306, 895, 896, 897, 898, 899, 900, 901, 902, 903, 904, 905, 906, 907, 908, 909, 910, 911, 912, 913, 914, 915, 916, 917, 918, 919, 920, 921, 922, 923, 924, 925, 926, 927, 928, 929] mx_fl (by decide +kernel) (by decide +kernel)
theorem mx_ct_in : ∀ q ∈ mx_ct, mx_wct q ∈ gw := mx_gwz mx_wct [350, 351, 422, 431, 432, 437, 454, 509, 546, 559, 781, 805, 811, 1010, 1011, 1069, 1082, 1083, 1088, 1105, 1146, 1174, 1254, 1259] mx_ct (by decide +kernel) (by decide +kernel)
theorem mx_cl_in : ∀ q ∈ mx_cl, mx_wcl q ∈ gw := mx_gwz mx_wcl [71, 79, 85, 135, 137, 139, 165, 210, 229, 235, 237, 889] mx_cl (by decide +kernel) (by decide +kernel)
theorem inX0 : ∀ w ∈ u_ws RX0 TX0 8, w ∈ gw := mx_gwz id [193, 195, 197, 199, 201, 203, 205, 207] (u_ws RX0 TX0 8) (by decide +kernel) (by decide +kernel)
theorem inX1 : ∀ w ∈ u_ws RX1 TX1 4, w ∈ gw := mx_gwz id [101, 103, 105, 107] (u_ws RX1 TX1 4) (by decide +kernel) (by decide +kernel)
theorem inX2 : ∀ w ∈ u_ws RX2 TX2 7, w ∈ gw := mx_gwz id [120, 122, 124, 126, 128, 130, 132] (u_ws RX2 TX2 7) (by decide +kernel) (by decide +kernel)
theorem inX3 : ∀ w ∈ u_ws RX3 TX3 1, w ∈ gw := mx_gwz id [244] (u_ws RX3 TX3 1) (by decide +kernel) (by decide +kernel)
theorem inX4 : ∀ w ∈ u_ws RX4 TX4 3, w ∈ gw := mx_gwz id [153, 155, 157] (u_ws RX4 TX4 3) (by decide +kernel) (by decide +kernel)
theorem inX5 : ∀ w ∈ u_ws RX5 TX5 4, w ∈ gw := mx_gwz id [220, 222, 224, 226] (u_ws RX5 TX5 4) (by decide +kernel) (by decide +kernel)
theorem inX6 : ∀ w ∈ u_ws RX6 TX6 11, w ∈ gw := mx_gwz id [269, 271, 273, 275, 277, 279, 281, 283, 285, 287, 289] (u_ws RX6 TX6 11) (by decide +kernel) (by decide +kernel)
theorem inX7 : ∀ w ∈ u_ws RX7 TX7 15, w ∈ gw := mx_gwz id [307, 309, 311, 313, 315, 317, 319, 321, 323, 325, 327, 329, 331, 333, 335] (u_ws RX7 TX7 15) (by decide +kernel) (by decide +kernel)
theorem inX8 : ∀ w ∈ u_ws RX8 TX8 35, w ∈ gw := mx_gwz id [930, 932, 934, 936, 938, 940, 942, 944, 946, 948, 950, 952, 954, 956, 958, 960, 962, 964, 966, 968, 970, 972, 974, 976, 978, 980, 982, 984, 986, 988, 990, 992, 994, 996, 998] (u_ws RX8 TX8 35) (by decide +kernel) (by decide +kernel)
end
section
/-! THE SMALL MACHINE: a method's body over the store M, its locals L and its stack S; 'mx_i' says what one instruction does, as a condition on what comes behind it -/
abbrev Mm : Type := Nat → Nat → Int32
abbrev Lv : Type := List (Option Value)
abbrev Sk : Type := List Value
/-- the heap at the law's start; class numbers and slots; array classes; addresses of what stood there before -/
abbrev Gt : Type := Heap × va_G × (Nat → ClassId) × (Nat → Nat)
def mx_wr (M : Mm) (k j : Nat) (x : Int32) : Mm := fun q => if q = k then (fun i => if i = j then x else M k i) else M q
def mx_NT : Nat := 127
def mx_ad (G : Gt) (k : Nat) : Nat := if k < 1000 then G.1.size + k else G.2.2.2 k
def mx_cv (G : Gt) : Value → Value
  | .ref k => .ref (mx_ad G k)
  | v => v
def mx_rv (x : Int32) : Value := if x = 0 then .null else .ref x.toNatClampNeg
def mx_sv (md : Bool) (t : Nat × Nat) (k : Nat) (x : Int32) : Value := match t with
  | (0, _) => .int x
  | (1, _) => (match md with | true => .ref x.toNatClampNeg | false => mx_rv x)
  | (2, a) => (match md with | true => .ref (k + a) | false => mx_rv x)
  | (_, a) => (match md with | true => .ref a | false => mx_rv x)
/-- where an array of references points, once all is made -/
def mx_el (c k i : Nat) : Nat := match c with
  | 13 => k + 4 + i
  | 14 => 14 + 2 * i
  | 15 => 42 + 2 * i
  | _ => 50 + 4 * i
def mx_ev (md : Bool) (c k j : Nat) (x : Int32) : Value := if c < 13 then .int x else match md with | true => .ref (mx_el c k j) | false => mx_rv x
def mx_cell (G : Gt) (md : Bool) (k : Nat) (r : Nat → Int32) (H : Heap) : Prop :=
  if (kd k).1 < 9 then t_OB (G.1.size + k) (G.2.1.1 (kd k).1) (kd k).2 (G.2.1.2 (kd k).1) H (fun j => mx_cv G (mx_sv md (ft (kd k).1 j) k (r j)))
  else H[G.1.size + k]? = some (arrV (G.2.2.1 (kd k).1) (kd k).2 (fun j => mx_cv G (mx_ev md (kd k).1 k j (r j))))
def mx_H (G : Gt) (md : Bool) (n : Nat) (M : Mm) (H : Heap) : Prop :=
  H.size = G.1.size + n ∧ n ≤ mx_NT ∧ (md = true → n = mx_NT) ∧ (∀ q, q < G.1.size → H[q]? = G.1[q]?) ∧ ∀ k, k < n → mx_cell G md k (M k) H
def mx_tys (G : Gt) : List (ClassId × FieldType) := [(G.2.2.1 9, .byte), (G.2.2.1 10, .char), (G.2.2.1 11, .int), (G.2.2.1 12, .boolean), (G.2.2.1 13, .object RX0), (G.2.2.1 14, .object RX1), (G.2.2.1 15, .object RX4), (G.2.2.1 16, .object RX5)]
/-- a kind of cell: that of k, which is made -/
def mx_in (md : Bool) (c k n : Nat) : Prop := match md with
  | true => (kd k).1 = c
  | false => (kd k).1 = c ∧ k < n
def mx_get : Lv → Nat → (Value → Prop) → Prop
  | [], _, _ => False
  | a :: _, 0, K => (match a with | some v => K v | none => False)
  | _ :: l, i + 1, K => mx_get l i K
def mx_lg (a : Option Value) : Bool := match a with
  | some (.long _) => true
  | some (.double _) => true
  | _ => false
/-- a new list of locals; not behind a long -/
def mx_set : Lv → Nat → Option Value → (Lv → Prop) → Prop
  | [], _, _, _ => False
  | _ :: l, 0, v, K => K (v :: l)
  | a :: l, i + 1, v, K => (match i, mx_lg a with | 0, true => False | _, _ => mx_set l i v (fun l' => K (a :: l')))
def mx_p1 (S : Sk) (K : Int32 → Sk → Prop) : Prop := match S with
  | .int x :: r => K x r
  | _ => False
def mx_p2 (S : Sk) (K : Int32 → Int32 → Sk → Prop) : Prop := match S with
  | .int y :: .int x :: r => K x y r
  | _ => False
def mx_l1 (S : Sk) (K : Int64 → Sk → Prop) : Prop := match S with
  | .long x :: r => K x r
  | _ => False
def mx_l2 (S : Sk) (K : Int64 → Int64 → Sk → Prop) : Prop := match S with
  | .long y :: .long x :: r => K x y r
  | _ => False
def mx_pr (S : Sk) (K : Nat → Sk → Prop) : Prop := match S with
  | .ref x :: r => K x r
  | _ => False
/-- an array and an index on the stack -/
def mx_pa (S : Sk) (K : Nat → Int32 → Sk → Prop) : Prop := match S with
  | .int i :: .ref k :: r => K k i r
  | _ => False
def mx_pb (S : Sk) (K : Nat → Int32 → Int32 → Sk → Prop) : Prop := match S with
  | .int x :: .int i :: .ref k :: r => K k i x r
  | _ => False
abbrev Kt : Type := Nat → Mm → Lv → Sk → Prop
def mx_ld (md : Bool) (c n : Nat) (M : Mm) (S : Sk) (K : Sk → Prop) : Prop := mx_pa S (fun k i r => mx_in md c k n ∧ vp_in i (kd k).2 ∧ K (.int (M k i.toNatClampNeg) :: r))
def mx_st (md : Bool) (c n : Nat) (M : Mm) (S : Sk) (f : Int32 → Int32) (K : Mm → Sk → Prop) : Prop := mx_pb S (fun k i x r => mx_in md c k n ∧ vp_in i (kd k).2 ∧ K (mx_wr M k i.toNatClampNeg (f x)) r)
def mx_ty (c j : Nat) : FieldType := match c with
  | 0 => tyX0 j
  | 1 => tyX1 j
  | 2 => tyX2 j
  | 3 => tyX3 j
  | 4 => tyX4 j
  | 5 => tyX5 j
  | 6 => tyX6 j
  | 7 => tyX7 j
  | _ => tyX8 j
/-- a field is written: a number, or a reference that moves (while all is being made: any) -/
def mx_pf (md : Bool) (c j n : Nat) (M : Mm) (S : Sk) (K : Mm → Sk → Prop) : Prop := match S with
  | .int x :: .ref k :: r => mx_in md c k n ∧ (ft c j).1 = 0 ∧ narrow (mx_ty c j) (.int x) = .int x ∧ K (mx_wr M k j x) r
  | .ref t :: .ref k :: r => mx_in md c k n ∧ ((ft c j).1 = 1 ∨ md = false ∧ (ft c j).1 ≠ 0) ∧ (0 < t ∧ t < 1000) ∧ K (mx_wr M k j (nI t)) r
  | _ => False
abbrev Ai : Type := Instr ⊕ Value
/-- one instruction, in its plain form: constants as .inr; fields by (64 * class + slot); aaload as .anewarray kind; boolean arrays as .daload, .dastore; new as .new class; new arrays as .ldc2_w kind -/
def mx_i (md : Bool) (a : Ai) (n : Nat) (M : Mm) (L : Lv) (S : Sk) (K : Kt) : Prop := match a with
  | .inr v => K n M L (v :: S)
  | .inl i => match i with
    | .iload j => mx_get L j (fun v => match v with | .int x => K n M L (.int x :: S) | _ => False)
    | .lload j => mx_get L j (fun v => match v with | .long x => K n M L (.long x :: S) | _ => False)
    | .aload j => mx_get L j (fun v => match v with | .ref x => K n M L (.ref x :: S) | .null => K n M L (.null :: S) | _ => False)
    | .istore j => mx_p1 S (fun x r => mx_set L j (some (.int x)) (fun L' => K n M L' r))
    | .astore j => (match S with
      | .ref x :: r => mx_set L j (some (.ref x)) (fun L' => K n M L' r)
      | .null :: r => mx_set L j (some .null) (fun L' => K n M L' r)
      | _ => False)
    | .lstore j => mx_l1 S (fun x r => mx_set L j none (fun L0 => mx_set L0 (j + 1) none (fun L1 => mx_set L1 j (some (.long x)) (fun L' => K n M L' r))))
    | .iinc j d => mx_get L j (fun v => match v with | .int x => mx_set L j (some (.int (x + Int32.ofInt d))) (fun L' => K n M L' S) | _ => False)
    | .iadd => mx_p2 S (fun x y r => K n M L (.int (x + y) :: r))
    | .isub => mx_p2 S (fun x y r => K n M L (.int (x - y) :: r))
    | .imul => mx_p2 S (fun x y r => K n M L (.int (x * y) :: r))
    | .iand => mx_p2 S (fun x y r => K n M L (.int (x &&& y) :: r))
    | .ior => mx_p2 S (fun x y r => K n M L (.int (x ||| y) :: r))
    | .idiv => mx_p2 S (fun x y r => ¬ y = 0 ∧ K n M L (.int (x / y) :: r))
    | .irem => mx_p2 S (fun x y r => ¬ y = 0 ∧ K n M L (.int (x - x / y * y) :: r))
    | .ishl => mx_p2 S (fun x y r => K n M L (.int (x <<< (y &&& 31)) :: r))
    | .ishr => mx_p2 S (fun x y r => K n M L (.int (x >>> (y &&& 31)) :: r))
    | .iushr => mx_p2 S (fun x y r => K n M L (.int (x.toUInt32 >>> (y.toUInt32 &&& Int32.toUInt32 31)).toInt32 :: r))
    | .ineg => mx_p1 S (fun x r => K n M L (.int (-x) :: r))
    | .i2l => mx_p1 S (fun x r => K n M L (.long x.toInt64 :: r))
    | .i2b => mx_p1 S (fun x r => K n M L (.int x.toInt8.toInt32 :: r))
    | .i2s => mx_p1 S (fun x r => K n M L (.int x.toInt16.toInt32 :: r))
    | .i2c => mx_p1 S (fun x r => K n M L (.int (x.toUInt32 % 65536).toInt32 :: r))
    | .l2i => mx_l1 S (fun x r => K n M L (.int x.toInt32 :: r))
    | .lneg => mx_l1 S (fun x r => K n M L (.long (-x) :: r))
    | .ladd => mx_l2 S (fun x y r => K n M L (.long (x + y) :: r))
    | .lsub => mx_l2 S (fun x y r => K n M L (.long (x - y) :: r))
    | .lcmp => mx_l2 S (fun x y r => K n M L (.int (lg_cmp x y) :: r))
    | .dup => (match S with
      | .int x :: r => K n M L (.int x :: .int x :: r)
      | .ref x :: r => K n M L (.ref x :: .ref x :: r)
      | _ => False)
    | .dup2 => mx_pa S (fun k i r => K n M L (.int i :: .ref k :: .int i :: .ref k :: r))
    | .pop => mx_p1 S (fun _ r => K n M L r)
    | .getfield q => mx_pr S (fun k r => mx_in md (q / 64) k n ∧ K n M L (mx_sv md (ft (q / 64) (q % 64)) k (M k (q % 64)) :: r))
    | .putfield q => mx_pf md (q / 64) (q % 64) n M S (fun M' r => K n M' L r)
    | .iaload => mx_ld md 11 n M S (fun S' => K n M L S')
    | .baload => mx_ld md 9 n M S (fun S' => K n M L S')
    | .caload => mx_ld md 10 n M S (fun S' => K n M L S')
    | .daload => mx_ld md 12 n M S (fun S' => K n M L S')
    | .anewarray c => mx_pa S (fun k i r => (13 ≤ c ∧ c < 17 ∧ md = true) ∧ mx_in md c k n ∧ vp_in i (kd k).2 ∧ K n M L (.ref (mx_el c k i.toNatClampNeg) :: r))
    | .iastore => mx_st md 11 n M S (fun x => x) (fun M' r => K n M' L r)
    | .bastore => mx_st md 9 n M S (fun x => vp_nar .byte x) (fun M' r => K n M' L r)
    | .castore => mx_st md 10 n M S (fun x => vp_nar .char x) (fun M' r => K n M' L r)
    | .dastore => mx_st md 12 n M S (fun x => vp_nar .boolean x) (fun M' r => K n M' L r)
    | .arraylength => mx_pr S (fun k r => (∃ c, 9 ≤ c ∧ c < 17 ∧ mx_in md c k n) ∧ K n M L (.int (nI (kd k).2) :: r))
    | _ => False
/-- a row of them -/
def mx_b (md : Bool) : List Ai → Nat → Mm → Lv → Sk → Kt → Prop
  | [], n, M, L, S, K => K n M L S
  | a :: r, n, M, L, S, K => mx_i md a n M L S (fun n' M' L' S' => mx_b md r n' M' L' S' K)
/-- the plain form of an instruction of class o -/
def mx_ok (o : Nat) (w : Instr) (a : Ai) : Bool := match w with
  | .iconst v => decide (a = .inr (.int (Int32.ofInt v)))
  | .bipush v => decide (a = .inr (.int (Int8.ofInt v).toInt32))
  | .sipush v => decide (a = .inr (.int (Int16.ofInt v).toInt32))
  | .lconst v => decide (a = .inr (.long (Int64.ofNat (v : Nat))))
  | .aconst_null => decide (a = .inr .null)
  | .ldc q => (match a with | .inr (.int v) => mx_ct.contains (o, q, v) | _ => false)
  | .ldc_w q => (match a with | .inr (.int v) => mx_ct.contains (o, q, v) | _ => false)
  | .iload j => decide (a = .inl (.iload j))
  | .iload_n j => decide (a = .inl (.iload j.val))
  | .lload j => decide (a = .inl (.lload j))
  | .lload_n j => decide (a = .inl (.lload j.val))
  | .aload j => decide (a = .inl (.aload j))
  | .aload_n j => decide (a = .inl (.aload j.val))
  | .istore j => decide (a = .inl (.istore j))
  | .istore_n j => decide (a = .inl (.istore j.val))
  | .astore j => decide (a = .inl (.astore j))
  | .astore_n j => decide (a = .inl (.astore j.val))
  | .lstore j => decide (a = .inl (.lstore j))
  | .lstore_n j => decide (a = .inl (.lstore j.val))
  | .iinc j d => decide (a = .inl (.iinc j d))
  | .iadd => decide (a = .inl .iadd)
  | .isub => decide (a = .inl .isub)
  | .imul => decide (a = .inl .imul)
  | .iand => decide (a = .inl .iand)
  | .ior => decide (a = .inl .ior)
  | .idiv => decide (a = .inl .idiv)
  | .irem => decide (a = .inl .irem)
  | .ishl => decide (a = .inl .ishl)
  | .ishr => decide (a = .inl .ishr)
  | .iushr => decide (a = .inl .iushr)
  | .ineg => decide (a = .inl .ineg)
  | .i2l => decide (a = .inl .i2l)
  | .i2b => decide (a = .inl .i2b)
  | .i2s => decide (a = .inl .i2s)
  | .i2c => decide (a = .inl .i2c)
  | .l2i => decide (a = .inl .l2i)
  | .lneg => decide (a = .inl .lneg)
  | .ladd => decide (a = .inl .ladd)
  | .lsub => decide (a = .inl .lsub)
  | .lcmp => decide (a = .inl .lcmp)
  | .dup => decide (a = .inl .dup)
  | .dup2 => decide (a = .inl .dup2)
  | .pop => decide (a = .inl .pop)
  | .getfield q => (match a with | .inl (.getfield z) => mx_fl.contains (o, q, z / 64, z % 64) || mx_fn.contains (o, q, z / 64, z % 64) | _ => false)
  | .putfield q => (match a with | .inl (.putfield z) => mx_fl.contains (o, q, z / 64, z % 64) && (decide ((ft (z / 64) (z % 64)).1 < 2) || o == z / 64) | _ => false)
  | .iaload => decide (a = .inl .iaload)
  | .baload => decide (a = .inl .baload) || decide (a = .inl .daload)
  | .caload => decide (a = .inl .caload)
  | .aaload => (match a with | .inl (.anewarray _) => true | _ => false)
  | .iastore => decide (a = .inl .iastore)
  | .bastore => decide (a = .inl .bastore) || decide (a = .inl .dastore)
  | .castore => decide (a = .inl .castore)
  | .arraylength => decide (a = .inl .arraylength)
  | _ => false
def mx_len (w : Instr) : Nat := match w with
  | .bipush _ => 2
  | .sipush _ => 3
  | .ldc _ => 2
  | .ldc_w _ => 3
  | .iload _ => 2
  | .lload _ => 2
  | .aload _ => 2
  | .istore _ => 2
  | .lstore _ => 2
  | .astore _ => 2
  | .iinc _ _ => 3
  | .getfield _ => 3
  | .putfield _ => 3
  | _ => 1
/-- the code from pc on is that row, up to pc' -/
def mx_blk (o : Nat) (cc : ByteArray) : Nat → List Ai → Nat → Bool
  | pc, [], pc' => pc == pc'
  | pc, a :: r, pc' => match decode cc pc with
    | .ok (w, len) => mx_ok o w a && (len == mx_len w) && mx_blk o cc (pc + len) r pc'
    | .error _ => false
end
section
/-! the small machine is the machine's -/
def mx_nw : List Cond := lw_tbl.filter (fun w => match w with | .fieldLinkNest _ _ _ _ _ _ => true | .methodLinkNest _ _ _ _ => true | _ => false)
/-- what stands below the law's start: free of our writing -/
def mx_A (G : Gt) : Nat → Prop := fun q => G.1.size ≤ q
def mx_above (i : Nat) : Value := .int (([-1, 0, 0, 1, 2, 0] : List Int32).getD i 0)
/-- the class's String constants, by their places; their bytes -/
def mx_si : List Nat := [108, 114, 116, 102, 104, 106]
def mx_sl_ : List Nat := [5, 4, 4, 3, 2, 2]
def mx_sb : List (List Int32) := [[98, 105, 114, 116, 104], [119, 97, 103, 101], [102, 105, 110, 101], [120, 108, 112], [108, 119], [100, 98]]
def mx_st_ : List String := ["birth", "wage", "fine", "xlp", "lw", "db"]
def mx_adK (G : Gt) (j : Nat) : Nat := mx_ad G (1001 + j)
def mx_adV (G : Gt) (j : Nat) : Nat := mx_ad G (1011 + j)
def mx_Ks (G : Gt) (U : State) : Prop := vk_S 6 mx_sl_ mx_sb (mx_adK G) (mx_adV G) (mx_A G) U G.1 ∧ (∀ j, j < 6 → vk_R RX2 (mx_si.getD j 0) (mx_st_.getD j "") (mx_adK G j) U) ∧ va_Z "java/lang/String" "COMPACT_STRINGS" "Z" (.int 1) (mx_A G) U G.1
def mx_Ka (G : Gt) (U : State) : Prop := (va_Z RX7 "ABOVE" "[I" (.ref (mx_ad G 1000)) (mx_A G) U G.1 ∧ va_T .int (mx_ad G 1000) 6 mx_above (mx_A G) U G.1) ∧ mx_Ks G U
theorem mx_Ka.moved {G : Gt} {s U : State} (hvm : s.vm.Alike U.vm) (hr : ∀ j, j < 6 → vk_R RX2 (mx_si.getD j 0) (mx_st_.getD j "") (mx_adK G j) U) (h : mx_Ka G s) : mx_Ka G U :=
  ⟨⟨va_Z.moved hvm h.1.1, va_T.moved hvm h.1.2⟩, vk_S.moved hvm h.2.1, hr, va_Z.moved hvm h.2.2.2⟩
def mx_Ko (U : State) : Prop := va_AO RX0 U ∧ va_AO RX1 U ∧ va_AO RX4 U ∧ va_AO RX5 U
theorem mx_Ko.moved {s U : State} (hvm : s.vm.Alike U.vm) (h : mx_Ko s) : mx_Ko U := ⟨va_AO.moved hvm h.1, va_AO.moved hvm h.2.1, va_AO.moved hvm h.2.2.1, va_AO.moved hvm h.2.2.2⟩
def mx_K (G : Gt) (U : State) : Prop := va_K G.2.1 vwCl (mx_tys G) U ∧ (∀ w ∈ mx_nw, va_Nw w U) ∧ mx_Ko U ∧ mx_Ka G U
theorem mx_nw_warm {s U : State} (hW : s.WarmedH U.vm) (h : ∀ w ∈ mx_nw, va_Nw w s) : ∀ w ∈ mx_nw, va_Nw w U := by
  intro w hw
  have h1 := h w hw
  have h2 := (List.mem_filter.mp hw).2
  cases w <;> simp at h2
  · exact va_Nw.warmM hW h1
  · exact va_Nw.warmF hW h1
theorem mx_K.warm {G : Gt} {s U : State} (hW : s.WarmedH U.vm) (h : mx_K G s) : mx_K G U := ⟨va_K.moved hW.alike h.1, mx_nw_warm hW h.2.1, mx_Ko.moved hW.alike h.2.2.1, mx_Ka.moved hW.alike (fun j hj => vk_R.warm hW (h.2.2.2.2.2.1 j hj)) h.2.2.2⟩
theorem mx_nw_same {s U : State} (e : s.vm = U.vm) (h : ∀ w ∈ mx_nw, va_Nw w s) : ∀ w ∈ mx_nw, va_Nw w U := by
  intro w hw
  have h1 := h w hw
  have h2 := (List.mem_filter.mp hw).2
  cases w <;> simp at h2
  · exact va_Nw.same rfl e h1
  · exact va_Nw.same rfl e h1
theorem mx_K.calling {G : Gt} {U : State} {g : JFrame} {mk : MethodId} {a : Array Value} (h : mx_K G U) : mx_K G (U.calling g mk a) := ⟨va_K.moved (u := U) (U := U.calling g mk a) (Vm.Alike.refl U.vm) h.1, mx_nw_same (s := U) (U := U.calling g mk a) rfl h.2.1, mx_Ko.moved (s := U) (U := U.calling g mk a) (Vm.Alike.refl U.vm) h.2.2.1, mx_Ka.moved (s := U) (U := U.calling g mk a) (Vm.Alike.refl U.vm) (fun j hj => vk_R.same (u := U) (U := U.calling g mk a) rfl (h.2.2.2.2.2.1 j hj)) h.2.2.2⟩
/-- the classes' tables -/
def mx_nf : List Nat := [8, 4, 7, 1, 3, 4, 11, 15, 35]
theorem mx_cls : ∀ (c : Nat) (r : vw_C), vwCl[c]? = some r → c < 9 ∧ r.1 = mx_rc c ∧ r.2.2 = mx_nf.getD c 0 ∧ (∀ w ∈ u_ws r.1 r.2.1 r.2.2, w ∈ gw) ∧ (∀ a, a < r.2.2 → ∀ b, b < r.2.2 → a ≠ b → (r.2.1 a).2.1 ≠ (r.2.1 b).2.1) ∧ (∀ k, k < r.2.2 → parseFieldDescriptor (r.2.1 k).2.2.1 = some (mx_ty c k)) := by
  intro c r h
  match c, h with
  | 0, h => cases h; exact ⟨by decide, rfl, rfl, inX0, nmX0, tyX0_ok⟩
  | 1, h => cases h; exact ⟨by decide, rfl, rfl, inX1, nmX1, tyX1_ok⟩
  | 2, h => cases h; exact ⟨by decide, rfl, rfl, inX2, nmX2, tyX2_ok⟩
  | 3, h => cases h; exact ⟨by decide, rfl, rfl, inX3, nmX3, tyX3_ok⟩
  | 4, h => cases h; exact ⟨by decide, rfl, rfl, inX4, nmX4, tyX4_ok⟩
  | 5, h => cases h; exact ⟨by decide, rfl, rfl, inX5, nmX5, tyX5_ok⟩
  | 6, h => cases h; exact ⟨by decide, rfl, rfl, inX6, nmX6, tyX6_ok⟩
  | 7, h => cases h; exact ⟨by decide, rfl, rfl, inX7, nmX7, tyX7_ok⟩
  | 8, h => cases h; exact ⟨by decide, rfl, rfl, inX8, nmX8, tyX8_ok⟩
  | c + 9, h => simp [vwCl] at h
theorem mx_vw {c : Nat} (h : c < 9) : ∃ r : vw_C, vwCl[c]? = some r := ⟨vwCl[c], List.getElem?_eq_getElem h⟩
theorem mx_kd9 : ∀ k, k < 127 → (kd k).1 < 9 → mx_nf.getD (kd k).1 0 = (kd k).2 := by decide +kernel
theorem mx_kdlt {k : Nat} (h : (kd k).1 < 99) : k < 127 := by
  rcases Nat.lt_or_ge k 127 with q | q
  · exact q
  · have : kd k = (99, 0) := by
      unfold kd
      rw [List.getD_eq_getElem?_getD, List.getElem?_eq_none (by exact q)]
      rfl
    rw [this] at h
    exact absurd h (by decide)
theorem mx_flj : ∀ q ∈ mx_fl, q.2.2.1 < 9 ∧ q.2.2.2 < mx_nf.getD q.2.2.1 0 := by decide +kernel
theorem mx_fnj : ∀ q ∈ mx_fn, q.2.2.1 < 9 ∧ q.2.2.2 < mx_nf.getD q.2.2.1 0 ∧ mx_wfn q ∈ mx_nw := by decide +kernel
theorem mx_lt {G : Gt} {md : Bool} {n c k : Nat} {M : Mm} {H : Heap} (hH : mx_H G md n M H) (h : mx_in md c k n) (hc : c < 99) : k < n ∧ (kd k).1 = c := by
  cases md with
  | true =>
    have h1 : (kd k).1 = c := h
    exact ⟨by rw [hH.2.2.1 rfl]; exact mx_kdlt (by omega), h1⟩
  | false => exact ⟨h.2, h.1⟩
theorem mx_adk {G : Gt} {md : Bool} {n k : Nat} {M : Mm} {H : Heap} (hH : mx_H G md n M H) (h : k < n) : mx_ad G k = G.1.size + k := by
  have := hH.2.1
  unfold mx_NT at this
  simp [mx_ad, show k < 1000 by omega]
def mx_al (G : Gt) : Nat → Lv → List (Nat × Value)
  | _, [] => []
  | i, a :: l => match a with
    | some v => (i, mx_cv G v) :: mx_al G (i + 1) l
    | none => mx_al G (i + 1) l
theorem mx_al_mem {G : Gt} : ∀ (L : Lv) (j i : Nat) (v : Value), L[i]? = some (some v) → (j + i, mx_cv G v) ∈ mx_al G j L
  | [], j, i, v, h => by simp at h
  | a :: l, j, 0, v, h => by
    simp at h
    subst h
    exact List.mem_cons_self
  | a :: l, j, i + 1, v, h => by
    have h1 := mx_al_mem (G := G) l (j + 1) i v (by simpa using h)
    rw [show j + 1 + i = j + (i + 1) by omega] at h1
    cases a with
    | none => exact h1
    | some w => exact List.mem_cons_of_mem _ h1
theorem mx_al_inv {G : Gt} : ∀ (L : Lv) (j : Nat) (q : Nat × Value), q ∈ mx_al G j L → ∃ (i : Nat) (v : Value), L[i]? = some (some v) ∧ q = (j + i, mx_cv G v)
  | [], j, q, h => by simp [mx_al] at h
  | a :: l, j, q, h => by
    cases a with
    | none =>
      obtain ⟨i, v, h1, h2⟩ := mx_al_inv (G := G) l (j + 1) q h
      exact ⟨i + 1, v, by simpa using h1, by rw [h2, show j + 1 + i = j + (i + 1) by omega]⟩
    | some w =>
      rcases List.mem_cons.mp h with h | h
      · exact ⟨0, w, rfl, h⟩
      · obtain ⟨i, v, h1, h2⟩ := mx_al_inv (G := G) l (j + 1) q h
        exact ⟨i + 1, v, by simpa using h1, by rw [h2, show j + 1 + i = j + (i + 1) by omega]⟩
theorem mx_get_inv : ∀ {L : Lv} {i : Nat} {K : Value → Prop}, mx_get L i K → ∃ v, L[i]? = some (some v) ∧ K v
  | [], _, _, h => h.elim
  | a :: l, 0, K, h => by
    cases a with
    | none => exact h.elim
    | some v => exact ⟨v, rfl, h⟩
  | a :: l, i + 1, K, h => by
    obtain ⟨v, h1, h2⟩ := mx_get_inv (L := l) h
    exact ⟨v, by simpa using h1, h2⟩
theorem mx_set_inv : ∀ {L : Lv} {i : Nat} {v : Option Value} {K : Lv → Prop}, mx_set L i v K → i < L.length ∧ (∀ (j : Nat) (x : Value), j + 1 = i → L[j]? = some (some x) → x.category = 1) ∧ K (L.set i v)
  | [], _, _, _, h => h.elim
  | a :: l, 0, v, K, h => ⟨by simp, fun j x e => by omega, h⟩
  | a :: l, i + 1, v, K, h => by
    have h1 : mx_set l i v (fun l' => K (a :: l')) ∧ (i = 0 → mx_lg a = false) := by
      unfold mx_set at h
      split at h
      · exact h.elim
      · rename_i hn
        exact ⟨h, fun e => by
          cases hb : mx_lg a with
          | false => rfl
          | true => exact (hn e hb).elim⟩
    obtain ⟨h2, h3, h4⟩ := mx_set_inv h1.1
    refine ⟨by simpa using h2, fun j x e q => ?_, h4⟩
    cases j with
    | zero =>
      have hq : a = some x := by simpa using q
      have := h1.2 (by omega)
      rw [hq] at this
      cases x <;> first | rfl | cases this
    | succ j => exact h3 j x (by omega) (by simpa using q)
theorem mx_cv_cat {G : Gt} (v : Value) : (mx_cv G v).category = v.category := by cases v <;> rfl
/-- a store of one word into a local -/
theorem mx_store1 {G : Gt} {ls : Array Slot} {nL i : Nat} {L : Lv} {v : Value} (h : lv_has ls nL ((i, mx_cv G v) :: (mx_al G 0 L).filter (fun q => !(q.1 == i) && !(q.1 + 1 == i && q.2.category == 2)))) (hb : ∀ (j : Nat) (x : Value), j + 1 = i → L[j]? = some (some x) → x.category = 1) : lv_has ls nL (mx_al G 0 (L.set i (some v))) := by
  refine ⟨h.1, h.2.1, fun q hq => h.2.2 q ?_⟩
  obtain ⟨j, w, h1, h2⟩ := mx_al_inv _ _ _ hq
  rw [Nat.zero_add] at h2
  subst h2
  by_cases hj : i = j
  · subst hj
    by_cases hl : i < L.length
    · rw [List.getElem?_set_self hl] at h1
      cases h1
      exact List.mem_cons_self
    · rw [List.getElem?_eq_none (by simp; omega)] at h1
      cases h1
  · rw [List.getElem?_set_ne hj] at h1
    refine List.mem_cons_of_mem _ (List.mem_filter.mpr ⟨by simpa using mx_al_mem (G := G) L 0 j w h1, ?_⟩)
    have e1 : (j == i) = false := by simp; omega
    simp only [e1, Bool.not_false, Bool.true_and, Bool.not_eq_true', Bool.and_eq_false_iff]
    by_cases hji : j + 1 = i
    · right
      rw [mx_cv_cat, hb j w hji h1]
      rfl
    · left
      simp [hji]
theorem mx_store2 {G : Gt} {ls : Array Slot} {nL i : Nat} {L : Lv} {v : Value} (h : lv_has ls nL ((i, mx_cv G v) :: (mx_al G 0 L).filter (fun q => !(q.1 == i) && (!(q.1 == i + 1) && !(q.1 + 1 == i && q.2.category == 2))))) (hb : ∀ (j : Nat) (x : Value), j + 1 = i → L[j]? = some (some x) → x.category = 1) : lv_has ls nL (mx_al G 0 ((L.set (i + 1) none).set i (some v))) := by
  refine ⟨h.1, h.2.1, fun q hq => h.2.2 q ?_⟩
  obtain ⟨j, w, h1, h2⟩ := mx_al_inv _ _ _ hq
  rw [Nat.zero_add] at h2
  subst h2
  by_cases hj : i = j
  · subst hj
    by_cases hl : i < L.length
    · rw [List.getElem?_set_self (by simpa using hl)] at h1
      cases h1
      exact List.mem_cons_self
    · rw [List.getElem?_eq_none (by simp; omega)] at h1
      cases h1
  · rw [List.getElem?_set_ne hj] at h1
    by_cases hj2 : i + 1 = j
    · subst hj2
      by_cases hl : i + 1 < L.length
      · rw [List.getElem?_set_self hl] at h1
        cases h1
      · rw [List.getElem?_eq_none (by simp; omega)] at h1
        cases h1
    · rw [List.getElem?_set_ne hj2] at h1
      refine List.mem_cons_of_mem _ (List.mem_filter.mpr ⟨by simpa using mx_al_mem (G := G) L 0 j w h1, ?_⟩)
      have e1 : (j == i) = false := by simp; omega
      have e2 : (j == i + 1) = false := by simp; omega
      simp only [e1, e2, Bool.not_false, Bool.true_and, Bool.not_eq_true', Bool.and_eq_false_iff]
      by_cases hji : j + 1 = i
      · right
        rw [mx_cv_cat, hb j w hji h1]
        rfl
      · left
        simp [hji]
end
section
theorem mx_sv0 {md : Bool} {t : Nat × Nat} {k : Nat} {x : Int32} (h : t.1 = 0) : mx_sv md t k x = .int x := by
  obtain ⟨a, b⟩ := t
  have h : a = 0 := h
  subst h
  rfl
theorem mx_sv1 {t : Nat × Nat} {k a : Nat} {x : Int32} (h : t.1 = 1) (hx : x.toNatClampNeg = a) : mx_sv true t k x = .ref a := by
  obtain ⟨a, b⟩ := t
  have h : a = 1 := h
  subst h
  show Value.ref x.toNatClampNeg = _
  rw [hx]
theorem mx_svN {t : Nat × Nat} {k : Nat} {x : Int32} {v : Value} (h : t.1 ≠ 0) (hv : mx_rv x = v) : mx_sv false t k x = v := by
  obtain ⟨a, b⟩ := t
  match a, h with
  | 0, h => exact absurd rfl h
  | 1, _ => exact hv
  | 2, _ => exact hv
  | n + 3, _ => exact hv
theorem mx_cell.kept {G : Gt} {md : Bool} {k : Nat} {r : Nat → Int32} {H H1 : Heap} (h : mx_cell G md k r H) (hq : H1[G.1.size + k]? = H[G.1.size + k]?) : mx_cell G md k r H1 := by
  unfold mx_cell at h ⊢
  split at h
  · rename_i h1
    rw [if_pos h1]
    exact h.kept hq
  · rename_i h1
    rw [if_neg h1]
    exact hq.trans h
theorem mx_H.put {G : Gt} {md : Bool} {n k : Nat} {M M' : Mm} {H H1 : Heap} (hH : mx_H G md n M H) (hM : ∀ q, q ≠ k → M' q = M q) (hz : H1.size = H.size) (ho : ∀ q, q ≠ G.1.size + k → H1[q]? = H[q]?) (hc : mx_cell G md k (M' k) H1) : mx_H G md n M' H1 := by
  obtain ⟨h1, h2, h3, h4, h5⟩ := hH
  refine ⟨hz.trans h1, h2, h3, fun q hq => (ho q (by omega)).trans (h4 q hq), fun q hq => ?_⟩
  by_cases e : q = k
  · subst e
    exact hc
  · rw [hM q e]
    exact (h5 q hq).kept (ho _ (by omega))
theorem mx_wr_ne {M : Mm} {k j q : Nat} {x : Int32} (h : q ≠ k) : mx_wr M k j x q = M q := by simp [mx_wr, h]
theorem mx_wr_self {M : Mm} {k j i : Nat} {x : Int32} : mx_wr M k j x k i = if i = j then x else M k i := by simp [mx_wr]
section MX
variable {p : Program} {l : Launch} {e : Env} {R : Room} {s : State} {m : MethodId} {args : Array Value} {below : List Frame} {meth : Method} {c : Code} {Q : State → Prop} {G : Gt} {md : Bool} {n0 nL o : Nat} {cc : ByteArray}
def mx_C (p : Program) (s : State) (m : MethodId) (args : Array Value) (meth : Method) (c : Code) (G : Gt) (md : Bool) (nL o : Nat) (cc : ByteArray) : Prop :=
  p.tables.exec = Jvm.exec ∧ c.code = cc ∧ c.maxLocals = nL ∧ s.vm.findClass (mx_rc o) = some m.cls ∧ (∀ w ∈ gw, w.before args s = true) ∧ mx_K G s ∧ (md = false → meth.name = "<init>") ∧ meth.locks = false
def mx_X (p : Program) (l : Launch) (e : Env) (R : Room) (s : State) (m : MethodId) (args : Array Value) (below : List Frame) (meth : Method) (c : Code) (Q : State → Prop) (G : Gt) (md : Bool) (n0 nL : Nat) (n : Nat) (M : Mm) (pc : Nat) (L : Lv) (S : Sk) : Prop :=
  L.length = nL → n0 ≤ n → ∀ (H : Heap) (locs : List Loc) (ls : Array Slot), mx_H G md n M H → (∀ q ∈ locs, G.1.size ≤ q.base) → lv_has ls nL (mx_al G 0 L) → W p l e R s m args below meth c H locs (n - n0) (mx_sz n - mx_sz n0) Q (F0 m pc ls (S.map (mx_cv G)))
theorem mx_p1_inv {S : Sk} {K : Int32 → Sk → Prop} (h : mx_p1 S K) : ∃ x r, S = .int x :: r ∧ K x r := by
  unfold mx_p1 at h
  split at h
  · exact ⟨_, _, rfl, h⟩
  · exact h.elim
theorem mx_p2_inv {S : Sk} {K : Int32 → Int32 → Sk → Prop} (h : mx_p2 S K) : ∃ x y r, S = .int y :: .int x :: r ∧ K x y r := by
  unfold mx_p2 at h
  split at h
  · exact ⟨_, _, _, rfl, h⟩
  · exact h.elim
theorem mx_l1_inv {S : Sk} {K : Int64 → Sk → Prop} (h : mx_l1 S K) : ∃ x r, S = .long x :: r ∧ K x r := by
  unfold mx_l1 at h
  split at h
  · exact ⟨_, _, rfl, h⟩
  · exact h.elim
theorem mx_l2_inv {S : Sk} {K : Int64 → Int64 → Sk → Prop} (h : mx_l2 S K) : ∃ x y r, S = .long y :: .long x :: r ∧ K x y r := by
  unfold mx_l2 at h
  split at h
  · exact ⟨_, _, _, rfl, h⟩
  · exact h.elim
theorem mx_pr_inv {S : Sk} {K : Nat → Sk → Prop} (h : mx_pr S K) : ∃ x r, S = .ref x :: r ∧ K x r := by
  unfold mx_pr at h
  split at h
  · exact ⟨_, _, rfl, h⟩
  · exact h.elim
theorem mx_pa_inv {S : Sk} {K : Nat → Int32 → Sk → Prop} (h : mx_pa S K) : ∃ k i r, S = .int i :: .ref k :: r ∧ K k i r := by
  unfold mx_pa at h
  split at h
  · exact ⟨_, _, _, rfl, h⟩
  · exact h.elim
theorem mx_pb_inv {S : Sk} {K : Nat → Int32 → Int32 → Sk → Prop} (h : mx_pb S K) : ∃ k i x r, S = .int x :: .int i :: .ref k :: r ∧ K k i x r := by
  unfold mx_pb at h
  split at h
  · exact ⟨_, _, _, _, rfl, h⟩
  · exact h.elim
theorem mx_lat {ls : Array Slot} {nL i : Nat} {L : Lv} {v : Value} (h : lv_has ls nL (mx_al G 0 L)) (hv : L[i]? = some (some v)) : ls[i]? = some (.val (mx_cv G v)) := by
  have := h.2.2 _ (mx_al_mem (G := G) L 0 i v hv)
  simpa using this
theorem mx_getf {pc q c1 j k n : Nat} {M : Mm} {L : Lv} {r : Sk} (C : mx_C p s m args meth c G md nL o cc) (hd : decode cc pc = .ok (.getfield q, 3)) (hq : (o, q, c1, j) ∈ mx_fl ∨ (o, q, c1, j) ∈ mx_fn) (hi : mx_in md c1 k n) (K : mx_X p l e R s m args below meth c Q G md n0 nL n M (pc + 3) L (mx_sv md (ft c1 j) k (M k j) :: r)) : mx_X p l e R s m args below meth c Q G md n0 nL n M pc L (.ref k :: r) := by
  intro hL hn H locs ls hH hlo hls
  obtain ⟨hx, hb, hml, ho, hts, hK, -⟩ := C
  have hcj : c1 < 9 ∧ j < mx_nf.getD c1 0 := by
    rcases hq with hq | hq
    · exact mx_flj _ hq
    · exact ⟨(mx_fnj _ hq).1, (mx_fnj _ hq).2.1⟩
  obtain ⟨hk, hkc⟩ := mx_lt hH hi (by omega)
  have hcell := hH.2.2.2.2 k hk
  unfold mx_cell at hcell
  rw [if_pos (by omega), hkc] at hcell
  obtain ⟨cell, q1, q2, q3, q4⟩ := hcell
  obtain ⟨vr, hvr⟩ := mx_vw hcj.1
  obtain ⟨-, -, hN, hin, -, -⟩ := mx_cls c1 vr hvr
  obtain ⟨hS, hfc, kC, hkC, hkind⟩ := hK.1.1 c1 _ hvr
  have hj : j < vr.2.2 := by rw [hN]; exact hcj.2
  obtain ⟨cf, kf, fi, f, hif, hsl⟩ := hS j hj
  have h2 : (kd k).2 = mx_nf.getD c1 0 := by rw [← mx_kd9 k (mx_kdlt (by omega)) (by omega), hkc]
  have hslot : cell.slots[f.slot]? = some (mx_cv G (mx_sv md (ft c1 j) k (M k j))) := by
    rw [hsl]
    exact q4 j (by rw [h2]; exact hcj.2)
  have hst := (u_facts hfc hkC (u_lays hts hin hj) hif).1
  have hz : mx_ad G k = G.1.size + k := mx_adk hH hk
  rw [← hz] at q1
  rcases hq with hq | hq
  · have hw := hts _ (mx_fl_in _ hq)
    simp only [mx_wfl, hvr] at hw
    exact W.getf hx hb ho hw hif hst q1 (by rw [q3]; exact fun h => by cases h) hslot rfl rfl hd (K hL hn H locs ls hH hlo hls)
  · have hw := hK.2.1 _ (mx_fnj _ hq).2.2
    simp only [mx_wfn, hvr] at hw
    exact va_Wgetf hx hb ho (va_Nw.use rfl hw) hif hst q1 (by rw [q3]; exact fun h => by cases h) hslot rfl rfl hd (K hL hn H locs ls hH hlo hls)
def mx_finb (q : Nat × Nat × Nat × Nat) : Bool := match vwCl[q.2.2.1]? with
  | some r => ((r.2.1 q.2.2.2).2.2.2 == decide (2 ≤ (ft q.2.2.1 q.2.2.2).1)) && ((r.2.1 q.2.2.2).1 == r.1)
  | none => false
theorem mx_fin : ∀ q ∈ mx_fl, mx_finb q = true := by decide +kernel
def mx_isr (t : FieldType) : Bool := match t with
  | .object _ => true
  | .array _ => true
  | _ => false
theorem mx_tyq : ∀ q ∈ mx_fl, ((ft q.2.2.1 q.2.2.2).1 = 0 → mx_ty q.2.2.1 q.2.2.2 = .int ∨ mx_ty q.2.2.1 q.2.2.2 = .boolean) ∧ ((ft q.2.2.1 q.2.2.2).1 ≠ 0 → mx_isr (mx_ty q.2.2.1 q.2.2.2) = true) := by decide +kernel
theorem mx_isr_ok {t : FieldType} {a : Nat} (h : mx_isr t = true) : narrow t (.ref a) = .ref a ∧ fits t (.ref a) = true := by
  cases t <;> simp [mx_isr] at h <;> exact ⟨rfl, rfl⟩
theorem mx_bool {x : Int32} (h : narrow .boolean (.int x) = .int x) : x = 0 ∨ x = 1 := by
  have h1 : x &&& 1 = x := by simpa [narrow] using h
  obtain ⟨j, hj, e⟩ := pk_andE x (m := 1) 1 (by decide)
  rw [← h1, e]
  match j, hj with
  | 0, _ => exact Or.inl rfl
  | 1, _ => exact Or.inr rfl
theorem mx_putf {pc q c1 j k n : Nat} {M : Mm} {L : Lv} {r : Sk} {v : Value} {x : Int32} (C : mx_C p s m args meth c G md nL o cc) (hd : decode cc pc = .ok (.putfield q, 3)) (hq : (o, q, c1, j) ∈ mx_fl) (hf : (ft c1 j).1 < 2 ∨ o = c1 ∧ md = false) (hi : mx_in md c1 k n) (hv : mx_sv md (ft c1 j) k x = v) (hna : narrow (mx_ty c1 j) (mx_cv G v) = mx_cv G v) (hfi : fits (mx_ty c1 j) (mx_cv G v) = true) (K : mx_X p l e R s m args below meth c Q G md n0 nL n (mx_wr M k j x) (pc + 3) L r) : mx_X p l e R s m args below meth c Q G md n0 nL n M pc L (v :: .ref k :: r) := by
  intro hL hn H locs ls hH hlo hls
  obtain ⟨hx, hb, hml, ho, hts, hK, hini, -⟩ := C
  have hcj := mx_flj _ hq
  dsimp only at hcj
  obtain ⟨hk, hkc⟩ := mx_lt hH hi (by omega)
  have hcell := hH.2.2.2.2 k hk
  unfold mx_cell at hcell
  rw [if_pos (by omega), hkc] at hcell
  obtain ⟨cell, q1, q2, q3, q4⟩ := hcell
  obtain ⟨vr, hvr⟩ := mx_vw hcj.1
  obtain ⟨-, hrc, hN, hin, hnm, hty⟩ := mx_cls c1 vr hvr
  have hfin := mx_fin _ hq
  simp only [mx_finb, hvr, Bool.and_eq_true, beq_iff_eq] at hfin
  obtain ⟨hS, hfc, kC, hkC, hkind⟩ := hK.1.1 c1 _ hvr
  have hj : j < vr.2.2 := by rw [hN]; exact hcj.2
  have hap := va_apart (own := mx_rc o) hts hin (mx_ty c1) hty hnm hK.1 (show vwCl[c1]? = some (vr.1, vr.2.1, vr.2.2) from hvr)
  obtain ⟨cf, kf, fi, f, hif, hsl⟩ := hS j hj
  have h2 : (kd k).2 = mx_nf.getD c1 0 := by rw [← mx_kd9 k (mx_kdlt (by omega)) (by omega), hkc]
  rw [h2, ← hN] at q4
  have hst := (u_facts hfc hkC (u_lays hts hin hj) hif).1
  have hz : mx_ad G k = G.1.size + k := mx_adk hH hk
  rw [← hz] at q1
  have hw := hts _ (mx_fl_in _ hq)
  simp only [mx_wfl, hvr] at hw
  have hlay := hts _ (hin _ (u_in_lay hj))
  have fin : ∀ H' : Heap, H'[mx_ad G k]? = some (cell.setSlot f.slot (mx_cv G v)) → H'.size = H.size → (∀ q, q ≠ mx_ad G k → H'[q]? = H[q]?) → W p l e R s m args below meth c H' (locs ++ [⟨mx_ad G k, f.slot⟩]) (n - n0) (mx_sz n - mx_sz n0) Q (F0 m (pc + 3) ls (r.map (mx_cv G))) := by
    intro H' e1 e2 e3
    refine K hL hn H' _ ls (hH.put (k := k) (fun q hq => mx_wr_ne hq) e2 (fun q hq => e3 q (by rw [hz]; exact hq)) ?_) (fun q hq => ?_) hls
    · unfold mx_cell
      rw [if_pos (by omega), hkc, h2, ← hN]
      rw [hsl, hz] at e1
      refine t_OB.to (V := updV (fun j => mx_cv G (mx_sv md (ft c1 j) k (M k j))) j (mx_cv G v)) ⟨_, e1, q2, q3, t_set q4 hap hj _⟩ (fun i hi => ?_)
      by_cases hij : i = j
      · subst hij
        rw [mx_wr_self]
        simp [updV, hv]
      · rw [mx_wr_self]
        simp [updV, hij]
    · rcases List.mem_append.mp hq with h | h
      · exact hlo q h
      · rw [List.mem_singleton.mp h]
        show G.1.size ≤ mx_ad G k
        omega
  by_cases hf2 : (ft c1 j).1 < 2
  · unfold u_lay at hlay
    rw [if_neg (by rw [hfin.1]; simp; omega)] at hlay
    have h6 := u_store hfc hkC hkind hlay hif (hty j hj) hna hfi
    exact W.putK hx hb (f := f) ⟨ho, hw, ⟨_, _, _, hif⟩, hst⟩ (by rw [q2]; exact h6) q1 q3 (by rw [hsl]; exact k2_hasslot (q4 j hj)) rfl rfl hd fin
  · obtain ⟨hoc, hmd⟩ := hf.resolve_left hf2
    unfold u_lay at hlay
    rw [if_pos (by rw [hfin.1]; simp; omega)] at hlay
    have hcf : m.cls = cf := by
      obtain ⟨_, _, c', _, _, _, -, -, hf', -, -, -, hown2, -⟩ := Cond.laysFinal_spec hlay
      have e1 : c' = cf := by have := hif.symm.trans hf'; simp at this; exact this.1.symm
      rw [hfin.2, hrc, ← hoc] at hown2
      rw [← e1]; exact Option.some.inj (ho.symm.trans hown2)
    have h6 := u_fits hfc hkC hkind (Or.inr hlay) hif (hty j hj) hna hfi
    exact W.putFinK hx hb ho hw hif hst hcf (hini hmd) (by rw [q2]; exact h6) q1 q3 (by rw [hsl]; exact k2_hasslot (q4 j hj)) rfl rfl hd fin
end MX
end
section
section MX
variable {p : Program} {l : Launch} {e : Env} {R : Room} {s : State} {m : MethodId} {args : Array Value} {below : List Frame} {meth : Method} {c : Code} {Q : State → Prop} {G : Gt} {md : Bool} {n0 nL o : Nat} {cc : ByteArray}
theorem mx_arr {n c1 k : Nat} {M : Mm} {H : Heap} (hH : mx_H G md n M H) (hi : mx_in md c1 k n) (h9 : 9 ≤ c1) (h17 : c1 < 17) : k < n ∧ (kd k).1 = c1 ∧ H[mx_ad G k]? = some (arrV (G.2.2.1 c1) (kd k).2 (fun j => mx_cv G (mx_ev md c1 k j (M k j)))) := by
  obtain ⟨hk, hkc⟩ := mx_lt hH hi (by omega)
  have hcell := hH.2.2.2.2 k hk
  unfold mx_cell at hcell
  rw [if_neg (by omega), hkc] at hcell
  rw [mx_adk hH hk]
  exact ⟨hk, hkc, hcell⟩
theorem mx_iald {pc k n : Nat} {M : Mm} {L : Lv} {r : Sk} {i : Int32} (C : mx_C p s m args meth c G md nL o cc) (hd : decode cc pc = .ok (.iaload, 1)) (hi : mx_in md 11 k n) (hr : vp_in i (kd k).2) (K : mx_X p l e R s m args below meth c Q G md n0 nL n M (pc + 1) L (.int (M k i.toNatClampNeg) :: r)) : mx_X p l e R s m args below meth c Q G md n0 nL n M pc L (.int i :: .ref k :: r) := by
  intro hL hn H locs ls hH hlo hls
  obtain ⟨hx, hb, hml, ho, hts, hK, -⟩ := C
  obtain ⟨hk, hkc, hcell⟩ := mx_arr hH hi (by decide) (by decide)
  have hlt : i.toNatClampNeg < (kd k).2 := Nat.not_le.mp fun q => hr (Or.inr q)
  exact W.iald (v := .int (M k i.toNatClampNeg)) hx hb hcell ((hK.1.2 2 _ rfl).1 _ _) (fun q => by cases q) (by rw [arrV_size]; exact hr) (by rw [arrV_read _ _ hlt]; rfl) rfl rfl hd (K hL hn H locs ls hH hlo hls)
theorem mx_bald {pc k n : Nat} {M : Mm} {L : Lv} {r : Sk} {i : Int32} (C : mx_C p s m args meth c G md nL o cc) (hd : decode cc pc = .ok (.baload, 1)) (hi : mx_in md 9 k n) (hr : vp_in i (kd k).2) (K : mx_X p l e R s m args below meth c Q G md n0 nL n M (pc + 1) L (.int (M k i.toNatClampNeg) :: r)) : mx_X p l e R s m args below meth c Q G md n0 nL n M pc L (.int i :: .ref k :: r) := by
  intro hL hn H locs ls hH hlo hls
  obtain ⟨hx, hb, hml, ho, hts, hK, -⟩ := C
  obtain ⟨hk, hkc, hcell⟩ := mx_arr hH hi (by decide) (by decide)
  have hlt : i.toNatClampNeg < (kd k).2 := Nat.not_le.mp fun q => hr (Or.inr q)
  exact W.bald (v := .int (M k i.toNatClampNeg)) hx hb hcell ((hK.1.2 0 _ rfl).1 _ _) (fun q => by cases q) (by rw [arrV_size]; exact hr) (by rw [arrV_read _ _ hlt]; rfl) rfl rfl hd (K hL hn H locs ls hH hlo hls)
theorem mx_cald {pc k n : Nat} {M : Mm} {L : Lv} {r : Sk} {i : Int32} (C : mx_C p s m args meth c G md nL o cc) (hd : decode cc pc = .ok (.caload, 1)) (hi : mx_in md 10 k n) (hr : vp_in i (kd k).2) (K : mx_X p l e R s m args below meth c Q G md n0 nL n M (pc + 1) L (.int (M k i.toNatClampNeg) :: r)) : mx_X p l e R s m args below meth c Q G md n0 nL n M pc L (.int i :: .ref k :: r) := by
  intro hL hn H locs ls hH hlo hls
  obtain ⟨hx, hb, hml, ho, hts, hK, -⟩ := C
  obtain ⟨hk, hkc, hcell⟩ := mx_arr hH hi (by decide) (by decide)
  have hlt : i.toNatClampNeg < (kd k).2 := Nat.not_le.mp fun q => hr (Or.inr q)
  exact W.cald (v := .int (M k i.toNatClampNeg)) hx hb hcell ((hK.1.2 1 _ rfl).1 _ _) (fun q => by cases q) (by rw [arrV_size]; exact hr) (by rw [arrV_read _ _ hlt]; rfl) rfl rfl hd (K hL hn H locs ls hH hlo hls)
theorem mx_zald {pc k n : Nat} {M : Mm} {L : Lv} {r : Sk} {i : Int32} (C : mx_C p s m args meth c G md nL o cc) (hd : decode cc pc = .ok (.baload, 1)) (hi : mx_in md 12 k n) (hr : vp_in i (kd k).2) (K : mx_X p l e R s m args below meth c Q G md n0 nL n M (pc + 1) L (.int (M k i.toNatClampNeg) :: r)) : mx_X p l e R s m args below meth c Q G md n0 nL n M pc L (.int i :: .ref k :: r) := by
  intro hL hn H locs ls hH hlo hls
  obtain ⟨hx, hb, hml, ho, hts, hK, -⟩ := C
  obtain ⟨hk, hkc, hcell⟩ := mx_arr hH hi (by decide) (by decide)
  have hlt : i.toNatClampNeg < (kd k).2 := Nat.not_le.mp fun q => hr (Or.inr q)
  exact W.zald (v := .int (M k i.toNatClampNeg)) hx hb hcell ((hK.1.2 3 _ rfl).1 _ _) (fun q => by cases q) (by rw [arrV_size]; exact hr) (by rw [arrV_read _ _ hlt]; rfl) rfl rfl hd (K hL hn H locs ls hH hlo hls)
theorem mx_iast {pc k n : Nat} {M : Mm} {L : Lv} {r : Sk} {i x : Int32} (C : mx_C p s m args meth c G md nL o cc) (hd : decode cc pc = .ok (.iastore, 1)) (hi : mx_in md 11 k n) (hr : vp_in i (kd k).2) (K : mx_X p l e R s m args below meth c Q G md n0 nL n (mx_wr M k i.toNatClampNeg x) (pc + 1) L r) : mx_X p l e R s m args below meth c Q G md n0 nL n M pc L (.int x :: .int i :: .ref k :: r) := by
  intro hL hn H locs ls hH hlo hls
  obtain ⟨hx, hb, hml, ho, hts, hK, -⟩ := C
  obtain ⟨hk, hkc, hcell⟩ := mx_arr hH hi (by decide) (by decide)
  have hz : mx_ad G k = G.1.size + k := mx_adk hH hk
  refine W.iast hx hb hcell ((hK.1.2 2 _ rfl).1 _ _) (fun q => by cases q) (by rw [arrV_size]; exact hr) rfl rfl hd fun H1 e z oq => ?_
  refine K hL hn H1 _ ls (hH.put (k := k) (fun q hq => mx_wr_ne hq) z (fun q hq => oq q (by rw [hz]; exact hq)) ?_) (fun q hq => ?_) hls
  · unfold mx_cell
    rw [if_neg (by omega), hkc]
    rw [arrV_store, hz] at e
    rw [e]
    congr 2
    funext q
    rw [mx_wr_self]
    by_cases hq : q = i.toNatClampNeg
    · subst hq
      simp [updV, mx_ev, mx_cv, vp_nar]
      try rfl
    · simp [updV, hq]
  · rcases List.mem_append.mp hq with h | h
    · exact hlo q h
    · rw [List.mem_singleton.mp h]
      show G.1.size ≤ mx_ad G k
      omega
theorem mx_bast {pc k n : Nat} {M : Mm} {L : Lv} {r : Sk} {i x : Int32} (C : mx_C p s m args meth c G md nL o cc) (hd : decode cc pc = .ok (.bastore, 1)) (hi : mx_in md 9 k n) (hr : vp_in i (kd k).2) (K : mx_X p l e R s m args below meth c Q G md n0 nL n (mx_wr M k i.toNatClampNeg (vp_nar .byte x)) (pc + 1) L r) : mx_X p l e R s m args below meth c Q G md n0 nL n M pc L (.int x :: .int i :: .ref k :: r) := by
  intro hL hn H locs ls hH hlo hls
  obtain ⟨hx, hb, hml, ho, hts, hK, -⟩ := C
  obtain ⟨hk, hkc, hcell⟩ := mx_arr hH hi (by decide) (by decide)
  have hz : mx_ad G k = G.1.size + k := mx_adk hH hk
  refine W.bast hx hb hcell ((hK.1.2 0 _ rfl).1 _ _) (fun q => by cases q) (by rw [arrV_size]; exact hr) rfl rfl hd fun H1 e z oq => ?_
  refine K hL hn H1 _ ls (hH.put (k := k) (fun q hq => mx_wr_ne hq) z (fun q hq => oq q (by rw [hz]; exact hq)) ?_) (fun q hq => ?_) hls
  · unfold mx_cell
    rw [if_neg (by omega), hkc]
    rw [arrV_store, hz] at e
    rw [e]
    congr 2
    funext q
    rw [mx_wr_self]
    by_cases hq : q = i.toNatClampNeg
    · subst hq
      simp [updV, mx_ev, mx_cv, vp_nar]
      try rfl
    · simp [updV, hq]
  · rcases List.mem_append.mp hq with h | h
    · exact hlo q h
    · rw [List.mem_singleton.mp h]
      show G.1.size ≤ mx_ad G k
      omega
theorem mx_cast {pc k n : Nat} {M : Mm} {L : Lv} {r : Sk} {i x : Int32} (C : mx_C p s m args meth c G md nL o cc) (hd : decode cc pc = .ok (.castore, 1)) (hi : mx_in md 10 k n) (hr : vp_in i (kd k).2) (K : mx_X p l e R s m args below meth c Q G md n0 nL n (mx_wr M k i.toNatClampNeg (vp_nar .char x)) (pc + 1) L r) : mx_X p l e R s m args below meth c Q G md n0 nL n M pc L (.int x :: .int i :: .ref k :: r) := by
  intro hL hn H locs ls hH hlo hls
  obtain ⟨hx, hb, hml, ho, hts, hK, -⟩ := C
  obtain ⟨hk, hkc, hcell⟩ := mx_arr hH hi (by decide) (by decide)
  have hz : mx_ad G k = G.1.size + k := mx_adk hH hk
  refine W.cast hx hb hcell ((hK.1.2 1 _ rfl).1 _ _) (fun q => by cases q) (by rw [arrV_size]; exact hr) rfl rfl hd fun H1 e z oq => ?_
  refine K hL hn H1 _ ls (hH.put (k := k) (fun q hq => mx_wr_ne hq) z (fun q hq => oq q (by rw [hz]; exact hq)) ?_) (fun q hq => ?_) hls
  · unfold mx_cell
    rw [if_neg (by omega), hkc]
    rw [arrV_store, hz] at e
    rw [e]
    congr 2
    funext q
    rw [mx_wr_self]
    by_cases hq : q = i.toNatClampNeg
    · subst hq
      simp [updV, mx_ev, mx_cv, vp_nar]
      try rfl
    · simp [updV, hq]
  · rcases List.mem_append.mp hq with h | h
    · exact hlo q h
    · rw [List.mem_singleton.mp h]
      show G.1.size ≤ mx_ad G k
      omega
theorem mx_zast {pc k n : Nat} {M : Mm} {L : Lv} {r : Sk} {i x : Int32} (C : mx_C p s m args meth c G md nL o cc) (hd : decode cc pc = .ok (.bastore, 1)) (hi : mx_in md 12 k n) (hr : vp_in i (kd k).2) (K : mx_X p l e R s m args below meth c Q G md n0 nL n (mx_wr M k i.toNatClampNeg (vp_nar .boolean x)) (pc + 1) L r) : mx_X p l e R s m args below meth c Q G md n0 nL n M pc L (.int x :: .int i :: .ref k :: r) := by
  intro hL hn H locs ls hH hlo hls
  obtain ⟨hx, hb, hml, ho, hts, hK, -⟩ := C
  obtain ⟨hk, hkc, hcell⟩ := mx_arr hH hi (by decide) (by decide)
  have hz : mx_ad G k = G.1.size + k := mx_adk hH hk
  refine W.zast hx hb hcell ((hK.1.2 3 _ rfl).1 _ _) (fun q => by cases q) (by rw [arrV_size]; exact hr) rfl rfl hd fun H1 e z oq => ?_
  refine K hL hn H1 _ ls (hH.put (k := k) (fun q hq => mx_wr_ne hq) z (fun q hq => oq q (by rw [hz]; exact hq)) ?_) (fun q hq => ?_) hls
  · unfold mx_cell
    rw [if_neg (by omega), hkc]
    rw [arrV_store, hz] at e
    rw [e]
    congr 2
    funext q
    rw [mx_wr_self]
    by_cases hq : q = i.toNatClampNeg
    · subst hq
      simp [updV, mx_ev, mx_cv, vp_nar]
      try rfl
    · simp [updV, hq]
  · rcases List.mem_append.mp hq with h | h
    · exact hlo q h
    · rw [List.mem_singleton.mp h]
      show G.1.size ≤ mx_ad G k
      omega
theorem mx_tyA {c1 : Nat} (h9 : 9 ≤ c1) (h17 : c1 < 17) (hK : mx_K G s) : ∃ ty, ArrOfT s (G.2.2.1 c1) ty ∧ (13 ≤ c1 → ty.isReference = true) := by
  rcases (show c1 = 9 ∨ c1 = 10 ∨ c1 = 11 ∨ c1 = 12 ∨ c1 = 13 ∨ c1 = 14 ∨ c1 = 15 ∨ c1 = 16 by omega) with rfl | rfl | rfl | rfl | rfl | rfl | rfl | rfl
  · exact ⟨_, (hK.1.2 0 _ rfl).1, fun h => absurd h (by decide)⟩
  · exact ⟨_, (hK.1.2 1 _ rfl).1, fun h => absurd h (by decide)⟩
  · exact ⟨_, (hK.1.2 2 _ rfl).1, fun h => absurd h (by decide)⟩
  · exact ⟨_, (hK.1.2 3 _ rfl).1, fun h => absurd h (by decide)⟩
  · exact ⟨_, (hK.1.2 4 _ rfl).1, fun h => rfl⟩
  · exact ⟨_, (hK.1.2 5 _ rfl).1, fun h => rfl⟩
  · exact ⟨_, (hK.1.2 6 _ rfl).1, fun h => rfl⟩
  · exact ⟨_, (hK.1.2 7 _ rfl).1, fun h => rfl⟩
theorem mx_aald {pc k n c1 : Nat} {M : Mm} {L : Lv} {r : Sk} {i : Int32} (C : mx_C p s m args meth c G md nL o cc) (hd : decode cc pc = .ok (.aaload, 1)) (h13 : 13 ≤ c1 ∧ c1 < 17 ∧ md = true) (hi : mx_in md c1 k n) (hr : vp_in i (kd k).2) (K : mx_X p l e R s m args below meth c Q G md n0 nL n M (pc + 1) L (.ref (mx_el c1 k i.toNatClampNeg) :: r)) : mx_X p l e R s m args below meth c Q G md n0 nL n M pc L (.int i :: .ref k :: r) := by
  intro hL hn H locs ls hH hlo hls
  obtain ⟨hx, hb, hml, ho, hts, hK, -⟩ := C
  obtain ⟨h13, h17, rfl⟩ := h13
  obtain ⟨hk, hkc, hcell⟩ := mx_arr hH hi (by omega) h17
  obtain ⟨ty, hty, hir⟩ := mx_tyA (by omega) h17 hK
  have hlt : i.toNatClampNeg < (kd k).2 := Nat.not_le.mp fun q => hr (Or.inr q)
  exact W.aald (v := mx_cv G (.ref (mx_el c1 k i.toNatClampNeg))) hx hb hcell (hty _ _) (hir h13) (fun q => by cases q) (by rw [arrV_size]; exact hr) (by rw [arrV_read _ _ hlt]; simp [mx_ev, show ¬ c1 < 13 by omega]) rfl rfl hd (K hL hn H locs ls hH hlo hls)
theorem mx_alen {pc k n : Nat} {M : Mm} {L : Lv} {r : Sk} (C : mx_C p s m args meth c G md nL o cc) (hd : decode cc pc = .ok (.arraylength, 1)) (hi : ∃ c1, 9 ≤ c1 ∧ c1 < 17 ∧ mx_in md c1 k n) (K : mx_X p l e R s m args below meth c Q G md n0 nL n M (pc + 1) L (.int (nI (kd k).2) :: r)) : mx_X p l e R s m args below meth c Q G md n0 nL n M pc L (.ref k :: r) := by
  intro hL hn H locs ls hH hlo hls
  obtain ⟨hx, hb, hml, ho, hts, hK, -⟩ := C
  obtain ⟨c1, h9, h17, hi⟩ := hi
  obtain ⟨hk, hkc, hcell⟩ := mx_arr hH hi h9 h17
  obtain ⟨ty, hty, hir⟩ := mx_tyA h9 h17 hK
  exact W.alen (n := nI (kd k).2) hx hb hcell (hty _ _) (by rw [arrV_size]; rfl) rfl rfl hd (K hL hn H locs ls hH hlo hls)
end MX
end
section
section MX
variable {p : Program} {l : Launch} {e : Env} {R : Room} {s : State} {m : MethodId} {args : Array Value} {below : List Frame} {meth : Method} {c : Code} {Q : State → Prop} {G : Gt} {md : Bool} {n0 nL o : Nat} {cc : ByteArray}
theorem mx_setL {L : Lv} {i nL : Nat} {v : Option Value} (h : L.length = nL) : (L.set i v).length = nL := by rw [List.length_set]; exact h
/-- one instruction -/
theorem mx_one {n pc len : Nat} {M : Mm} {L : Lv} {S : Sk} {w : Instr} {a : Ai} (C : mx_C p s m args meth c G md nL o cc) (hd : decode cc pc = .ok (w, len)) (hok : mx_ok o w a = true) (h : mx_i md a n M L S (fun n' M' L' S' => mx_X p l e R s m args below meth c Q G md n0 nL n' M' (pc + len) L' S')) : len = mx_len w → mx_X p l e R s m args below meth c Q G md n0 nL n M pc L S := by
  intro hlen
  obtain ⟨hx, hb, hml, ho, hts, hK, hini, hlk⟩ := id C
  cases w <;> first | exact Bool.noConfusion (show false = true from hok) | skip
  case iconst v =>
    simp only [mx_ok, decide_eq_true_eq] at hok
    subst hok
    subst hlen
    intro hL hn H locs ls hH hlo hls
    exact lv_iconst hx hb hd rfl (h hL hn H locs ls hH hlo hls)
  case bipush v =>
    simp only [mx_ok, decide_eq_true_eq] at hok
    subst hok
    subst hlen
    intro hL hn H locs ls hH hlo hls
    exact lv_bipush hx hb hd rfl (h hL hn H locs ls hH hlo hls)
  case sipush v =>
    simp only [mx_ok, decide_eq_true_eq] at hok
    subst hok
    subst hlen
    intro hL hn H locs ls hH hlo hls
    exact lv_sipush hx hb hd rfl (h hL hn H locs ls hH hlo hls)
  case lconst v =>
    simp only [mx_ok, decide_eq_true_eq] at hok
    subst hok
    subst hlen
    intro hL hn H locs ls hH hlo hls
    exact lv_lconst hx hb hd rfl (h hL hn H locs ls hH hlo hls)
  case aconst_null =>
    simp only [mx_ok, decide_eq_true_eq] at hok
    subst hok
    subst hlen
    intro hL hn H locs ls hH hlo hls
    exact lv_null hx hb hd (h hL hn H locs ls hH hlo hls)
  case ldc q =>
    simp only [mx_ok] at hok
    split at hok
    · rename_i v
      subst hlen
      have hq := List.contains_iff_mem.mp hok
      intro hL hn H locs ls hH hlo hls
      exact lv_ldc hx hb ho (hts _ (mx_ct_in _ hq)) hd (h hL hn H locs ls hH hlo hls)
    · cases hok
  case ldc_w q =>
    simp only [mx_ok] at hok
    split at hok
    · rename_i v
      subst hlen
      have hq := List.contains_iff_mem.mp hok
      intro hL hn H locs ls hH hlo hls
      exact lv_ldcw hx hb ho (hts _ (mx_ct_in _ hq)) hd (h hL hn H locs ls hH hlo hls)
    · cases hok
  case iload j =>
    simp only [mx_ok, decide_eq_true_eq] at hok
    subst hok
    subst hlen
    obtain ⟨v, h1, h2⟩ := mx_get_inv h
    cases v <;> first | exact h2.elim | skip
    intro hL hn H locs ls hH hlo hls
    exact lv_iload hx hb hd (mx_lat hls h1) (h2 hL hn H locs ls hH hlo hls)
  case iload_n j =>
    simp only [mx_ok, decide_eq_true_eq] at hok
    subst hok
    subst hlen
    obtain ⟨v, h1, h2⟩ := mx_get_inv h
    cases v <;> first | exact h2.elim | skip
    intro hL hn H locs ls hH hlo hls
    exact lv_iload_n hx hb hd rfl (mx_lat hls h1) (h2 hL hn H locs ls hH hlo hls)
  case lload j =>
    simp only [mx_ok, decide_eq_true_eq] at hok
    subst hok
    subst hlen
    obtain ⟨v, h1, h2⟩ := mx_get_inv h
    cases v <;> first | exact h2.elim | skip
    intro hL hn H locs ls hH hlo hls
    exact lv_lload hx hb hd (mx_lat hls h1) (h2 hL hn H locs ls hH hlo hls)
  case lload_n j =>
    simp only [mx_ok, decide_eq_true_eq] at hok
    subst hok
    subst hlen
    obtain ⟨v, h1, h2⟩ := mx_get_inv h
    cases v <;> first | exact h2.elim | skip
    intro hL hn H locs ls hH hlo hls
    exact lv_lload_n hx hb hd rfl (mx_lat hls h1) (h2 hL hn H locs ls hH hlo hls)
  case aload j =>
    simp only [mx_ok, decide_eq_true_eq] at hok
    subst hok
    subst hlen
    obtain ⟨v, h1, h2⟩ := mx_get_inv h
    cases v <;> first | exact h2.elim | skip
    · intro hL hn H locs ls hH hlo hls
      exact lv_aloadN hx hb hd (mx_lat hls h1) (h2 hL hn H locs ls hH hlo hls)
    · intro hL hn H locs ls hH hlo hls
      exact lv_aload hx hb hd (mx_lat hls h1) (h2 hL hn H locs ls hH hlo hls)
  case aload_n j =>
    simp only [mx_ok, decide_eq_true_eq] at hok
    subst hok
    subst hlen
    obtain ⟨v, h1, h2⟩ := mx_get_inv h
    cases v <;> first | exact h2.elim | skip
    · intro hL hn H locs ls hH hlo hls
      exact lv_aload_nN hx hb hd rfl (mx_lat hls h1) (h2 hL hn H locs ls hH hlo hls)
    · intro hL hn H locs ls hH hlo hls
      exact lv_aload_n hx hb hd rfl (mx_lat hls h1) (h2 hL hn H locs ls hH hlo hls)
  case istore j =>
    simp only [mx_ok, decide_eq_true_eq] at hok
    subst hok
    subst hlen
    obtain ⟨x, r, rfl, h⟩ := mx_p1_inv h
    obtain ⟨h1, h2, h3⟩ := mx_set_inv h
    intro hL hn H locs ls hH hlo hls
    exact lv_istore hx hb hd hls (by rw [← hL]; exact h1) rfl (fun ls2 hl2 => h3 (mx_setL hL) hn H locs ls2 hH hlo (mx_store1 (v := .int x) hl2 h2))
  case istore_n j =>
    simp only [mx_ok, decide_eq_true_eq] at hok
    subst hok
    subst hlen
    obtain ⟨x, r, rfl, h⟩ := mx_p1_inv h
    obtain ⟨h1, h2, h3⟩ := mx_set_inv h
    intro hL hn H locs ls hH hlo hls
    exact lv_istore_n hx hb hd rfl hls (by rw [← hL]; exact h1) rfl (fun ls2 hl2 => h3 (mx_setL hL) hn H locs ls2 hH hlo (mx_store1 (v := .int x) hl2 h2))
  case astore j =>
    simp only [mx_ok, decide_eq_true_eq] at hok
    subst hok
    subst hlen
    dsimp only [mx_i] at h
    split at h
    · rename_i x r
      obtain ⟨h1, h2, h3⟩ := mx_set_inv h
      intro hL hn H locs ls hH hlo hls
      exact lv_astore hx hb hd hls (by rw [← hL]; exact h1) rfl (fun ls2 hl2 => h3 (mx_setL hL) hn H locs ls2 hH hlo (mx_store1 (v := .ref x) hl2 h2))
    · rename_i r
      obtain ⟨h1, h2, h3⟩ := mx_set_inv h
      intro hL hn H locs ls hH hlo hls
      exact lv_astoreN hx hb hd hls (by rw [← hL]; exact h1) rfl (fun ls2 hl2 => h3 (mx_setL hL) hn H locs ls2 hH hlo (mx_store1 (v := .null) hl2 h2))
    · exact h.elim
  case astore_n j =>
    simp only [mx_ok, decide_eq_true_eq] at hok
    subst hok
    subst hlen
    dsimp only [mx_i] at h
    split at h
    · rename_i x r
      obtain ⟨h1, h2, h3⟩ := mx_set_inv h
      intro hL hn H locs ls hH hlo hls
      exact lv_astore_n hx hb hd rfl hls (by rw [← hL]; exact h1) rfl (fun ls2 hl2 => h3 (mx_setL hL) hn H locs ls2 hH hlo (mx_store1 (v := .ref x) hl2 h2))
    · rename_i r
      obtain ⟨h1, h2, h3⟩ := mx_set_inv h
      intro hL hn H locs ls hH hlo hls
      exact lv_astore_nN hx hb hd rfl hls (by rw [← hL]; exact h1) rfl (fun ls2 hl2 => h3 (mx_setL hL) hn H locs ls2 hH hlo (mx_store1 (v := .null) hl2 h2))
    · exact h.elim
  case lstore j =>
    simp only [mx_ok, decide_eq_true_eq] at hok
    subst hok
    subst hlen
    obtain ⟨x, r, rfl, h⟩ := mx_l1_inv h
    obtain ⟨-, g2, g3⟩ := mx_set_inv h
    obtain ⟨h1, -, h3⟩ := mx_set_inv g3
    obtain ⟨-, -, h6⟩ := mx_set_inv h3
    rw [List.length_set] at h1
    rw [List.set_comm _ _ (by omega), List.set_set, List.set_comm _ _ (by omega)] at h6
    intro hL hn H locs ls hH hlo hls
    exact lv_lstore hx hb hd hls (by rw [← hL]; exact h1) rfl (fun ls2 hl2 => h6 (mx_setL (mx_setL hL)) hn H locs ls2 hH hlo (mx_store2 (v := .long x) hl2 g2))
  case lstore_n j =>
    simp only [mx_ok, decide_eq_true_eq] at hok
    subst hok
    subst hlen
    obtain ⟨x, r, rfl, h⟩ := mx_l1_inv h
    obtain ⟨-, g2, g3⟩ := mx_set_inv h
    obtain ⟨h1, -, h3⟩ := mx_set_inv g3
    obtain ⟨-, -, h6⟩ := mx_set_inv h3
    rw [List.length_set] at h1
    rw [List.set_comm _ _ (by omega), List.set_set, List.set_comm _ _ (by omega)] at h6
    intro hL hn H locs ls hH hlo hls
    exact lv_lstore_n hx hb hd rfl hls (by rw [← hL]; exact h1) rfl (fun ls2 hl2 => h6 (mx_setL (mx_setL hL)) hn H locs ls2 hH hlo (mx_store2 (v := .long x) hl2 g2))
  case iinc j d =>
    simp only [mx_ok, decide_eq_true_eq] at hok
    subst hok
    subst hlen
    obtain ⟨v, h1, h2⟩ := mx_get_inv h
    cases v <;> first | exact h2.elim | skip
    rename_i x
    obtain ⟨h3, h4, h5⟩ := mx_set_inv h2
    intro hL hn H locs ls hH hlo hls
    obtain ⟨k, hk⟩ := List.getElem?_of_mem (mx_al_mem (G := G) L 0 j _ h1)
    rw [Nat.zero_add] at hk
    exact lv_iinc hx hb hd hls hk rfl (by rw [← hL]; exact h3) rfl (fun ls2 hl2 => h5 (mx_setL hL) hn H locs ls2 hH hlo (mx_store1 (v := .int (x + Int32.ofInt d)) hl2 h4))
  case iadd =>
    simp only [mx_ok, decide_eq_true_eq] at hok
    subst hok
    subst hlen
    obtain ⟨x, y, r, rfl, h⟩ := mx_p2_inv h
    intro hL hn H locs ls hH hlo hls
    exact lv_iadd hx hb hd (h hL hn H locs ls hH hlo hls)
  case isub =>
    simp only [mx_ok, decide_eq_true_eq] at hok
    subst hok
    subst hlen
    obtain ⟨x, y, r, rfl, h⟩ := mx_p2_inv h
    intro hL hn H locs ls hH hlo hls
    exact lv_isub hx hb hd (h hL hn H locs ls hH hlo hls)
  case imul =>
    simp only [mx_ok, decide_eq_true_eq] at hok
    subst hok
    subst hlen
    obtain ⟨x, y, r, rfl, h⟩ := mx_p2_inv h
    intro hL hn H locs ls hH hlo hls
    exact lv_imul hx hb hd (h hL hn H locs ls hH hlo hls)
  case iand =>
    simp only [mx_ok, decide_eq_true_eq] at hok
    subst hok
    subst hlen
    obtain ⟨x, y, r, rfl, h⟩ := mx_p2_inv h
    intro hL hn H locs ls hH hlo hls
    exact lv_iand hx hb hd (h hL hn H locs ls hH hlo hls)
  case ior =>
    simp only [mx_ok, decide_eq_true_eq] at hok
    subst hok
    subst hlen
    obtain ⟨x, y, r, rfl, h⟩ := mx_p2_inv h
    intro hL hn H locs ls hH hlo hls
    exact lv_ior hx hb hd (h hL hn H locs ls hH hlo hls)
  case ishl =>
    simp only [mx_ok, decide_eq_true_eq] at hok
    subst hok
    subst hlen
    obtain ⟨x, y, r, rfl, h⟩ := mx_p2_inv h
    intro hL hn H locs ls hH hlo hls
    exact lv_ishl hx hb hd (h hL hn H locs ls hH hlo hls)
  case ishr =>
    simp only [mx_ok, decide_eq_true_eq] at hok
    subst hok
    subst hlen
    obtain ⟨x, y, r, rfl, h⟩ := mx_p2_inv h
    intro hL hn H locs ls hH hlo hls
    exact lv_ishr hx hb hd (h hL hn H locs ls hH hlo hls)
  case iushr =>
    simp only [mx_ok, decide_eq_true_eq] at hok
    subst hok
    subst hlen
    obtain ⟨x, y, r, rfl, h⟩ := mx_p2_inv h
    intro hL hn H locs ls hH hlo hls
    exact lv_iushr hx hb hd rfl (h hL hn H locs ls hH hlo hls)
  case idiv =>
    simp only [mx_ok, decide_eq_true_eq] at hok
    subst hok
    subst hlen
    obtain ⟨x, y, r, rfl, h0, h⟩ := mx_p2_inv h
    intro hL hn H locs ls hH hlo hls
    exact lv_idiv hx hb hd h0 (h hL hn H locs ls hH hlo hls)
  case irem =>
    simp only [mx_ok, decide_eq_true_eq] at hok
    subst hok
    subst hlen
    obtain ⟨x, y, r, rfl, h0, h⟩ := mx_p2_inv h
    intro hL hn H locs ls hH hlo hls
    exact lv_irem hx hb hd h0 (h hL hn H locs ls hH hlo hls)
  case ineg =>
    simp only [mx_ok, decide_eq_true_eq] at hok
    subst hok
    subst hlen
    obtain ⟨x, r, rfl, h⟩ := mx_p1_inv h
    intro hL hn H locs ls hH hlo hls
    exact lv_ineg hx hb hd (h hL hn H locs ls hH hlo hls)
  case i2l =>
    simp only [mx_ok, decide_eq_true_eq] at hok
    subst hok
    subst hlen
    obtain ⟨x, r, rfl, h⟩ := mx_p1_inv h
    intro hL hn H locs ls hH hlo hls
    exact lv_i2l hx hb hd rfl (h hL hn H locs ls hH hlo hls)
  case i2b =>
    simp only [mx_ok, decide_eq_true_eq] at hok
    subst hok
    subst hlen
    obtain ⟨x, r, rfl, h⟩ := mx_p1_inv h
    intro hL hn H locs ls hH hlo hls
    exact lv_i2b hx hb hd rfl (h hL hn H locs ls hH hlo hls)
  case i2s =>
    simp only [mx_ok, decide_eq_true_eq] at hok
    subst hok
    subst hlen
    obtain ⟨x, r, rfl, h⟩ := mx_p1_inv h
    intro hL hn H locs ls hH hlo hls
    exact lv_i2s hx hb hd rfl (h hL hn H locs ls hH hlo hls)
  case i2c =>
    simp only [mx_ok, decide_eq_true_eq] at hok
    subst hok
    subst hlen
    obtain ⟨x, r, rfl, h⟩ := mx_p1_inv h
    intro hL hn H locs ls hH hlo hls
    exact lv_i2c hx hb hd rfl (h hL hn H locs ls hH hlo hls)
  case l2i =>
    simp only [mx_ok, decide_eq_true_eq] at hok
    subst hok
    subst hlen
    obtain ⟨x, r, rfl, h⟩ := mx_l1_inv h
    intro hL hn H locs ls hH hlo hls
    exact lv_l2i hx hb hd rfl (h hL hn H locs ls hH hlo hls)
  case lneg =>
    simp only [mx_ok, decide_eq_true_eq] at hok
    subst hok
    subst hlen
    obtain ⟨x, r, rfl, h⟩ := mx_l1_inv h
    intro hL hn H locs ls hH hlo hls
    exact lv_lneg hx hb hd (h hL hn H locs ls hH hlo hls)
  case ladd =>
    simp only [mx_ok, decide_eq_true_eq] at hok
    subst hok
    subst hlen
    obtain ⟨x, y, r, rfl, h⟩ := mx_l2_inv h
    intro hL hn H locs ls hH hlo hls
    exact lv_ladd hx hb hd (h hL hn H locs ls hH hlo hls)
  case lsub =>
    simp only [mx_ok, decide_eq_true_eq] at hok
    subst hok
    subst hlen
    obtain ⟨x, y, r, rfl, h⟩ := mx_l2_inv h
    intro hL hn H locs ls hH hlo hls
    exact lv_lsub hx hb hd (h hL hn H locs ls hH hlo hls)
  case lcmp =>
    simp only [mx_ok, decide_eq_true_eq] at hok
    subst hok
    subst hlen
    obtain ⟨x, y, r, rfl, h⟩ := mx_l2_inv h
    intro hL hn H locs ls hH hlo hls
    exact W.lcmp hx hb hd (h hL hn H locs ls hH hlo hls)
  case dup =>
    simp only [mx_ok, decide_eq_true_eq] at hok
    subst hok
    subst hlen
    dsimp only [mx_i] at h
    split at h
    · intro hL hn H locs ls hH hlo hls
      exact lv_dup hx hb hd rfl (h hL hn H locs ls hH hlo hls)
    · intro hL hn H locs ls hH hlo hls
      exact lv_dup hx hb hd rfl (h hL hn H locs ls hH hlo hls)
    · exact h.elim
  case dup2 =>
    simp only [mx_ok, decide_eq_true_eq] at hok
    subst hok
    subst hlen
    obtain ⟨k, i, r, rfl, h⟩ := mx_pa_inv h
    intro hL hn H locs ls hH hlo hls
    exact lv_dup2_11 hx hb hd rfl rfl (h hL hn H locs ls hH hlo hls)
  case pop =>
    simp only [mx_ok, decide_eq_true_eq] at hok
    subst hok
    subst hlen
    obtain ⟨x, r, rfl, h⟩ := mx_p1_inv h
    intro hL hn H locs ls hH hlo hls
    exact lv_pop hx hb hd rfl (h hL hn H locs ls hH hlo hls)
  case getfield q =>
    simp only [mx_ok] at hok
    split at hok
    · rename_i z
      subst hlen
      obtain ⟨k, r, rfl, h1, h2⟩ := mx_pr_inv h
      refine mx_getf C hd ?_ h1 h2
      rcases (Bool.or_eq_true _ _).mp hok with h3 | h3
      · exact Or.inl (List.contains_iff_mem.mp h3)
      · exact Or.inr (List.contains_iff_mem.mp h3)
    · cases hok
  case putfield q =>
    simp only [mx_ok] at hok
    split at hok
    · rename_i z
      subst hlen
      simp only [Bool.and_eq_true, Bool.or_eq_true, decide_eq_true_eq, beq_iff_eq] at hok
      have hq := List.contains_iff_mem.mp hok.1
      have hty := mx_tyq _ hq
      dsimp only at hty
      dsimp only [mx_i, mx_pf] at h
      split at h
      · rename_i x k r
        obtain ⟨h1, h2, h3, h4⟩ := h
        refine mx_putf C hd hq (Or.inl (by omega)) h1 (x := x) (mx_sv0 h2) h3 ?_ h4
        rcases hty.1 h2 with ht | ht
        · rw [ht]; rfl
        · rw [ht] at h3 ⊢
          rcases mx_bool h3 with rfl | rfl <;> rfl
      · rename_i t k r
        obtain ⟨h1, h2, h3, h4⟩ := h
        have hne : (ft (z / 64) (z % 64)).1 ≠ 0 := by omega
        have hr := mx_isr_ok (a := mx_ad G t) (hty.2 hne)
        refine mx_putf C hd hq ?_ h1 (x := nI t) ?_ hr.1 hr.2 h4
        · rcases hok.2 with h5 | h5
          · exact Or.inl h5
          · rcases h2 with h6 | h6
            · exact Or.inl (by omega)
            · exact Or.inr ⟨h5, h6.1⟩
        · have h31 : 0 < t := h3.1
          have h32 : t < 1000 := h3.2
          have h33 : t < 2 ^ 31 := Nat.lt_trans h32 (by decide)
          have ht : (nI t).toNatClampNeg = t := nI_clamp h33
          have h0 : ¬ nI t = 0 := nI_ne0 h31 h33
          have hv : mx_rv (nI t) = .ref t := by simp [mx_rv, h0, ht]
          cases md with
          | false =>
            exact mx_svN hne hv
          | true =>
            have h7 : (ft (z / 64) (z % 64)).1 = 1 := h2.resolve_right (fun h => by cases h.1)
            exact mx_sv1 h7 ht
      · exact h.elim
    · cases hok
  case iaload =>
    simp only [mx_ok, decide_eq_true_eq] at hok
    subst hok
    subst hlen
    obtain ⟨k, i, r, rfl, h1, h2, h3⟩ := mx_pa_inv h
    exact mx_iald C hd h1 h2 h3
  case caload =>
    simp only [mx_ok, decide_eq_true_eq] at hok
    subst hok
    subst hlen
    obtain ⟨k, i, r, rfl, h1, h2, h3⟩ := mx_pa_inv h
    exact mx_cald C hd h1 h2 h3
  case baload =>
    simp only [mx_ok, Bool.or_eq_true, decide_eq_true_eq] at hok
    subst hlen
    rcases hok with rfl | rfl
    · obtain ⟨k, i, r, rfl, h1, h2, h3⟩ := mx_pa_inv h
      exact mx_bald C hd h1 h2 h3
    · obtain ⟨k, i, r, rfl, h1, h2, h3⟩ := mx_pa_inv h
      exact mx_zald C hd h1 h2 h3
  case aaload =>
    simp only [mx_ok] at hok
    split at hok
    · rename_i c1
      subst hlen
      obtain ⟨k, i, r, rfl, h0, h1, h2, h3⟩ := mx_pa_inv h
      exact mx_aald C hd h0 h1 h2 h3
    · cases hok
  case iastore =>
    simp only [mx_ok, decide_eq_true_eq] at hok
    subst hok
    subst hlen
    obtain ⟨k, i, x, r, rfl, h1, h2, h3⟩ := mx_pb_inv h
    exact mx_iast C hd h1 h2 h3
  case castore =>
    simp only [mx_ok, decide_eq_true_eq] at hok
    subst hok
    subst hlen
    obtain ⟨k, i, x, r, rfl, h1, h2, h3⟩ := mx_pb_inv h
    exact mx_cast C hd h1 h2 h3
  case bastore =>
    simp only [mx_ok, Bool.or_eq_true, decide_eq_true_eq] at hok
    subst hlen
    rcases hok with rfl | rfl
    · obtain ⟨k, i, x, r, rfl, h1, h2, h3⟩ := mx_pb_inv h
      exact mx_bast C hd h1 h2 h3
    · obtain ⟨k, i, x, r, rfl, h1, h2, h3⟩ := mx_pb_inv h
      exact mx_zast C hd h1 h2 h3
  case arraylength =>
    simp only [mx_ok, decide_eq_true_eq] at hok
    subst hok
    subst hlen
    obtain ⟨k, r, rfl, h1, h2⟩ := mx_pr_inv h
    exact mx_alen C hd h1 h2
end MX
end
section
/-! a method: its name, code, locals, what it returns, its class -/
abbrev Md : Type := MethodName × ByteArray × Nat × Option FieldType × Nat
def mx_rm (d n n' : Nat) : Room := { frames := d, cells := n' - n, slots := mx_sz n' - mx_sz n, locals := 100 * d }
def mx_wT (D : Md) : List Cond := Cond.code D.1 D.2.1 D.2.2.1 D.2.2.2.1 :: gw
/-- the contract of a method: from the store M (n cells made), with these values, it comes back with a value and a store (n' cells) of which P holds -/
def Rn (l : Launch) (G : Gt) (md : Bool) (d : Nat) (D : Md) (n : Nat) (as : List Value) (M : Mm) (n' : Nat) (P : Option Value → Mm → Prop) : Prop :=
  Met l D.1 (mx_wT D) (mx_rm d n n') (va_Pc (as.map (mx_cv G)) (fun U => mx_H G md n M U.heap ∧ mx_K G U)) (fun _ _ oc t => ∃ (v : Option Value) (M' : Mm), oc = .returned (v.map (mx_cv G)) ∧ P v M' ∧ mx_H G md n' M' t.heap) (n' - n) (mx_sz n' - mx_sz n) (mx_A G)
/-- at every depth from k on -/
def Runs (l : Launch) (G : Gt) (md : Bool) (D : Md) (k n : Nat) (as : List Value) (M : Mm) (n' : Nat) (P : Option Value → Mm → Prop) : Prop := ∀ d, k ≤ d → Rn l G md d D n as M n' P
def mx_br (br : Instr) (S : Sk) (Kt Kf : Sk → Prop) : Prop := match br with
  | .ifCond .eq _ => mx_p1 S (fun x r => (x = 0 → Kt r) ∧ (¬ x = 0 → Kf r))
  | .ifCond .ne _ => mx_p1 S (fun x r => (¬ x = 0 → Kt r) ∧ (x = 0 → Kf r))
  | .ifCond .lt _ => mx_p1 S (fun x r => (x < 0 → Kt r) ∧ (¬ x < 0 → Kf r))
  | .ifCond .ge _ => mx_p1 S (fun x r => (0 ≤ x → Kt r) ∧ (¬ 0 ≤ x → Kf r))
  | .ifCond .gt _ => mx_p1 S (fun x r => (0 < x → Kt r) ∧ (¬ 0 < x → Kf r))
  | .ifCond .le _ => mx_p1 S (fun x r => (x ≤ 0 → Kt r) ∧ (¬ x ≤ 0 → Kf r))
  | .if_icmp .eq _ => mx_p2 S (fun x y r => (x = y → Kt r) ∧ (¬ x = y → Kf r))
  | .if_icmp .ne _ => mx_p2 S (fun x y r => (¬ x = y → Kt r) ∧ (x = y → Kf r))
  | .if_icmp .lt _ => mx_p2 S (fun x y r => (x < y → Kt r) ∧ (¬ x < y → Kf r))
  | .if_icmp .ge _ => mx_p2 S (fun x y r => (y ≤ x → Kt r) ∧ (¬ y ≤ x → Kf r))
  | .if_icmp .gt _ => mx_p2 S (fun x y r => (y < x → Kt r) ∧ (¬ y < x → Kf r))
  | .if_icmp .le _ => mx_p2 S (fun x y r => (x ≤ y → Kt r) ∧ (¬ x ≤ y → Kf r))
  | .ifnonnull _ => (match S with
    | .ref _ :: r => Kt r
    | .null :: r => Kf r
    | _ => False)
  | _ => False
def mx_brk (cc : ByteArray) (pc : Nat) (br : Instr) (t f : Nat) : Bool := match decode cc pc with
  | .ok (w, len) => decide (w = br) && (len == 3) && (f == pc + 3) && (match br with
    | .ifCond _ off => decide ((pc : Int) + off = (t : Int))
    | .if_icmp _ off => decide ((pc : Int) + off = (t : Int))
    | .ifnonnull off => decide ((pc : Int) + off = (t : Int))
    | _ => false)
  | .error _ => false
def mx_jmp (cc : ByteArray) (pc t : Nat) : Bool := match decode cc pc with
  | .ok (.goto off, len) => (len == 3) && decide ((pc : Int) + off = (t : Int))
  | _ => false
def mx_sw (x : Int32) : List (Int32 × Nat) → Nat → (Nat → Prop) → Prop
  | [], d, K => K d
  | (v, t) :: r, d, K => (x = v → K t) ∧ (¬ x = v → mx_sw x r d K)
def mx_swk (cc : ByteArray) (pc : Nat) (tb : List (Int32 × Nat)) (d : Nat) : Bool := match decode cc pc with
  | .ok (.tableswitch dflt lo hi offs, _) => decide ((pc : Int) + dflt = (d : Int)) && decide (tb.map (fun q => ((q.1.toInt : Int), (q.2 : Int) - (pc : Int))) = offs.toList.zipIdx.map (fun q => (lo + (q.2 : Int), q.1))) && decide (hi - lo + 1 = (offs.size : Int))
  | .ok (.lookupswitch dflt ps, _) => decide ((pc : Int) + dflt = (d : Int)) && decide (tb.map (fun q => ((q.1.toInt : Int), (q.2 : Int) - (pc : Int))) = ps.toList) && (ps.toList.zip (ps.toList.drop 1)).all (fun (a, next) => a.1 < next.1)
  | _ => false
/-- how a method is called: static, on an object, a constructor; of a nest mate too -/
def mx_cS (o : Nat) (i : Nat) (D : Md) : Prop := Cond.methodLink (mx_rc o) i D.1 ∈ gw ∧ Cond.static D.1 ∈ gw
def mx_cN (o : Nat) (i : Nat) (D : Md) : Prop := Cond.methodLinkNest (mx_rc o) i D.1 RX7 ∈ mx_nw ∧ Cond.static D.1 ∈ gw
def mx_cV (o : Nat) (i : Nat) (D : Md) : Prop := Cond.methodLink (mx_rc o) i D.1 ∈ gw ∧ Cond.instanceMethod D.1 ∈ gw ∧ Cond.selects D.1.cls D.1 D.1 ∈ gw
def mx_cI (o : Nat) (i : Nat) (D : Md) : Prop := (Cond.methodLink (mx_rc o) i D.1 ∈ gw ∨ Cond.methodLinkNest (mx_rc o) i D.1 RX7 ∈ mx_nw) ∧ D.1.name = "<init>" ∧ Cond.instanceMethod D.1 ∈ gw ∧ D.2.2.2.1 = none
/-- a method that can be called at all -/
def mx_D (D : Md) (na : Nat) : Prop := Cond.code D.1 D.2.1 D.2.2.1 D.2.2.2.1 ∈ gw ∧ Cond.initialized D.1.cls ∈ gw ∧ (D.1.cls ≠ "java/lang/invoke/MethodHandle" ∧ D.1.cls ≠ "java/lang/invoke/VarHandle" ∧ (parseMethodDescriptor D.1.desc).map (fun d => d.parameters.length) = some na) ∧ D.2.2.1 ≤ 80
def mx_abv (i : Nat) : Int32 := ([-1, 0, 0, 1, 2, 0] : List Int32).getD i 0
def mx_mth (o i : Nat) (y : MethodName) : Prop := Cond.methodLink (mx_rc o) i y ∈ gw
/-- instructions that read what stood there before: the static row, String constants, Math -/
def mx_odd (o : Nat) (w : Instr) (len : Nat) (S S' : Sk) : Prop :=
  (∃ i, w = .getstatic i ∧ len = 3 ∧ (Cond.fieldLink (mx_rc o) i RX7 "ABOVE" "[I" ∈ gw ∨ Cond.fieldLinkNest (mx_rc o) i RX7 "ABOVE" "[I" RX7 ∈ mx_nw) ∧ S' = .ref 1000 :: S) ∨
  (∃ r, w = .arraylength ∧ len = 1 ∧ S = .ref 1000 :: r ∧ S' = .int 6 :: r) ∨
  (∃ (i : Int32) (r : Sk), w = .iaload ∧ len = 1 ∧ vp_in i 6 ∧ S = .int i :: .ref 1000 :: r ∧ S' = .int (mx_abv i.toNatClampNeg) :: r) ∨
  (∃ (i : Nat) (r : Sk) (x y : Int32), w = .invokestatic i ∧ len = 3 ∧ mx_mth o i Lib.Math.max.name ∧ (r.map fun v => v.category).sum ≤ 8 ∧ S = .int y :: .int x :: r ∧ S' = .int (if x < y then y else x) :: r) ∨
  (∃ (i : Nat) (r : Sk) (x y : Int32), w = .invokestatic i ∧ len = 3 ∧ mx_mth o i Lib.Math.min.name ∧ (r.map fun v => v.category).sum ≤ 8 ∧ S = .int y :: .int x :: r ∧ S' = .int (if y < x then y else x) :: r) ∨
  (∃ (i : Nat) (r : Sk) (x : Int32), w = .invokestatic i ∧ len = 3 ∧ mx_mth o i Lib.Math.abs.name ∧ (r.map fun v => v.category).sum ≤ 8 ∧ S = .int x :: r ∧ S' = .int (if 0 ≤ x then x else 0 - x) :: r) ∨
  (∃ j : Nat, w = .ldc (mx_si.getD j 0) ∧ len = 2 ∧ o = 2 ∧ j < 6 ∧ S' = .ref (1001 + j) :: S) ∨
  (∃ (i j : Nat) (r : Sk), w = .getfield i ∧ len = 3 ∧ Cond.fieldLink (mx_rc o) i "java/lang/String" "value" "[B" ∈ gw ∧ j < 6 ∧ S = .ref (1001 + j) :: r ∧ S' = .ref (1011 + j) :: r) ∨
  (∃ (i j : Nat) (r : Sk), w = .getfield i ∧ len = 3 ∧ Cond.fieldLink (mx_rc o) i "java/lang/String" "coder" "B" ∈ gw ∧ j < 6 ∧ S = .ref (1001 + j) :: r ∧ S' = .int 0 :: r) ∨
  (∃ (j : Nat) (r : Sk), w = .arraylength ∧ len = 1 ∧ j < 6 ∧ S = .ref (1011 + j) :: r ∧ S' = .int (nI (mx_sl_.getD j 0)) :: r) ∨
  (∃ (j : Nat) (i : Int32) (r : Sk), w = .baload ∧ len = 1 ∧ j < 6 ∧ vp_in i (mx_sl_.getD j 0) ∧ S = .int i :: .ref (1011 + j) :: r ∧ S' = .int ((mx_sb.getD j []).getD i.toNatClampNeg 0) :: r) ∨
  (∃ i, w = .getstatic i ∧ len = 3 ∧ Cond.fieldLink (mx_rc o) i "java/lang/String" "COMPACT_STRINGS" "Z" ∈ gw ∧ S' = .int 1 :: S)
def mx_cpy (M : Mm) (k1 sp k2 dp cnt : Nat) : Mm := fun q => if q = k2 then va_cpy (M k1) (M k2) sp dp cnt else M q
/-- the kinds of arrays that newarray makes -/
def mx_aty (aty : ArrayType) : Nat := match aty with
  | .int => 11
  | .byte => 9
  | .char => 10
  | .boolean => 12
  | _ => 0
/-- the class of an array's entries -/
def mx_ec (k : Nat) : Nat := match k with
  | 13 => 0
  | 14 => 1
  | 15 => 4
  | _ => 5
/-- a new cell, all 0 -/
def mx_z (M : Mm) (n : Nat) : Mm := fun q => if q = n then (fun _ => 0) else M q
/-- what a predicate X on the places of a method's body owes: the rules of the small machine -/
def mx_Rl (l : Launch) (G : Gt) (md : Bool) (D : Md) (d : Nat) (nE : Nat) (P : Option Value → Mm → Prop) (X : Nat → Mm → Nat → Lv → Sk → Prop) : Prop :=
  (∀ (pc : Nat) (is : List Ai) (pc' n : Nat) (M : Mm) (L : Lv) (S : Sk), mx_blk D.2.2.2.2 D.2.1 pc is pc' = true → mx_b md is n M L S (fun n' M' L' S' => X n' M' pc' L' S') → X n M pc L S) ∧
  (∀ (pc t n : Nat) (M : Mm) (L : Lv) (S : Sk), mx_jmp D.2.1 pc t = true → X n M t L S → X n M pc L S) ∧
  (∀ (pc : Nat) (br : Instr) (t f n : Nat) (M : Mm) (L : Lv) (S : Sk), mx_brk D.2.1 pc br t f = true → mx_br br S (fun r => X n M t L r) (fun r => X n M f L r) → X n M pc L S) ∧
  (∀ (pc : Nat) (tb : List (Int32 × Nat)) (df n : Nat) (M : Mm) (L : Lv) (S : Sk), mx_swk D.2.1 pc tb df = true → mx_p1 S (fun x r => mx_sw x tb df (fun t => X n M t L r)) → X n M pc L S) ∧
  (∀ (pc i : Nat) (E : Md) (k n n' : Nat) (M : Mm) (L : Lv) (S r : Sk) (as : List Value) (PE : Option Value → Mm → Prop), decode D.2.1 pc = .ok (.invokestatic i, 3) → mx_D E as.length → mx_cS D.2.2.2.2 i E ∨ mx_cN D.2.2.2.2 i E → k < d → n ≤ n' → n' ≤ nE → Runs l G md E k n as M n' PE → S = as.reverse ++ r → (r.map fun v => v.category).sum ≤ 8 → (∀ (v : Option Value) (M' : Mm), PE v M' → X n' M' (pc + 3) L (v.toList ++ r)) → X n M pc L S) ∧
  (∀ (pc i : Nat) (E : Md) (k n n' b c : Nat) (M : Mm) (L : Lv) (S r : Sk) (as : List Value) (PE : Option Value → Mm → Prop), decode D.2.1 pc = .ok (.invokevirtual i, 3) → mx_D E as.length → mx_cV D.2.2.2.2 i E → k < d → n ≤ n' → n' ≤ nE → (c < 9 ∧ mx_rc c = E.1.cls) → mx_in md c b n → Runs l G md E k n (.ref b :: as) M n' PE → S = as.reverse ++ .ref b :: r → (r.map fun v => v.category).sum ≤ 8 → (∀ (v : Option Value) (M' : Mm), PE v M' → X n' M' (pc + 3) L (v.toList ++ r)) → X n M pc L S) ∧
  (∀ (pc i : Nat) (E : Md) (k n n' b : Nat) (M : Mm) (L : Lv) (S r : Sk) (as : List Value) (PE : Option Value → Mm → Prop), decode D.2.1 pc = .ok (.invokespecial i, 3) → mx_D E as.length → mx_cI D.2.2.2.2 i E → k < d → n ≤ n' → n' ≤ nE → Runs l G md E k n (.ref b :: as) M n' PE → S = as.reverse ++ .ref b :: r → (r.map fun v => v.category).sum ≤ 8 → (∀ (v : Option Value) (M' : Mm), PE v M' → X n' M' (pc + 3) L (v.toList ++ r)) → X n M pc L S) ∧
  (∀ (pc : Nat) (M : Mm) (L : Lv) (x : Int32) (ty : FieldType), decode D.2.1 pc = .ok (.ireturn, 1) → D.2.2.2.1 = some ty → narrow ty (.int x) = .int x → P (some (.int x)) M → X nE M pc L [.int x]) ∧
  (∀ (pc : Nat) (M : Mm) (L : Lv), decode D.2.1 pc = .ok (.return_, 1) → D.2.2.2.1 = none → P none M → X nE M pc L []) ∧
  (∀ (pc : Nat) (M : Mm) (L : Lv) (x : Int64), decode D.2.1 pc = .ok (.lreturn, 1) → D.2.2.2.1 = some .long → P (some (.long x)) M → X nE M pc L [.long x]) ∧
  (∀ (pc : Nat) (M : Mm) (L : Lv) (x : Value) (ty : FieldType), decode D.2.1 pc = .ok (.areturn, 1) → D.2.2.2.1 = some ty → mx_isr ty = true → (x = .null ∨ ∃ a, x = .ref a) → P (some x) M → X nE M pc L [x]) ∧
  (∀ (pc : Nat) (w : Instr) (len n : Nat) (M : Mm) (L : Lv) (S S' : Sk), decode D.2.1 pc = .ok (w, len) → mx_odd D.2.2.2.2 w len S S' → 1 ≤ d → n ≤ nE → X n M (pc + len) L S' → X n M pc L S) ∧
  (∀ (pc i n k1 k2 : Nat) (M : Mm) (L : Lv) (r : Sk) (sp dp cnt : Int32), decode D.2.1 pc = .ok (.invokestatic i, 3) → Cond.methodLink (mx_rc D.2.2.2.2) i arraycopyName ∈ gw → 1 ≤ d → mx_in md 11 k1 n → mx_in md 11 k2 n → ¬ sp < 0 → ¬ dp < 0 → ¬ cnt < 0 → sp.toNatClampNeg + cnt.toNatClampNeg ≤ (kd k1).2 → dp.toNatClampNeg + cnt.toNatClampNeg ≤ (kd k2).2 → (r.map fun v => v.category).sum ≤ 8 → X n (mx_cpy M k1 sp.toNatClampNeg k2 dp.toNatClampNeg cnt.toNatClampNeg) (pc + 3) L r → X n M pc L (.int cnt :: .int dp :: .ref k2 :: .int sp :: .ref k1 :: r)) ∧
  (∀ (pc i : Nat) (E : Md) (k n j : Nat) (M : Mm) (L : Lv) (S r : Sk) (as : List Value) (PE : Option Value → Mm → Prop), decode D.2.1 pc = .ok (.invokevirtual i, 3) → mx_D E as.length → mx_cV D.2.2.2.2 i E → k < d → n ≤ nE → E.1.cls = "java/lang/String" ∧ j < 6 → Runs l G md E k n (.ref (1001 + j) :: as) M n PE → S = as.reverse ++ .ref (1001 + j) :: r → (r.map fun v => v.category).sum ≤ 8 → (∀ (v : Option Value) (M' : Mm), PE v M' → X n M' (pc + 3) L (v.toList ++ r)) → X n M pc L S) ∧
  (∀ (pc i c n : Nat) (M : Mm) (L : Lv) (S : Sk), md = false → decode D.2.1 pc = .ok (.new i, 3) → (D.2.2.2.2, i, c) ∈ mx_cl → c < 9 → (kd n).1 = c → n + 1 ≤ nE → X (n + 1) (mx_z M n) (pc + 3) L (.ref n :: S) → X n M pc L S) ∧
  (∀ (pc n : Nat) (aty : ArrayType) (M : Mm) (L : Lv) (r : Sk) (x : Int32), md = false → decode D.2.1 pc = .ok (.newarray aty, 2) → (kd n).1 = mx_aty aty ∧ mx_aty aty ≠ 0 → ¬ x < 0 → x.toNatClampNeg = (kd n).2 → (kd n).2 ≤ 100000 → n + 1 ≤ nE → X (n + 1) (mx_z M n) (pc + 2) L (.ref n :: r) → X n M pc L (.int x :: r)) ∧
  (∀ (pc i n k1 : Nat) (M : Mm) (L : Lv) (r : Sk) (x : Int32), md = false → decode D.2.1 pc = .ok (.anewarray i, 3) → (D.2.2.2.2, i, mx_ec k1) ∈ mx_cl → (kd n).1 = k1 → 13 ≤ k1 → k1 < 17 → ¬ x < 0 → x.toNatClampNeg = (kd n).2 → (kd n).2 ≤ 100000 → n + 1 ≤ nE → X (n + 1) (mx_z M n) (pc + 3) L (.ref n :: r) → X n M pc L (.int x :: r)) ∧
  (∀ (pc n k1 k t : Nat) (M : Mm) (L : Lv) (r : Sk) (i : Int32), md = false → decode D.2.1 pc = .ok (.aastore, 1) → (kd k).1 = k1 ∧ k < n → 13 ≤ k1 → k1 < 17 → (kd t).1 = mx_ec k1 ∧ t < n ∧ 0 < t → vp_in i (kd k).2 → X n (mx_wr M k i.toNatClampNeg (nI t)) (pc + 1) L r → X n M pc L (.ref t :: .int i :: .ref k :: r)) ∧
  (∀ (pc i n b : Nat) (M : Mm) (L : Lv) (r : Sk), decode D.2.1 pc = .ok (.invokespecial i, 3) → Cond.methodLink (mx_rc D.2.2.2.2) i Lib.objectInit ∈ gw → 1 ≤ d → (r.map fun v => v.category).sum ≤ 8 → X n M (pc + 3) L r → X n M pc L (.ref b :: r))
end
section
theorem mx_getm : ∀ {L : Lv} {i : Nat} {K1 K2 : Value → Prop}, (∀ v, K1 v → K2 v) → mx_get L i K1 → mx_get L i K2
  | [], _, _, _, _, h => h
  | a :: l, 0, K1, K2, hk, h => by
    cases a with
    | none => exact h
    | some v => exact hk v h
  | a :: l, i + 1, K1, K2, hk, h => mx_getm (L := l) (i := i) hk h
theorem mx_setm : ∀ {L : Lv} {i : Nat} {v : Option Value} {K1 K2 : Lv → Prop}, (∀ v, K1 v → K2 v) → mx_set L i v K1 → mx_set L i v K2
  | [], _, _, _, _, _, h => h
  | a :: l, 0, v, K1, K2, hk, h => hk _ h
  | a :: l, i + 1, v, K1, K2, hk, h => by
    have ih : mx_set l i v (fun l' => K1 (a :: l')) → mx_set l i v (fun l' => K2 (a :: l')) := mx_setm (L := l) (i := i) (fun l' => hk (a :: l'))
    unfold mx_set at h ⊢
    cases hb : mx_lg a with
    | false =>
      rw [hb] at h
      cases i <;> exact ih h
    | true =>
      rw [hb] at h
      cases i with
      | zero => exact h
      | succ i => exact ih h
theorem mx_imono {md : Bool} {a : Ai} {n : Nat} {M : Mm} {L : Lv} {S : Sk} {K1 K2 : Kt} (hk : ∀ n M L S, K1 n M L S → K2 n M L S) (h : mx_i md a n M L S K1) : mx_i md a n M L S K2 := by
  cases a with
  | inr v => exact hk _ _ _ _ h
  | inl w =>
    cases w <;> first | exact h.elim | skip
    case iload j =>
      refine mx_getm (fun v hv => ?_) h
      cases v <;> first | exact hk _ _ _ _ hv | exact hv.elim
    case lload j =>
      refine mx_getm (fun v hv => ?_) h
      cases v <;> first | exact hk _ _ _ _ hv | exact hv.elim
    case aload j =>
      refine mx_getm (fun v hv => ?_) h
      cases v <;> first | exact hk _ _ _ _ hv | exact hv.elim
    case istore j =>
      obtain ⟨x, r, rfl, h⟩ := mx_p1_inv h
      exact mx_setm (fun L1 h1 => hk _ _ _ _ h1) h
    case lstore j =>
      obtain ⟨x, r, rfl, h⟩ := mx_l1_inv h
      exact mx_setm (fun L0 h0 => mx_setm (fun L1 h1 => mx_setm (fun L2 h2 => hk _ _ _ _ h2) h1) h0) h
    case astore j =>
      dsimp only [mx_i] at h ⊢
      split at h
      · exact mx_setm (fun L1 h1 => hk _ _ _ _ h1) h
      · exact mx_setm (fun L1 h1 => hk _ _ _ _ h1) h
      · exact h.elim
    case iinc j d =>
      refine mx_getm (fun v hv => ?_) h
      cases v <;> first | exact mx_setm (fun L1 h1 => hk _ _ _ _ h1) hv | exact hv.elim
    case iadd =>
      obtain ⟨x, y, r, rfl, h⟩ := mx_p2_inv h
      exact hk _ _ _ _ h
    case isub =>
      obtain ⟨x, y, r, rfl, h⟩ := mx_p2_inv h
      exact hk _ _ _ _ h
    case imul =>
      obtain ⟨x, y, r, rfl, h⟩ := mx_p2_inv h
      exact hk _ _ _ _ h
    case iand =>
      obtain ⟨x, y, r, rfl, h⟩ := mx_p2_inv h
      exact hk _ _ _ _ h
    case ior =>
      obtain ⟨x, y, r, rfl, h⟩ := mx_p2_inv h
      exact hk _ _ _ _ h
    case ishl =>
      obtain ⟨x, y, r, rfl, h⟩ := mx_p2_inv h
      exact hk _ _ _ _ h
    case ishr =>
      obtain ⟨x, y, r, rfl, h⟩ := mx_p2_inv h
      exact hk _ _ _ _ h
    case iushr =>
      obtain ⟨x, y, r, rfl, h⟩ := mx_p2_inv h
      exact hk _ _ _ _ h
    case idiv =>
      obtain ⟨x, y, r, rfl, h0, h⟩ := mx_p2_inv h
      exact ⟨h0, hk _ _ _ _ h⟩
    case irem =>
      obtain ⟨x, y, r, rfl, h0, h⟩ := mx_p2_inv h
      exact ⟨h0, hk _ _ _ _ h⟩
    case ineg =>
      obtain ⟨x, r, rfl, h⟩ := mx_p1_inv h
      exact hk _ _ _ _ h
    case i2l =>
      obtain ⟨x, r, rfl, h⟩ := mx_p1_inv h
      exact hk _ _ _ _ h
    case i2b =>
      obtain ⟨x, r, rfl, h⟩ := mx_p1_inv h
      exact hk _ _ _ _ h
    case i2s =>
      obtain ⟨x, r, rfl, h⟩ := mx_p1_inv h
      exact hk _ _ _ _ h
    case i2c =>
      obtain ⟨x, r, rfl, h⟩ := mx_p1_inv h
      exact hk _ _ _ _ h
    case pop =>
      obtain ⟨x, r, rfl, h⟩ := mx_p1_inv h
      exact hk _ _ _ _ h
    case l2i =>
      obtain ⟨x, r, rfl, h⟩ := mx_l1_inv h
      exact hk _ _ _ _ h
    case lneg =>
      obtain ⟨x, r, rfl, h⟩ := mx_l1_inv h
      exact hk _ _ _ _ h
    case ladd =>
      obtain ⟨x, y, r, rfl, h⟩ := mx_l2_inv h
      exact hk _ _ _ _ h
    case lsub =>
      obtain ⟨x, y, r, rfl, h⟩ := mx_l2_inv h
      exact hk _ _ _ _ h
    case lcmp =>
      obtain ⟨x, y, r, rfl, h⟩ := mx_l2_inv h
      exact hk _ _ _ _ h
    case dup =>
      dsimp only [mx_i] at h ⊢
      split at h
      · exact hk _ _ _ _ h
      · exact hk _ _ _ _ h
      · exact h.elim
    case dup2 =>
      obtain ⟨k, i, r, rfl, h⟩ := mx_pa_inv h
      exact hk _ _ _ _ h
    case getfield q =>
      obtain ⟨k, r, rfl, h1, h⟩ := mx_pr_inv h
      exact ⟨h1, hk _ _ _ _ h⟩
    case arraylength =>
      obtain ⟨k, r, rfl, h1, h⟩ := mx_pr_inv h
      exact ⟨h1, hk _ _ _ _ h⟩
    case putfield q =>
      dsimp only [mx_i, mx_pf] at h ⊢
      split at h
      · exact ⟨h.1, h.2.1, h.2.2.1, hk _ _ _ _ h.2.2.2⟩
      · exact ⟨h.1, h.2.1, h.2.2.1, hk _ _ _ _ h.2.2.2⟩
      · exact h.elim
    case iaload =>
      obtain ⟨k, i, r, rfl, h1, h2, h⟩ := mx_pa_inv h
      exact ⟨h1, h2, hk _ _ _ _ h⟩
    case baload =>
      obtain ⟨k, i, r, rfl, h1, h2, h⟩ := mx_pa_inv h
      exact ⟨h1, h2, hk _ _ _ _ h⟩
    case caload =>
      obtain ⟨k, i, r, rfl, h1, h2, h⟩ := mx_pa_inv h
      exact ⟨h1, h2, hk _ _ _ _ h⟩
    case daload =>
      obtain ⟨k, i, r, rfl, h1, h2, h⟩ := mx_pa_inv h
      exact ⟨h1, h2, hk _ _ _ _ h⟩
    case anewarray c1 =>
      obtain ⟨k, i, r, rfl, h0, h1, h2, h⟩ := mx_pa_inv h
      exact ⟨h0, h1, h2, hk _ _ _ _ h⟩
    case iastore =>
      obtain ⟨k, i, x, r, rfl, h1, h2, h⟩ := mx_pb_inv h
      exact ⟨h1, h2, hk _ _ _ _ h⟩
    case bastore =>
      obtain ⟨k, i, x, r, rfl, h1, h2, h⟩ := mx_pb_inv h
      exact ⟨h1, h2, hk _ _ _ _ h⟩
    case castore =>
      obtain ⟨k, i, x, r, rfl, h1, h2, h⟩ := mx_pb_inv h
      exact ⟨h1, h2, hk _ _ _ _ h⟩
    case dastore =>
      obtain ⟨k, i, x, r, rfl, h1, h2, h⟩ := mx_pb_inv h
      exact ⟨h1, h2, hk _ _ _ _ h⟩
theorem mx_szs (n : Nat) : mx_sz (n + 1) = mx_sz n + (kd n).2 := by
  unfold mx_sz kd
  by_cases h : n < kdL.length
  · rw [List.take_add_one, List.getElem?_eq_getElem h, List.getD_eq_getElem?_getD, List.getElem?_eq_getElem h]
    simp only [List.map_append, Option.toList, List.map_cons, List.map_nil, List.sum_append, List.sum_cons, List.sum_nil, Option.getD_some, Nat.add_zero]
  · have h1 : kdL.length ≤ n := by omega
    rw [List.take_of_length_le (by omega), List.take_of_length_le h1, List.getD_eq_getElem?_getD, List.getElem?_eq_none h1]
    simp only [Option.getD_none, Nat.add_zero]
theorem mx_szm {a b : Nat} (h : a ≤ b) : mx_sz a ≤ mx_sz b := by
  induction b with
  | zero =>
    have : a = 0 := by omega
    rw [this]
    exact Nat.le_refl _
  | succ b ih =>
    by_cases e : a = b + 1
    · rw [e]
      exact Nat.le_refl _
    · rw [mx_szs]
      exact Nat.le_trans (ih (by omega)) (Nat.le_add_right _ _)
theorem mx_sw_inv {x : Int32} {d : Nat} {K : Nat → Prop} : ∀ {tb : List (Int32 × Nat)}, mx_sw x tb d K → (∃ (i : Nat) (t : Nat), tb[i]? = some (x, t) ∧ K t) ∨ ((∀ q ∈ tb, x ≠ q.1) ∧ K d)
  | [], h => Or.inr ⟨fun q hq => absurd hq List.not_mem_nil, h⟩
  | (v, t) :: r, h => by
    by_cases e : x = v
    · subst e
      exact Or.inl ⟨0, t, rfl, h.1 rfl⟩
    · rcases mx_sw_inv (h.2 e) with ⟨i, t2, h1, h2⟩ | ⟨h1, h2⟩
      · exact Or.inl ⟨i + 1, t2, by simpa using h1, h2⟩
      · exact Or.inr ⟨fun q hq => by
          rcases List.mem_cons.mp hq with rfl | hq
          · exact e
          · exact h1 q hq, h2⟩
section MX
variable {p : Program} {l : Launch} {e : Env} {R : Room} {s : State} {m : MethodId} {args : Array Value} {below : List Frame} {meth : Method} {c : Code} {Q : State → Prop} {G : Gt} {md : Bool} {n0 nL o : Nat} {cc : ByteArray}
theorem mx_blkS (C : mx_C p s m args meth c G md nL o cc) : ∀ (is : List Ai) (pc pc' n : Nat) (M : Mm) (L : Lv) (S : Sk), mx_blk o cc pc is pc' = true → mx_b md is n M L S (fun n' M' L' S' => mx_X p l e R s m args below meth c Q G md n0 nL n' M' pc' L' S') → mx_X p l e R s m args below meth c Q G md n0 nL n M pc L S
  | [], pc, pc', n, M, L, S, h, k => by
    simp only [mx_blk, beq_iff_eq] at h
    subst h
    exact k
  | a :: r, pc, pc', n, M, L, S, h, k => by
    unfold mx_blk at h
    split at h
    · rename_i w len hd
      simp only [Bool.and_eq_true, beq_iff_eq] at h
      obtain ⟨⟨h1, h2⟩, h3⟩ := h
      refine mx_one C hd h1 ?_ h2
      have mono : ∀ (K1 K2 : Kt), (∀ n M L S, K1 n M L S → K2 n M L S) → mx_i md a n M L S K1 → mx_i md a n M L S K2 := fun K1 K2 hk h => mx_imono hk h
      exact mono _ _ (fun n' M' L' S' hb => mx_blkS C r (pc + len) pc' n' M' L' S' h3 hb) k
    · cases h
theorem mx_jmpS {pc t n : Nat} {M : Mm} {L : Lv} {S : Sk} (C : mx_C p s m args meth c G md nL o cc) (h : mx_jmp cc pc t = true) (k : mx_X p l e R s m args below meth c Q G md n0 nL n M t L S) : mx_X p l e R s m args below meth c Q G md n0 nL n M pc L S := by
  intro hL hn H locs ls hH hlo hls
  obtain ⟨hx, hb, -⟩ := C
  unfold mx_jmp at h
  split at h
  · rename_i off len hd
    simp only [Bool.and_eq_true, beq_iff_eq, decide_eq_true_eq] at h
    obtain ⟨rfl, h2⟩ := h
    exact lv_goto hx hb hd h2 (k hL hn H locs ls hH hlo hls)
  · cases h
theorem mx_brS {pc t f n : Nat} {br : Instr} {M : Mm} {L : Lv} {S : Sk} (C : mx_C p s m args meth c G md nL o cc) (h : mx_brk cc pc br t f = true) (k : mx_br br S (fun r => mx_X p l e R s m args below meth c Q G md n0 nL n M t L r) (fun r => mx_X p l e R s m args below meth c Q G md n0 nL n M f L r)) : mx_X p l e R s m args below meth c Q G md n0 nL n M pc L S := by
  intro hL hn H locs ls hH hlo hls
  obtain ⟨hx, hb, -⟩ := C
  unfold mx_brk at h
  split at h
  · rename_i w len hd
    simp only [Bool.and_eq_true, beq_iff_eq, decide_eq_true_eq] at h
    obtain ⟨⟨⟨rfl, rfl⟩, rfl⟩, h4⟩ := h
    cases w <;> first | exact Bool.noConfusion (show false = true from h4) | skip
    case if_icmp cd off =>
      have h5 : (pc : Int) + off = (t : Int) := by simpa using h4
      cases cd <;> obtain ⟨x, y, r, rfl, k1, k2⟩ := mx_p2_inv k
      case eq => exact lv_icmp_eq hx hb hd h5 (fun q => k1 q hL hn H locs ls hH hlo hls) (fun q => k2 q hL hn H locs ls hH hlo hls)
      case ne => exact lv_icmp_ne hx hb hd h5 (fun q => k1 q hL hn H locs ls hH hlo hls) (fun q => k2 q hL hn H locs ls hH hlo hls)
      case lt => exact lv_icmp_lt hx hb hd h5 (fun q => k1 q hL hn H locs ls hH hlo hls) (fun q => k2 q hL hn H locs ls hH hlo hls)
      case ge => exact lv_icmp_ge hx hb hd h5 (fun q => k1 q hL hn H locs ls hH hlo hls) (fun q => k2 q hL hn H locs ls hH hlo hls)
      case gt => exact lv_icmp_gt hx hb hd h5 (fun q => k1 q hL hn H locs ls hH hlo hls) (fun q => k2 q hL hn H locs ls hH hlo hls)
      case le => exact lv_icmp_le hx hb hd h5 (fun q => k1 q hL hn H locs ls hH hlo hls) (fun q => k2 q hL hn H locs ls hH hlo hls)
    case ifCond cd off =>
      have h5 : (pc : Int) + off = (t : Int) := by simpa using h4
      cases cd <;> obtain ⟨x, r, rfl, k1, k2⟩ := mx_p1_inv k
      case eq => exact lv_if_eq hx hb hd h5 (fun q => k1 q hL hn H locs ls hH hlo hls) (fun q => k2 q hL hn H locs ls hH hlo hls)
      case ne => exact lv_if_ne hx hb hd h5 (fun q => k1 q hL hn H locs ls hH hlo hls) (fun q => k2 q hL hn H locs ls hH hlo hls)
      case lt => exact lv_if_lt hx hb hd h5 (fun q => k1 q hL hn H locs ls hH hlo hls) (fun q => k2 q hL hn H locs ls hH hlo hls)
      case ge => exact lv_if_ge hx hb hd h5 (fun q => k1 q hL hn H locs ls hH hlo hls) (fun q => k2 q hL hn H locs ls hH hlo hls)
      case gt => exact lv_if_gt hx hb hd h5 (fun q => k1 q hL hn H locs ls hH hlo hls) (fun q => k2 q hL hn H locs ls hH hlo hls)
      case le => exact lv_if_le hx hb hd h5 (fun q => k1 q hL hn H locs ls hH hlo hls) (fun q => k2 q hL hn H locs ls hH hlo hls)
    case ifnonnull off =>
      have h5 : (pc : Int) + off = (t : Int) := by simpa using h4
      dsimp only [mx_br] at k
      split at k
      · exact lv_ifnonnull hx hb hd h5 (k hL hn H locs ls hH hlo hls)
      · exact lv_ifnonnullN hx hb hd (k hL hn H locs ls hH hlo hls)
      · exact k.elim
  · cases h
theorem mx_lk {x : Int32} {pc d : Nat} {K : Nat → Prop} {dflt : Int} : ∀ {tb : List (Int32 × Nat)} {ps : List (Int × Int)}, tb.map (fun q => ((q.1.toInt : Int), (q.2 : Int) - (pc : Int))) = ps → (pc : Int) + dflt = (d : Int) → mx_sw x tb d K → ∃ t : Nat, (pc : Int) + Op.lookupswitch.offset ps dflt x.toInt = (t : Int) ∧ K t
  | [], ps, h, hd, k => by
    subst h
    exact ⟨d, hd, k⟩
  | (v, t) :: r, ps, h, hd, k => by
    subst h
    by_cases e : x = v
    · subst e
      refine ⟨t, ?_, k.1 rfl⟩
      rw [List.map_cons, Op.lookupswitch.offset_cons, if_pos rfl]
      omega
    · obtain ⟨t2, h1, h2⟩ := mx_lk (tb := r) rfl hd (k.2 e)
      refine ⟨t2, ?_, h2⟩
      rw [List.map_cons, lv_osw e rfl]
      exact h1
theorem mx_swS {pc d n : Nat} {tb : List (Int32 × Nat)} {M : Mm} {L : Lv} {S : Sk} (C : mx_C p s m args meth c G md nL o cc) (h : mx_swk cc pc tb d = true) (k : mx_p1 S (fun x r => mx_sw x tb d (fun t => mx_X p l e R s m args below meth c Q G md n0 nL n M t L r))) : mx_X p l e R s m args below meth c Q G md n0 nL n M pc L S := by
  obtain ⟨x, r, rfl, k⟩ := mx_p1_inv k
  obtain ⟨hx, hb, -⟩ := C
  unfold mx_swk at h
  split at h
  · rename_i dflt lo hi offs len hd
    simp only [Bool.and_eq_true, decide_eq_true_eq] at h
    obtain ⟨⟨h1, h2⟩, h3⟩ := h
    have at' : ∀ (i : Nat) (v : Int32) (t : Nat), tb[i]? = some (v, t) → i < offs.size ∧ ∃ off, offs[i]? = some off ∧ v.toInt = lo + (i : Int) ∧ (pc : Int) + off = (t : Int) := by
      intro i v t hi
      have e1 : (tb.map (fun q => ((q.1.toInt : Int), (q.2 : Int) - (pc : Int))))[i]? = some (v.toInt, (t : Int) - (pc : Int)) := by rw [List.getElem?_map, hi]; rfl
      rw [h2, List.getElem?_map] at e1
      have e2 : (offs.toList.zipIdx)[i]? = offs.toList[i]?.map (fun a => (a, i)) := by
        rw [List.getElem?_zipIdx]
        simp
      rw [e2] at e1
      cases ho : offs.toList[i]? with
      | none => rw [ho] at e1; cases e1
      | some off =>
        rw [ho] at e1
        simp at e1
        have hlt : i < offs.toList.length := (List.getElem?_eq_some_iff.mp ho).1
        exact ⟨by simpa using hlt, off, by rw [← Array.getElem?_toList]; exact ho, e1.1.symm, by omega⟩
    rcases mx_sw_inv k with ⟨i, t, hi, k⟩ | ⟨hn, k⟩
    · obtain ⟨h4, off, h5, h6, h7⟩ := at' i x t hi
      intro hL hn H locs ls hH hlo hls
      refine lv_tableIn hx hb hd (by omega) (by omega) (off := off) (tgt := t) ?_ h7 (k hL hn H locs ls hH hlo hls)
      rw [show (x.toInt - lo).toNat = i by omega]
      exact h5
    · intro hL hn' H locs ls hH hlo hls
      refine lv_tableOut hx hb hd ?_ h1 (k hL hn' H locs ls hH hlo hls)
      apply Classical.byContradiction
      intro hc
      have hlen : tb.length = offs.size := by
        have := congrArg List.length h2
        simpa using this
      have hlt : (x.toInt - lo).toNat < tb.length := by omega
      obtain ⟨-, off, -, h6, -⟩ := at' (x.toInt - lo).toNat tb[(x.toInt - lo).toNat].1 tb[(x.toInt - lo).toNat].2 (List.getElem?_eq_getElem hlt)
      refine hn _ (List.getElem_mem hlt) (Int32.toInt_inj.mp ?_)
      rw [h6]
      omega
  · rename_i dflt ps len hd
    simp only [Bool.and_eq_true, decide_eq_true_eq] at h
    obtain ⟨⟨h1, h2⟩, h3⟩ := h
    obtain ⟨t, h4, k⟩ := mx_lk h2 h1 k
    intro hL hn H locs ls hH hlo hls
    exact lv_lookup hx hb hd h3 rfl h4 (k hL hn H locs ls hH hlo hls)
  · cases h
end MX
end
section
section MX
variable {p : Program} {l : Launch} {e : Env} {s : State} {m : MethodId} {args : Array Value} {below : List Frame} {meth : Method} {c : Code} {Q : State → Prop} {G : Gt} {md : Bool} {n0 nL o : Nat} {cc : ByteArray}
theorem mx_good {s : State} {args : Array Value} (hts : ∀ w ∈ gw, w.before args s = true) {E : Md} (hE : Cond.code E.1 E.2.1 E.2.2.1 E.2.2.2.1 ∈ gw) : ∀ w ∈ mx_wT E, ∀ (a' : Array Value) (U : State), s.WarmedH U.vm → w.before a' U = true := by
  refine pay_in hts (fun w hw => ?_)
  have h1 : w ∈ gw := by
    rcases List.mem_cons.mp hw with rfl | h
    · exact hE
    · exact h
  exact ⟨h1, good_of_word (List.mem_filter.mp h1).2⟩
theorem mx_pre {as : List Value} {M : Mm} {n : Nat} {H : Heap} (hH : mx_H G md n M H) (hK : mx_K G s) : PreS s H (va_Pc (as.map (mx_cv G)) (fun U => mx_H G md n M U.heap ∧ mx_K G U)) (as.map (mx_cv G)) :=
  ⟨fun a U g mk q => ⟨q.1, q.2.1, q.2.2.calling⟩, fun U hU hW => ⟨rfl, by rw [hU]; exact hH, hK.warm hW⟩⟩
theorem mx_recv {M : Mm} {n b c1 : Nat} {H : Heap} (hH : mx_H G md n M H) (hK : mx_K G s) (hc : c1 < 9) (hi : mx_in md c1 b n) : ∃ cellB : Cell, H[mx_ad G b]? = some cellB ∧ cellB.vm.isStatics = false ∧ s.vm.findClass (mx_rc c1) = some cellB.cls := by
  obtain ⟨hk, hkc⟩ := mx_lt hH hi (by omega)
  have hcell := hH.2.2.2.2 b hk
  unfold mx_cell at hcell
  rw [if_pos (by omega), hkc] at hcell
  obtain ⟨cell, q1, q2, q3, q4⟩ := hcell
  obtain ⟨vr, hvr⟩ := mx_vw hc
  obtain ⟨-, hrc, -⟩ := mx_cls c1 vr hvr
  obtain ⟨hS, hfc, -⟩ := hK.1.1 c1 _ hvr
  rw [← mx_adk hH hk] at q1
  exact ⟨cell, q1, by rw [q3]; rfl, by rw [q2, ← hrc]; exact hfc⟩
/-- behind a call -/
theorem mx_behind {d n n' nE pc : Nat} {H : Heap} {locs : List Loc} {ls : Array Slot} {PE : Option Value → Mm → Prop} {L : Lv} {r S : Sk} {a : Array Value} (hL : L.length = nL) (hn : n0 ≤ n) (hnn : n ≤ n') (hlo : ∀ q ∈ locs, G.1.size ≤ q.base) (hls : lv_has ls nL (mx_al G 0 L))
    (hr : va_Run p l e (mx_rm d n0 nE) s m args below meth c H locs (n - n0) (mx_sz n - mx_sz n0) (n' - n) (mx_sz n' - mx_sz n) (F0 m pc ls S) (r.map (mx_cv G)) (fun _ oc t => ∃ (v : Option Value) (M' : Mm), oc = .returned (v.map (mx_cv G)) ∧ PE v M' ∧ mx_H G md n' M' t.heap) (mx_A G))
    (K : ∀ (v : Option Value) (M' : Mm), PE v M' → mx_X p l e (mx_rm d n0 nE) s m args below meth c Q G md n0 nL n' M' (pc + 3) L (v.toList ++ r)) : W p l e (mx_rm d n0 nE) s m args below meth c H locs (n - n0) (mx_sz n - mx_sz n0) Q (F0 m pc ls S) := by
  intro T hT X
  obtain ⟨v', st₀, t, T', L', h0, X', hL', e1, e2, ⟨v, M', hv, hPE, hH'⟩, st⟩ := hr T hT X
  cases hv
  have e3 : n - n0 + (n' - n) = n' - n0 := by omega
  have e4 : mx_sz n - mx_sz n0 + (mx_sz n' - mx_sz n) = mx_sz n' - mx_sz n0 := by
    have := mx_szm hn
    have := mx_szm hnn
    omega
  rw [e3, e4] at X'
  rw [← e1] at hH'
  obtain ⟨t2, a1, b1⟩ := K v M' hPE hL (by omega) T'.heap (locs ++ L') ls hH' (fun q hq => by
    rcases List.mem_append.mp hq with h | h
    · exact hlo q h
    · exact hL' q h) hls T' rfl X'
  refine ⟨t2, st t2 ?_, b1⟩
  have e5 : (v.toList ++ r).map (mx_cv G) = (v.map (mx_cv G)).toList ++ r.map (mx_cv G) := by
    cases v <;> simp
  rw [e5] at a1
  exact a1
theorem mx_catm (r : Sk) : ((r.map (mx_cv G)).map fun v => v.category) = r.map fun v => v.category := by
  rw [List.map_map]
  exact List.map_congr_left (fun v _ => mx_cv_cat v)
theorem mx_fit {n n' nE : Nat} (hn : n0 ≤ n) (hnn : n ≤ n') (hE : n' ≤ nE) : n - n0 + (n' - n) ≤ nE - n0 ∧ mx_sz n - mx_sz n0 + (mx_sz n' - mx_sz n) ≤ mx_sz nE - mx_sz n0 := by
  have h1 := mx_szm hn
  have h2 := mx_szm hnn
  have h3 := mx_szm hE
  omega
theorem mx_callB {d n n' nE i na : Nat} {E : Md} (hts : ∀ w ∈ gw, w.before args s = true) (hE : mx_D E na) (hk : 0 < d) (hl : Cond.methodLink (mx_rc o) i E.1 ∈ gw) : CallB (mx_rm d n0 nE) s args (mx_rc o) i E.1 E.2.1 E.2.2.1 E.2.2.2.1 (mx_wT E) (mx_rm (d - 1) n n') (n' - n) (mx_sz n' - mx_sz n) na := by
  obtain ⟨h1, h2, h3, h4⟩ := hE
  refine ⟨rfl, rfl, ?_, ?_, mx_good hts h1, List.mem_cons_self, hts _ h1, hts _ h2, ⟨h3.1, h3.2.1⟩, fun sig h => ?_, hts _ hl⟩
  · show d - 1 + 1 ≤ d
    omega
  · show 8 + (E.2.2.1 + 11) + 100 * (d - 1) ≤ 100 * d
    omega
  · have h5 := h3.2.2
    rw [h] at h5
    exact (Option.some.inj h5).symm
theorem mx_callN {d n n' nE i na : Nat} {E : Md} (hts : ∀ w ∈ gw, w.before args s = true) (hK : mx_K G s) (hE : mx_D E na) (hk : 0 < d) (hl : Cond.methodLinkNest (mx_rc o) i E.1 RX7 ∈ mx_nw) : va_CN (mx_rm d n0 nE) s args (mx_rc o) i E.1 RX7 E.2.1 E.2.2.1 E.2.2.2.1 (mx_wT E) (mx_rm (d - 1) n n') (n' - n) (mx_sz n' - mx_sz n) na := by
  obtain ⟨h1, h2, h3, h4⟩ := hE
  refine ⟨⟨rfl, rfl, ?_, ?_, mx_good hts h1, List.mem_cons_self⟩, hts _ h1, hts _ h2, ⟨h3.1, h3.2.1⟩, fun sig h => ?_, va_Nw.use rfl (hK.2.1 _ hl)⟩
  · show d - 1 + 1 ≤ d
    omega
  · show 8 + (E.2.2.1 + 11) + 100 * (d - 1) ≤ 100 * d
    omega
  · have h5 := h3.2.2
    rw [h] at h5
    exact (Option.some.inj h5).symm
theorem mx_callS {d nE pc i k n n' : Nat} {E : Md} {M : Mm} {L : Lv} {S r : Sk} {as : List Value} {PE : Option Value → Mm → Prop} (C : mx_C p s m args meth c G md nL o cc) (hd : decode cc pc = .ok (.invokestatic i, 3)) (hE : mx_D E as.length) (hc : mx_cS o i E ∨ mx_cN o i E) (hk : k < d) (hnn : n ≤ n') (hnE : n' ≤ nE) (hR : Runs l G md E k n as M n' PE) (hS : S = as.reverse ++ r) (hr : (r.map fun v => v.category).sum ≤ 8)
    (K : ∀ (v : Option Value) (M' : Mm), PE v M' → mx_X p l e (mx_rm d n0 nE) s m args below meth c Q G md n0 nL n' M' (pc + 3) L (v.toList ++ r)) : mx_X p l e (mx_rm d n0 nE) s m args below meth c Q G md n0 nL n M pc L S := by
  intro hL hn H locs ls hH hlo hls
  obtain ⟨hx, hb, hml, ho, hts, hK, -⟩ := C
  subst hS
  have hcat : 2 * (F0 m pc ls ((as.reverse ++ r).map (mx_cv G))).monitorRoom + ((r.map (mx_cv G)).map fun v => v.category).sum ≤ 8 := lv_room (by rw [mx_catm]; exact hr)
  rcases hc with hc | hc
  · refine mx_behind (a := (as.map (mx_cv G)).toArray) hL hn hnn hlo hls (va_runS (As := as.map (mx_cv G)) (rest := r.map (mx_cv G)) ⟨hx, hb, hml, ho, hts⟩ (hR (d - 1) (by omega)) ⟨mx_callB (na := as.length) hts hE (by omega) hc.1, hts _ hc.2⟩ (mx_pre hH hK) rfl (by simp) hls.1 (by simp) hcat hd (mx_fit hn hnn hnE)) K
  · refine mx_behind (a := (as.map (mx_cv G)).toArray) hL hn hnn hlo hls (va_runSN (As := as.map (mx_cv G)) (rest := r.map (mx_cv G)) ⟨hx, hb, hml, ho, hts⟩ (hR (d - 1) (by omega)) ⟨mx_callN (na := as.length) hts hK hE (by omega) hc.1, hts _ hc.2, trivial⟩ (mx_pre hH hK) rfl (by simp) hls.1 (by simp) hcat hd (mx_fit hn hnn hnE)) K
theorem mx_callV {d nE pc i k n n' b c1 : Nat} {E : Md} {M : Mm} {L : Lv} {S r : Sk} {as : List Value} {PE : Option Value → Mm → Prop} (C : mx_C p s m args meth c G md nL o cc) (hd : decode cc pc = .ok (.invokevirtual i, 3)) (hE : mx_D E as.length) (hc : mx_cV o i E) (hk : k < d) (hnn : n ≤ n') (hnE : n' ≤ nE) (hc1 : c1 < 9 ∧ mx_rc c1 = E.1.cls) (hi : mx_in md c1 b n) (hR : Runs l G md E k n (.ref b :: as) M n' PE) (hS : S = as.reverse ++ .ref b :: r) (hr : (r.map fun v => v.category).sum ≤ 8)
    (K : ∀ (v : Option Value) (M' : Mm), PE v M' → mx_X p l e (mx_rm d n0 nE) s m args below meth c Q G md n0 nL n' M' (pc + 3) L (v.toList ++ r)) : mx_X p l e (mx_rm d n0 nE) s m args below meth c Q G md n0 nL n M pc L S := by
  intro hL hn H locs ls hH hlo hls
  obtain ⟨hx, hb, hml, ho, hts, hK, -⟩ := C
  subst hS
  have hcat : 2 * (F0 m pc ls ((as.reverse ++ .ref b :: r).map (mx_cv G))).monitorRoom + ((r.map (mx_cv G)).map fun v => v.category).sum ≤ 8 := lv_room (by rw [mx_catm]; exact hr)
  have hrec := mx_recv (s := s) hH hK hc1.1 hi
  rw [hc1.2] at hrec
  have hpre := mx_pre (as := .ref b :: as) (s := s) hH hK
  exact mx_behind (a := ((Value.ref b :: as).map (mx_cv G)).toArray) hL hn hnn hlo hls (va_runV (C := E.1.cls) (b := mx_ad G b) (As := as.map (mx_cv G)) (rest := r.map (mx_cv G)) ⟨hx, hb, hml, ho, hts⟩ (hR (d - 1) (by omega)) ⟨mx_callB (na := as.length) hts hE (by omega) hc.1, hts _ hc.2.1, hts _ hc.2.2⟩ ⟨hpre.1, hrec, hpre.2⟩ rfl (by simp) hls.1 (by simp; rfl) hcat hd (mx_fit hn hnn hnE)) K
theorem mx_callI {d nE pc i k n n' b : Nat} {E : Md} {M : Mm} {L : Lv} {S r : Sk} {as : List Value} {PE : Option Value → Mm → Prop} (C : mx_C p s m args meth c G md nL o cc) (hd : decode cc pc = .ok (.invokespecial i, 3)) (hE : mx_D E as.length) (hc : mx_cI o i E) (hk : k < d) (hnn : n ≤ n') (hnE : n' ≤ nE) (hR : Runs l G md E k n (.ref b :: as) M n' PE) (hS : S = as.reverse ++ .ref b :: r) (hr : (r.map fun v => v.category).sum ≤ 8)
    (K : ∀ (v : Option Value) (M' : Mm), PE v M' → mx_X p l e (mx_rm d n0 nE) s m args below meth c Q G md n0 nL n' M' (pc + 3) L (v.toList ++ r)) : mx_X p l e (mx_rm d n0 nE) s m args below meth c Q G md n0 nL n M pc L S := by
  intro hL hn H locs ls hH hlo hls
  obtain ⟨hx, hb, hml, ho, hts, hK, -⟩ := C
  subst hS
  have hcat : 2 * (F0 m pc ls ((as.reverse ++ .ref b :: r).map (mx_cv G))).monitorRoom + ((r.map (mx_cv G)).map fun v => v.category).sum ≤ 8 := lv_room (by rw [mx_catm]; exact hr)
  have hpre := mx_pre (as := .ref b :: as) (s := s) hH hK
  obtain ⟨hc0, hc1, hc2, hc3⟩ := hc
  rcases hc0 with hc0 | hc0
  · have hB := mx_callB (n0 := n0) (n := n) (n' := n') (nE := nE) (na := as.length) (o := o) hts hE (show 0 < d by omega) hc0
    rw [hc3] at hB
    exact mx_behind (a := ((Value.ref b :: as).map (mx_cv G)).toArray) hL hn hnn hlo hls (va_runI (b := mx_ad G b) (As := as.map (mx_cv G)) (rest := r.map (mx_cv G)) ⟨hx, hb, hml, ho, hts⟩ (hR (d - 1) (by omega)) ⟨hB, hc1, hts _ hc2⟩ hpre rfl (by simp) hls.1 (by simp; rfl) hcat hd (mx_fit hn hnn hnE)) K
  · have hB := mx_callN (G := G) (n0 := n0) (n := n) (n' := n') (nE := nE) (na := as.length) (o := o) hts hK hE (show 0 < d by omega) hc0
    rw [hc3] at hB
    exact mx_behind (a := ((Value.ref b :: as).map (mx_cv G)).toArray) hL hn hnn hlo hls (va_runIN (b := mx_ad G b) (As := as.map (mx_cv G)) (rest := r.map (mx_cv G)) ⟨hx, hb, hml, ho, hts⟩ (hR (d - 1) (by omega)) ⟨hB, hc1, hts _ hc2⟩ hpre rfl (by simp) hls.1 (by simp; rfl) hcat hd (mx_fit hn hnn hnE)) K
end MX
end
section
section MX
variable {p : Program} {l : Launch} {e : Env} {s : State} {m : MethodId} {args : Array Value} {below : List Frame} {meth : Method} {c : Code} {Q : State → Prop} {G : Gt} {md : Bool} {n0 nL o : Nat} {cc : ByteArray}
theorem mx_old {n : Nat} {M : Mm} {H : Heap} (hH : mx_H G md n M H) : ∀ a : Nat, a < G.1.size → ¬ mx_A G a → H[a]? = G.1[a]? := fun a h _ => hH.2.2.2.1 a h
theorem mx_mth1 : Cond.static Lib.Math.max.name ∈ gw ∧ Cond.static Lib.Math.min.name ∈ gw ∧ Cond.static Lib.Math.abs.name ∈ gw ∧ Cond.initialized "java/lang/Math" ∈ gw ∧ Cond.code Lib.Math.max.name Lib.Math.max.code 2 (some .int) ∈ gw ∧ Cond.code Lib.Math.min.name Lib.Math.min.code 2 (some .int) ∈ gw ∧ Cond.code Lib.Math.abs.name Lib.Math.abs.code 1 (some .int) ∈ gw :=
  ⟨mx_gw (i := 406) (by decide +kernel), mx_gw (i := 403) (by decide +kernel), mx_gw (i := 561) (by decide +kernel), mx_gw (i := 64) (by decide +kernel), mx_gw (i := 407) (by decide +kernel), mx_gw (i := 404) (by decide +kernel), mx_gw (i := 562) (by decide +kernel)⟩
theorem mx_cpyw : Cond.native arraycopyName ∈ gw ∧ Cond.static arraycopyName ∈ gw ∧ Cond.initialized "java/lang/System" ∈ gw := ⟨mx_gw (i := 788) (by decide +kernel), mx_gw (i := 787) (by decide +kernel), mx_gw (i := 70) (by decide +kernel)⟩
theorem mx_oddS {d nE pc len n : Nat} {w : Instr} {M : Mm} {L : Lv} {S S' : Sk} (C : mx_C p s m args meth c G md nL o cc) (hd : decode cc pc = .ok (w, len)) (h : mx_odd o w len S S') (h1d : 1 ≤ d) (hnE : n ≤ nE) (K : mx_X p l e (mx_rm d n0 nE) s m args below meth c Q G md n0 nL n M (pc + len) L S') : mx_X p l e (mx_rm d n0 nE) s m args below meth c Q G md n0 nL n M pc L S := by
  intro hL hn H locs ls hH hlo hls
  have K := K hL hn H locs ls hH hlo hls
  obtain ⟨hx, hb, hml, ho, hts, hK, -⟩ := C
  obtain ⟨hKa, hKs, hKr, hKc⟩ := hK.2.2.2
  have hr1 : 1 ≤ (mx_rm d n0 nE).frames := h1d
  have hsz := mx_fit hn (Nat.le_refl n) hnE
  have hcl : n - n0 ≤ (mx_rm d n0 nE).cells := by show n - n0 ≤ nE - n0; omega
  have hsl : mx_sz n - mx_sz n0 ≤ (mx_rm d n0 nE).slots := by
    show mx_sz n - mx_sz n0 ≤ mx_sz nE - mx_sz n0
    omega
  have hroom : ∀ r : Sk, (r.map fun v => v.category).sum ≤ 8 → ((r.map (mx_cv G)).map fun v => v.category).sum + 13 ≤ (mx_rm d n0 nE).locals := by
    intro r hr
    rw [mx_catm]
    show _ ≤ 100 * d
    omega
  rcases h with ⟨i, rfl, rfl, hl, rfl⟩ | ⟨r, rfl, rfl, rfl, rfl⟩ | ⟨i, r, rfl, rfl, hi, rfl, rfl⟩ | ⟨i, r, x, y, rfl, rfl, hl, hr, rfl, rfl⟩ | ⟨i, r, x, y, rfl, rfl, hl, hr, rfl, rfl⟩ | ⟨i, r, x, rfl, rfl, hl, hr, rfl, rfl⟩ | ⟨j, rfl, rfl, rfl, hj, rfl⟩ | ⟨i, j, r, rfl, rfl, hl, hj, rfl, rfl⟩ | ⟨i, j, r, rfl, rfl, hl, hj, rfl, rfl⟩ | ⟨j, r, rfl, rfl, hj, rfl, rfl⟩ | ⟨j, i, r, rfl, rfl, hj, hi, rfl, rfl⟩ | ⟨i, rfl, rfl, hl, rfl⟩
  · obtain ⟨cf, kf, fi, f, a, cell, z1, z2, z3, z4, z5, z6, z7, z8⟩ := hKa.1.kept (mx_old hH)
    rcases hl with hl | hl
    · exact W.gets hx hb ho (hts _ hl) z1 z2 z3 z4 z5 (fun e => by rw [e] at z6; cases z6) z7 rfl hd K
    · exact va_WgetsN hx hb ho (va_Nw.use rfl (hK.2.1 _ hl)) z1 z2 z3 z4 z5 (fun e => by rw [e] at z6; cases z6) z7 rfl hd K
  · obtain ⟨cell, z1, z2, z3, z4, z5, z6, z7⟩ := hKa.2.kept (mx_old hH)
    exact W.alen hx hb z1 z2 z5 rfl rfl hd K
  · obtain ⟨cell, z1, z2, z3, z4, z5, z6, z7⟩ := hKa.2.kept (mx_old hH)
    have hlt : i.toNatClampNeg < 6 := Nat.not_le.mp fun q => hi (Or.inr q)
    exact W.iald (v := .int (mx_abv i.toNatClampNeg)) hx hb z1 z2 z3 (fun q => by
      rcases q with q | q
      · exact hi (Or.inl q)
      · omega) (z6 _ hlt) rfl rfl hd K
  · exact va_mmax hx hb (by rw [hml]; exact hls.1.symm) ho (hts _ hl) (hts _ mx_mth1.1) (hts _ mx_mth1.2.2.2.1) (hts _ mx_mth1.2.2.2.2.1) hr1 (hroom r hr) hcl hsl hd K
  · exact va_mmin hx hb (by rw [hml]; exact hls.1.symm) ho (hts _ hl) (hts _ mx_mth1.2.1) (hts _ mx_mth1.2.2.2.1) (hts _ mx_mth1.2.2.2.2.2.1) hr1 (hroom r hr) hcl hsl hd K
  · exact va_mabs hx hb (by rw [hml]; exact hls.1.symm) ho (hts _ hl) (hts _ mx_mth1.2.2.1) (hts _ mx_mth1.2.2.2.1) (hts _ mx_mth1.2.2.2.2.2.2) hr1 (hroom r hr) hcl hsl hd K
  · exact va_ldcS hx hb ho (hKr j hj) hd K
  · obtain ⟨cf, k, fi, f, cell, z1, z2, z3, z4, z5, z6⟩ := (hKs.1 j hj).2.2.1.kept (mx_old hH)
    exact W.getf hx hb ho (hts _ hl) z1 z2 z3 z4 z5 rfl rfl hd K
  · obtain ⟨cf, k, fi, f, cell, z1, z2, z3, z4, z5, z6⟩ := (hKs.1 j hj).2.1.kept (mx_old hH)
    exact W.getf hx hb ho (hts _ hl) z1 z2 z3 z4 z5 rfl rfl hd K
  · obtain ⟨cell, z1, z2, z3, z4, z5, z6, z7⟩ := (hKs.1 j hj).2.2.2.kept (mx_old hH)
    exact W.alen hx hb z1 z2 z5 rfl rfl hd K
  · obtain ⟨cell, z1, z2, z3, z4, z5, z6, z7⟩ := (hKs.1 j hj).2.2.2.kept (mx_old hH)
    have hlt : i.toNatClampNeg < mx_sl_.getD j 0 := Nat.not_le.mp fun q => hi (Or.inr q)
    exact W.bald (v := .int ((mx_sb.getD j []).getD i.toNatClampNeg 0)) hx hb z1 z2 z3 (fun q => by
      rcases q with q | q
      · exact hi (Or.inl q)
      · omega) (z6 _ hlt) rfl rfl hd K
  · obtain ⟨cf, kf, fi, f, a, cell, z1, z2, z3, z4, z5, z6, z7, z8⟩ := hKc.kept (mx_old hH)
    exact W.gets hx hb ho (hts _ hl) z1 z2 z3 z4 z5 (fun e => by rw [e] at z6; cases z6) z7 rfl hd K
theorem mx_cpyS {d nE pc i n k1 k2 : Nat} {M : Mm} {L : Lv} {r : Sk} {sp dp cnt : Int32} (C : mx_C p s m args meth c G md nL o cc) (hd : decode cc pc = .ok (.invokestatic i, 3)) (hl : Cond.methodLink (mx_rc o) i arraycopyName ∈ gw) (h1d : 1 ≤ d) (hi1 : mx_in md 11 k1 n) (hi2 : mx_in md 11 k2 n) (h1 : ¬ sp < 0) (h2 : ¬ dp < 0) (h3 : ¬ cnt < 0) (h4 : sp.toNatClampNeg + cnt.toNatClampNeg ≤ (kd k1).2) (h5 : dp.toNatClampNeg + cnt.toNatClampNeg ≤ (kd k2).2) (hr : (r.map fun v => v.category).sum ≤ 8)
    (K : mx_X p l e (mx_rm d n0 nE) s m args below meth c Q G md n0 nL n (mx_cpy M k1 sp.toNatClampNeg k2 dp.toNatClampNeg cnt.toNatClampNeg) (pc + 3) L r) : mx_X p l e (mx_rm d n0 nE) s m args below meth c Q G md n0 nL n M pc L (.int cnt :: .int dp :: .ref k2 :: .int sp :: .ref k1 :: r) := by
  intro hL hn H locs ls hH hlo hls
  obtain ⟨hx, hb, hml, ho, hts, hK, -⟩ := C
  obtain ⟨hk1, hkc1, hc1⟩ := mx_arr hH hi1 (by decide) (by decide)
  obtain ⟨hk2, hkc2, hc2⟩ := mx_arr hH hi2 (by decide) (by decide)
  have hz2 : mx_ad G k2 = G.1.size + k2 := mx_adk hH hk2
  have nn : ∀ z : Int32, ¬ z < 0 → z.toInt = (z.toNatClampNeg : Int) := by
    intro z hz
    have hz0 : (0 : Int) ≤ z.toInt := by
      have := Int32.not_lt.mp hz
      simpa using Int32.le_iff_toInt_le.mp this
    show z.toInt = ((z.toInt.toNat : Nat) : Int)
    omega
  have hc1 : H[mx_ad G k1]? = some (arrV (G.2.2.1 11) (kd k1).2 (fun j => .int (M k1 j))) := hc1
  have hc2 : H[mx_ad G k2]? = some (arrV (G.2.2.1 11) (kd k2).2 (fun j => .int (M k2 j))) := hc2
  intro T hT X
  obtain ⟨-, kA, hkA, cmA, hkkA⟩ := (hK.1.2 2 _ rfl).1 0 (fun j => .int 0)
  obtain ⟨vm', X', step⟩ := X.arraycopy hx ho (hts _ hl) (hts _ mx_cpyw.1) (hts _ mx_cpyw.2.1) (hts _ mx_cpyw.2.2) (src := mx_ad G k1) (dst := mx_ad G k2) (cs := arrV (G.2.2.1 11) (kd k1).2 (fun j => .int (M k1 j))) (cd := arrV (G.2.2.1 11) (kd k2).2 (fun j => .int (M k2 j))) (srcPos := sp) (destPos := dp) (n := cnt) (by rw [hT]; exact hc1) (by rw [hT]; exact hc2)
    (fun _ h => by cases h) (fun _ h => by cases h) (fun h => by cases h) (fun h => by cases h) hkA hkA hkkA hkkA (by simp) h1 h2 h3
    (by rw [nn sp h1, nn cnt h3, arrV_size]; omega)
    (by rw [nn dp h2, nn cnt h3, arrV_size]; omega)
    (fun vm₁ _ i hi => by
      have e : (arrV (G.2.2.1 11) (kd k1).2 (fun j => Value.int (M k1 j))).slots.getD (sp.toNatClampNeg + i) .null = .int (M k1 (sp.toNatClampNeg + i)) := by
        rw [Array.getD_eq_getD_getElem?, arrV_read _ _ (by omega)]
        rfl
      refine ⟨?_, ?_⟩
      · rw [e]
        rfl
      · rw [e]
        exact trivial)
    (g := F0 m pc ls ((Value.int cnt :: .int dp :: .ref k2 :: .int sp :: .ref k1 :: r).map (mx_cv G))) rfl (by rw [hml]; exact hls.1) (rest := r.map (mx_cv G)) rfl (by rw [hb]; exact hd) h1d (by
      rw [mx_catm]
      have : nativeFrameWords "java/lang/System" "arraycopy" 5 ≤ 60 := by decide
      show 2 * 0 + _ + _ ≤ 100 * d
      omega)
  have e1 : copied (arrV (G.2.2.1 11) (kd k1).2 (fun j => Value.int (M k1 j))) (arrV (G.2.2.1 11) (kd k2).2 (fun j => Value.int (M k2 j))) sp dp cnt = arrV (G.2.2.1 11) (kd k2).2 (fun j => .int (va_cpy (M k1) (M k2) sp.toNatClampNeg dp.toNatClampNeg cnt.toNatClampNeg j)) := va_copied (fun z => .int z) _ _ (M k1) (M k2) h4
  rw [e1] at X' step
  have hl2 : mx_ad G k2 < H.size := (Array.getElem?_eq_some_iff.mp hc2).1
  generalize hcell : arrV (G.2.2.1 11) (kd k2).2 (fun j => Value.int (va_cpy (M k1) (M k2) sp.toNatClampNeg dp.toNatClampNeg cnt.toNatClampNeg j)) = cell at X' step
  have hheap : ((T.setVm vm').setCell (mx_ad G k2) cell).heap = H.setIfInBounds (mx_ad G k2) cell := by rw [← hT]; rfl
  have oq : ∀ q : Nat, q ≠ mx_ad G k2 → (H.setIfInBounds (mx_ad G k2) cell)[q]? = H[q]? := fun q hq => by simp [Array.getElem?_setIfInBounds, Ne.symm hq]
  obtain ⟨t, a1, b1⟩ := K hL hn (H.setIfInBounds (mx_ad G k2) cell) _ ls (hH.put (k := k2) (M' := mx_cpy M k1 sp.toNatClampNeg k2 dp.toNatClampNeg cnt.toNatClampNeg) (fun q hq => by simp [mx_cpy, hq]) (by simp) (fun q hq => oq q (by rw [hz2]; exact hq)) (by
      unfold mx_cell
      rw [if_neg (by omega), hkc2, ← hz2]
      have e2 : (H.setIfInBounds (mx_ad G k2) cell)[mx_ad G k2]? = some cell := by simp [Array.getElem?_setIfInBounds, hl2]
      rw [e2, ← hcell]
      congr 2
      funext j
      simp [mx_cpy, mx_ev, mx_cv])) (fun q hq => by
      rcases List.mem_append.mp hq with h | h
      · exact hlo q h
      · obtain ⟨z, -, hz⟩ := List.mem_map.mp h
        rw [← hz]
        show G.1.size ≤ mx_ad G k2
        omega) hls _ hheap X'
  exact ⟨t, step t a1, b1⟩
theorem mx_callT {d nE pc i k n j : Nat} {E : Md} {M : Mm} {L : Lv} {S r : Sk} {as : List Value} {PE : Option Value → Mm → Prop} (C : mx_C p s m args meth c G md nL o cc) (hd : decode cc pc = .ok (.invokevirtual i, 3)) (hE : mx_D E as.length) (hc : mx_cV o i E) (hk : k < d) (hnE : n ≤ nE) (hj : E.1.cls = "java/lang/String" ∧ j < 6) (hR : Runs l G md E k n (.ref (1001 + j) :: as) M n PE) (hS : S = as.reverse ++ .ref (1001 + j) :: r) (hr : (r.map fun v => v.category).sum ≤ 8)
    (K : ∀ (v : Option Value) (M' : Mm), PE v M' → mx_X p l e (mx_rm d n0 nE) s m args below meth c Q G md n0 nL n M' (pc + 3) L (v.toList ++ r)) : mx_X p l e (mx_rm d n0 nE) s m args below meth c Q G md n0 nL n M pc L S := by
  intro hL hn H locs ls hH hlo hls
  obtain ⟨hx, hb, hml, ho, hts, hK, -⟩ := C
  subst hS
  have hcat : 2 * (F0 m pc ls ((as.reverse ++ .ref (1001 + j) :: r).map (mx_cv G))).monitorRoom + ((r.map (mx_cv G)).map fun v => v.category).sum ≤ 8 := lv_room (by rw [mx_catm]; exact hr)
  obtain ⟨cell, h1, h2, h3, -⟩ := (hK.2.2.2.2.1.1 j hj.2).1.kept (mx_old hH)
  rw [← hj.1] at h3
  have hpre := mx_pre (as := .ref (1001 + j) :: as) (s := s) hH hK
  exact mx_behind (a := ((Value.ref (1001 + j) :: as).map (mx_cv G)).toArray) hL hn (Nat.le_refl n) hlo hls (va_runV (C := E.1.cls) (b := mx_ad G (1001 + j)) (As := as.map (mx_cv G)) (rest := r.map (mx_cv G)) ⟨hx, hb, hml, ho, hts⟩ (hR (d - 1) (by omega)) ⟨mx_callB (na := as.length) hts hE (by omega) hc.1, hts _ hc.2.1, hts _ hc.2.2⟩ ⟨hpre.1, ⟨cell, h1, h2, h3⟩, hpre.2⟩ rfl (by simp) hls.1 (by simp; rfl) hcat hd (mx_fit hn (Nat.le_refl n) hnE)) K
end MX
end
section
section MX
variable {p : Program} {l : Launch} {e : Env} {s : State} {m : MethodId} {args : Array Value} {below : List Frame} {meth : Method} {c : Code} {Q : State → Prop} {G : Gt} {n0 nL o : Nat} {cc : ByteArray}
theorem mx_instw : ∀ q ∈ [0, 1, 2, 3, 4, 5, 6, 7, 8], Cond.instantiable (mx_rc q) (mx_nf.getD q 0) ∈ gw ∧ Cond.initialized (mx_rc q) ∈ gw := by
  have h1 := mx_gwz (fun q : Nat => Cond.instantiable (mx_rc q) (mx_nf.getD q 0)) [166, 86, 80, 238, 142, 160, 230, 72, 890] [0, 1, 2, 3, 4, 5, 6, 7, 8] (by decide +kernel) (by decide +kernel)
  have h2 := mx_gwz (fun q : Nat => Cond.initialized (mx_rc q)) [60, 57, 56, 62, 58, 59, 61, 55, 63] [0, 1, 2, 3, 4, 5, 6, 7, 8] (by decide +kernel) (by decide +kernel)
  exact fun q hq => ⟨h1 q hq, h2 q hq⟩
theorem mx_arrw : Cond.arrayClass .int ∈ gw ∧ Cond.arrayClass .byte ∈ gw ∧ Cond.arrayClass .char ∈ gw ∧ Cond.arrayClass .boolean ∈ gw := ⟨mx_gw (i := 111) (by decide +kernel), mx_gw (i := 110) (by decide +kernel), mx_gw (i := 1001) (by decide +kernel), mx_gw (i := 1002) (by decide +kernel)⟩
def mx_deft (c j : Nat) : Bool := decide (defaultValue (mx_ty c j) = mx_sv false (ft c j) 0 0)
theorem mx_def : ∀ c, c < 9 → ∀ j, j < mx_nf.getD c 0 → mx_deft c j = true := by decide +kernel
theorem mx_svk {t : Nat × Nat} {k k' : Nat} {x : Int32} : mx_sv false t k x = mx_sv false t k' x := by
  obtain ⟨a, b⟩ := t
  match a with
  | 0 => rfl
  | 1 => rfl
  | 2 => rfl
  | n + 3 => rfl
theorem mx_cv0 {t : Nat × Nat} {k : Nat} : mx_cv G (mx_sv false t k 0) = mx_sv false t k 0 := by
  obtain ⟨a, b⟩ := t
  match a with
  | 0 => rfl
  | 1 => rfl
  | 2 => rfl
  | n + 3 => rfl
theorem mx_H.push {n : Nat} {M : Mm} {H H1 : Heap} (hH : mx_H G false n M H) (hn : n < mx_NT) (hz : H1.size = H.size + 1) (ho : ∀ q, q < H.size → H1[q]? = H[q]?) (hc : mx_cell G false n (fun _ => 0) H1) : mx_H G false (n + 1) (mx_z M n) H1 := by
  obtain ⟨h1, h2, h3, h4, h5⟩ := hH
  refine ⟨by omega, by omega, fun h => absurd h (by decide), fun q hq => (ho q (by omega)).trans (h4 q hq), fun q hq => ?_⟩
  by_cases e : q = n
  · subst e
    rw [show mx_z M q q = fun _ => 0 by simp [mx_z]]
    exact hc
  · rw [show mx_z M n q = M q by simp [mx_z, e]]
    exact (h5 q (by omega)).kept (ho _ (by omega))
theorem mx_room1 {d n nE : Nat} (hn : n0 ≤ n) (hE : n + 1 ≤ nE) : n - n0 + 1 ≤ (mx_rm d n0 nE).cells ∧ mx_sz n - mx_sz n0 + (kd n).2 ≤ (mx_rm d n0 nE).slots ∧ n - n0 + 1 = n + 1 - n0 ∧ mx_sz n - mx_sz n0 + (kd n).2 = mx_sz (n + 1) - mx_sz n0 := by
  have h1 := mx_szm hn
  have h2 := mx_szm hE
  rw [mx_szs] at h2
  refine ⟨?_, ?_, by omega, by rw [mx_szs]; omega⟩
  · show n - n0 + 1 ≤ nE - n0
    omega
  · show _ ≤ mx_sz nE - mx_sz n0
    omega
theorem mx_newS {d nE pc i c1 n : Nat} {M : Mm} {L : Lv} {S : Sk} (C : mx_C p s m args meth c G false nL o cc) (hd : decode cc pc = .ok (.new i, 3)) (hl : (o, i, c1) ∈ mx_cl) (hc : c1 < 9) (hkd : (kd n).1 = c1) (hE : n + 1 ≤ nE)
    (K : mx_X p l e (mx_rm d n0 nE) s m args below meth c Q G false n0 nL (n + 1) (mx_z M n) (pc + 3) L (.ref n :: S)) : mx_X p l e (mx_rm d n0 nE) s m args below meth c Q G false n0 nL n M pc L S := by
  intro hL hn H locs ls hH hlo hls
  obtain ⟨hx, hb, hml, ho, hts, hK, -⟩ := C
  have hn1 : n < 127 := mx_kdlt (by omega)
  obtain ⟨vr, hvr⟩ := mx_vw hc
  obtain ⟨-, hrc, hN, hin, hnm, hty⟩ := mx_cls c1 vr hvr
  have hKn := hK.1.1 c1 _ hvr
  have hm9 : c1 ∈ [0, 1, 2, 3, 4, 5, 6, 7, 8] := by simp; omega
  have hkn : (kd n).2 = mx_nf.getD c1 0 := by rw [← mx_kd9 n hn1 (by omega), hkd]
  obtain ⟨r1, r2, r3, r4⟩ := mx_room1 (d := d) hn hE
  rw [hkn] at r2 r4
  refine W.newcK (C := mx_rc c1) hx hb ho (hts _ (mx_cl_in _ hl)) (hts _ (mx_instw c1 hm9).1) (hts _ (mx_instw c1 hm9).2) rfl hd r1 r2 (by rw [← hrc]; exact hKn.2.1) rfl fun H1 kC hkC e1 z1 o1 => ?_
  rw [r3, r4]
  have hadn : mx_cv G (.ref n) = .ref H.size := by
    show Value.ref (mx_ad G n) = _
    rw [mx_ad, if_pos (by omega), hH.1]
  have K := K hL (by omega) H1 locs ls (hH.push (by unfold mx_NT; omega) z1 o1 ?_) hlo hls
  · rw [List.map_cons, hadn] at K
    exact K
  · unfold mx_cell
    rw [if_pos (by omega), hkd, hkn, ← hN]
    rw [hH.1] at e1
    refine (u_born (mx_ty c1) hts hin hKn hkC e1 hty).to (fun j hj => ?_)
    have hdj := mx_def c1 hc j (by rw [← hN]; exact hj)
    simp only [mx_deft, decide_eq_true_eq] at hdj
    rw [hdj, mx_cv0]
    exact mx_svk
theorem mx_cb {a b : Nat} (ha : a ≤ 100000) (hb : b ≤ 8) : a * b ≤ 536870912 := Nat.le_trans (Nat.mul_le_mul ha hb) (by decide)
theorem mx_newa1 {d nE pc n k1 : Nat} {aty : ArrayType} {M : Mm} {L : Lv} {r : Sk} {x : Int32} (C : mx_C p s m args meth c G false nL o cc) (hd : decode cc pc = .ok (.newarray aty, 2)) (haw : Cond.arrayClass (newarray.typeOf aty) ∈ gw) (hk1 : k1 = (kd n).1) (h9 : 9 ≤ k1) (h13 : k1 < 13) (hty : s.vm.findClass ("[" ++ (newarray.typeOf aty).toString) = some (G.2.2.1 k1)) (hdv : defaultValue (newarray.typeOf aty) = .int 0) (hx0 : ¬ x < 0) (hxn : x.toNatClampNeg = (kd n).2) (hby : (kd n).2 * componentBytes (newarray.typeOf aty) ≤ 536870912) (hE : n + 1 ≤ nE)
    (K : mx_X p l e (mx_rm d n0 nE) s m args below meth c Q G false n0 nL (n + 1) (mx_z M n) (pc + 2) L (.ref n :: r)) : mx_X p l e (mx_rm d n0 nE) s m args below meth c Q G false n0 nL n M pc L (.int x :: r) := by
  intro hL hn H locs ls hH hlo hls
  obtain ⟨hx, hb, hml, ho, hts, hK, -⟩ := C
  have hn1 : n < 127 := mx_kdlt (by omega)
  obtain ⟨r1, r2, r3, r4⟩ := mx_room1 (d := d) hn hE
  refine va_newaK hx hb (hts _ haw) rfl hd rfl hx0 hxn hby r1 r2 rfl fun H1 cA e1 z1 o1 hAr hNm => ?_
  rw [r3, r4]
  have hcA : cA = G.2.2.1 k1 := Option.some.inj (hNm.symm.trans hty)
  subst hcA
  have hadn : mx_cv G (.ref n) = .ref H.size := by
    show Value.ref (mx_ad G n) = _
    rw [mx_ad, if_pos (by omega), hH.1]
  have K := K hL (by omega) H1 locs ls (hH.push (by unfold mx_NT; omega) z1 o1 ?_) hlo hls
  · rw [List.map_cons, hadn] at K
    exact K
  · unfold mx_cell
    rw [if_neg (by omega), ← hk1]
    rw [hH.1, hdv] at e1
    rw [e1]
    congr 2
    funext j
    simp [mx_ev, h13, mx_cv]
theorem mx_newaS {d nE pc n : Nat} {aty : ArrayType} {M : Mm} {L : Lv} {r : Sk} {x : Int32} (C : mx_C p s m args meth c G false nL o cc) (hd : decode cc pc = .ok (.newarray aty, 2)) (hk : (kd n).1 = mx_aty aty ∧ mx_aty aty ≠ 0) (hx0 : ¬ x < 0) (hxn : x.toNatClampNeg = (kd n).2) (hby : (kd n).2 ≤ 100000) (hE : n + 1 ≤ nE)
    (K : mx_X p l e (mx_rm d n0 nE) s m args below meth c Q G false n0 nL (n + 1) (mx_z M n) (pc + 2) L (.ref n :: r)) : mx_X p l e (mx_rm d n0 nE) s m args below meth c Q G false n0 nL n M pc L (.int x :: r) := by
  obtain ⟨hk, hk0⟩ := hk
  obtain ⟨w1, w2, w3, w4⟩ := mx_arrw
  have hK := (id C).2.2.2.2.2.1
  cases aty <;> first | exact absurd rfl hk0 | skip
  case int => exact mx_newa1 C hd w1 hk.symm (by decide) (by decide) (hK.1.2 2 _ rfl).2 rfl hx0 hxn (mx_cb hby (show componentBytes (newarray.typeOf .int) ≤ 8 by decide)) hE K
  case byte => exact mx_newa1 C hd w2 hk.symm (by decide) (by decide) (hK.1.2 0 _ rfl).2 rfl hx0 hxn (mx_cb hby (show componentBytes (newarray.typeOf .byte) ≤ 8 by decide)) hE K
  case char => exact mx_newa1 C hd w3 hk.symm (by decide) (by decide) (hK.1.2 1 _ rfl).2 rfl hx0 hxn (mx_cb hby (show componentBytes (newarray.typeOf .char) ≤ 8 by decide)) hE K
  case boolean => exact mx_newa1 C hd w4 hk.symm (by decide) (by decide) (hK.1.2 3 _ rfl).2 rfl hx0 hxn (mx_cb hby (show componentBytes (newarray.typeOf .boolean) ≤ 8 by decide)) hE K
theorem mx_tyR {k1 : Nat} (h13 : 13 ≤ k1) (h17 : k1 < 17) (hK : mx_K G s) : va_AO (mx_rc (mx_ec k1)) s ∧ va_RA s (G.2.2.1 k1) (.object (mx_rc (mx_ec k1))) ∧ ArrOfT s (G.2.2.1 k1) (.object (mx_rc (mx_ec k1))) := by
  rcases (show k1 = 13 ∨ k1 = 14 ∨ k1 = 15 ∨ k1 = 16 by omega) with rfl | rfl | rfl | rfl
  · exact ⟨hK.2.2.1.1, (hK.1.2 4 _ rfl).2, (hK.1.2 4 _ rfl).1⟩
  · exact ⟨hK.2.2.1.2.1, (hK.1.2 5 _ rfl).2, (hK.1.2 5 _ rfl).1⟩
  · exact ⟨hK.2.2.1.2.2.1, (hK.1.2 6 _ rfl).2, (hK.1.2 6 _ rfl).1⟩
  · exact ⟨hK.2.2.1.2.2.2, (hK.1.2 7 _ rfl).2, (hK.1.2 7 _ rfl).1⟩
theorem mx_anewS {d nE pc i n k1 : Nat} {M : Mm} {L : Lv} {r : Sk} {x : Int32} (C : mx_C p s m args meth c G false nL o cc) (hd : decode cc pc = .ok (.anewarray i, 3)) (hl : (o, i, mx_ec k1) ∈ mx_cl) (hk1 : (kd n).1 = k1) (h13 : 13 ≤ k1) (h17 : k1 < 17) (hx0 : ¬ x < 0) (hxn : x.toNatClampNeg = (kd n).2) (hby : (kd n).2 ≤ 100000) (hE : n + 1 ≤ nE)
    (K : mx_X p l e (mx_rm d n0 nE) s m args below meth c Q G false n0 nL (n + 1) (mx_z M n) (pc + 3) L (.ref n :: r)) : mx_X p l e (mx_rm d n0 nE) s m args below meth c Q G false n0 nL n M pc L (.int x :: r) := by
  intro hL hn H locs ls hH hlo hls
  obtain ⟨hx, hb, hml, ho, hts, hK, -⟩ := C
  have hn1 : n < 127 := mx_kdlt (by omega)
  obtain ⟨r1, r2, r3, r4⟩ := mx_room1 (d := d) hn hE
  rw [← hxn] at r2 r4 hby
  obtain ⟨w1, w2, w3⟩ := mx_tyR h13 h17 hK
  refine W.anew hx hb ho (hts _ (mx_cl_in _ hl)) (va_AO.use w1) rfl hd rfl hx0 (by omega) r1 r2 fun cA kA comp f1 f2 f3 f4 => ?_
  rw [r3, r4]
  obtain ⟨kA', comp', g1, g2, g3, g4⟩ := w2
  have hcA : cA = G.2.2.1 k1 := Option.some.inj (f1.symm.trans g4)
  subst hcA
  generalize hH1 : H.push ({ cls := G.2.2.1 k1, slots := Array.replicate x.toNatClampNeg .null, vm := .none } : Cell) = H1
  have z1 : H1.size = H.size + 1 := by rw [← hH1, Array.size_push]
  have e1 : H1[H.size]? = some (arrV (G.2.2.1 k1) x.toNatClampNeg (fun _ => .null)) := by rw [← hH1, Array.getElem?_push_size, ← arrV_new]
  have o1 : ∀ q : Nat, q < H.size → H1[q]? = H[q]? := fun q hq => by rw [← hH1, Array.getElem?_push, if_neg (Nat.ne_of_lt hq)]
  have hadn : mx_cv G (.ref n) = .ref H.size := by
    show Value.ref (mx_ad G n) = _
    rw [mx_ad, if_pos (by omega), hH.1]
  have K := K hL (by omega) H1 locs ls (hH.push (by unfold mx_NT; omega) z1 o1 ?_) hlo hls
  · rw [List.map_cons, hadn] at K
    exact K
  · unfold mx_cell
    rw [if_neg (by omega), hk1]
    rw [hH.1, hxn] at e1
    rw [e1]
    congr 2
    funext j
    have : ¬ k1 < 13 := by omega
    simp [mx_ev, this, mx_rv, mx_cv]
theorem mx_aastS {d nE pc n k1 k t : Nat} {M : Mm} {L : Lv} {r : Sk} {i : Int32} (C : mx_C p s m args meth c G false nL o cc) (hd : decode cc pc = .ok (.aastore, 1)) (hk : (kd k).1 = k1 ∧ k < n) (h13 : 13 ≤ k1) (h17 : k1 < 17) (ht : (kd t).1 = mx_ec k1 ∧ t < n ∧ 0 < t) (hr : vp_in i (kd k).2)
    (K : mx_X p l e (mx_rm d n0 nE) s m args below meth c Q G false n0 nL n (mx_wr M k i.toNatClampNeg (nI t)) (pc + 1) L r) : mx_X p l e (mx_rm d n0 nE) s m args below meth c Q G false n0 nL n M pc L (.ref t :: .int i :: .ref k :: r) := by
  intro hL hn H locs ls hH hlo hls
  obtain ⟨hx, hb, hml, ho, hts, hK, -⟩ := C
  obtain ⟨hkn, hkc, hcell⟩ := mx_arr (md := false) hH (show mx_in false k1 k n from hk) (by omega) h17
  have hz : mx_ad G k = G.1.size + k := mx_adk hH hkn
  have hec : mx_ec k1 < 9 := by
    rcases (show k1 = 13 ∨ k1 = 14 ∨ k1 = 15 ∨ k1 = 16 by omega) with rfl | rfl | rfl | rfl <;> decide
  obtain ⟨w1, ⟨kA, comp, g1, g2, g3, g4⟩, w3⟩ := mx_tyR h13 h17 hK
  have hct := hH.2.2.2.2 t ht.2.1
  unfold mx_cell at hct
  rw [if_pos (by rw [ht.1]; exact hec), ht.1] at hct
  obtain ⟨cellV, v1, v2, v3, -⟩ := hct
  rw [← mx_adk hH ht.2.1] at v1
  obtain ⟨vr, hvr⟩ := mx_vw hec
  obtain ⟨-, hrc, -⟩ := mx_cls _ vr hvr
  have hcls := (hK.1.1 _ _ hvr).2
  rw [hrc] at hcls
  have hcomp : comp = G.2.1.1 (mx_ec k1) := Option.some.inj (g3.symm.trans hcls.1)
  subst hcomp
  obtain ⟨kC, hkC, -⟩ := hcls.2
  have hlt : i.toNatClampNeg < (kd k).2 := Nat.not_le.mp fun q => hr (Or.inr q)
  refine W.aast hx hb hcell (fun q h => by cases h) (fun h => by cases h) g1 g2 rfl hkC ⟨fun q => hr (Or.inl q), by rw [arrV_size]; exact hlt⟩ v1 (fun q h => by rw [v3] at h; cases h) (by rw [v2]; exact hkC) (by rw [v2]; exact va_assign hcls) rfl rfl hd fun H1 e z oq => ?_
  refine K hL hn H1 _ ls (hH.put (k := k) (fun q hq => mx_wr_ne hq) z (fun q hq => oq q (by rw [hz]; exact hq)) ?_) (fun q hq => ?_) hls
  · unfold mx_cell
    rw [if_neg (by omega), hkc]
    rw [arrV_store, hz] at e
    rw [e]
    congr 2
    funext q
    rw [mx_wr_self]
    have h13' : ¬ k1 < 13 := by omega
    have ht31 : t < 2 ^ 31 := by
      have h1 := hH.2.1
      unfold mx_NT at h1
      omega
    by_cases hq : q = i.toNatClampNeg
    · subst hq
      have h0 : ¬ nI t = 0 := nI_ne0 ht.2.2 ht31
      simp [updV, mx_ev, h13', mx_rv, h0, nI_clamp ht31, mx_cv]
    · simp [updV, hq]
  · rcases List.mem_append.mp hq with h | h
    · exact hlo q h
    · rw [List.mem_singleton.mp h]
      show G.1.size ≤ mx_ad G k
      omega
theorem mx_oiw : Cond.instanceMethod Lib.objectInit ∈ gw ∧ Cond.code Lib.objectInit ⟨#[0xb1]⟩ 1 none ∈ gw := ⟨mx_gw (i := 77) (by decide +kernel), mx_gw (i := 78) (by decide +kernel)⟩
theorem mx_objS {md : Bool} {d nE pc i n b : Nat} {M : Mm} {L : Lv} {r : Sk} (C : mx_C p s m args meth c G md nL o cc) (hd : decode cc pc = .ok (.invokespecial i, 3)) (hl : Cond.methodLink (mx_rc o) i Lib.objectInit ∈ gw) (h1d : 1 ≤ d) (hr : (r.map fun v => v.category).sum ≤ 8)
    (K : mx_X p l e (mx_rm d n0 nE) s m args below meth c Q G md n0 nL n M (pc + 3) L r) : mx_X p l e (mx_rm d n0 nE) s m args below meth c Q G md n0 nL n M pc L (.ref b :: r) := by
  intro hL hn H locs ls hH hlo hls
  obtain ⟨hx, hb, hml, ho, hts, hK, -⟩ := C
  refine W.objInit hx hb ho (hts _ hl) (hts _ mx_oiw.1) (hts _ mx_oiw.2) rfl (by rw [hml]; exact hls.1) (rest := r.map (mx_cv G)) rfl hd h1d ?_ (K hL hn H locs ls hH hlo hls)
  rw [mx_catm]
  show 2 * 0 + _ + 12 ≤ 100 * d
  omega
end MX
end
section
theorem mx_isr_of {t : FieldType} (h : mx_isr t = true) : (∃ n, t = .object n) ∨ ∃ u, t = .array u := by
  cases t <;> simp [mx_isr] at h
  · exact Or.inl ⟨_, rfl⟩
  · exact Or.inr ⟨_, rfl⟩
section MX
variable {p : Program} {l : Launch} {e : Env} {s : State} {m : MethodId} {args : Array Value} {below : List Frame} {meth : Method} {c : Code} {G : Gt} {md : Bool} {n0 : Nat}
theorem mx_sound {D : Md} {d nE : Nat} {P : Option Value → Mm → Prop} {Qc : Array Value → State → Outcome → State → Prop} (C : mx_C p s m args meth c G md D.2.2.1 D.2.2.2.2 D.2.1) (hr : meth.sig.returnType = D.2.2.2.1) (hQ : ∀ (v : Option Value) (M' : Mm) (t : State), P v M' → mx_H G md nE M' t.heap → Qc args s (.returned (v.map (mx_cv G))) t) :
    mx_Rl l G md D d nE P (mx_X p l e (mx_rm d n0 nE) s m args below meth c (MQ below Qc args s (nE - n0) (mx_sz nE - mx_sz n0) (mx_A G)) G md n0 D.2.2.1) := by
  obtain ⟨hx, hb, hml, ho, hts, hK, hini, hlk⟩ := id C
  refine ⟨fun pc is pc' n M L S h k => mx_blkS C is pc pc' n M L S h k, fun pc t n M L S h k => mx_jmpS C h k, fun pc br t f n M L S h k => mx_brS C h k, fun pc tb df n M L S h k => mx_swS C h k,
    fun pc i E k n n' M L S r as v hd hE hc hk hnn hnE hR hS hr K => mx_callS C hd hE hc hk hnn hnE hR hS hr K,
    fun pc i E k n n' b c1 M L S r as v hd hE hc hk hnn hnE hc1 hi hR hS hr K => mx_callV C hd hE hc hk hnn hnE hc1 hi hR hS hr K,
    fun pc i E k n n' b M L S r as v hd hE hc hk hnn hnE hR hS hr K => mx_callI C hd hE hc hk hnn hnE hR hS hr K, ?_, ?_, ?_, ?_, fun pc w len n M L S S' hd h h1 h2 K => mx_oddS C hd h h1 h2 K, fun pc i n k1 k2 M L r sp dp cnt hd hl h1d hi1 hi2 h1 h2 h3 h4 h5 hr K => mx_cpyS C hd hl h1d hi1 hi2 h1 h2 h3 h4 h5 hr K, fun pc i E k n j M L S r as v hd hE hc hk hnE hj hR hS hr K => mx_callT C hd hE hc hk hnE hj hR hS hr K, fun pc i c1 n M L S hmd hd hl hc hkd hE K => by subst hmd; exact mx_newS C hd hl hc hkd hE K, fun pc n aty M L r x hmd hd hk hx0 hxn hby hE K => by subst hmd; exact mx_newaS C hd hk hx0 hxn hby hE K, fun pc i n k1 M L r x hmd hd hl hk1 h13 h17 hx0 hxn hby hE K => by subst hmd; exact mx_anewS C hd hl hk1 h13 h17 hx0 hxn hby hE K, fun pc n k1 k t M L r i hmd hd hk h13 h17 ht hr K => by subst hmd; exact mx_aastS C hd hk h13 h17 ht hr K, fun pc i n b M L r hd hl h1d hr K => mx_objS C hd hl h1d hr K⟩
  · intro pc M L x ty hd hty hna hP hL hn H locs ls hH hlo hls
    exact W.zret hx hb (hr.trans hty) hna (fun t ht _ => hQ _ M t hP (by rw [ht]; exact hH)) hlo hd hlk
  · intro pc M L hd hty hP hL hn H locs ls hH hlo hls
    exact W.vret hx hb (hr.trans hty) (fun t ht _ => hQ _ M t hP (by rw [ht]; exact hH)) hlo hd hlk
  · intro pc M L x hd hty hP hL hn H locs ls hH hlo hls
    exact W.lret hx hb (hr.trans hty) (fun t ht _ => hQ _ M t hP (by rw [ht]; exact hH)) hlo hd hlk
  · intro pc M L x ty hd hty hir hxr hP hL hn H locs ls hH hlo hls
    exact W.aret hx hb (hr.trans hty) (mx_isr_of hir) (by
      rcases hxr with rfl | ⟨a, rfl⟩
      · exact Or.inl rfl
      · exact Or.inr ⟨_, rfl⟩) (fun t ht _ => hQ _ M t hP (by rw [ht]; exact hH)) hlo hd hlk
end MX
theorem mx_sl : ∀ (vs : List Value), (∀ v ∈ vs, v.category = 1) → (lg_sl vs).length = vs.length
  | [], _ => rfl
  | v :: vs, h => by
    have h1 := mx_sl vs (fun v hv => h v (List.mem_cons_of_mem _ hv))
    have h2 := h v List.mem_cons_self
    unfold lg_sl at h1 ⊢
    rw [List.flatMap_cons, List.length_append, h1, h2]
    simp
    omega
theorem mx_alE {G : Gt} {k : Nat} : ∀ (as : List Value) (i : Nat), (∀ v ∈ as, v.category = 1) → mx_al G i (as.map some ++ List.replicate k none) = lv_args i (as.map (mx_cv G))
  | [], i, _ => by
    simp only [List.map_nil, List.nil_append]
    induction k generalizing i with
    | zero => rfl
    | succ k ih => exact ih (i + 1)
  | v :: as, i, h => by
    have h1 := mx_alE (G := G) (k := k) as (i + 1) (fun v hv => h v (List.mem_cons_of_mem _ hv))
    have h2 : (mx_cv G v).category = 1 := by rw [mx_cv_cat]; exact h v List.mem_cons_self
    show (i, mx_cv G v) :: mx_al G (i + 1) (as.map some ++ List.replicate k none) = (i, mx_cv G v) :: lv_args (if (mx_cv G v).category = 2 then i + 2 else i + 1) (as.map (mx_cv G))
    rw [h1, h2]
    rfl
/-- the locals at a method's start -/
def mx_L0 (D : Md) (as : List Value) : Lv := as.map some ++ List.replicate (D.2.2.1 - as.length) none
/-- a method's own part: plain facts of its name -/
def mx_own (D : Md) : Prop := plainName D.1.cls = true ∧ mx_rc D.2.2.2.2 = D.1.cls
theorem mx_met {l : Launch} {G : Gt} {md : Bool} {D : Md} {d n0 nE : Nat} {as : List Value} {M : Mm} {P : Option Value → Mm → Prop} (hD : mx_own D) (hini : md = false → D.1.name = "<init>") (has : ∀ v ∈ as, v.category = 1) (hla : as.length ≤ D.2.2.1) (hn : n0 ≤ nE)
    (body : ∀ X : Nat → Mm → Nat → Lv → Sk → Prop, mx_Rl l G md D d nE P X → X n0 M 0 (mx_L0 D as) []) : Rn l G md d D n0 as M nE P := by
  unfold Rn
  refine Met.ofW (cc := D.2.1) (maxL := D.2.2.1) (ret := D.2.2.2.1) hD.1 rfl ?_
  intro p e s m args below meth c s₁ B hml hv
  obtain ⟨rfl, hH, hK⟩ := hv
  have hts0 := atoms_spec (ws := mx_wT D) B.pre
  have hown : s.vm.findClass D.1.cls = some m.cls := findClass_of_methodNamed B.named
  have hname : meth.name = D.1.name := (name_of_methodNamed B.named B.method).1
  have C : mx_C p s m ((as.map (mx_cv G)).toArray) meth c G md D.2.2.1 D.2.2.2.2 D.2.1 := ⟨B.exec, B.bytes, hml, by rw [hD.2]; exact hown, fun w hw => hts0 w (List.mem_cons_of_mem _ hw), hK, fun h => hname.trans (hini h), B.notSynchronized⟩
  have h := body _ (mx_sound (l := l) (e := e) (below := below) (n0 := n0) (d := d) (nE := nE) (P := P) (Qc := fun _ _ oc t => ∃ (v : Option Value) (M' : Mm), oc = .returned (v.map (mx_cv G)) ∧ P v M' ∧ mx_H G md nE M' t.heap) C B.returns (fun v' M2 t hP hH' => ⟨v', M2, rfl, hP, hH'⟩))
  have hc1 : ∀ v ∈ as.map (mx_cv G), v.category = 1 := fun w hw => by
    obtain ⟨u, hu, rfl⟩ := List.mem_map.mp hw
    rw [mx_cv_cat]
    exact has u hu
  have hl := lv_entry (as.map (mx_cv G)) (n := D.2.2.1) (by rw [mx_sl _ hc1, List.length_map]; exact hla)
  rw [lg_entry_eq]
  have h2 := h (by simp [mx_L0]; omega) (Nat.le_refl _) s.heap [] _ hH (fun q hq => absurd hq List.not_mem_nil) (by
    rw [show mx_al G 0 (mx_L0 D as) = lv_args 0 (as.map (mx_cv G)) from mx_alE as 0 has]
    exact hl)
  rw [Nat.sub_self, Nat.sub_self] at h2
  exact h2
end
section
/-! the rules, as they are used (all made: 127 cells; md = true) -/
def Pi (Q : Int32 → Mm → Prop) : Option Value → Mm → Prop := fun v M => ∃ x, v = some (.int x) ∧ Q x M
def Pv (Q : Mm → Prop) : Option Value → Mm → Prop := fun v M => v = none ∧ Q M
def Pl (Q : Int64 → Mm → Prop) : Option Value → Mm → Prop := fun v M => ∃ x, v = some (.long x) ∧ Q x M
def Pa (Q : Value → Mm → Prop) : Option Value → Mm → Prop := fun v M => ∃ x, v = some x ∧ Q x M
def mx_few (r : Sk) : Bool := Nat.ble (r.map fun v => v.category).sum 8
theorem mx_few_ok {r : Sk} (h : mx_few r = true) : (r.map fun v => v.category).sum ≤ 8 := Nat.le_of_ble_eq_true h
/-- a call's place: static, on an object of class c, a constructor -/
def mx_kS (D : Md) (pc : Nat) (E : Md) (na : Nat) : Prop := ∃ i, decode D.2.1 pc = .ok (.invokestatic i, 3) ∧ mx_D E na ∧ (mx_cS D.2.2.2.2 i E ∨ mx_cN D.2.2.2.2 i E)
def mx_kV (D : Md) (pc : Nat) (E : Md) (c na : Nat) : Prop := ∃ i, decode D.2.1 pc = .ok (.invokevirtual i, 3) ∧ mx_D E na ∧ mx_cV D.2.2.2.2 i E ∧ c < 9 ∧ mx_rc c = E.1.cls
def mx_kI (D : Md) (pc : Nat) (E : Md) (na : Nat) : Prop := ∃ i, decode D.2.1 pc = .ok (.invokespecial i, 3) ∧ mx_D E na ∧ mx_cI D.2.2.2.2 i E
/-- a return's place -/
def mx_kr (D : Md) (pc : Nat) (ty : FieldType) : Prop := decode D.2.1 pc = .ok (.ireturn, 1) ∧ D.2.2.2.1 = some ty
def mx_kv (D : Md) (pc : Nat) : Prop := decode D.2.1 pc = .ok (.return_, 1) ∧ D.2.2.2.1 = none
def mx_kl (D : Md) (pc : Nat) : Prop := decode D.2.1 pc = .ok (.lreturn, 1) ∧ D.2.2.2.1 = some .long
def mx_ka (D : Md) (pc : Nat) : Prop := decode D.2.1 pc = .ok (.areturn, 1) ∧ ∃ ty, D.2.2.2.1 = some ty ∧ mx_isr ty = true
def mx_kn (D : Md) (pc c : Nat) : Prop := ∃ i, decode D.2.1 pc = .ok (.new i, 3) ∧ (D.2.2.2.2, i, c) ∈ mx_cl ∧ c < 9
def mx_kq (D : Md) (pc k1 : Nat) : Prop := ∃ i, decode D.2.1 pc = .ok (.anewarray i, 3) ∧ (D.2.2.2.2, i, mx_ec k1) ∈ mx_cl ∧ 13 ≤ k1 ∧ k1 < 17
def mx_ko (D : Md) (pc : Nat) : Prop := ∃ i, decode D.2.1 pc = .ok (.invokespecial i, 3) ∧ Cond.methodLink (mx_rc D.2.2.2.2) i Lib.objectInit ∈ gw
section RL
variable {l : Launch} {G : Gt} {md : Bool} {D : Md} {d nE : Nat} {P : Option Value → Mm → Prop} {X : Nat → Mm → Nat → Lv → Sk → Prop}
theorem mx_Rl.b (R : mx_Rl l G md D d nE P X) {pc : Nat} {is : List Ai} {pc' n : Nat} {M : Mm} {L : Lv} {S : Sk} (h : mx_blk D.2.2.2.2 D.2.1 pc is pc' = true) (k : mx_b md is n M L S (fun n' M' L' S' => X n' M' pc' L' S')) : X n M pc L S := R.1 pc is pc' n M L S h k
theorem mx_Rl.j (R : mx_Rl l G md D d nE P X) {pc t n : Nat} {M : Mm} {L : Lv} {S : Sk} (h : mx_jmp D.2.1 pc t = true) (k : X n M t L S) : X n M pc L S := R.2.1 pc t n M L S h k
theorem mx_Rl.c (R : mx_Rl l G md D d nE P X) {pc : Nat} {br : Instr} {t f n : Nat} {M : Mm} {L : Lv} {S : Sk} (h : mx_brk D.2.1 pc br t f = true) (k : mx_br br S (fun r => X n M t L r) (fun r => X n M f L r)) : X n M pc L S := R.2.2.1 pc br t f n M L S h k
theorem mx_Rl.s (R : mx_Rl l G md D d nE P X) {pc : Nat} {tb : List (Int32 × Nat)} {df n : Nat} {M : Mm} {L : Lv} {x : Int32} {r : Sk} (h : mx_swk D.2.1 pc tb df = true) (k : mx_sw x tb df (fun t => X n M t L r)) : X n M pc L (.int x :: r) := R.2.2.2.1 pc tb df n M L (.int x :: r) h k
theorem mx_Rl.ri (R : mx_Rl l G md D d nE P X) {pc : Nat} {M : Mm} {L : Lv} {x : Int32} {ty : FieldType} (h : mx_kr D pc ty) (hn : narrow ty (.int x) = .int x) (k : P (some (.int x)) M) : X nE M pc L [.int x] := R.2.2.2.2.2.2.2.1 pc M L x ty h.1 h.2 hn k
theorem mx_Rl.rv (R : mx_Rl l G md D d nE P X) {pc : Nat} {M : Mm} {L : Lv} (h : mx_kv D pc) (k : P none M) : X nE M pc L [] := R.2.2.2.2.2.2.2.2.1 pc M L h.1 h.2 k
theorem mx_Rl.rl (R : mx_Rl l G md D d nE P X) {pc : Nat} {M : Mm} {L : Lv} {x : Int64} (h : mx_kl D pc) (k : P (some (.long x)) M) : X nE M pc L [.long x] := R.2.2.2.2.2.2.2.2.2.1 pc M L x h.1 h.2 k
theorem mx_Rl.ra (R : mx_Rl l G md D d nE P X) {pc : Nat} {M : Mm} {L : Lv} {a : Nat} (h : mx_ka D pc) (k : P (some (.ref a)) M) : X nE M pc L [.ref a] := by
  obtain ⟨h1, ty, h2, h3⟩ := h
  exact R.2.2.2.2.2.2.2.2.2.2.1 pc M L (.ref a) ty h1 h2 h3 (Or.inr ⟨a, rfl⟩) k
theorem mx_Rl.rn (R : mx_Rl l G md D d nE P X) {pc : Nat} {M : Mm} {L : Lv} (h : mx_ka D pc) (k : P (some .null) M) : X nE M pc L [.null] := by
  obtain ⟨h1, ty, h2, h3⟩ := h
  exact R.2.2.2.2.2.2.2.2.2.2.1 pc M L .null ty h1 h2 h3 (Or.inl rfl) k
theorem mx_Rl.S0i (R : mx_Rl l G md D d nE P X) {pc k n n' : Nat} {E : Md} {M : Mm} {L : Lv} {r : Sk} {Q : Int32 → Mm → Prop} (h : mx_kS D pc E 0) (hR : Runs l G md E k n [] M n' (Pi Q)) (hk : k < d) (hr : mx_few r = true) (hn : n ≤ n' ∧ n' ≤ nE) (K : ∀ (x : Int32) (M' : Mm), Q x M' → X n' M' (pc + 3) L (.int x :: r)) : X n M pc L (r) := by
  obtain ⟨i, h1, h2, h3⟩ := h
  refine R.2.2.2.2.1 pc i E k n n' M L _ r [] _ h1 h2 h3 hk hn.1 hn.2 hR rfl (mx_few_ok hr) (fun v M' hv => ?_)
  · obtain ⟨x, rfl, hq⟩ := hv
    exact K x M' hq
theorem mx_Rl.V0i (R : mx_Rl l G md D d nE P X) {pc k n n' b c : Nat} {E : Md} {M : Mm} {L : Lv} {r : Sk} {Q : Int32 → Mm → Prop} (h : mx_kV D pc E c 0) (hi : mx_in md c b n) (hR : Runs l G md E k n [.ref b] M n' (Pi Q)) (hk : k < d) (hr : mx_few r = true) (hn : n ≤ n' ∧ n' ≤ nE) (K : ∀ (x : Int32) (M' : Mm), Q x M' → X n' M' (pc + 3) L (.int x :: r)) : X n M pc L (.ref b :: r) := by
  obtain ⟨i, h1, h2, h3, h4⟩ := h
  refine R.2.2.2.2.2.1 pc i E k n n' b c M L _ r [] _ h1 h2 h3 hk hn.1 hn.2 h4 hi hR rfl (mx_few_ok hr) (fun v M' hv => ?_)
  · obtain ⟨x, rfl, hq⟩ := hv
    exact K x M' hq
theorem mx_Rl.S0v (R : mx_Rl l G md D d nE P X) {pc k n n' : Nat} {E : Md} {M : Mm} {L : Lv} {r : Sk} {Q : Mm → Prop} (h : mx_kS D pc E 0) (hR : Runs l G md E k n [] M n' (Pv Q)) (hk : k < d) (hr : mx_few r = true) (hn : n ≤ n' ∧ n' ≤ nE) (K : ∀ (M' : Mm), Q M' → X n' M' (pc + 3) L r) : X n M pc L (r) := by
  obtain ⟨i, h1, h2, h3⟩ := h
  refine R.2.2.2.2.1 pc i E k n n' M L _ r [] _ h1 h2 h3 hk hn.1 hn.2 hR rfl (mx_few_ok hr) (fun v M' hv => ?_)
  · obtain ⟨rfl, hq⟩ := hv
    exact K M' hq
theorem mx_Rl.V0v (R : mx_Rl l G md D d nE P X) {pc k n n' b c : Nat} {E : Md} {M : Mm} {L : Lv} {r : Sk} {Q : Mm → Prop} (h : mx_kV D pc E c 0) (hi : mx_in md c b n) (hR : Runs l G md E k n [.ref b] M n' (Pv Q)) (hk : k < d) (hr : mx_few r = true) (hn : n ≤ n' ∧ n' ≤ nE) (K : ∀ (M' : Mm), Q M' → X n' M' (pc + 3) L r) : X n M pc L (.ref b :: r) := by
  obtain ⟨i, h1, h2, h3, h4⟩ := h
  refine R.2.2.2.2.2.1 pc i E k n n' b c M L _ r [] _ h1 h2 h3 hk hn.1 hn.2 h4 hi hR rfl (mx_few_ok hr) (fun v M' hv => ?_)
  · obtain ⟨rfl, hq⟩ := hv
    exact K M' hq
theorem mx_Rl.S0l (R : mx_Rl l G md D d nE P X) {pc k n n' : Nat} {E : Md} {M : Mm} {L : Lv} {r : Sk} {Q : Int64 → Mm → Prop} (h : mx_kS D pc E 0) (hR : Runs l G md E k n [] M n' (Pl Q)) (hk : k < d) (hr : mx_few r = true) (hn : n ≤ n' ∧ n' ≤ nE) (K : ∀ (x : Int64) (M' : Mm), Q x M' → X n' M' (pc + 3) L (.long x :: r)) : X n M pc L (r) := by
  obtain ⟨i, h1, h2, h3⟩ := h
  refine R.2.2.2.2.1 pc i E k n n' M L _ r [] _ h1 h2 h3 hk hn.1 hn.2 hR rfl (mx_few_ok hr) (fun v M' hv => ?_)
  · obtain ⟨x, rfl, hq⟩ := hv
    exact K x M' hq
theorem mx_Rl.V0l (R : mx_Rl l G md D d nE P X) {pc k n n' b c : Nat} {E : Md} {M : Mm} {L : Lv} {r : Sk} {Q : Int64 → Mm → Prop} (h : mx_kV D pc E c 0) (hi : mx_in md c b n) (hR : Runs l G md E k n [.ref b] M n' (Pl Q)) (hk : k < d) (hr : mx_few r = true) (hn : n ≤ n' ∧ n' ≤ nE) (K : ∀ (x : Int64) (M' : Mm), Q x M' → X n' M' (pc + 3) L (.long x :: r)) : X n M pc L (.ref b :: r) := by
  obtain ⟨i, h1, h2, h3, h4⟩ := h
  refine R.2.2.2.2.2.1 pc i E k n n' b c M L _ r [] _ h1 h2 h3 hk hn.1 hn.2 h4 hi hR rfl (mx_few_ok hr) (fun v M' hv => ?_)
  · obtain ⟨x, rfl, hq⟩ := hv
    exact K x M' hq
theorem mx_Rl.S0a (R : mx_Rl l G md D d nE P X) {pc k n n' : Nat} {E : Md} {M : Mm} {L : Lv} {r : Sk} {Q : Value → Mm → Prop} (h : mx_kS D pc E 0) (hR : Runs l G md E k n [] M n' (Pa Q)) (hk : k < d) (hr : mx_few r = true) (hn : n ≤ n' ∧ n' ≤ nE) (K : ∀ (x : Value) (M' : Mm), Q x M' → X n' M' (pc + 3) L (x :: r)) : X n M pc L (r) := by
  obtain ⟨i, h1, h2, h3⟩ := h
  refine R.2.2.2.2.1 pc i E k n n' M L _ r [] _ h1 h2 h3 hk hn.1 hn.2 hR rfl (mx_few_ok hr) (fun v M' hv => ?_)
  · obtain ⟨x, rfl, hq⟩ := hv
    exact K x M' hq
theorem mx_Rl.V0a (R : mx_Rl l G md D d nE P X) {pc k n n' b c : Nat} {E : Md} {M : Mm} {L : Lv} {r : Sk} {Q : Value → Mm → Prop} (h : mx_kV D pc E c 0) (hi : mx_in md c b n) (hR : Runs l G md E k n [.ref b] M n' (Pa Q)) (hk : k < d) (hr : mx_few r = true) (hn : n ≤ n' ∧ n' ≤ nE) (K : ∀ (x : Value) (M' : Mm), Q x M' → X n' M' (pc + 3) L (x :: r)) : X n M pc L (.ref b :: r) := by
  obtain ⟨i, h1, h2, h3, h4⟩ := h
  refine R.2.2.2.2.2.1 pc i E k n n' b c M L _ r [] _ h1 h2 h3 hk hn.1 hn.2 h4 hi hR rfl (mx_few_ok hr) (fun v M' hv => ?_)
  · obtain ⟨x, rfl, hq⟩ := hv
    exact K x M' hq
theorem mx_Rl.I0 (R : mx_Rl l G md D d nE P X) {pc k n n' b : Nat} {E : Md} {M : Mm} {L : Lv} {r : Sk} {Q : Mm → Prop} (h : mx_kI D pc E 0) (hR : Runs l G md E k n [.ref b] M n' (Pv Q)) (hk : k < d) (hr : mx_few r = true) (hn : n ≤ n' ∧ n' ≤ nE) (K : ∀ (M' : Mm), Q M' → X n' M' (pc + 3) L r) : X n M pc L (.ref b :: r) := by
  obtain ⟨i, h1, h2, h3⟩ := h
  refine R.2.2.2.2.2.2.1 pc i E k n n' b M L _ r [] _ h1 h2 h3 hk hn.1 hn.2 hR rfl (mx_few_ok hr) (fun v M' hv => ?_)
  · obtain ⟨rfl, hq⟩ := hv
    exact K M' hq
theorem mx_Rl.S1i (R : mx_Rl l G md D d nE P X) {pc k n n' : Nat} {E : Md} {M : Mm} {L : Lv} {r : Sk} {a1 : Value} {Q : Int32 → Mm → Prop} (h : mx_kS D pc E 1) (hR : Runs l G md E k n [a1] M n' (Pi Q)) (hk : k < d) (hr : mx_few r = true) (hn : n ≤ n' ∧ n' ≤ nE) (K : ∀ (x : Int32) (M' : Mm), Q x M' → X n' M' (pc + 3) L (.int x :: r)) : X n M pc L (a1 :: r) := by
  obtain ⟨i, h1, h2, h3⟩ := h
  refine R.2.2.2.2.1 pc i E k n n' M L _ r [a1] _ h1 h2 h3 hk hn.1 hn.2 hR rfl (mx_few_ok hr) (fun v M' hv => ?_)
  · obtain ⟨x, rfl, hq⟩ := hv
    exact K x M' hq
theorem mx_Rl.V1i (R : mx_Rl l G md D d nE P X) {pc k n n' b c : Nat} {E : Md} {M : Mm} {L : Lv} {r : Sk} {a1 : Value} {Q : Int32 → Mm → Prop} (h : mx_kV D pc E c 1) (hi : mx_in md c b n) (hR : Runs l G md E k n [.ref b, a1] M n' (Pi Q)) (hk : k < d) (hr : mx_few r = true) (hn : n ≤ n' ∧ n' ≤ nE) (K : ∀ (x : Int32) (M' : Mm), Q x M' → X n' M' (pc + 3) L (.int x :: r)) : X n M pc L (a1 :: .ref b :: r) := by
  obtain ⟨i, h1, h2, h3, h4⟩ := h
  refine R.2.2.2.2.2.1 pc i E k n n' b c M L _ r [a1] _ h1 h2 h3 hk hn.1 hn.2 h4 hi hR rfl (mx_few_ok hr) (fun v M' hv => ?_)
  · obtain ⟨x, rfl, hq⟩ := hv
    exact K x M' hq
theorem mx_Rl.S1v (R : mx_Rl l G md D d nE P X) {pc k n n' : Nat} {E : Md} {M : Mm} {L : Lv} {r : Sk} {a1 : Value} {Q : Mm → Prop} (h : mx_kS D pc E 1) (hR : Runs l G md E k n [a1] M n' (Pv Q)) (hk : k < d) (hr : mx_few r = true) (hn : n ≤ n' ∧ n' ≤ nE) (K : ∀ (M' : Mm), Q M' → X n' M' (pc + 3) L r) : X n M pc L (a1 :: r) := by
  obtain ⟨i, h1, h2, h3⟩ := h
  refine R.2.2.2.2.1 pc i E k n n' M L _ r [a1] _ h1 h2 h3 hk hn.1 hn.2 hR rfl (mx_few_ok hr) (fun v M' hv => ?_)
  · obtain ⟨rfl, hq⟩ := hv
    exact K M' hq
theorem mx_Rl.V1v (R : mx_Rl l G md D d nE P X) {pc k n n' b c : Nat} {E : Md} {M : Mm} {L : Lv} {r : Sk} {a1 : Value} {Q : Mm → Prop} (h : mx_kV D pc E c 1) (hi : mx_in md c b n) (hR : Runs l G md E k n [.ref b, a1] M n' (Pv Q)) (hk : k < d) (hr : mx_few r = true) (hn : n ≤ n' ∧ n' ≤ nE) (K : ∀ (M' : Mm), Q M' → X n' M' (pc + 3) L r) : X n M pc L (a1 :: .ref b :: r) := by
  obtain ⟨i, h1, h2, h3, h4⟩ := h
  refine R.2.2.2.2.2.1 pc i E k n n' b c M L _ r [a1] _ h1 h2 h3 hk hn.1 hn.2 h4 hi hR rfl (mx_few_ok hr) (fun v M' hv => ?_)
  · obtain ⟨rfl, hq⟩ := hv
    exact K M' hq
theorem mx_Rl.S1l (R : mx_Rl l G md D d nE P X) {pc k n n' : Nat} {E : Md} {M : Mm} {L : Lv} {r : Sk} {a1 : Value} {Q : Int64 → Mm → Prop} (h : mx_kS D pc E 1) (hR : Runs l G md E k n [a1] M n' (Pl Q)) (hk : k < d) (hr : mx_few r = true) (hn : n ≤ n' ∧ n' ≤ nE) (K : ∀ (x : Int64) (M' : Mm), Q x M' → X n' M' (pc + 3) L (.long x :: r)) : X n M pc L (a1 :: r) := by
  obtain ⟨i, h1, h2, h3⟩ := h
  refine R.2.2.2.2.1 pc i E k n n' M L _ r [a1] _ h1 h2 h3 hk hn.1 hn.2 hR rfl (mx_few_ok hr) (fun v M' hv => ?_)
  · obtain ⟨x, rfl, hq⟩ := hv
    exact K x M' hq
theorem mx_Rl.V1l (R : mx_Rl l G md D d nE P X) {pc k n n' b c : Nat} {E : Md} {M : Mm} {L : Lv} {r : Sk} {a1 : Value} {Q : Int64 → Mm → Prop} (h : mx_kV D pc E c 1) (hi : mx_in md c b n) (hR : Runs l G md E k n [.ref b, a1] M n' (Pl Q)) (hk : k < d) (hr : mx_few r = true) (hn : n ≤ n' ∧ n' ≤ nE) (K : ∀ (x : Int64) (M' : Mm), Q x M' → X n' M' (pc + 3) L (.long x :: r)) : X n M pc L (a1 :: .ref b :: r) := by
  obtain ⟨i, h1, h2, h3, h4⟩ := h
  refine R.2.2.2.2.2.1 pc i E k n n' b c M L _ r [a1] _ h1 h2 h3 hk hn.1 hn.2 h4 hi hR rfl (mx_few_ok hr) (fun v M' hv => ?_)
  · obtain ⟨x, rfl, hq⟩ := hv
    exact K x M' hq
theorem mx_Rl.S1a (R : mx_Rl l G md D d nE P X) {pc k n n' : Nat} {E : Md} {M : Mm} {L : Lv} {r : Sk} {a1 : Value} {Q : Value → Mm → Prop} (h : mx_kS D pc E 1) (hR : Runs l G md E k n [a1] M n' (Pa Q)) (hk : k < d) (hr : mx_few r = true) (hn : n ≤ n' ∧ n' ≤ nE) (K : ∀ (x : Value) (M' : Mm), Q x M' → X n' M' (pc + 3) L (x :: r)) : X n M pc L (a1 :: r) := by
  obtain ⟨i, h1, h2, h3⟩ := h
  refine R.2.2.2.2.1 pc i E k n n' M L _ r [a1] _ h1 h2 h3 hk hn.1 hn.2 hR rfl (mx_few_ok hr) (fun v M' hv => ?_)
  · obtain ⟨x, rfl, hq⟩ := hv
    exact K x M' hq
theorem mx_Rl.V1a (R : mx_Rl l G md D d nE P X) {pc k n n' b c : Nat} {E : Md} {M : Mm} {L : Lv} {r : Sk} {a1 : Value} {Q : Value → Mm → Prop} (h : mx_kV D pc E c 1) (hi : mx_in md c b n) (hR : Runs l G md E k n [.ref b, a1] M n' (Pa Q)) (hk : k < d) (hr : mx_few r = true) (hn : n ≤ n' ∧ n' ≤ nE) (K : ∀ (x : Value) (M' : Mm), Q x M' → X n' M' (pc + 3) L (x :: r)) : X n M pc L (a1 :: .ref b :: r) := by
  obtain ⟨i, h1, h2, h3, h4⟩ := h
  refine R.2.2.2.2.2.1 pc i E k n n' b c M L _ r [a1] _ h1 h2 h3 hk hn.1 hn.2 h4 hi hR rfl (mx_few_ok hr) (fun v M' hv => ?_)
  · obtain ⟨x, rfl, hq⟩ := hv
    exact K x M' hq
theorem mx_Rl.I1 (R : mx_Rl l G md D d nE P X) {pc k n n' b : Nat} {E : Md} {M : Mm} {L : Lv} {r : Sk} {a1 : Value} {Q : Mm → Prop} (h : mx_kI D pc E 1) (hR : Runs l G md E k n [.ref b, a1] M n' (Pv Q)) (hk : k < d) (hr : mx_few r = true) (hn : n ≤ n' ∧ n' ≤ nE) (K : ∀ (M' : Mm), Q M' → X n' M' (pc + 3) L r) : X n M pc L (a1 :: .ref b :: r) := by
  obtain ⟨i, h1, h2, h3⟩ := h
  refine R.2.2.2.2.2.2.1 pc i E k n n' b M L _ r [a1] _ h1 h2 h3 hk hn.1 hn.2 hR rfl (mx_few_ok hr) (fun v M' hv => ?_)
  · obtain ⟨rfl, hq⟩ := hv
    exact K M' hq
theorem mx_Rl.S2i (R : mx_Rl l G md D d nE P X) {pc k n n' : Nat} {E : Md} {M : Mm} {L : Lv} {r : Sk} {a1 a2 : Value} {Q : Int32 → Mm → Prop} (h : mx_kS D pc E 2) (hR : Runs l G md E k n [a1, a2] M n' (Pi Q)) (hk : k < d) (hr : mx_few r = true) (hn : n ≤ n' ∧ n' ≤ nE) (K : ∀ (x : Int32) (M' : Mm), Q x M' → X n' M' (pc + 3) L (.int x :: r)) : X n M pc L (a2 :: a1 :: r) := by
  obtain ⟨i, h1, h2, h3⟩ := h
  refine R.2.2.2.2.1 pc i E k n n' M L _ r [a1, a2] _ h1 h2 h3 hk hn.1 hn.2 hR rfl (mx_few_ok hr) (fun v M' hv => ?_)
  · obtain ⟨x, rfl, hq⟩ := hv
    exact K x M' hq
theorem mx_Rl.V2i (R : mx_Rl l G md D d nE P X) {pc k n n' b c : Nat} {E : Md} {M : Mm} {L : Lv} {r : Sk} {a1 a2 : Value} {Q : Int32 → Mm → Prop} (h : mx_kV D pc E c 2) (hi : mx_in md c b n) (hR : Runs l G md E k n [.ref b, a1, a2] M n' (Pi Q)) (hk : k < d) (hr : mx_few r = true) (hn : n ≤ n' ∧ n' ≤ nE) (K : ∀ (x : Int32) (M' : Mm), Q x M' → X n' M' (pc + 3) L (.int x :: r)) : X n M pc L (a2 :: a1 :: .ref b :: r) := by
  obtain ⟨i, h1, h2, h3, h4⟩ := h
  refine R.2.2.2.2.2.1 pc i E k n n' b c M L _ r [a1, a2] _ h1 h2 h3 hk hn.1 hn.2 h4 hi hR rfl (mx_few_ok hr) (fun v M' hv => ?_)
  · obtain ⟨x, rfl, hq⟩ := hv
    exact K x M' hq
theorem mx_Rl.S2v (R : mx_Rl l G md D d nE P X) {pc k n n' : Nat} {E : Md} {M : Mm} {L : Lv} {r : Sk} {a1 a2 : Value} {Q : Mm → Prop} (h : mx_kS D pc E 2) (hR : Runs l G md E k n [a1, a2] M n' (Pv Q)) (hk : k < d) (hr : mx_few r = true) (hn : n ≤ n' ∧ n' ≤ nE) (K : ∀ (M' : Mm), Q M' → X n' M' (pc + 3) L r) : X n M pc L (a2 :: a1 :: r) := by
  obtain ⟨i, h1, h2, h3⟩ := h
  refine R.2.2.2.2.1 pc i E k n n' M L _ r [a1, a2] _ h1 h2 h3 hk hn.1 hn.2 hR rfl (mx_few_ok hr) (fun v M' hv => ?_)
  · obtain ⟨rfl, hq⟩ := hv
    exact K M' hq
theorem mx_Rl.V2v (R : mx_Rl l G md D d nE P X) {pc k n n' b c : Nat} {E : Md} {M : Mm} {L : Lv} {r : Sk} {a1 a2 : Value} {Q : Mm → Prop} (h : mx_kV D pc E c 2) (hi : mx_in md c b n) (hR : Runs l G md E k n [.ref b, a1, a2] M n' (Pv Q)) (hk : k < d) (hr : mx_few r = true) (hn : n ≤ n' ∧ n' ≤ nE) (K : ∀ (M' : Mm), Q M' → X n' M' (pc + 3) L r) : X n M pc L (a2 :: a1 :: .ref b :: r) := by
  obtain ⟨i, h1, h2, h3, h4⟩ := h
  refine R.2.2.2.2.2.1 pc i E k n n' b c M L _ r [a1, a2] _ h1 h2 h3 hk hn.1 hn.2 h4 hi hR rfl (mx_few_ok hr) (fun v M' hv => ?_)
  · obtain ⟨rfl, hq⟩ := hv
    exact K M' hq
theorem mx_Rl.S2l (R : mx_Rl l G md D d nE P X) {pc k n n' : Nat} {E : Md} {M : Mm} {L : Lv} {r : Sk} {a1 a2 : Value} {Q : Int64 → Mm → Prop} (h : mx_kS D pc E 2) (hR : Runs l G md E k n [a1, a2] M n' (Pl Q)) (hk : k < d) (hr : mx_few r = true) (hn : n ≤ n' ∧ n' ≤ nE) (K : ∀ (x : Int64) (M' : Mm), Q x M' → X n' M' (pc + 3) L (.long x :: r)) : X n M pc L (a2 :: a1 :: r) := by
  obtain ⟨i, h1, h2, h3⟩ := h
  refine R.2.2.2.2.1 pc i E k n n' M L _ r [a1, a2] _ h1 h2 h3 hk hn.1 hn.2 hR rfl (mx_few_ok hr) (fun v M' hv => ?_)
  · obtain ⟨x, rfl, hq⟩ := hv
    exact K x M' hq
theorem mx_Rl.V2l (R : mx_Rl l G md D d nE P X) {pc k n n' b c : Nat} {E : Md} {M : Mm} {L : Lv} {r : Sk} {a1 a2 : Value} {Q : Int64 → Mm → Prop} (h : mx_kV D pc E c 2) (hi : mx_in md c b n) (hR : Runs l G md E k n [.ref b, a1, a2] M n' (Pl Q)) (hk : k < d) (hr : mx_few r = true) (hn : n ≤ n' ∧ n' ≤ nE) (K : ∀ (x : Int64) (M' : Mm), Q x M' → X n' M' (pc + 3) L (.long x :: r)) : X n M pc L (a2 :: a1 :: .ref b :: r) := by
  obtain ⟨i, h1, h2, h3, h4⟩ := h
  refine R.2.2.2.2.2.1 pc i E k n n' b c M L _ r [a1, a2] _ h1 h2 h3 hk hn.1 hn.2 h4 hi hR rfl (mx_few_ok hr) (fun v M' hv => ?_)
  · obtain ⟨x, rfl, hq⟩ := hv
    exact K x M' hq
theorem mx_Rl.S2a (R : mx_Rl l G md D d nE P X) {pc k n n' : Nat} {E : Md} {M : Mm} {L : Lv} {r : Sk} {a1 a2 : Value} {Q : Value → Mm → Prop} (h : mx_kS D pc E 2) (hR : Runs l G md E k n [a1, a2] M n' (Pa Q)) (hk : k < d) (hr : mx_few r = true) (hn : n ≤ n' ∧ n' ≤ nE) (K : ∀ (x : Value) (M' : Mm), Q x M' → X n' M' (pc + 3) L (x :: r)) : X n M pc L (a2 :: a1 :: r) := by
  obtain ⟨i, h1, h2, h3⟩ := h
  refine R.2.2.2.2.1 pc i E k n n' M L _ r [a1, a2] _ h1 h2 h3 hk hn.1 hn.2 hR rfl (mx_few_ok hr) (fun v M' hv => ?_)
  · obtain ⟨x, rfl, hq⟩ := hv
    exact K x M' hq
theorem mx_Rl.V2a (R : mx_Rl l G md D d nE P X) {pc k n n' b c : Nat} {E : Md} {M : Mm} {L : Lv} {r : Sk} {a1 a2 : Value} {Q : Value → Mm → Prop} (h : mx_kV D pc E c 2) (hi : mx_in md c b n) (hR : Runs l G md E k n [.ref b, a1, a2] M n' (Pa Q)) (hk : k < d) (hr : mx_few r = true) (hn : n ≤ n' ∧ n' ≤ nE) (K : ∀ (x : Value) (M' : Mm), Q x M' → X n' M' (pc + 3) L (x :: r)) : X n M pc L (a2 :: a1 :: .ref b :: r) := by
  obtain ⟨i, h1, h2, h3, h4⟩ := h
  refine R.2.2.2.2.2.1 pc i E k n n' b c M L _ r [a1, a2] _ h1 h2 h3 hk hn.1 hn.2 h4 hi hR rfl (mx_few_ok hr) (fun v M' hv => ?_)
  · obtain ⟨x, rfl, hq⟩ := hv
    exact K x M' hq
theorem mx_Rl.S3i (R : mx_Rl l G md D d nE P X) {pc k n n' : Nat} {E : Md} {M : Mm} {L : Lv} {r : Sk} {a1 a2 a3 : Value} {Q : Int32 → Mm → Prop} (h : mx_kS D pc E 3) (hR : Runs l G md E k n [a1, a2, a3] M n' (Pi Q)) (hk : k < d) (hr : mx_few r = true) (hn : n ≤ n' ∧ n' ≤ nE) (K : ∀ (x : Int32) (M' : Mm), Q x M' → X n' M' (pc + 3) L (.int x :: r)) : X n M pc L (a3 :: a2 :: a1 :: r) := by
  obtain ⟨i, h1, h2, h3⟩ := h
  refine R.2.2.2.2.1 pc i E k n n' M L _ r [a1, a2, a3] _ h1 h2 h3 hk hn.1 hn.2 hR rfl (mx_few_ok hr) (fun v M' hv => ?_)
  · obtain ⟨x, rfl, hq⟩ := hv
    exact K x M' hq
theorem mx_Rl.V3i (R : mx_Rl l G md D d nE P X) {pc k n n' b c : Nat} {E : Md} {M : Mm} {L : Lv} {r : Sk} {a1 a2 a3 : Value} {Q : Int32 → Mm → Prop} (h : mx_kV D pc E c 3) (hi : mx_in md c b n) (hR : Runs l G md E k n [.ref b, a1, a2, a3] M n' (Pi Q)) (hk : k < d) (hr : mx_few r = true) (hn : n ≤ n' ∧ n' ≤ nE) (K : ∀ (x : Int32) (M' : Mm), Q x M' → X n' M' (pc + 3) L (.int x :: r)) : X n M pc L (a3 :: a2 :: a1 :: .ref b :: r) := by
  obtain ⟨i, h1, h2, h3, h4⟩ := h
  refine R.2.2.2.2.2.1 pc i E k n n' b c M L _ r [a1, a2, a3] _ h1 h2 h3 hk hn.1 hn.2 h4 hi hR rfl (mx_few_ok hr) (fun v M' hv => ?_)
  · obtain ⟨x, rfl, hq⟩ := hv
    exact K x M' hq
theorem mx_Rl.S3v (R : mx_Rl l G md D d nE P X) {pc k n n' : Nat} {E : Md} {M : Mm} {L : Lv} {r : Sk} {a1 a2 a3 : Value} {Q : Mm → Prop} (h : mx_kS D pc E 3) (hR : Runs l G md E k n [a1, a2, a3] M n' (Pv Q)) (hk : k < d) (hr : mx_few r = true) (hn : n ≤ n' ∧ n' ≤ nE) (K : ∀ (M' : Mm), Q M' → X n' M' (pc + 3) L r) : X n M pc L (a3 :: a2 :: a1 :: r) := by
  obtain ⟨i, h1, h2, h3⟩ := h
  refine R.2.2.2.2.1 pc i E k n n' M L _ r [a1, a2, a3] _ h1 h2 h3 hk hn.1 hn.2 hR rfl (mx_few_ok hr) (fun v M' hv => ?_)
  · obtain ⟨rfl, hq⟩ := hv
    exact K M' hq
theorem mx_Rl.V3v (R : mx_Rl l G md D d nE P X) {pc k n n' b c : Nat} {E : Md} {M : Mm} {L : Lv} {r : Sk} {a1 a2 a3 : Value} {Q : Mm → Prop} (h : mx_kV D pc E c 3) (hi : mx_in md c b n) (hR : Runs l G md E k n [.ref b, a1, a2, a3] M n' (Pv Q)) (hk : k < d) (hr : mx_few r = true) (hn : n ≤ n' ∧ n' ≤ nE) (K : ∀ (M' : Mm), Q M' → X n' M' (pc + 3) L r) : X n M pc L (a3 :: a2 :: a1 :: .ref b :: r) := by
  obtain ⟨i, h1, h2, h3, h4⟩ := h
  refine R.2.2.2.2.2.1 pc i E k n n' b c M L _ r [a1, a2, a3] _ h1 h2 h3 hk hn.1 hn.2 h4 hi hR rfl (mx_few_ok hr) (fun v M' hv => ?_)
  · obtain ⟨rfl, hq⟩ := hv
    exact K M' hq
theorem mx_Rl.S3l (R : mx_Rl l G md D d nE P X) {pc k n n' : Nat} {E : Md} {M : Mm} {L : Lv} {r : Sk} {a1 a2 a3 : Value} {Q : Int64 → Mm → Prop} (h : mx_kS D pc E 3) (hR : Runs l G md E k n [a1, a2, a3] M n' (Pl Q)) (hk : k < d) (hr : mx_few r = true) (hn : n ≤ n' ∧ n' ≤ nE) (K : ∀ (x : Int64) (M' : Mm), Q x M' → X n' M' (pc + 3) L (.long x :: r)) : X n M pc L (a3 :: a2 :: a1 :: r) := by
  obtain ⟨i, h1, h2, h3⟩ := h
  refine R.2.2.2.2.1 pc i E k n n' M L _ r [a1, a2, a3] _ h1 h2 h3 hk hn.1 hn.2 hR rfl (mx_few_ok hr) (fun v M' hv => ?_)
  · obtain ⟨x, rfl, hq⟩ := hv
    exact K x M' hq
theorem mx_Rl.V3l (R : mx_Rl l G md D d nE P X) {pc k n n' b c : Nat} {E : Md} {M : Mm} {L : Lv} {r : Sk} {a1 a2 a3 : Value} {Q : Int64 → Mm → Prop} (h : mx_kV D pc E c 3) (hi : mx_in md c b n) (hR : Runs l G md E k n [.ref b, a1, a2, a3] M n' (Pl Q)) (hk : k < d) (hr : mx_few r = true) (hn : n ≤ n' ∧ n' ≤ nE) (K : ∀ (x : Int64) (M' : Mm), Q x M' → X n' M' (pc + 3) L (.long x :: r)) : X n M pc L (a3 :: a2 :: a1 :: .ref b :: r) := by
  obtain ⟨i, h1, h2, h3, h4⟩ := h
  refine R.2.2.2.2.2.1 pc i E k n n' b c M L _ r [a1, a2, a3] _ h1 h2 h3 hk hn.1 hn.2 h4 hi hR rfl (mx_few_ok hr) (fun v M' hv => ?_)
  · obtain ⟨x, rfl, hq⟩ := hv
    exact K x M' hq
theorem mx_Rl.S3a (R : mx_Rl l G md D d nE P X) {pc k n n' : Nat} {E : Md} {M : Mm} {L : Lv} {r : Sk} {a1 a2 a3 : Value} {Q : Value → Mm → Prop} (h : mx_kS D pc E 3) (hR : Runs l G md E k n [a1, a2, a3] M n' (Pa Q)) (hk : k < d) (hr : mx_few r = true) (hn : n ≤ n' ∧ n' ≤ nE) (K : ∀ (x : Value) (M' : Mm), Q x M' → X n' M' (pc + 3) L (x :: r)) : X n M pc L (a3 :: a2 :: a1 :: r) := by
  obtain ⟨i, h1, h2, h3⟩ := h
  refine R.2.2.2.2.1 pc i E k n n' M L _ r [a1, a2, a3] _ h1 h2 h3 hk hn.1 hn.2 hR rfl (mx_few_ok hr) (fun v M' hv => ?_)
  · obtain ⟨x, rfl, hq⟩ := hv
    exact K x M' hq
theorem mx_Rl.V3a (R : mx_Rl l G md D d nE P X) {pc k n n' b c : Nat} {E : Md} {M : Mm} {L : Lv} {r : Sk} {a1 a2 a3 : Value} {Q : Value → Mm → Prop} (h : mx_kV D pc E c 3) (hi : mx_in md c b n) (hR : Runs l G md E k n [.ref b, a1, a2, a3] M n' (Pa Q)) (hk : k < d) (hr : mx_few r = true) (hn : n ≤ n' ∧ n' ≤ nE) (K : ∀ (x : Value) (M' : Mm), Q x M' → X n' M' (pc + 3) L (x :: r)) : X n M pc L (a3 :: a2 :: a1 :: .ref b :: r) := by
  obtain ⟨i, h1, h2, h3, h4⟩ := h
  refine R.2.2.2.2.2.1 pc i E k n n' b c M L _ r [a1, a2, a3] _ h1 h2 h3 hk hn.1 hn.2 h4 hi hR rfl (mx_few_ok hr) (fun v M' hv => ?_)
  · obtain ⟨x, rfl, hq⟩ := hv
    exact K x M' hq
theorem mx_Rl.S4i (R : mx_Rl l G md D d nE P X) {pc k n n' : Nat} {E : Md} {M : Mm} {L : Lv} {r : Sk} {a1 a2 a3 a4 : Value} {Q : Int32 → Mm → Prop} (h : mx_kS D pc E 4) (hR : Runs l G md E k n [a1, a2, a3, a4] M n' (Pi Q)) (hk : k < d) (hr : mx_few r = true) (hn : n ≤ n' ∧ n' ≤ nE) (K : ∀ (x : Int32) (M' : Mm), Q x M' → X n' M' (pc + 3) L (.int x :: r)) : X n M pc L (a4 :: a3 :: a2 :: a1 :: r) := by
  obtain ⟨i, h1, h2, h3⟩ := h
  refine R.2.2.2.2.1 pc i E k n n' M L _ r [a1, a2, a3, a4] _ h1 h2 h3 hk hn.1 hn.2 hR rfl (mx_few_ok hr) (fun v M' hv => ?_)
  · obtain ⟨x, rfl, hq⟩ := hv
    exact K x M' hq
theorem mx_Rl.V4i (R : mx_Rl l G md D d nE P X) {pc k n n' b c : Nat} {E : Md} {M : Mm} {L : Lv} {r : Sk} {a1 a2 a3 a4 : Value} {Q : Int32 → Mm → Prop} (h : mx_kV D pc E c 4) (hi : mx_in md c b n) (hR : Runs l G md E k n [.ref b, a1, a2, a3, a4] M n' (Pi Q)) (hk : k < d) (hr : mx_few r = true) (hn : n ≤ n' ∧ n' ≤ nE) (K : ∀ (x : Int32) (M' : Mm), Q x M' → X n' M' (pc + 3) L (.int x :: r)) : X n M pc L (a4 :: a3 :: a2 :: a1 :: .ref b :: r) := by
  obtain ⟨i, h1, h2, h3, h4⟩ := h
  refine R.2.2.2.2.2.1 pc i E k n n' b c M L _ r [a1, a2, a3, a4] _ h1 h2 h3 hk hn.1 hn.2 h4 hi hR rfl (mx_few_ok hr) (fun v M' hv => ?_)
  · obtain ⟨x, rfl, hq⟩ := hv
    exact K x M' hq
theorem mx_Rl.S4v (R : mx_Rl l G md D d nE P X) {pc k n n' : Nat} {E : Md} {M : Mm} {L : Lv} {r : Sk} {a1 a2 a3 a4 : Value} {Q : Mm → Prop} (h : mx_kS D pc E 4) (hR : Runs l G md E k n [a1, a2, a3, a4] M n' (Pv Q)) (hk : k < d) (hr : mx_few r = true) (hn : n ≤ n' ∧ n' ≤ nE) (K : ∀ (M' : Mm), Q M' → X n' M' (pc + 3) L r) : X n M pc L (a4 :: a3 :: a2 :: a1 :: r) := by
  obtain ⟨i, h1, h2, h3⟩ := h
  refine R.2.2.2.2.1 pc i E k n n' M L _ r [a1, a2, a3, a4] _ h1 h2 h3 hk hn.1 hn.2 hR rfl (mx_few_ok hr) (fun v M' hv => ?_)
  · obtain ⟨rfl, hq⟩ := hv
    exact K M' hq
theorem mx_Rl.V4v (R : mx_Rl l G md D d nE P X) {pc k n n' b c : Nat} {E : Md} {M : Mm} {L : Lv} {r : Sk} {a1 a2 a3 a4 : Value} {Q : Mm → Prop} (h : mx_kV D pc E c 4) (hi : mx_in md c b n) (hR : Runs l G md E k n [.ref b, a1, a2, a3, a4] M n' (Pv Q)) (hk : k < d) (hr : mx_few r = true) (hn : n ≤ n' ∧ n' ≤ nE) (K : ∀ (M' : Mm), Q M' → X n' M' (pc + 3) L r) : X n M pc L (a4 :: a3 :: a2 :: a1 :: .ref b :: r) := by
  obtain ⟨i, h1, h2, h3, h4⟩ := h
  refine R.2.2.2.2.2.1 pc i E k n n' b c M L _ r [a1, a2, a3, a4] _ h1 h2 h3 hk hn.1 hn.2 h4 hi hR rfl (mx_few_ok hr) (fun v M' hv => ?_)
  · obtain ⟨rfl, hq⟩ := hv
    exact K M' hq
theorem mx_Rl.S4l (R : mx_Rl l G md D d nE P X) {pc k n n' : Nat} {E : Md} {M : Mm} {L : Lv} {r : Sk} {a1 a2 a3 a4 : Value} {Q : Int64 → Mm → Prop} (h : mx_kS D pc E 4) (hR : Runs l G md E k n [a1, a2, a3, a4] M n' (Pl Q)) (hk : k < d) (hr : mx_few r = true) (hn : n ≤ n' ∧ n' ≤ nE) (K : ∀ (x : Int64) (M' : Mm), Q x M' → X n' M' (pc + 3) L (.long x :: r)) : X n M pc L (a4 :: a3 :: a2 :: a1 :: r) := by
  obtain ⟨i, h1, h2, h3⟩ := h
  refine R.2.2.2.2.1 pc i E k n n' M L _ r [a1, a2, a3, a4] _ h1 h2 h3 hk hn.1 hn.2 hR rfl (mx_few_ok hr) (fun v M' hv => ?_)
  · obtain ⟨x, rfl, hq⟩ := hv
    exact K x M' hq
theorem mx_Rl.V4l (R : mx_Rl l G md D d nE P X) {pc k n n' b c : Nat} {E : Md} {M : Mm} {L : Lv} {r : Sk} {a1 a2 a3 a4 : Value} {Q : Int64 → Mm → Prop} (h : mx_kV D pc E c 4) (hi : mx_in md c b n) (hR : Runs l G md E k n [.ref b, a1, a2, a3, a4] M n' (Pl Q)) (hk : k < d) (hr : mx_few r = true) (hn : n ≤ n' ∧ n' ≤ nE) (K : ∀ (x : Int64) (M' : Mm), Q x M' → X n' M' (pc + 3) L (.long x :: r)) : X n M pc L (a4 :: a3 :: a2 :: a1 :: .ref b :: r) := by
  obtain ⟨i, h1, h2, h3, h4⟩ := h
  refine R.2.2.2.2.2.1 pc i E k n n' b c M L _ r [a1, a2, a3, a4] _ h1 h2 h3 hk hn.1 hn.2 h4 hi hR rfl (mx_few_ok hr) (fun v M' hv => ?_)
  · obtain ⟨x, rfl, hq⟩ := hv
    exact K x M' hq
theorem mx_Rl.S4a (R : mx_Rl l G md D d nE P X) {pc k n n' : Nat} {E : Md} {M : Mm} {L : Lv} {r : Sk} {a1 a2 a3 a4 : Value} {Q : Value → Mm → Prop} (h : mx_kS D pc E 4) (hR : Runs l G md E k n [a1, a2, a3, a4] M n' (Pa Q)) (hk : k < d) (hr : mx_few r = true) (hn : n ≤ n' ∧ n' ≤ nE) (K : ∀ (x : Value) (M' : Mm), Q x M' → X n' M' (pc + 3) L (x :: r)) : X n M pc L (a4 :: a3 :: a2 :: a1 :: r) := by
  obtain ⟨i, h1, h2, h3⟩ := h
  refine R.2.2.2.2.1 pc i E k n n' M L _ r [a1, a2, a3, a4] _ h1 h2 h3 hk hn.1 hn.2 hR rfl (mx_few_ok hr) (fun v M' hv => ?_)
  · obtain ⟨x, rfl, hq⟩ := hv
    exact K x M' hq
theorem mx_Rl.V4a (R : mx_Rl l G md D d nE P X) {pc k n n' b c : Nat} {E : Md} {M : Mm} {L : Lv} {r : Sk} {a1 a2 a3 a4 : Value} {Q : Value → Mm → Prop} (h : mx_kV D pc E c 4) (hi : mx_in md c b n) (hR : Runs l G md E k n [.ref b, a1, a2, a3, a4] M n' (Pa Q)) (hk : k < d) (hr : mx_few r = true) (hn : n ≤ n' ∧ n' ≤ nE) (K : ∀ (x : Value) (M' : Mm), Q x M' → X n' M' (pc + 3) L (x :: r)) : X n M pc L (a4 :: a3 :: a2 :: a1 :: .ref b :: r) := by
  obtain ⟨i, h1, h2, h3, h4⟩ := h
  refine R.2.2.2.2.2.1 pc i E k n n' b c M L _ r [a1, a2, a3, a4] _ h1 h2 h3 hk hn.1 hn.2 h4 hi hR rfl (mx_few_ok hr) (fun v M' hv => ?_)
  · obtain ⟨x, rfl, hq⟩ := hv
    exact K x M' hq
theorem mx_Rl.S5i (R : mx_Rl l G md D d nE P X) {pc k n n' : Nat} {E : Md} {M : Mm} {L : Lv} {r : Sk} {a1 a2 a3 a4 a5 : Value} {Q : Int32 → Mm → Prop} (h : mx_kS D pc E 5) (hR : Runs l G md E k n [a1, a2, a3, a4, a5] M n' (Pi Q)) (hk : k < d) (hr : mx_few r = true) (hn : n ≤ n' ∧ n' ≤ nE) (K : ∀ (x : Int32) (M' : Mm), Q x M' → X n' M' (pc + 3) L (.int x :: r)) : X n M pc L (a5 :: a4 :: a3 :: a2 :: a1 :: r) := by
  obtain ⟨i, h1, h2, h3⟩ := h
  refine R.2.2.2.2.1 pc i E k n n' M L _ r [a1, a2, a3, a4, a5] _ h1 h2 h3 hk hn.1 hn.2 hR rfl (mx_few_ok hr) (fun v M' hv => ?_)
  · obtain ⟨x, rfl, hq⟩ := hv
    exact K x M' hq
theorem mx_Rl.V5i (R : mx_Rl l G md D d nE P X) {pc k n n' b c : Nat} {E : Md} {M : Mm} {L : Lv} {r : Sk} {a1 a2 a3 a4 a5 : Value} {Q : Int32 → Mm → Prop} (h : mx_kV D pc E c 5) (hi : mx_in md c b n) (hR : Runs l G md E k n [.ref b, a1, a2, a3, a4, a5] M n' (Pi Q)) (hk : k < d) (hr : mx_few r = true) (hn : n ≤ n' ∧ n' ≤ nE) (K : ∀ (x : Int32) (M' : Mm), Q x M' → X n' M' (pc + 3) L (.int x :: r)) : X n M pc L (a5 :: a4 :: a3 :: a2 :: a1 :: .ref b :: r) := by
  obtain ⟨i, h1, h2, h3, h4⟩ := h
  refine R.2.2.2.2.2.1 pc i E k n n' b c M L _ r [a1, a2, a3, a4, a5] _ h1 h2 h3 hk hn.1 hn.2 h4 hi hR rfl (mx_few_ok hr) (fun v M' hv => ?_)
  · obtain ⟨x, rfl, hq⟩ := hv
    exact K x M' hq
theorem mx_Rl.S5v (R : mx_Rl l G md D d nE P X) {pc k n n' : Nat} {E : Md} {M : Mm} {L : Lv} {r : Sk} {a1 a2 a3 a4 a5 : Value} {Q : Mm → Prop} (h : mx_kS D pc E 5) (hR : Runs l G md E k n [a1, a2, a3, a4, a5] M n' (Pv Q)) (hk : k < d) (hr : mx_few r = true) (hn : n ≤ n' ∧ n' ≤ nE) (K : ∀ (M' : Mm), Q M' → X n' M' (pc + 3) L r) : X n M pc L (a5 :: a4 :: a3 :: a2 :: a1 :: r) := by
  obtain ⟨i, h1, h2, h3⟩ := h
  refine R.2.2.2.2.1 pc i E k n n' M L _ r [a1, a2, a3, a4, a5] _ h1 h2 h3 hk hn.1 hn.2 hR rfl (mx_few_ok hr) (fun v M' hv => ?_)
  · obtain ⟨rfl, hq⟩ := hv
    exact K M' hq
theorem mx_Rl.V5v (R : mx_Rl l G md D d nE P X) {pc k n n' b c : Nat} {E : Md} {M : Mm} {L : Lv} {r : Sk} {a1 a2 a3 a4 a5 : Value} {Q : Mm → Prop} (h : mx_kV D pc E c 5) (hi : mx_in md c b n) (hR : Runs l G md E k n [.ref b, a1, a2, a3, a4, a5] M n' (Pv Q)) (hk : k < d) (hr : mx_few r = true) (hn : n ≤ n' ∧ n' ≤ nE) (K : ∀ (M' : Mm), Q M' → X n' M' (pc + 3) L r) : X n M pc L (a5 :: a4 :: a3 :: a2 :: a1 :: .ref b :: r) := by
  obtain ⟨i, h1, h2, h3, h4⟩ := h
  refine R.2.2.2.2.2.1 pc i E k n n' b c M L _ r [a1, a2, a3, a4, a5] _ h1 h2 h3 hk hn.1 hn.2 h4 hi hR rfl (mx_few_ok hr) (fun v M' hv => ?_)
  · obtain ⟨rfl, hq⟩ := hv
    exact K M' hq
theorem mx_Rl.S5l (R : mx_Rl l G md D d nE P X) {pc k n n' : Nat} {E : Md} {M : Mm} {L : Lv} {r : Sk} {a1 a2 a3 a4 a5 : Value} {Q : Int64 → Mm → Prop} (h : mx_kS D pc E 5) (hR : Runs l G md E k n [a1, a2, a3, a4, a5] M n' (Pl Q)) (hk : k < d) (hr : mx_few r = true) (hn : n ≤ n' ∧ n' ≤ nE) (K : ∀ (x : Int64) (M' : Mm), Q x M' → X n' M' (pc + 3) L (.long x :: r)) : X n M pc L (a5 :: a4 :: a3 :: a2 :: a1 :: r) := by
  obtain ⟨i, h1, h2, h3⟩ := h
  refine R.2.2.2.2.1 pc i E k n n' M L _ r [a1, a2, a3, a4, a5] _ h1 h2 h3 hk hn.1 hn.2 hR rfl (mx_few_ok hr) (fun v M' hv => ?_)
  · obtain ⟨x, rfl, hq⟩ := hv
    exact K x M' hq
theorem mx_Rl.V5l (R : mx_Rl l G md D d nE P X) {pc k n n' b c : Nat} {E : Md} {M : Mm} {L : Lv} {r : Sk} {a1 a2 a3 a4 a5 : Value} {Q : Int64 → Mm → Prop} (h : mx_kV D pc E c 5) (hi : mx_in md c b n) (hR : Runs l G md E k n [.ref b, a1, a2, a3, a4, a5] M n' (Pl Q)) (hk : k < d) (hr : mx_few r = true) (hn : n ≤ n' ∧ n' ≤ nE) (K : ∀ (x : Int64) (M' : Mm), Q x M' → X n' M' (pc + 3) L (.long x :: r)) : X n M pc L (a5 :: a4 :: a3 :: a2 :: a1 :: .ref b :: r) := by
  obtain ⟨i, h1, h2, h3, h4⟩ := h
  refine R.2.2.2.2.2.1 pc i E k n n' b c M L _ r [a1, a2, a3, a4, a5] _ h1 h2 h3 hk hn.1 hn.2 h4 hi hR rfl (mx_few_ok hr) (fun v M' hv => ?_)
  · obtain ⟨x, rfl, hq⟩ := hv
    exact K x M' hq
theorem mx_Rl.S5a (R : mx_Rl l G md D d nE P X) {pc k n n' : Nat} {E : Md} {M : Mm} {L : Lv} {r : Sk} {a1 a2 a3 a4 a5 : Value} {Q : Value → Mm → Prop} (h : mx_kS D pc E 5) (hR : Runs l G md E k n [a1, a2, a3, a4, a5] M n' (Pa Q)) (hk : k < d) (hr : mx_few r = true) (hn : n ≤ n' ∧ n' ≤ nE) (K : ∀ (x : Value) (M' : Mm), Q x M' → X n' M' (pc + 3) L (x :: r)) : X n M pc L (a5 :: a4 :: a3 :: a2 :: a1 :: r) := by
  obtain ⟨i, h1, h2, h3⟩ := h
  refine R.2.2.2.2.1 pc i E k n n' M L _ r [a1, a2, a3, a4, a5] _ h1 h2 h3 hk hn.1 hn.2 hR rfl (mx_few_ok hr) (fun v M' hv => ?_)
  · obtain ⟨x, rfl, hq⟩ := hv
    exact K x M' hq
theorem mx_Rl.V5a (R : mx_Rl l G md D d nE P X) {pc k n n' b c : Nat} {E : Md} {M : Mm} {L : Lv} {r : Sk} {a1 a2 a3 a4 a5 : Value} {Q : Value → Mm → Prop} (h : mx_kV D pc E c 5) (hi : mx_in md c b n) (hR : Runs l G md E k n [.ref b, a1, a2, a3, a4, a5] M n' (Pa Q)) (hk : k < d) (hr : mx_few r = true) (hn : n ≤ n' ∧ n' ≤ nE) (K : ∀ (x : Value) (M' : Mm), Q x M' → X n' M' (pc + 3) L (x :: r)) : X n M pc L (a5 :: a4 :: a3 :: a2 :: a1 :: .ref b :: r) := by
  obtain ⟨i, h1, h2, h3, h4⟩ := h
  refine R.2.2.2.2.2.1 pc i E k n n' b c M L _ r [a1, a2, a3, a4, a5] _ h1 h2 h3 hk hn.1 hn.2 h4 hi hR rfl (mx_few_ok hr) (fun v M' hv => ?_)
  · obtain ⟨x, rfl, hq⟩ := hv
    exact K x M' hq
theorem mx_Rl.o (R : mx_Rl l G md D d nE P X) {pc : Nat} {w : Instr} {len n : Nat} {M : Mm} {L : Lv} {S S' : Sk} (hd : decode D.2.1 pc = .ok (w, len)) (h : mx_odd D.2.2.2.2 w len S S') (h1 : 1 ≤ d) (hn : n ≤ nE) (K : X n M (pc + len) L S') : X n M pc L S := R.2.2.2.2.2.2.2.2.2.2.2.1 pc w len n M L S S' hd h h1 hn K
def mx_km (D : Md) (pc : Nat) (y : MethodName) : Prop := ∃ i, decode D.2.1 pc = .ok (.invokestatic i, 3) ∧ Cond.methodLink (mx_rc D.2.2.2.2) i y ∈ gw
theorem mx_Rl.max (R : mx_Rl l G md D d nE P X) {pc n : Nat} {M : Mm} {L : Lv} {r : Sk} {x y : Int32} (h : mx_km D pc Lib.Math.max.name) (h1 : 1 ≤ d) (hr : mx_few r = true) (hn : n ≤ nE) (K : X n M (pc + 3) L (.int (if x < y then y else x) :: r)) : X n M pc L (.int y :: .int x :: r) := by
  obtain ⟨i, h2, h3⟩ := h
  exact R.o h2 (Or.inr (Or.inr (Or.inr (Or.inl ⟨i, r, x, y, rfl, rfl, h3, mx_few_ok hr, rfl, rfl⟩)))) h1 hn K
theorem mx_Rl.min (R : mx_Rl l G md D d nE P X) {pc n : Nat} {M : Mm} {L : Lv} {r : Sk} {x y : Int32} (h : mx_km D pc Lib.Math.min.name) (h1 : 1 ≤ d) (hr : mx_few r = true) (hn : n ≤ nE) (K : X n M (pc + 3) L (.int (if y < x then y else x) :: r)) : X n M pc L (.int y :: .int x :: r) := by
  obtain ⟨i, h2, h3⟩ := h
  exact R.o h2 (Or.inr (Or.inr (Or.inr (Or.inr (Or.inl ⟨i, r, x, y, rfl, rfl, h3, mx_few_ok hr, rfl, rfl⟩))))) h1 hn K
theorem mx_Rl.abs (R : mx_Rl l G md D d nE P X) {pc n : Nat} {M : Mm} {L : Lv} {r : Sk} {x : Int32} (h : mx_km D pc Lib.Math.abs.name) (h1 : 1 ≤ d) (hr : mx_few r = true) (hn : n ≤ nE) (K : X n M (pc + 3) L (.int (if 0 ≤ x then x else 0 - x) :: r)) : X n M pc L (.int x :: r) := by
  obtain ⟨i, h2, h3⟩ := h
  exact R.o h2 (Or.inr (Or.inr (Or.inr (Or.inr (Or.inr (Or.inl ⟨i, r, x, rfl, rfl, h3, mx_few_ok hr, rfl, rfl⟩)))))) h1 hn K
theorem mx_Rl.copy (R : mx_Rl l G md D d nE P X) {pc n k1 k2 : Nat} {M : Mm} {L : Lv} {r : Sk} {sp dp cnt : Int32} (h : mx_km D pc arraycopyName) (h1 : 1 ≤ d) (hr : mx_few r = true) (hi1 : mx_in md 11 k1 n) (hi2 : mx_in md 11 k2 n) (h0 : ¬ sp < 0 ∧ ¬ dp < 0 ∧ ¬ cnt < 0) (h4 : sp.toNatClampNeg + cnt.toNatClampNeg ≤ (kd k1).2 ∧ dp.toNatClampNeg + cnt.toNatClampNeg ≤ (kd k2).2) (K : X n (mx_cpy M k1 sp.toNatClampNeg k2 dp.toNatClampNeg cnt.toNatClampNeg) (pc + 3) L r) : X n M pc L (.int cnt :: .int dp :: .ref k2 :: .int sp :: .ref k1 :: r) := by
  obtain ⟨i, h2, h3⟩ := h
  exact R.2.2.2.2.2.2.2.2.2.2.2.2.1 pc i n k1 k2 M L r sp dp cnt h2 h3 h1 hi1 hi2 h0.1 h0.2.1 h0.2.2 h4.1 h4.2 (mx_few_ok hr) K
/-- a call on a String constant -/
def mx_kT (D : Md) (pc : Nat) (E : Md) (na : Nat) : Prop := ∃ i, decode D.2.1 pc = .ok (.invokevirtual i, 3) ∧ mx_D E na ∧ mx_cV D.2.2.2.2 i E ∧ E.1.cls = "java/lang/String"
theorem mx_Rl.T0i (R : mx_Rl l G md D d nE P X) {pc k n j : Nat} {E : Md} {M : Mm} {L : Lv} {r : Sk} {Q : Int32 → Mm → Prop} (h : mx_kT D pc E 0) (hj : j < 6) (hR : Runs l G md E k n [.ref (1001 + j)] M n (Pi Q)) (hk : k < d) (hr : mx_few r = true) (hn : n ≤ nE) (K : ∀ (x : Int32) (M' : Mm), Q x M' → X n M' (pc + 3) L (.int x :: r)) : X n M pc L (.ref (1001 + j) :: r) := by
  obtain ⟨i, h1, h2, h3, h4⟩ := h
  refine R.2.2.2.2.2.2.2.2.2.2.2.2.2.1 pc i E k n j M L _ r [] _ h1 h2 h3 hk hn ⟨h4, hj⟩ hR rfl (mx_few_ok hr) (fun v M' hv => ?_)
  obtain ⟨x, rfl, hq⟩ := hv
  exact K x M' hq
theorem mx_Rl.T1i (R : mx_Rl l G md D d nE P X) {pc k n j : Nat} {E : Md} {M : Mm} {L : Lv} {r : Sk} {a1 : Value} {Q : Int32 → Mm → Prop} (h : mx_kT D pc E 1) (hj : j < 6) (hR : Runs l G md E k n [.ref (1001 + j), a1] M n (Pi Q)) (hk : k < d) (hr : mx_few r = true) (hn : n ≤ nE) (K : ∀ (x : Int32) (M' : Mm), Q x M' → X n M' (pc + 3) L (.int x :: r)) : X n M pc L (a1 :: .ref (1001 + j) :: r) := by
  obtain ⟨i, h1, h2, h3, h4⟩ := h
  refine R.2.2.2.2.2.2.2.2.2.2.2.2.2.1 pc i E k n j M L _ r [a1] _ h1 h2 h3 hk hn ⟨h4, hj⟩ hR rfl (mx_few_ok hr) (fun v M' hv => ?_)
  obtain ⟨x, rfl, hq⟩ := hv
  exact K x M' hq
theorem mx_Rl.T2i (R : mx_Rl l G md D d nE P X) {pc k n j : Nat} {E : Md} {M : Mm} {L : Lv} {r : Sk} {a1 a2 : Value} {Q : Int32 → Mm → Prop} (h : mx_kT D pc E 2) (hj : j < 6) (hR : Runs l G md E k n [.ref (1001 + j), a1, a2] M n (Pi Q)) (hk : k < d) (hr : mx_few r = true) (hn : n ≤ nE) (K : ∀ (x : Int32) (M' : Mm), Q x M' → X n M' (pc + 3) L (.int x :: r)) : X n M pc L (a2 :: a1 :: .ref (1001 + j) :: r) := by
  obtain ⟨i, h1, h2, h3, h4⟩ := h
  refine R.2.2.2.2.2.2.2.2.2.2.2.2.2.1 pc i E k n j M L _ r [a1, a2] _ h1 h2 h3 hk hn ⟨h4, hj⟩ hR rfl (mx_few_ok hr) (fun v M' hv => ?_)
  obtain ⟨x, rfl, hq⟩ := hv
  exact K x M' hq
theorem mx_Rl.nw (R : mx_Rl l G false D d nE P X) {pc c n : Nat} {M : Mm} {L : Lv} {S : Sk} (h : mx_kn D pc c) (hkd : (kd n).1 = c) (hE : n + 1 ≤ nE) (K : X (n + 1) (mx_z M n) (pc + 3) L (.ref n :: S)) : X n M pc L S := by
  obtain ⟨i, h1, h2, h3⟩ := h
  exact R.2.2.2.2.2.2.2.2.2.2.2.2.2.2.1 pc i c n M L S rfl h1 h2 h3 hkd hE K
theorem mx_Rl.na (R : mx_Rl l G false D d nE P X) {pc n : Nat} {aty : ArrayType} {M : Mm} {L : Lv} {r : Sk} {x : Int32} (h : decode D.2.1 pc = .ok (.newarray aty, 2)) (hk : (kd n).1 = mx_aty aty ∧ mx_aty aty ≠ 0) (hx : ¬ x < 0 ∧ x.toNatClampNeg = (kd n).2 ∧ (kd n).2 ≤ 100000) (hE : n + 1 ≤ nE) (K : X (n + 1) (mx_z M n) (pc + 2) L (.ref n :: r)) : X n M pc L (.int x :: r) := R.2.2.2.2.2.2.2.2.2.2.2.2.2.2.2.1 pc n aty M L r x rfl h hk hx.1 hx.2.1 hx.2.2 hE K
theorem mx_Rl.an (R : mx_Rl l G false D d nE P X) {pc n k1 : Nat} {M : Mm} {L : Lv} {r : Sk} {x : Int32} (h : mx_kq D pc k1) (hk1 : (kd n).1 = k1) (hx : ¬ x < 0 ∧ x.toNatClampNeg = (kd n).2 ∧ (kd n).2 ≤ 100000) (hE : n + 1 ≤ nE) (K : X (n + 1) (mx_z M n) (pc + 3) L (.ref n :: r)) : X n M pc L (.int x :: r) := by
  obtain ⟨i, h1, h2, h3, h4⟩ := h
  exact R.2.2.2.2.2.2.2.2.2.2.2.2.2.2.2.2.1 pc i n k1 M L r x rfl h1 h2 hk1 h3 h4 hx.1 hx.2.1 hx.2.2 hE K
theorem mx_Rl.as (R : mx_Rl l G false D d nE P X) {pc n k1 k t : Nat} {M : Mm} {L : Lv} {r : Sk} {i : Int32} (h : decode D.2.1 pc = .ok (.aastore, 1)) (hk : (kd k).1 = k1 ∧ k < n) (h13 : 13 ≤ k1 ∧ k1 < 17) (ht : (kd t).1 = mx_ec k1 ∧ t < n ∧ 0 < t) (hr : vp_in i (kd k).2) (K : X n (mx_wr M k i.toNatClampNeg (nI t)) (pc + 1) L r) : X n M pc L (.ref t :: .int i :: .ref k :: r) := R.2.2.2.2.2.2.2.2.2.2.2.2.2.2.2.2.2.1 pc n k1 k t M L r i rfl h hk h13.1 h13.2 ht hr K
theorem mx_Rl.oi (R : mx_Rl l G md D d nE P X) {pc n b : Nat} {M : Mm} {L : Lv} {r : Sk} (h : mx_ko D pc) (h1 : 1 ≤ d) (hr : mx_few r = true) (K : X n M (pc + 3) L r) : X n M pc L (.ref b :: r) := by
  obtain ⟨i, h2, h3⟩ := h
  exact R.2.2.2.2.2.2.2.2.2.2.2.2.2.2.2.2.2.2 pc i n b M L r h2 h3 h1 (mx_few_ok hr) K
end RL
/-- a method of all that is made -/
theorem mx_run {l : Launch} {G : Gt} {D : Md} {k : Nat} {as : List Value} {M : Mm} {P : Option Value → Mm → Prop} (hD : mx_own D) (has : as.all (fun v => v.category == 1) = true) (hla : Nat.ble as.length D.2.2.1 = true)
    (body : ∀ (d : Nat) (X : Nat → Mm → Nat → Lv → Sk → Prop), k ≤ d → mx_Rl l G true D d 127 P X → X 127 M 0 (mx_L0 D as) []) : Runs l G true D k 127 as M 127 P := by
  intro d hd
  refine mx_met hD (fun h => by cases h) (fun v hv => ?_) (Nat.le_of_ble_eq_true hla) (Nat.le_refl _) (fun X R => body d X hd R)
  have := List.all_eq_true.mp has v hv
  simpa using this
theorem mx_runs_mono {l : Launch} {G : Gt} {md : Bool} {D : Md} {k k' n n' : Nat} {as : List Value} {M : Mm} {P : Option Value → Mm → Prop} (h : Runs l G md D k n as M n' P) (hk : k ≤ k') : Runs l G md D k' n as M n' P := fun d hd => h d (Nat.le_trans hk hd)
end
section
theorem mx_nwi {i : Nat} {w : Cond} (h : (match w with | .fieldLinkNest _ _ _ _ _ _ => lw_tbl[i]? == some w | .methodLinkNest _ _ _ _ => lw_tbl[i]? == some w | _ => false) = true) : w ∈ mx_nw := by
  cases w <;> first | exact Bool.noConfusion (show false = true from h) | exact List.mem_filter.mpr ⟨List.mem_of_getElem? (beq_iff_eq.mp h), rfl⟩
def dm_X0_init : Md := (yX0_init, cX0_init, 1, none, 0)
theorem ow_X0_init : mx_own dm_X0_init := ⟨by decide +kernel, by decide +kernel⟩
theorem md_X0_init : mx_D dm_X0_init 0 := ⟨mx_gw (i := 169) (by decide +kernel), mx_gw (i := 60) (by decide +kernel), by decide +kernel, by decide +kernel⟩
def dm_X0_becomeNew : Md := (yX0_becomeNew, cX0_becomeNew, 3, none, 0)
theorem ow_X0_becomeNew : mx_own dm_X0_becomeNew := ⟨by decide +kernel, by decide +kernel⟩
theorem md_X0_becomeNew : mx_D dm_X0_becomeNew 2 := ⟨mx_gw (i := 359) (by decide +kernel), mx_gw (i := 60) (by decide +kernel), by decide +kernel, by decide +kernel⟩
def dm_X0_becomeLike : Md := (yX0_becomeLike, cX0_becomeLike, 2, none, 0)
theorem ow_X0_becomeLike : mx_own dm_X0_becomeLike := ⟨by decide +kernel, by decide +kernel⟩
theorem md_X0_becomeLike : mx_D dm_X0_becomeLike 1 := ⟨mx_gw (i := 497) (by decide +kernel), mx_gw (i := 60) (by decide +kernel), by decide +kernel, by decide +kernel⟩
def dm_X0_isOf : Md := (yX0_isOf, cX0_isOf, 4, (some .boolean), 0)
theorem ow_X0_isOf : mx_own dm_X0_isOf := ⟨by decide +kernel, by decide +kernel⟩
theorem md_X0_isOf : mx_D dm_X0_isOf 1 := ⟨mx_gw (i := 419) (by decide +kernel), mx_gw (i := 60) (by decide +kernel), by decide +kernel, by decide +kernel⟩
def dm_X0_worth : Md := (yX0_worth, cX0_worth, 1, (some .int), 0)
theorem ow_X0_worth : mx_own dm_X0_worth := ⟨by decide +kernel, by decide +kernel⟩
theorem md_X0_worth : mx_D dm_X0_worth 0 := ⟨mx_gw (i := 371) (by decide +kernel), mx_gw (i := 60) (by decide +kernel), by decide +kernel, by decide +kernel⟩
def dm_X0_birthsByKind : Md := (yX0_birthsByKind, cX0_birthsByKind, 2, (some .int), 0)
theorem ow_X0_birthsByKind : mx_own dm_X0_birthsByKind := ⟨by decide +kernel, by decide +kernel⟩
theorem md_X0_birthsByKind : mx_D dm_X0_birthsByKind 1 := ⟨mx_gw (i := 411) (by decide +kernel), mx_gw (i := 60) (by decide +kernel), by decide +kernel, by decide +kernel⟩
def dm_X0_hideOne : Md := (yX0_hideOne, cX0_hideOne, 1, none, 0)
theorem ow_X0_hideOne : mx_own dm_X0_hideOne := ⟨by decide +kernel, by decide +kernel⟩
theorem md_X0_hideOne : mx_D dm_X0_hideOne 0 := ⟨mx_gw (i := 441) (by decide +kernel), mx_gw (i := 60) (by decide +kernel), by decide +kernel, by decide +kernel⟩
def dm_X0_beginWeek : Md := (yX0_beginWeek, cX0_beginWeek, 1, none, 0)
theorem ow_X0_beginWeek : mx_own dm_X0_beginWeek := ⟨by decide +kernel, by decide +kernel⟩
theorem md_X0_beginWeek : mx_D dm_X0_beginWeek 0 := ⟨mx_gw (i := 480) (by decide +kernel), mx_gw (i := 60) (by decide +kernel), by decide +kernel, by decide +kernel⟩
def dm_X1_init : Md := (yX1_init, cX1_init, 1, none, 1)
theorem ow_X1_init : mx_own dm_X1_init := ⟨by decide +kernel, by decide +kernel⟩
theorem md_X1_init : mx_D dm_X1_init 0 := ⟨mx_gw (i := 89) (by decide +kernel), mx_gw (i := 57) (by decide +kernel), by decide +kernel, by decide +kernel⟩
def dm_X1_becomeNew : Md := (yX1_becomeNew, cX1_becomeNew, 2, none, 1)
theorem ow_X1_becomeNew : mx_own dm_X1_becomeNew := ⟨by decide +kernel, by decide +kernel⟩
theorem md_X1_becomeNew : mx_D dm_X1_becomeNew 1 := ⟨mx_gw (i := 676) (by decide +kernel), mx_gw (i := 57) (by decide +kernel), by decide +kernel, by decide +kernel⟩
def dm_X1_becomeLike : Md := (yX1_becomeLike, cX1_becomeLike, 2, none, 1)
theorem ow_X1_becomeLike : mx_own dm_X1_becomeLike := ⟨by decide +kernel, by decide +kernel⟩
theorem md_X1_becomeLike : mx_D dm_X1_becomeLike 1 := ⟨mx_gw (i := 785) (by decide +kernel), mx_gw (i := 57) (by decide +kernel), by decide +kernel, by decide +kernel⟩
def dm_X1_addAtom : Md := (yX1_addAtom, cX1_addAtom, 2, none, 1)
theorem ow_X1_addAtom : mx_own dm_X1_addAtom := ⟨by decide +kernel, by decide +kernel⟩
theorem md_X1_addAtom : mx_D dm_X1_addAtom 1 := ⟨mx_gw (i := 692) (by decide +kernel), mx_gw (i := 57) (by decide +kernel), by decide +kernel, by decide +kernel⟩
def dm_X1_addSign : Md := (yX1_addSign, cX1_addSign, 2, none, 1)
theorem ow_X1_addSign : mx_own dm_X1_addSign := ⟨by decide +kernel, by decide +kernel⟩
theorem md_X1_addSign : mx_D dm_X1_addSign 1 := ⟨mx_gw (i := 769) (by decide +kernel), mx_gw (i := 57) (by decide +kernel), by decide +kernel, by decide +kernel⟩
def dm_X1_addStep : Md := (yX1_addStep, cX1_addStep, 2, none, 1)
theorem ow_X1_addStep : mx_own dm_X1_addStep := ⟨by decide +kernel, by decide +kernel⟩
theorem md_X1_addStep : mx_D dm_X1_addStep 1 := ⟨mx_gw (i := 696) (by decide +kernel), mx_gw (i := 57) (by decide +kernel), by decide +kernel, by decide +kernel⟩
def dm_X2_init : Md := (yX2_init, cX2_init, 1, none, 2)
theorem ow_X2_init : mx_own dm_X2_init := ⟨by decide +kernel, by decide +kernel⟩
theorem md_X2_init : mx_D dm_X2_init 0 := ⟨mx_gw (i := 83) (by decide +kernel), mx_gw (i := 56) (by decide +kernel), by decide +kernel, by decide +kernel⟩
def dm_X2_understands : Md := (yX2_understands, cX2_understands, 5, (some .boolean), 2)
theorem ow_X2_understands : mx_own dm_X2_understands := ⟨by decide +kernel, by decide +kernel⟩
theorem md_X2_understands : mx_D dm_X2_understands 3 := ⟨mx_gw (i := 601) (by decide +kernel), mx_gw (i := 56) (by decide +kernel), by decide +kernel, by decide +kernel⟩
def dm_X2_takesLevel : Md := (yX2_takesLevel, cX2_takesLevel, 6, (some .boolean), 2)
theorem ow_X2_takesLevel : mx_own dm_X2_takesLevel := ⟨by decide +kernel, by decide +kernel⟩
theorem md_X2_takesLevel : mx_D dm_X2_takesLevel 3 := ⟨mx_gw (i := 680) (by decide +kernel), mx_gw (i := 56) (by decide +kernel), by decide +kernel, by decide +kernel⟩
def dm_X2_takesPiece : Md := (yX2_takesPiece, cX2_takesPiece, 3, (some .boolean), 2)
theorem ow_X2_takesPiece : mx_own dm_X2_takesPiece := ⟨by decide +kernel, by decide +kernel⟩
theorem md_X2_takesPiece : mx_D dm_X2_takesPiece 2 := ⟨mx_gw (i := 684) (by decide +kernel), mx_gw (i := 56) (by decide +kernel), by decide +kernel, by decide +kernel⟩
def dm_X2_takesNumber : Md := (yX2_takesNumber, cX2_takesNumber, 3, (some .boolean), 2)
theorem ow_X2_takesNumber : mx_own dm_X2_takesNumber := ⟨by decide +kernel, by decide +kernel⟩
theorem md_X2_takesNumber : mx_D dm_X2_takesNumber 0 := ⟨mx_gw (i := 688) (by decide +kernel), mx_gw (i := 56) (by decide +kernel), by decide +kernel, by decide +kernel⟩
def dm_X2_takesName : Md := (yX2_takesName, cX2_takesName, 2, (some .boolean), 2)
theorem ow_X2_takesName : mx_own dm_X2_takesName := ⟨by decide +kernel, by decide +kernel⟩
theorem md_X2_takesName : mx_D dm_X2_takesName 0 := ⟨mx_gw (i := 700) (by decide +kernel), mx_gw (i := 56) (by decide +kernel), by decide +kernel, by decide +kernel⟩
def dm_X2_takesNot : Md := (yX2_takesNot, cX2_takesNot, 3, (some .boolean), 2)
theorem ow_X2_takesNot : mx_own dm_X2_takesNot := ⟨by decide +kernel, by decide +kernel⟩
theorem md_X2_takesNot : mx_D dm_X2_takesNot 2 := ⟨mx_gw (i := 765) (by decide +kernel), mx_gw (i := 56) (by decide +kernel), by decide +kernel, by decide +kernel⟩
def dm_X2_takesInner : Md := (yX2_takesInner, cX2_takesInner, 3, (some .boolean), 2)
theorem ow_X2_takesInner : mx_own dm_X2_takesInner := ⟨by decide +kernel, by decide +kernel⟩
theorem md_X2_takesInner : mx_D dm_X2_takesInner 2 := ⟨mx_gw (i := 773) (by decide +kernel), mx_gw (i := 56) (by decide +kernel), by decide +kernel, by decide +kernel⟩
def dm_X2_levelOf : Md := (yX2_levelOf, cX2_levelOf, 1, (some .int), 2)
theorem ow_X2_levelOf : mx_own dm_X2_levelOf := ⟨by decide +kernel, by decide +kernel⟩
theorem md_X2_levelOf : mx_D dm_X2_levelOf 1 := ⟨mx_gw (i := 776) (by decide +kernel), mx_gw (i := 56) (by decide +kernel), by decide +kernel, by decide +kernel⟩
def dm_X2_namesOf : Md := (yX2_namesOf, cX2_namesOf, 1, (some (.object "java/lang/String")), 2)
theorem ow_X2_namesOf : mx_own dm_X2_namesOf := ⟨by decide +kernel, by decide +kernel⟩
theorem md_X2_namesOf : mx_D dm_X2_namesOf 1 := ⟨mx_gw (i := 703) (by decide +kernel), mx_gw (i := 56) (by decide +kernel), by decide +kernel, by decide +kernel⟩
def dm_X2_keyHere : Md := (yX2_keyHere, cX2_keyHere, 1, (some .int), 2)
theorem ow_X2_keyHere : mx_own dm_X2_keyHere := ⟨by decide +kernel, by decide +kernel⟩
theorem md_X2_keyHere : mx_D dm_X2_keyHere 0 := ⟨mx_gw (i := 617) (by decide +kernel), mx_gw (i := 56) (by decide +kernel), by decide +kernel, by decide +kernel⟩
def dm_X2_spells : Md := (yX2_spells, cX2_spells, 3, (some .boolean), 2)
theorem ow_X2_spells : mx_own dm_X2_spells := ⟨by decide +kernel, by decide +kernel⟩
theorem md_X2_spells : mx_D dm_X2_spells 1 := ⟨mx_gw (i := 622) (by decide +kernel), mx_gw (i := 56) (by decide +kernel), by decide +kernel, by decide +kernel⟩
def dm_X2_goOn : Md := (yX2_goOn, cX2_goOn, 2, none, 2)
theorem ow_X2_goOn : mx_own dm_X2_goOn := ⟨by decide +kernel, by decide +kernel⟩
theorem md_X2_goOn : mx_D dm_X2_goOn 0 := ⟨mx_gw (i := 606) (by decide +kernel), mx_gw (i := 56) (by decide +kernel), by decide +kernel, by decide +kernel⟩
def dm_X2_sortOf : Md := (yX2_sortOf, cX2_sortOf, 1, (some .int), 2)
theorem ow_X2_sortOf : mx_own dm_X2_sortOf := ⟨by decide +kernel, by decide +kernel⟩
theorem md_X2_sortOf : mx_D dm_X2_sortOf 1 := ⟨mx_gw (i := 613) (by decide +kernel), mx_gw (i := 56) (by decide +kernel), by decide +kernel, by decide +kernel⟩
def dm_X2_byteAt : Md := (yX2_byteAt, cX2_byteAt, 2, (some .int), 2)
theorem ow_X2_byteAt : mx_own dm_X2_byteAt := ⟨by decide +kernel, by decide +kernel⟩
theorem md_X2_byteAt : mx_D dm_X2_byteAt 1 := ⟨mx_gw (i := 610) (by decide +kernel), mx_gw (i := 56) (by decide +kernel), by decide +kernel, by decide +kernel⟩
def dm_X3_init : Md := (yX3_init, cX3_init, 1, none, 3)
theorem ow_X3_init : mx_own dm_X3_init := ⟨by decide +kernel, by decide +kernel⟩
theorem md_X3_init : mx_D dm_X3_init 0 := ⟨mx_gw (i := 241) (by decide +kernel), mx_gw (i := 62) (by decide +kernel), by decide +kernel, by decide +kernel⟩
def dm_X3_gives : Md := (yX3_gives, cX3_gives, 8, (some .int), 3)
theorem ow_X3_gives : mx_own dm_X3_gives := ⟨by decide +kernel, by decide +kernel⟩
theorem md_X3_gives : mx_D dm_X3_gives 4 := ⟨mx_gw (i := 392) (by decide +kernel), mx_gw (i := 62) (by decide +kernel), by decide +kernel, by decide +kernel⟩
def dm_X3_named : Md := (yX3_named, cX3_named, 4, (some .int), 3)
theorem ow_X3_named : mx_own dm_X3_named := ⟨by decide +kernel, by decide +kernel⟩
theorem md_X3_named : mx_D dm_X3_named 4 := ⟨mx_gw (i := 395) (by decide +kernel), mx_gw (i := 62) (by decide +kernel), by decide +kernel, by decide +kernel⟩
def dm_X3_joined : Md := (yX3_joined, cX3_joined, 3, (some .int), 3)
theorem ow_X3_joined : mx_own dm_X3_joined := ⟨by decide +kernel, by decide +kernel⟩
theorem md_X3_joined : mx_D dm_X3_joined 3 := ⟨mx_gw (i := 398) (by decide +kernel), mx_gw (i := 62) (by decide +kernel), by decide +kernel, by decide +kernel⟩
def dm_X4_init : Md := (yX4_init, cX4_init, 1, none, 4)
theorem ow_X4_init : mx_own dm_X4_init := ⟨by decide +kernel, by decide +kernel⟩
theorem md_X4_init : mx_D dm_X4_init 0 := ⟨mx_gw (i := 145) (by decide +kernel), mx_gw (i := 58) (by decide +kernel), by decide +kernel, by decide +kernel⟩
def dm_X4_become : Md := (yX4_become, cX4_become, 4, none, 4)
theorem ow_X4_become : mx_own dm_X4_become := ⟨by decide +kernel, by decide +kernel⟩
theorem md_X4_become : mx_D dm_X4_become 2 := ⟨mx_gw (i := 804) (by decide +kernel), mx_gw (i := 58) (by decide +kernel), by decide +kernel, by decide +kernel⟩
def dm_X4_becomeLike : Md := (yX4_becomeLike, cX4_becomeLike, 2, none, 4)
theorem ow_X4_becomeLike : mx_own dm_X4_becomeLike := ⟨by decide +kernel, by decide +kernel⟩
theorem md_X4_becomeLike : mx_D dm_X4_becomeLike 1 := ⟨mx_gw (i := 842) (by decide +kernel), mx_gw (i := 58) (by decide +kernel), by decide +kernel, by decide +kernel⟩
def dm_X4_isMissing : Md := (yX4_isMissing, cX4_isMissing, 1, (some .boolean), 4)
theorem ow_X4_isMissing : mx_own dm_X4_isMissing := ⟨by decide +kernel, by decide +kernel⟩
theorem md_X4_isMissing : mx_D dm_X4_isMissing 0 := ⟨mx_gw (i := 545) (by decide +kernel), mx_gw (i := 58) (by decide +kernel), by decide +kernel, by decide +kernel⟩
def dm_X4_has : Md := (yX4_has, cX4_has, 2, (some .boolean), 4)
theorem ow_X4_has : mx_own dm_X4_has := ⟨by decide +kernel, by decide +kernel⟩
theorem md_X4_has : mx_D dm_X4_has 1 := ⟨mx_gw (i := 558) (by decide +kernel), mx_gw (i := 58) (by decide +kernel), by decide +kernel, by decide +kernel⟩
def dm_X4_hasRun : Md := (yX4_hasRun, cX4_hasRun, 3, (some .boolean), 4)
theorem ow_X4_hasRun : mx_own dm_X4_hasRun := ⟨by decide +kernel, by decide +kernel⟩
theorem md_X4_hasRun : mx_D dm_X4_hasRun 2 := ⟨mx_gw (i := 828) (by decide +kernel), mx_gw (i := 58) (by decide +kernel), by decide +kernel, by decide +kernel⟩
def dm_X4_isNumberAt : Md := (yX4_isNumberAt, cX4_isNumberAt, 2, (some .boolean), 4)
theorem ow_X4_isNumberAt : mx_own dm_X4_isNumberAt := ⟨by decide +kernel, by decide +kernel⟩
theorem md_X4_isNumberAt : mx_D dm_X4_isNumberAt 1 := ⟨mx_gw (i := 554) (by decide +kernel), mx_gw (i := 58) (by decide +kernel), by decide +kernel, by decide +kernel⟩
def dm_X4_hasNumberBehind : Md := (yX4_hasNumberBehind, cX4_hasNumberBehind, 3, (some .boolean), 4)
theorem ow_X4_hasNumberBehind : mx_own dm_X4_hasNumberBehind := ⟨by decide +kernel, by decide +kernel⟩
theorem md_X4_hasNumberBehind : mx_D dm_X4_hasNumberBehind 1 := ⟨mx_gw (i := 566) (by decide +kernel), mx_gw (i := 58) (by decide +kernel), by decide +kernel, by decide +kernel⟩
def dm_X5_init : Md := (yX5_init, cX5_init, 1, none, 5)
theorem ow_X5_init : mx_own dm_X5_init := ⟨by decide +kernel, by decide +kernel⟩
theorem md_X5_init : mx_D dm_X5_init 0 := ⟨mx_gw (i := 163) (by decide +kernel), mx_gw (i := 59) (by decide +kernel), by decide +kernel, by decide +kernel⟩
def dm_X6_init : Md := (yX6_init, cX6_init, 3, none, 6)
theorem ow_X6_init : mx_own dm_X6_init := ⟨by decide +kernel, by decide +kernel⟩
theorem md_X6_init : mx_D dm_X6_init 1 := ⟨mx_gw (i := 233) (by decide +kernel), mx_gw (i := 61) (by decide +kernel), by decide +kernel, by decide +kernel⟩
def dm_X6_becomeLike : Md := (yX6_becomeLike, cX6_becomeLike, 3, none, 6)
theorem ow_X6_becomeLike : mx_own dm_X6_becomeLike := ⟨by decide +kernel, by decide +kernel⟩
theorem md_X6_becomeLike : mx_D dm_X6_becomeLike 1 := ⟨mx_gw (i := 493) (by decide +kernel), mx_gw (i := 61) (by decide +kernel), by decide +kernel, by decide +kernel⟩
def dm_X6_has : Md := (yX6_has, cX6_has, 2, (some .boolean), 6)
theorem ow_X6_has : mx_own dm_X6_has := ⟨by decide +kernel, by decide +kernel⟩
theorem md_X6_has : mx_D dm_X6_has 1 := ⟨mx_gw (i := 367) (by decide +kernel), mx_gw (i := 61) (by decide +kernel), by decide +kernel, by decide +kernel⟩
def dm_X6_addDistrict : Md := (yX6_addDistrict, cX6_addDistrict, 3, none, 6)
theorem ow_X6_addDistrict : mx_own dm_X6_addDistrict := ⟨by decide +kernel, by decide +kernel⟩
theorem md_X6_addDistrict : mx_D dm_X6_addDistrict 2 := ⟨mx_gw (i := 355) (by decide +kernel), mx_gw (i := 61) (by decide +kernel), by decide +kernel, by decide +kernel⟩
def dm_X6_addLaw : Md := (yX6_addLaw, cX6_addLaw, 3, (some .int), 6)
theorem ow_X6_addLaw : mx_own dm_X6_addLaw := ⟨by decide +kernel, by decide +kernel⟩
theorem md_X6_addLaw : mx_D dm_X6_addLaw 1 := ⟨mx_gw (i := 780) (by decide +kernel), mx_gw (i := 61) (by decide +kernel), by decide +kernel, by decide +kernel⟩
def dm_X6_lawFor : Md := (yX6_lawFor, cX6_lawFor, 3, (some (.object "BirthWeeks$Law")), 6)
theorem ow_X6_lawFor : mx_own dm_X6_lawFor := ⟨by decide +kernel, by decide +kernel⟩
theorem md_X6_lawFor : mx_D dm_X6_lawFor 1 := ⟨mx_gw (i := 388) (by decide +kernel), mx_gw (i := 61) (by decide +kernel), by decide +kernel, by decide +kernel⟩
def dm_X6_draw : Md := (yX6_draw, cX6_draw, 1, (some .int), 6)
theorem ow_X6_draw : mx_own dm_X6_draw := ⟨by decide +kernel, by decide +kernel⟩
theorem md_X6_draw : mx_D dm_X6_draw 0 := ⟨mx_gw (i := 453) (by decide +kernel), mx_gw (i := 61) (by decide +kernel), by decide +kernel, by decide +kernel⟩
def dm_X6_fairAt : Md := (yX6_fairAt, cX6_fairAt, 2, (some .int), 6)
theorem ow_X6_fairAt : mx_own dm_X6_fairAt := ⟨by decide +kernel, by decide +kernel⟩
theorem md_X6_fairAt : mx_D dm_X6_fairAt 1 := ⟨mx_gw (i := 375) (by decide +kernel), mx_gw (i := 61) (by decide +kernel), by decide +kernel, by decide +kernel⟩
def dm_X6_fairs : Md := (yX6_fairs, cX6_fairs, 3, (some .int), 6)
theorem ow_X6_fairs : mx_own dm_X6_fairs := ⟨by decide +kernel, by decide +kernel⟩
theorem md_X6_fairs : mx_D dm_X6_fairs 0 := ⟨mx_gw (i := 867) (by decide +kernel), mx_gw (i := 61) (by decide +kernel), by decide +kernel, by decide +kernel⟩
def dm_X6_pursesOfAll : Md := (yX6_pursesOfAll, cX6_pursesOfAll, 3, (some .int), 6)
theorem ow_X6_pursesOfAll : mx_own dm_X6_pursesOfAll := ⟨by decide +kernel, by decide +kernel⟩
theorem md_X6_pursesOfAll : mx_D dm_X6_pursesOfAll 0 := ⟨mx_gw (i := 876) (by decide +kernel), mx_gw (i := 61) (by decide +kernel), by decide +kernel, by decide +kernel⟩
def dm_X6_bornOfAll : Md := (yX6_bornOfAll, cX6_bornOfAll, 3, (some .int), 6)
theorem ow_X6_bornOfAll : mx_own dm_X6_bornOfAll := ⟨by decide +kernel, by decide +kernel⟩
theorem md_X6_bornOfAll : mx_D dm_X6_bornOfAll 0 := ⟨mx_gw (i := 580) (by decide +kernel), mx_gw (i := 61) (by decide +kernel), by decide +kernel, by decide +kernel⟩
def dm_X6_birthsOf : Md := (yX6_birthsOf, cX6_birthsOf, 5, (some .int), 6)
theorem ow_X6_birthsOf : mx_own dm_X6_birthsOf := ⟨by decide +kernel, by decide +kernel⟩
theorem md_X6_birthsOf : mx_D dm_X6_birthsOf 2 := ⟨mx_gw (i := 384) (by decide +kernel), mx_gw (i := 61) (by decide +kernel), by decide +kernel, by decide +kernel⟩
def dm_X6_wageOf : Md := (yX6_wageOf, cX6_wageOf, 3, (some .int), 6)
theorem ow_X6_wageOf : mx_own dm_X6_wageOf := ⟨by decide +kernel, by decide +kernel⟩
theorem md_X6_wageOf : mx_D dm_X6_wageOf 1 := ⟨mx_gw (i := 476) (by decide +kernel), mx_gw (i := 61) (by decide +kernel), by decide +kernel, by decide +kernel⟩
def dm_X6_liveDay : Md := (yX6_liveDay, cX6_liveDay, 5, (some .int), 6)
theorem ow_X6_liveDay : mx_own dm_X6_liveDay := ⟨by decide +kernel, by decide +kernel⟩
theorem md_X6_liveDay : mx_D dm_X6_liveDay 1 := ⟨mx_gw (i := 466) (by decide +kernel), mx_gw (i := 61) (by decide +kernel), by decide +kernel, by decide +kernel⟩
def dm_X6_dayOf : Md := (yX6_dayOf, cX6_dayOf, 5, (some .int), 6)
theorem ow_X6_dayOf : mx_own dm_X6_dayOf := ⟨by decide +kernel, by decide +kernel⟩
theorem md_X6_dayOf : mx_D dm_X6_dayOf 2 := ⟨mx_gw (i := 471) (by decide +kernel), mx_gw (i := 61) (by decide +kernel), by decide +kernel, by decide +kernel⟩
def dm_X7_init : Md := (yX7_init, cX7_init, 3, none, 7)
theorem ow_X7_init : mx_own dm_X7_init := ⟨by decide +kernel, by decide +kernel⟩
theorem md_X7_init : mx_D dm_X7_init 0 := ⟨mx_gw (i := 75) (by decide +kernel), mx_gw (i := 55) (by decide +kernel), by decide +kernel, by decide +kernel⟩
def dm_X7_district : Md := (yX7_district, cX7_district, 3, (some .int), 7)
theorem ow_X7_district : mx_own dm_X7_district := ⟨by decide +kernel, by decide +kernel⟩
theorem md_X7_district : mx_D dm_X7_district 2 := ⟨mx_gw (i := 341) (by decide +kernel), mx_gw (i := 55) (by decide +kernel), by decide +kernel, by decide +kernel⟩
def dm_X7_told : Md := (yX7_told, cX7_told, 4, (some .int), 7)
theorem ow_X7_told : mx_own dm_X7_told := ⟨by decide +kernel, by decide +kernel⟩
theorem md_X7_told : mx_D dm_X7_told 2 := ⟨mx_gw (i := 363) (by decide +kernel), mx_gw (i := 55) (by decide +kernel), by decide +kernel, by decide +kernel⟩
def dm_X7_births : Md := (yX7_births, cX7_births, 3, (some .int), 7)
theorem ow_X7_births : mx_own dm_X7_births := ⟨by decide +kernel, by decide +kernel⟩
theorem md_X7_births : mx_D dm_X7_births 2 := ⟨mx_gw (i := 380) (by decide +kernel), mx_gw (i := 55) (by decide +kernel), by decide +kernel, by decide +kernel⟩
def dm_X7_as : Md := (yX7_as, cX7_as, 4, (some .int), 7)
theorem ow_X7_as : mx_own dm_X7_as := ⟨by decide +kernel, by decide +kernel⟩
theorem md_X7_as : mx_D dm_X7_as 2 := ⟨mx_gw (i := 415) (by decide +kernel), mx_gw (i := 55) (by decide +kernel), by decide +kernel, by decide +kernel⟩
def dm_X7_turns : Md := (yX7_turns, cX7_turns, 5, (some .int), 7)
theorem ow_X7_turns : mx_own dm_X7_turns := ⟨by decide +kernel, by decide +kernel⟩
theorem md_X7_turns : mx_D dm_X7_turns 2 := ⟨mx_gw (i := 426) (by decide +kernel), mx_gw (i := 55) (by decide +kernel), by decide +kernel, by decide +kernel⟩
def dm_X7_set : Md := (yX7_set, cX7_set, 6, (some .int), 7)
theorem ow_X7_set : mx_own dm_X7_set := ⟨by decide +kernel, by decide +kernel⟩
theorem md_X7_set : mx_D dm_X7_set 3 := ⟨mx_gw (i := 430) (by decide +kernel), mx_gw (i := 55) (by decide +kernel), by decide +kernel, by decide +kernel⟩
def dm_X7_hide : Md := (yX7_hide, cX7_hide, 3, (some .int), 7)
theorem ow_X7_hide : mx_own dm_X7_hide := ⟨by decide +kernel, by decide +kernel⟩
theorem md_X7_hide : mx_D dm_X7_hide 1 := ⟨mx_gw (i := 436) (by decide +kernel), mx_gw (i := 55) (by decide +kernel), by decide +kernel, by decide +kernel⟩
def dm_X7_rule : Md := (yX7_rule, cX7_rule, 4, (some .int), 7)
theorem ow_X7_rule : mx_own dm_X7_rule := ⟨by decide +kernel, by decide +kernel⟩
theorem md_X7_rule : mx_D dm_X7_rule 2 := ⟨mx_gw (i := 445) (by decide +kernel), mx_gw (i := 55) (by decide +kernel), by decide +kernel, by decide +kernel⟩
def dm_X7_deal : Md := (yX7_deal, cX7_deal, 6, (some .int), 7)
theorem ow_X7_deal : mx_own dm_X7_deal := ⟨by decide +kernel, by decide +kernel⟩
theorem md_X7_deal : mx_D dm_X7_deal 1 := ⟨mx_gw (i := 449) (by decide +kernel), mx_gw (i := 55) (by decide +kernel), by decide +kernel, by decide +kernel⟩
def dm_X7_seed : Md := (yX7_seed, cX7_seed, 3, (some .int), 7)
theorem ow_X7_seed : mx_own dm_X7_seed := ⟨by decide +kernel, by decide +kernel⟩
theorem md_X7_seed : mx_D dm_X7_seed 1 := ⟨mx_gw (i := 458) (by decide +kernel), mx_gw (i := 55) (by decide +kernel), by decide +kernel, by decide +kernel⟩
def dm_X7_days : Md := (yX7_days, cX7_days, 5, (some .int), 7)
theorem ow_X7_days : mx_own dm_X7_days := ⟨by decide +kernel, by decide +kernel⟩
theorem md_X7_days : mx_D dm_X7_days 1 := ⟨mx_gw (i := 462) (by decide +kernel), mx_gw (i := 55) (by decide +kernel), by decide +kernel, by decide +kernel⟩
def dm_X7_behind : Md := (yX7_behind, cX7_behind, 5, (some .int), 7)
theorem ow_X7_behind : mx_own dm_X7_behind := ⟨by decide +kernel, by decide +kernel⟩
theorem md_X7_behind : mx_D dm_X7_behind 3 := ⟨mx_gw (i := 485) (by decide +kernel), mx_gw (i := 55) (by decide +kernel), by decide +kernel, by decide +kernel⟩
def dm_X7_meets : Md := (yX7_meets, cX7_meets, 4, (some .int), 7)
theorem ow_X7_meets : mx_own dm_X7_meets := ⟨by decide +kernel, by decide +kernel⟩
theorem md_X7_meets : mx_D dm_X7_meets 2 := ⟨mx_gw (i := 508) (by decide +kernel), mx_gw (i := 55) (by decide +kernel), by decide +kernel, by decide +kernel⟩
def dm_X7_sundays : Md := (yX7_sundays, cX7_sundays, 5, (some .int), 7)
theorem ow_X7_sundays : mx_own dm_X7_sundays := ⟨by decide +kernel, by decide +kernel⟩
theorem md_X7_sundays : mx_D dm_X7_sundays 2 := ⟨mx_gw (i := 513) (by decide +kernel), mx_gw (i := 55) (by decide +kernel), by decide +kernel, by decide +kernel⟩
def dm_X7_trader : Md := (yX7_trader, cX7_trader, 4, (some .int), 7)
theorem ow_X7_trader : mx_own dm_X7_trader := ⟨by decide +kernel, by decide +kernel⟩
theorem md_X7_trader : mx_D dm_X7_trader 2 := ⟨mx_gw (i := 517) (by decide +kernel), mx_gw (i := 55) (by decide +kernel), by decide +kernel, by decide +kernel⟩
def dm_X7_richest : Md := (yX7_richest, cX7_richest, 4, (some .int), 7)
theorem ow_X7_richest : mx_own dm_X7_richest := ⟨by decide +kernel, by decide +kernel⟩
theorem md_X7_richest : mx_D dm_X7_richest 1 := ⟨mx_gw (i := 529) (by decide +kernel), mx_gw (i := 55) (by decide +kernel), by decide +kernel, by decide +kernel⟩
def dm_X7_brings : Md := (yX7_brings, cX7_brings, 4, (some .int), 7)
theorem ow_X7_brings : mx_own dm_X7_brings := ⟨by decide +kernel, by decide +kernel⟩
theorem md_X7_brings : mx_D dm_X7_brings 2 := ⟨mx_gw (i := 533) (by decide +kernel), mx_gw (i := 55) (by decide +kernel), by decide +kernel, by decide +kernel⟩
def dm_X7_rated : Md := (yX7_rated, cX7_rated, 9, (some .int), 7)
theorem ow_X7_rated : mx_own dm_X7_rated := ⟨by decide +kernel, by decide +kernel⟩
theorem md_X7_rated : mx_D dm_X7_rated 3 := ⟨mx_gw (i := 537) (by decide +kernel), mx_gw (i := 55) (by decide +kernel), by decide +kernel, by decide +kernel⟩
def dm_X7_fine : Md := (yX7_fine, cX7_fine, 2, (some .int), 7)
theorem ow_X7_fine : mx_own dm_X7_fine := ⟨by decide +kernel, by decide +kernel⟩
theorem md_X7_fine : mx_D dm_X7_fine 0 := ⟨mx_gw (i := 575) (by decide +kernel), mx_gw (i := 55) (by decide +kernel), by decide +kernel, by decide +kernel⟩
def dm_X7_feed : Md := (yX7_feed, cX7_feed, 4, (some .int), 7)
theorem ow_X7_feed : mx_own dm_X7_feed := ⟨by decide +kernel, by decide +kernel⟩
theorem md_X7_feed : mx_D dm_X7_feed 3 := ⟨mx_gw (i := 585) (by decide +kernel), mx_gw (i := 55) (by decide +kernel), by decide +kernel, by decide +kernel⟩
def dm_X7_trim : Md := (yX7_trim, cX7_trim, 2, (some .int), 7)
theorem ow_X7_trim : mx_own dm_X7_trim := ⟨by decide +kernel, by decide +kernel⟩
theorem md_X7_trim : mx_D dm_X7_trim 1 := ⟨mx_gw (i := 593) (by decide +kernel), mx_gw (i := 55) (by decide +kernel), by decide +kernel, by decide +kernel⟩
def dm_X7_text : Md := (yX7_text, cX7_text, 2, (some .int), 7)
theorem ow_X7_text : mx_own dm_X7_text := ⟨by decide +kernel, by decide +kernel⟩
theorem md_X7_text : mx_D dm_X7_text 0 := ⟨mx_gw (i := 597) (by decide +kernel), mx_gw (i := 55) (by decide +kernel), by decide +kernel, by decide +kernel⟩
def dm_X7_textTold : Md := (yX7_textTold, cX7_textTold, 3, (some .int), 7)
theorem ow_X7_textTold : mx_own dm_X7_textTold := ⟨by decide +kernel, by decide +kernel⟩
theorem md_X7_textTold : mx_D dm_X7_textTold 2 := ⟨mx_gw (i := 792) (by decide +kernel), mx_gw (i := 55) (by decide +kernel), by decide +kernel, by decide +kernel⟩
def dm_X7_why : Md := (yX7_why, cX7_why, 3, (some .int), 7)
theorem ow_X7_why : mx_own dm_X7_why := ⟨by decide +kernel, by decide +kernel⟩
theorem md_X7_why : mx_D dm_X7_why 1 := ⟨mx_gw (i := 796) (by decide +kernel), mx_gw (i := 55) (by decide +kernel), by decide +kernel, by decide +kernel⟩
def dm_X7_sheet : Md := (yX7_sheet, cX7_sheet, 4, (some .int), 7)
theorem ow_X7_sheet : mx_own dm_X7_sheet := ⟨by decide +kernel, by decide +kernel⟩
theorem md_X7_sheet : mx_D dm_X7_sheet 3 := ⟨mx_gw (i := 800) (by decide +kernel), mx_gw (i := 55) (by decide +kernel), by decide +kernel, by decide +kernel⟩
def dm_X7_mark : Md := (yX7_mark, cX7_mark, 5, (some .int), 7)
theorem ow_X7_mark : mx_own dm_X7_mark := ⟨by decide +kernel, by decide +kernel⟩
theorem md_X7_mark : mx_D dm_X7_mark 3 := ⟨mx_gw (i := 809) (by decide +kernel), mx_gw (i := 55) (by decide +kernel), by decide +kernel, by decide +kernel⟩
def dm_X7_pour : Md := (yX7_pour, cX7_pour, 7, (some .int), 7)
theorem ow_X7_pour : mx_own dm_X7_pour := ⟨by decide +kernel, by decide +kernel⟩
theorem md_X7_pour : mx_D dm_X7_pour 1 := ⟨mx_gw (i := 815) (by decide +kernel), mx_gw (i := 55) (by decide +kernel), by decide +kernel, by decide +kernel⟩
def dm_X7_reads : Md := (yX7_reads, cX7_reads, 5, (some .int), 7)
theorem ow_X7_reads : mx_own dm_X7_reads := ⟨by decide +kernel, by decide +kernel⟩
theorem md_X7_reads : mx_D dm_X7_reads 2 := ⟨mx_gw (i := 820) (by decide +kernel), mx_gw (i := 55) (by decide +kernel), by decide +kernel, by decide +kernel⟩
def dm_X7_copy : Md := (yX7_copy, cX7_copy, 8, (some .int), 7)
theorem ow_X7_copy : mx_own dm_X7_copy := ⟨by decide +kernel, by decide +kernel⟩
theorem md_X7_copy : mx_D dm_X7_copy 5 := ⟨mx_gw (i := 824) (by decide +kernel), mx_gw (i := 55) (by decide +kernel), by decide +kernel, by decide +kernel⟩
def dm_X7_lay : Md := (yX7_lay, cX7_lay, 6, (some .int), 7)
theorem ow_X7_lay : mx_own dm_X7_lay := ⟨by decide +kernel, by decide +kernel⟩
theorem md_X7_lay : mx_D dm_X7_lay 3 := ⟨mx_gw (i := 833) (by decide +kernel), mx_gw (i := 55) (by decide +kernel), by decide +kernel, by decide +kernel⟩
def dm_X7_ask : Md := (yX7_ask, cX7_ask, 4, (some .int), 7)
theorem ow_X7_ask : mx_own dm_X7_ask := ⟨by decide +kernel, by decide +kernel⟩
theorem md_X7_ask : mx_D dm_X7_ask 2 := ⟨mx_gw (i := 847) (by decide +kernel), mx_gw (i := 55) (by decide +kernel), by decide +kernel, by decide +kernel⟩
def dm_X7_item : Md := (yX7_item, cX7_item, 4, (some .int), 7)
theorem ow_X7_item : mx_own dm_X7_item := ⟨by decide +kernel, by decide +kernel⟩
theorem md_X7_item : mx_D dm_X7_item 2 := ⟨mx_gw (i := 851) (by decide +kernel), mx_gw (i := 55) (by decide +kernel), by decide +kernel, by decide +kernel⟩
def dm_X7_rest : Md := (yX7_rest, cX7_rest, 4, (some .int), 7)
theorem ow_X7_rest : mx_own dm_X7_rest := ⟨by decide +kernel, by decide +kernel⟩
theorem md_X7_rest : mx_D dm_X7_rest 2 := ⟨mx_gw (i := 855) (by decide +kernel), mx_gw (i := 55) (by decide +kernel), by decide +kernel, by decide +kernel⟩
def dm_X7_tell : Md := (yX7_tell, cX7_tell, 2, (some .int), 7)
theorem ow_X7_tell : mx_own dm_X7_tell := ⟨by decide +kernel, by decide +kernel⟩
theorem md_X7_tell : mx_D dm_X7_tell 1 := ⟨mx_gw (i := 859) (by decide +kernel), mx_gw (i := 55) (by decide +kernel), by decide +kernel, by decide +kernel⟩
def dm_X7_check : Md := (yX7_check, cX7_check, 6, (some .int), 7)
theorem ow_X7_check : mx_own dm_X7_check := ⟨by decide +kernel, by decide +kernel⟩
theorem md_X7_check : mx_D dm_X7_check 1 := ⟨mx_gw (i := 863) (by decide +kernel), mx_gw (i := 55) (by decide +kernel), by decide +kernel, by decide +kernel⟩
def dm_X7_keep : Md := (yX7_keep, cX7_keep, 1, (some .int), 7)
theorem ow_X7_keep : mx_own dm_X7_keep := ⟨by decide +kernel, by decide +kernel⟩
theorem md_X7_keep : mx_D dm_X7_keep 0 := ⟨mx_gw (i := 880) (by decide +kernel), mx_gw (i := 55) (by decide +kernel), by decide +kernel, by decide +kernel⟩
def dm_X7_back : Md := (yX7_back, cX7_back, 1, (some .int), 7)
theorem ow_X7_back : mx_own dm_X7_back := ⟨by decide +kernel, by decide +kernel⟩
theorem md_X7_back : mx_D dm_X7_back 0 := ⟨mx_gw (i := 884) (by decide +kernel), mx_gw (i := 55) (by decide +kernel), by decide +kernel, by decide +kernel⟩
def dm_X7_count : Md := (yX7_count, cX7_count, 2, (some .int), 7)
theorem ow_X7_count : mx_own dm_X7_count := ⟨by decide +kernel, by decide +kernel⟩
theorem md_X7_count : mx_D dm_X7_count 1 := ⟨mx_gw (i := 888) (by decide +kernel), mx_gw (i := 55) (by decide +kernel), by decide +kernel, by decide +kernel⟩
def dm_X7_within : Md := (yX7_within, cX7_within, 3, (some .boolean), 7)
theorem ow_X7_within : mx_own dm_X7_within := ⟨by decide +kernel, by decide +kernel⟩
theorem md_X7_within : mx_D dm_X7_within 3 := ⟨mx_gw (i := 349) (by decide +kernel), mx_gw (i := 55) (by decide +kernel), by decide +kernel, by decide +kernel⟩
def dm_X7_held : Md := (yX7_held, cX7_held, 3, (some .int), 7)
theorem ow_X7_held : mx_own dm_X7_held := ⟨by decide +kernel, by decide +kernel⟩
theorem md_X7_held : mx_D dm_X7_held 3 := ⟨mx_gw (i := 401) (by decide +kernel), mx_gw (i := 55) (by decide +kernel), by decide +kernel, by decide +kernel⟩
def dm_X7_isKind : Md := (yX7_isKind, cX7_isKind, 1, (some .boolean), 7)
theorem ow_X7_isKind : mx_own dm_X7_isKind := ⟨by decide +kernel, by decide +kernel⟩
theorem md_X7_isKind : mx_D dm_X7_isKind 1 := ⟨mx_gw (i := 344) (by decide +kernel), mx_gw (i := 55) (by decide +kernel), by decide +kernel, by decide +kernel⟩
def dm_X7_isSheet : Md := (yX7_isSheet, cX7_isSheet, 2, (some .boolean), 7)
theorem ow_X7_isSheet : mx_own dm_X7_isSheet := ⟨by decide +kernel, by decide +kernel⟩
theorem md_X7_isSheet : mx_D dm_X7_isSheet 1 := ⟨mx_gw (i := 541) (by decide +kernel), mx_gw (i := 55) (by decide +kernel), by decide +kernel, by decide +kernel⟩
def dm_X7_isSlot : Md := (yX7_isSlot, cX7_isSlot, 2, (some .boolean), 7)
theorem ow_X7_isSlot : mx_own dm_X7_isSlot := ⟨by decide +kernel, by decide +kernel⟩
theorem md_X7_isSlot : mx_D dm_X7_isSlot 1 := ⟨mx_gw (i := 837) (by decide +kernel), mx_gw (i := 55) (by decide +kernel), by decide +kernel, by decide +kernel⟩
def dm_X7_only : Md := (yX7_only, cX7_only, 1, (some .int), 7)
theorem ow_X7_only : mx_own dm_X7_only := ⟨by decide +kernel, by decide +kernel⟩
theorem md_X7_only : mx_D dm_X7_only 1 := ⟨mx_gw (i := 500) (by decide +kernel), mx_gw (i := 55) (by decide +kernel), by decide +kernel, by decide +kernel⟩
def dm_X7_thinkFromNow : Md := (yX7_thinkFromNow, cX7_thinkFromNow, 1, none, 7)
theorem ow_X7_thinkFromNow : mx_own dm_X7_thinkFromNow := ⟨by decide +kernel, by decide +kernel⟩
theorem md_X7_thinkFromNow : mx_D dm_X7_thinkFromNow 0 := ⟨mx_gw (i := 489) (by decide +kernel), mx_gw (i := 55) (by decide +kernel), by decide +kernel, by decide +kernel⟩
def dm_X7_thinkOn : Md := (yX7_thinkOn, cX7_thinkOn, 4, none, 7)
theorem ow_X7_thinkOn : mx_own dm_X7_thinkOn := ⟨by decide +kernel, by decide +kernel⟩
theorem md_X7_thinkOn : mx_D dm_X7_thinkOn 2 := ⟨mx_gw (i := 504) (by decide +kernel), mx_gw (i := 55) (by decide +kernel), by decide +kernel, by decide +kernel⟩
def dm_X7_tradeOneDay : Md := (yX7_tradeOneDay, cX7_tradeOneDay, 3, none, 7)
theorem ow_X7_tradeOneDay : mx_own dm_X7_tradeOneDay := ⟨by decide +kernel, by decide +kernel⟩
theorem md_X7_tradeOneDay : mx_D dm_X7_tradeOneDay 0 := ⟨mx_gw (i := 521) (by decide +kernel), mx_gw (i := 55) (by decide +kernel), by decide +kernel, by decide +kernel⟩
def dm_X7_mostSeenAt : Md := (yX7_mostSeenAt, cX7_mostSeenAt, 3, (some .int), 7)
theorem ow_X7_mostSeenAt : mx_own dm_X7_mostSeenAt := ⟨by decide +kernel, by decide +kernel⟩
theorem md_X7_mostSeenAt : mx_D dm_X7_mostSeenAt 0 := ⟨mx_gw (i := 525) (by decide +kernel), mx_gw (i := 55) (by decide +kernel), by decide +kernel, by decide +kernel⟩
def dm_X7_differences : Md := (yX7_differences, cX7_differences, 7, (some .int), 7)
theorem ow_X7_differences : mx_own dm_X7_differences := ⟨by decide +kernel, by decide +kernel⟩
theorem md_X7_differences : mx_D dm_X7_differences 3 := ⟨mx_gw (i := 550) (by decide +kernel), mx_gw (i := 55) (by decide +kernel), by decide +kernel, by decide +kernel⟩
def dm_X7_thinkTillNextWeek : Md := (yX7_thinkTillNextWeek, cX7_thinkTillNextWeek, 4, none, 7)
theorem ow_X7_thinkTillNextWeek : mx_own dm_X7_thinkTillNextWeek := ⟨by decide +kernel, by decide +kernel⟩
theorem md_X7_thinkTillNextWeek : mx_D dm_X7_thinkTillNextWeek 1 := ⟨mx_gw (i := 571) (by decide +kernel), mx_gw (i := 55) (by decide +kernel), by decide +kernel, by decide +kernel⟩
def dm_X7_feedOne : Md := (yX7_feedOne, cX7_feedOne, 3, none, 7)
theorem ow_X7_feedOne : mx_own dm_X7_feedOne := ⟨by decide +kernel, by decide +kernel⟩
theorem md_X7_feedOne : mx_D dm_X7_feedOne 1 := ⟨mx_gw (i := 589) (by decide +kernel), mx_gw (i := 55) (by decide +kernel), by decide +kernel, by decide +kernel⟩
def dm_X7_stands : Md := (yX7_stands, cX7_stands, 4, (some .boolean), 7)
theorem ow_X7_stands : mx_own dm_X7_stands := ⟨by decide +kernel, by decide +kernel⟩
theorem md_X7_stands : mx_D dm_X7_stands 3 := ⟨mx_gw (i := 872) (by decide +kernel), mx_gw (i := 55) (by decide +kernel), by decide +kernel, by decide +kernel⟩
def dm_X8_init : Md := (yX8_init, cX8_init, 1, none, 8)
theorem ow_X8_init : mx_own dm_X8_init := ⟨by decide +kernel, by decide +kernel⟩
theorem md_X8_init : mx_D dm_X8_init 0 := ⟨mx_gw (i := 893) (by decide +kernel), mx_gw (i := 63) (by decide +kernel), by decide +kernel, by decide +kernel⟩
def dm_X8_in : Md := (yX8_in, cX8_in, 3, (some .boolean), 8)
theorem ow_X8_in : mx_own dm_X8_in := ⟨by decide +kernel, by decide +kernel⟩
theorem md_X8_in : mx_D dm_X8_in 3 := ⟨mx_gw (i := 1009) (by decide +kernel), mx_gw (i := 63) (by decide +kernel), by decide +kernel, by decide +kernel⟩
def dm_X8_within : Md := (yX8_within, cX8_within, 3, (some .int), 8)
theorem ow_X8_within : mx_own dm_X8_within := ⟨by decide +kernel, by decide +kernel⟩
theorem md_X8_within : mx_D dm_X8_within 3 := ⟨mx_gw (i := 1061) (by decide +kernel), mx_gw (i := 63) (by decide +kernel), by decide +kernel, by decide +kernel⟩
def dm_X8_copyAll : Md := (yX8_copyAll, cX8_copyAll, 3, none, 8)
theorem ow_X8_copyAll : mx_own dm_X8_copyAll := ⟨by decide +kernel, by decide +kernel⟩
theorem md_X8_copyAll : mx_D dm_X8_copyAll 2 := ⟨mx_gw (i := 1301) (by decide +kernel), mx_gw (i := 63) (by decide +kernel), by decide +kernel, by decide +kernel⟩
def dm_X8_isDistrict : Md := (yX8_isDistrict, cX8_isDistrict, 2, (some .boolean), 8)
theorem ow_X8_isDistrict : mx_own dm_X8_isDistrict := ⟨by decide +kernel, by decide +kernel⟩
theorem md_X8_isDistrict : mx_D dm_X8_isDistrict 1 := ⟨mx_gw (i := 1027) (by decide +kernel), mx_gw (i := 63) (by decide +kernel), by decide +kernel, by decide +kernel⟩
def dm_X8_of : Md := (yX8_of, cX8_of, 3, (some .int), 8)
theorem ow_X8_of : mx_own dm_X8_of := ⟨by decide +kernel, by decide +kernel⟩
theorem md_X8_of : mx_D dm_X8_of 2 := ⟨mx_gw (i := 1031) (by decide +kernel), mx_gw (i := 63) (by decide +kernel), by decide +kernel, by decide +kernel⟩
def dm_X8_put : Md := (yX8_put, cX8_put, 4, none, 8)
theorem ow_X8_put : mx_own dm_X8_put := ⟨by decide +kernel, by decide +kernel⟩
theorem md_X8_put : mx_D dm_X8_put 3 := ⟨mx_gw (i := 1019) (by decide +kernel), mx_gw (i := 63) (by decide +kernel), by decide +kernel, by decide +kernel⟩
def dm_X8_becomes : Md := (yX8_becomes, cX8_becomes, 4, (some .int), 8)
theorem ow_X8_becomes : mx_own dm_X8_becomes := ⟨by decide +kernel, by decide +kernel⟩
theorem md_X8_becomes : mx_D dm_X8_becomes 2 := ⟨mx_gw (i := 1077) (by decide +kernel), mx_gw (i := 63) (by decide +kernel), by decide +kernel, by decide +kernel⟩
def dm_X8_comes : Md := (yX8_comes, cX8_comes, 5, (some .int), 8)
theorem ow_X8_comes : mx_own dm_X8_comes := ⟨by decide +kernel, by decide +kernel⟩
theorem md_X8_comes : mx_D dm_X8_comes 2 := ⟨mx_gw (i := 1015) (by decide +kernel), mx_gw (i := 63) (by decide +kernel), by decide +kernel, by decide +kernel⟩
def dm_X8_district : Md := (yX8_district, cX8_district, 3, (some .int), 8)
theorem ow_X8_district : mx_own dm_X8_district := ⟨by decide +kernel, by decide +kernel⟩
theorem md_X8_district : mx_D dm_X8_district 2 := ⟨mx_gw (i := 1006) (by decide +kernel), mx_gw (i := 63) (by decide +kernel), by decide +kernel, by decide +kernel⟩
def dm_X8_worthOf : Md := (yX8_worthOf, cX8_worthOf, 3, (some .int), 8)
theorem ow_X8_worthOf : mx_own dm_X8_worthOf := ⟨by decide +kernel, by decide +kernel⟩
theorem md_X8_worthOf : mx_D dm_X8_worthOf 1 := ⟨mx_gw (i := 1035) (by decide +kernel), mx_gw (i := 63) (by decide +kernel), by decide +kernel, by decide +kernel⟩
def dm_X8_isFair : Md := (yX8_isFair, cX8_isFair, 2, (some .boolean), 8)
theorem ow_X8_isFair : mx_own dm_X8_isFair := ⟨by decide +kernel, by decide +kernel⟩
theorem md_X8_isFair : mx_D dm_X8_isFair 1 := ⟨mx_gw (i := 1039) (by decide +kernel), mx_gw (i := 63) (by decide +kernel), by decide +kernel, by decide +kernel⟩
def dm_X8_told : Md := (yX8_told, cX8_told, 3, (some .int), 8)
theorem ow_X8_told : mx_own dm_X8_told := ⟨by decide +kernel, by decide +kernel⟩
theorem md_X8_told : mx_D dm_X8_told 2 := ⟨mx_gw (i := 1023) (by decide +kernel), mx_gw (i := 63) (by decide +kernel), by decide +kernel, by decide +kernel⟩
def dm_X8_birthsOf : Md := (yX8_birthsOf, cX8_birthsOf, 5, (some .int), 8)
theorem ow_X8_birthsOf : mx_own dm_X8_birthsOf := ⟨by decide +kernel, by decide +kernel⟩
theorem md_X8_birthsOf : mx_D dm_X8_birthsOf 2 := ⟨mx_gw (i := 1047) (by decide +kernel), mx_gw (i := 63) (by decide +kernel), by decide +kernel, by decide +kernel⟩
def dm_X8_births : Md := (yX8_births, cX8_births, 3, (some .int), 8)
theorem ow_X8_births : mx_own dm_X8_births := ⟨by decide +kernel, by decide +kernel⟩
theorem md_X8_births : mx_D dm_X8_births 2 := ⟨mx_gw (i := 1043) (by decide +kernel), mx_gw (i := 63) (by decide +kernel), by decide +kernel, by decide +kernel⟩
def dm_X8_isUnder : Md := (yX8_isUnder, cX8_isUnder, 2, (some .boolean), 8)
theorem ow_X8_isUnder : mx_own dm_X8_isUnder := ⟨by decide +kernel, by decide +kernel⟩
theorem md_X8_isUnder : mx_D dm_X8_isUnder 2 := ⟨mx_gw (i := 1068) (by decide +kernel), mx_gw (i := 63) (by decide +kernel), by decide +kernel, by decide +kernel⟩
def dm_X8_as : Md := (yX8_as, cX8_as, 3, (some .int), 8)
theorem ow_X8_as : mx_own dm_X8_as := ⟨by decide +kernel, by decide +kernel⟩
theorem md_X8_as : mx_D dm_X8_as 2 := ⟨mx_gw (i := 1065) (by decide +kernel), mx_gw (i := 63) (by decide +kernel), by decide +kernel, by decide +kernel⟩
def dm_X8_turns : Md := (yX8_turns, cX8_turns, 3, (some .int), 8)
theorem ow_X8_turns : mx_own dm_X8_turns := ⟨by decide +kernel, by decide +kernel⟩
theorem md_X8_turns : mx_D dm_X8_turns 2 := ⟨mx_gw (i := 1073) (by decide +kernel), mx_gw (i := 63) (by decide +kernel), by decide +kernel, by decide +kernel⟩
def dm_X8_set : Md := (yX8_set, cX8_set, 4, (some .int), 8)
theorem ow_X8_set : mx_own dm_X8_set := ⟨by decide +kernel, by decide +kernel⟩
theorem md_X8_set : mx_D dm_X8_set 3 := ⟨mx_gw (i := 1081) (by decide +kernel), mx_gw (i := 63) (by decide +kernel), by decide +kernel, by decide +kernel⟩
def dm_X8_hides : Md := (yX8_hides, cX8_hides, 2, none, 8)
theorem ow_X8_hides : mx_own dm_X8_hides := ⟨by decide +kernel, by decide +kernel⟩
theorem md_X8_hides : mx_D dm_X8_hides 1 := ⟨mx_gw (i := 1092) (by decide +kernel), mx_gw (i := 63) (by decide +kernel), by decide +kernel, by decide +kernel⟩
def dm_X8_hide : Md := (yX8_hide, cX8_hide, 2, (some .int), 8)
theorem ow_X8_hide : mx_own dm_X8_hide := ⟨by decide +kernel, by decide +kernel⟩
theorem md_X8_hide : mx_D dm_X8_hide 1 := ⟨mx_gw (i := 1087) (by decide +kernel), mx_gw (i := 63) (by decide +kernel), by decide +kernel, by decide +kernel⟩
def dm_X8_rule : Md := (yX8_rule, cX8_rule, 3, (some .int), 8)
theorem ow_X8_rule : mx_own dm_X8_rule := ⟨by decide +kernel, by decide +kernel⟩
theorem md_X8_rule : mx_D dm_X8_rule 2 := ⟨mx_gw (i := 1096) (by decide +kernel), mx_gw (i := 63) (by decide +kernel), by decide +kernel, by decide +kernel⟩
def dm_X8_draw : Md := (yX8_draw, cX8_draw, 1, (some .int), 8)
theorem ow_X8_draw : mx_own dm_X8_draw := ⟨by decide +kernel, by decide +kernel⟩
theorem md_X8_draw : mx_D dm_X8_draw 0 := ⟨mx_gw (i := 1104) (by decide +kernel), mx_gw (i := 63) (by decide +kernel), by decide +kernel, by decide +kernel⟩
def dm_X8_deal : Md := (yX8_deal, cX8_deal, 5, (some .int), 8)
theorem ow_X8_deal : mx_own dm_X8_deal := ⟨by decide +kernel, by decide +kernel⟩
theorem md_X8_deal : mx_D dm_X8_deal 1 := ⟨mx_gw (i := 1100) (by decide +kernel), mx_gw (i := 63) (by decide +kernel), by decide +kernel, by decide +kernel⟩
def dm_X8_seed : Md := (yX8_seed, cX8_seed, 2, (some .int), 8)
theorem ow_X8_seed : mx_own dm_X8_seed := ⟨by decide +kernel, by decide +kernel⟩
theorem md_X8_seed : mx_D dm_X8_seed 1 := ⟨mx_gw (i := 1109) (by decide +kernel), mx_gw (i := 63) (by decide +kernel), by decide +kernel, by decide +kernel⟩
def dm_X8_wageOf : Md := (yX8_wageOf, cX8_wageOf, 3, (some .int), 8)
theorem ow_X8_wageOf : mx_own dm_X8_wageOf := ⟨by decide +kernel, by decide +kernel⟩
theorem md_X8_wageOf : mx_D dm_X8_wageOf 1 := ⟨mx_gw (i := 1129) (by decide +kernel), mx_gw (i := 63) (by decide +kernel), by decide +kernel, by decide +kernel⟩
def dm_X8_weekEnds : Md := (yX8_weekEnds, cX8_weekEnds, 2, none, 8)
theorem ow_X8_weekEnds : mx_own dm_X8_weekEnds := ⟨by decide +kernel, by decide +kernel⟩
theorem md_X8_weekEnds : mx_D dm_X8_weekEnds 1 := ⟨mx_gw (i := 1125) (by decide +kernel), mx_gw (i := 63) (by decide +kernel), by decide +kernel, by decide +kernel⟩
def dm_X8_day : Md := (yX8_day, cX8_day, 4, (some .int), 8)
theorem ow_X8_day : mx_own dm_X8_day := ⟨by decide +kernel, by decide +kernel⟩
theorem md_X8_day : mx_D dm_X8_day 0 := ⟨mx_gw (i := 1121) (by decide +kernel), mx_gw (i := 63) (by decide +kernel), by decide +kernel, by decide +kernel⟩
def dm_X8_goesOn : Md := (yX8_goesOn, cX8_goesOn, 4, (some .int), 8)
theorem ow_X8_goesOn : mx_own dm_X8_goesOn := ⟨by decide +kernel, by decide +kernel⟩
theorem md_X8_goesOn : mx_D dm_X8_goesOn 1 := ⟨mx_gw (i := 1117) (by decide +kernel), mx_gw (i := 63) (by decide +kernel), by decide +kernel, by decide +kernel⟩
def dm_X8_days : Md := (yX8_days, cX8_days, 2, (some .int), 8)
theorem ow_X8_days : mx_own dm_X8_days := ⟨by decide +kernel, by decide +kernel⟩
theorem md_X8_days : mx_D dm_X8_days 1 := ⟨mx_gw (i := 1113) (by decide +kernel), mx_gw (i := 63) (by decide +kernel), by decide +kernel, by decide +kernel⟩
def dm_X8_thinks : Md := (yX8_thinks, cX8_thinks, 2, none, 8)
theorem ow_X8_thinks : mx_own dm_X8_thinks := ⟨by decide +kernel, by decide +kernel⟩
theorem md_X8_thinks : mx_D dm_X8_thinks 0 := ⟨mx_gw (i := 1137) (by decide +kernel), mx_gw (i := 63) (by decide +kernel), by decide +kernel, by decide +kernel⟩
def dm_X8_putsBack : Md := (yX8_putsBack, cX8_putsBack, 2, none, 8)
theorem ow_X8_putsBack : mx_own dm_X8_putsBack := ⟨by decide +kernel, by decide +kernel⟩
theorem md_X8_putsBack : mx_D dm_X8_putsBack 0 := ⟨mx_gw (i := 1141) (by decide +kernel), mx_gw (i := 63) (by decide +kernel), by decide +kernel, by decide +kernel⟩
def dm_X8_behind : Md := (yX8_behind, cX8_behind, 6, (some .int), 8)
theorem ow_X8_behind : mx_own dm_X8_behind := ⟨by decide +kernel, by decide +kernel⟩
theorem md_X8_behind : mx_D dm_X8_behind 3 := ⟨mx_gw (i := 1133) (by decide +kernel), mx_gw (i := 63) (by decide +kernel), by decide +kernel, by decide +kernel⟩
def dm_X8_meets : Md := (yX8_meets, cX8_meets, 5, (some .int), 8)
theorem ow_X8_meets : mx_own dm_X8_meets := ⟨by decide +kernel, by decide +kernel⟩
theorem md_X8_meets : mx_D dm_X8_meets 2 := ⟨mx_gw (i := 1145) (by decide +kernel), mx_gw (i := 63) (by decide +kernel), by decide +kernel, by decide +kernel⟩
def dm_X8_sundays : Md := (yX8_sundays, cX8_sundays, 6, (some .int), 8)
theorem ow_X8_sundays : mx_own dm_X8_sundays := ⟨by decide +kernel, by decide +kernel⟩
theorem md_X8_sundays : mx_D dm_X8_sundays 2 := ⟨mx_gw (i := 1150) (by decide +kernel), mx_gw (i := 63) (by decide +kernel), by decide +kernel, by decide +kernel⟩
def dm_X8_trades : Md := (yX8_trades, cX8_trades, 3, none, 8)
theorem ow_X8_trades : mx_own dm_X8_trades := ⟨by decide +kernel, by decide +kernel⟩
theorem md_X8_trades : mx_D dm_X8_trades 0 := ⟨mx_gw (i := 1158) (by decide +kernel), mx_gw (i := 63) (by decide +kernel), by decide +kernel, by decide +kernel⟩
def dm_X8_trader : Md := (yX8_trader, cX8_trader, 5, (some .int), 8)
theorem ow_X8_trader : mx_own dm_X8_trader := ⟨by decide +kernel, by decide +kernel⟩
theorem md_X8_trader : mx_D dm_X8_trader 2 := ⟨mx_gw (i := 1154) (by decide +kernel), mx_gw (i := 63) (by decide +kernel), by decide +kernel, by decide +kernel⟩
def dm_X8_richest : Md := (yX8_richest, cX8_richest, 5, (some .int), 8)
theorem ow_X8_richest : mx_own dm_X8_richest := ⟨by decide +kernel, by decide +kernel⟩
theorem md_X8_richest : mx_D dm_X8_richest 1 := ⟨mx_gw (i := 1162) (by decide +kernel), mx_gw (i := 63) (by decide +kernel), by decide +kernel, by decide +kernel⟩
def dm_X8_brings : Md := (yX8_brings, cX8_brings, 6, (some .int), 8)
theorem ow_X8_brings : mx_own dm_X8_brings := ⟨by decide +kernel, by decide +kernel⟩
theorem md_X8_brings : mx_D dm_X8_brings 2 := ⟨mx_gw (i := 1166) (by decide +kernel), mx_gw (i := 63) (by decide +kernel), by decide +kernel, by decide +kernel⟩
def dm_X8_offBy : Md := (yX8_offBy, cX8_offBy, 11, (some .long), 8)
theorem ow_X8_offBy : mx_own dm_X8_offBy := ⟨by decide +kernel, by decide +kernel⟩
theorem md_X8_offBy : mx_D dm_X8_offBy 3 := ⟨mx_gw (i := 1178) (by decide +kernel), mx_gw (i := 63) (by decide +kernel), by decide +kernel, by decide +kernel⟩
def dm_X8_rated : Md := (yX8_rated, cX8_rated, 10, (some .int), 8)
theorem ow_X8_rated : mx_own dm_X8_rated := ⟨by decide +kernel, by decide +kernel⟩
theorem md_X8_rated : mx_D dm_X8_rated 3 := ⟨mx_gw (i := 1170) (by decide +kernel), mx_gw (i := 63) (by decide +kernel), by decide +kernel, by decide +kernel⟩
def dm_X8_sumOf : Md := (yX8_sumOf, cX8_sumOf, 4, (some .int), 8)
theorem ow_X8_sumOf : mx_own dm_X8_sumOf := ⟨by decide +kernel, by decide +kernel⟩
theorem md_X8_sumOf : mx_D dm_X8_sumOf 1 := ⟨mx_gw (i := 1186) (by decide +kernel), mx_gw (i := 63) (by decide +kernel), by decide +kernel, by decide +kernel⟩
def dm_X8_fine : Md := (yX8_fine, cX8_fine, 2, (some .int), 8)
theorem ow_X8_fine : mx_own dm_X8_fine := ⟨by decide +kernel, by decide +kernel⟩
theorem md_X8_fine : mx_D dm_X8_fine 0 := ⟨mx_gw (i := 1182) (by decide +kernel), mx_gw (i := 63) (by decide +kernel), by decide +kernel, by decide +kernel⟩
def dm_X8_feed : Md := (yX8_feed, cX8_feed, 6, (some .int), 8)
theorem ow_X8_feed : mx_own dm_X8_feed := ⟨by decide +kernel, by decide +kernel⟩
theorem md_X8_feed : mx_D dm_X8_feed 3 := ⟨mx_gw (i := 1190) (by decide +kernel), mx_gw (i := 63) (by decide +kernel), by decide +kernel, by decide +kernel⟩
def dm_X8_trim : Md := (yX8_trim, cX8_trim, 2, (some .int), 8)
theorem ow_X8_trim : mx_own dm_X8_trim := ⟨by decide +kernel, by decide +kernel⟩
theorem md_X8_trim : mx_D dm_X8_trim 1 := ⟨mx_gw (i := 1194) (by decide +kernel), mx_gw (i := 63) (by decide +kernel), by decide +kernel, by decide +kernel⟩
def dm_X8_isLetter : Md := (yX8_isLetter, cX8_isLetter, 2, (some .boolean), 8)
theorem ow_X8_isLetter : mx_own dm_X8_isLetter := ⟨by decide +kernel, by decide +kernel⟩
theorem md_X8_isLetter : mx_D dm_X8_isLetter 1 := ⟨mx_gw (i := 1206) (by decide +kernel), mx_gw (i := 63) (by decide +kernel), by decide +kernel, by decide +kernel⟩
def dm_X8_isFigure : Md := (yX8_isFigure, cX8_isFigure, 2, (some .boolean), 8)
theorem ow_X8_isFigure : mx_own dm_X8_isFigure := ⟨by decide +kernel, by decide +kernel⟩
theorem md_X8_isFigure : mx_D dm_X8_isFigure 1 := ⟨mx_gw (i := 1210) (by decide +kernel), mx_gw (i := 63) (by decide +kernel), by decide +kernel, by decide +kernel⟩
def dm_X8_go : Md := (yX8_go, cX8_go, 2, none, 8)
theorem ow_X8_go : mx_own dm_X8_go := ⟨by decide +kernel, by decide +kernel⟩
theorem md_X8_go : mx_D dm_X8_go 0 := ⟨mx_gw (i := 1202) (by decide +kernel), mx_gw (i := 63) (by decide +kernel), by decide +kernel, by decide +kernel⟩
def dm_X8_takesKey : Md := (yX8_takesKey, cX8_takesKey, 5, (some .boolean), 8)
theorem ow_X8_takesKey : mx_own dm_X8_takesKey := ⟨by decide +kernel, by decide +kernel⟩
theorem md_X8_takesKey : mx_D dm_X8_takesKey 0 := ⟨mx_gw (i := 1214) (by decide +kernel), mx_gw (i := 63) (by decide +kernel), by decide +kernel, by decide +kernel⟩
def dm_X8_nameOf : Md := (yX8_nameOf, cX8_nameOf, 2, (some .int), 8)
theorem ow_X8_nameOf : mx_own dm_X8_nameOf := ⟨by decide +kernel, by decide +kernel⟩
theorem md_X8_nameOf : mx_D dm_X8_nameOf 1 := ⟨mx_gw (i := 1226) (by decide +kernel), mx_gw (i := 63) (by decide +kernel), by decide +kernel, by decide +kernel⟩
def dm_X8_rank : Md := (yX8_rank, cX8_rank, 1, (some .int), 8)
theorem ow_X8_rank : mx_own dm_X8_rank := ⟨by decide +kernel, by decide +kernel⟩
theorem md_X8_rank : mx_D dm_X8_rank 1 := ⟨mx_gw (i := 1233) (by decide +kernel), mx_gw (i := 63) (by decide +kernel), by decide +kernel, by decide +kernel⟩
def dm_X8_settle : Md := (yX8_settle, cX8_settle, 2, none, 8)
theorem ow_X8_settle : mx_own dm_X8_settle := ⟨by decide +kernel, by decide +kernel⟩
theorem md_X8_settle : mx_D dm_X8_settle 1 := ⟨mx_gw (i := 1230) (by decide +kernel), mx_gw (i := 63) (by decide +kernel), by decide +kernel, by decide +kernel⟩
def dm_X8_signHere : Md := (yX8_signHere, cX8_signHere, 1, (some .int), 8)
theorem ow_X8_signHere : mx_own dm_X8_signHere := ⟨by decide +kernel, by decide +kernel⟩
theorem md_X8_signHere : mx_D dm_X8_signHere 0 := ⟨mx_gw (i := 1241) (by decide +kernel), mx_gw (i := 63) (by decide +kernel), by decide +kernel, by decide +kernel⟩
def dm_X8_takesPart : Md := (yX8_takesPart, cX8_takesPart, 2, (some .boolean), 8)
theorem ow_X8_takesPart : mx_own dm_X8_takesPart := ⟨by decide +kernel, by decide +kernel⟩
theorem md_X8_takesPart : mx_D dm_X8_takesPart 0 := ⟨mx_gw (i := 1222) (by decide +kernel), mx_gw (i := 63) (by decide +kernel), by decide +kernel, by decide +kernel⟩
def dm_X8_takesE : Md := (yX8_takesE, cX8_takesE, 5, (some .boolean), 8)
theorem ow_X8_takesE : mx_own dm_X8_takesE := ⟨by decide +kernel, by decide +kernel⟩
theorem md_X8_takesE : mx_D dm_X8_takesE 0 := ⟨mx_gw (i := 1218) (by decide +kernel), mx_gw (i := 63) (by decide +kernel), by decide +kernel, by decide +kernel⟩
def dm_X8_notsOpen : Md := (yX8_notsOpen, cX8_notsOpen, 3, (some .int), 8)
theorem ow_X8_notsOpen : mx_own dm_X8_notsOpen := ⟨by decide +kernel, by decide +kernel⟩
theorem md_X8_notsOpen : mx_D dm_X8_notsOpen 0 := ⟨mx_gw (i := 1237) (by decide +kernel), mx_gw (i := 63) (by decide +kernel), by decide +kernel, by decide +kernel⟩
def dm_X8_text : Md := (yX8_text, cX8_text, 4, (some .int), 8)
theorem ow_X8_text : mx_own dm_X8_text := ⟨by decide +kernel, by decide +kernel⟩
theorem md_X8_text : mx_D dm_X8_text 0 := ⟨mx_gw (i := 1198) (by decide +kernel), mx_gw (i := 63) (by decide +kernel), by decide +kernel, by decide +kernel⟩
def dm_X8_textTold : Md := (yX8_textTold, cX8_textTold, 3, (some .int), 8)
theorem ow_X8_textTold : mx_own dm_X8_textTold := ⟨by decide +kernel, by decide +kernel⟩
theorem md_X8_textTold : mx_D dm_X8_textTold 2 := ⟨mx_gw (i := 1245) (by decide +kernel), mx_gw (i := 63) (by decide +kernel), by decide +kernel, by decide +kernel⟩
def dm_X8_counts : Md := (yX8_counts, cX8_counts, 3, (some .int), 8)
theorem ow_X8_counts : mx_own dm_X8_counts := ⟨by decide +kernel, by decide +kernel⟩
theorem md_X8_counts : mx_D dm_X8_counts 1 := ⟨mx_gw (i := 1051) (by decide +kernel), mx_gw (i := 63) (by decide +kernel), by decide +kernel, by decide +kernel⟩
def dm_X8_why : Md := (yX8_why, cX8_why, 3, (some .int), 8)
theorem ow_X8_why : mx_own dm_X8_why := ⟨by decide +kernel, by decide +kernel⟩
theorem md_X8_why : mx_D dm_X8_why 1 := ⟨mx_gw (i := 1249) (by decide +kernel), mx_gw (i := 63) (by decide +kernel), by decide +kernel, by decide +kernel⟩
def dm_X8_two : Md := (yX8_two, cX8_two, 3, (some .int), 8)
theorem ow_X8_two : mx_own dm_X8_two := ⟨by decide +kernel, by decide +kernel⟩
theorem md_X8_two : mx_D dm_X8_two 3 := ⟨mx_gw (i := 1058) (by decide +kernel), mx_gw (i := 63) (by decide +kernel), by decide +kernel, by decide +kernel⟩
def dm_X8_worksOut : Md := (yX8_worksOut, cX8_worksOut, 6, (some .int), 8)
theorem ow_X8_worksOut : mx_own dm_X8_worksOut := ⟨by decide +kernel, by decide +kernel⟩
theorem md_X8_worksOut : mx_D dm_X8_worksOut 1 := ⟨mx_gw (i := 1055) (by decide +kernel), mx_gw (i := 63) (by decide +kernel), by decide +kernel, by decide +kernel⟩
def dm_X8_isSheet : Md := (yX8_isSheet, cX8_isSheet, 1, (some .boolean), 8)
theorem ow_X8_isSheet : mx_own dm_X8_isSheet := ⟨by decide +kernel, by decide +kernel⟩
theorem md_X8_isSheet : mx_D dm_X8_isSheet 1 := ⟨mx_gw (i := 1173) (by decide +kernel), mx_gw (i := 63) (by decide +kernel), by decide +kernel, by decide +kernel⟩
def dm_X8_isSlot : Md := (yX8_isSlot, cX8_isSlot, 1, (some .boolean), 8)
theorem ow_X8_isSlot : mx_own dm_X8_isSlot := ⟨by decide +kernel, by decide +kernel⟩
theorem md_X8_isSlot : mx_D dm_X8_isSlot 1 := ⟨mx_gw (i := 1278) (by decide +kernel), mx_gw (i := 63) (by decide +kernel), by decide +kernel, by decide +kernel⟩
def dm_X8_sheet : Md := (yX8_sheet, cX8_sheet, 5, (some .int), 8)
theorem ow_X8_sheet : mx_own dm_X8_sheet := ⟨by decide +kernel, by decide +kernel⟩
theorem md_X8_sheet : mx_D dm_X8_sheet 3 := ⟨mx_gw (i := 1253) (by decide +kernel), mx_gw (i := 63) (by decide +kernel), by decide +kernel, by decide +kernel⟩
def dm_X8_mark : Md := (yX8_mark, cX8_mark, 4, (some .int), 8)
theorem ow_X8_mark : mx_own dm_X8_mark := ⟨by decide +kernel, by decide +kernel⟩
theorem md_X8_mark : mx_D dm_X8_mark 3 := ⟨mx_gw (i := 1258) (by decide +kernel), mx_gw (i := 63) (by decide +kernel), by decide +kernel, by decide +kernel⟩
def dm_X8_pour : Md := (yX8_pour, cX8_pour, 6, (some .int), 8)
theorem ow_X8_pour : mx_own dm_X8_pour := ⟨by decide +kernel, by decide +kernel⟩
theorem md_X8_pour : mx_D dm_X8_pour 1 := ⟨mx_gw (i := 1263) (by decide +kernel), mx_gw (i := 63) (by decide +kernel), by decide +kernel, by decide +kernel⟩
def dm_X8_reads : Md := (yX8_reads, cX8_reads, 7, (some .int), 8)
theorem ow_X8_reads : mx_own dm_X8_reads := ⟨by decide +kernel, by decide +kernel⟩
theorem md_X8_reads : mx_D dm_X8_reads 2 := ⟨mx_gw (i := 1267) (by decide +kernel), mx_gw (i := 63) (by decide +kernel), by decide +kernel, by decide +kernel⟩
def dm_X8_copy : Md := (yX8_copy, cX8_copy, 7, (some .int), 8)
theorem ow_X8_copy : mx_own dm_X8_copy := ⟨by decide +kernel, by decide +kernel⟩
theorem md_X8_copy : mx_D dm_X8_copy 5 := ⟨mx_gw (i := 1271) (by decide +kernel), mx_gw (i := 63) (by decide +kernel), by decide +kernel, by decide +kernel⟩
def dm_X8_lay : Md := (yX8_lay, cX8_lay, 6, (some .int), 8)
theorem ow_X8_lay : mx_own dm_X8_lay := ⟨by decide +kernel, by decide +kernel⟩
theorem md_X8_lay : mx_D dm_X8_lay 3 := ⟨mx_gw (i := 1275) (by decide +kernel), mx_gw (i := 63) (by decide +kernel), by decide +kernel, by decide +kernel⟩
def dm_X8_ask : Md := (yX8_ask, cX8_ask, 3, (some .int), 8)
theorem ow_X8_ask : mx_own dm_X8_ask := ⟨by decide +kernel, by decide +kernel⟩
theorem md_X8_ask : mx_D dm_X8_ask 2 := ⟨mx_gw (i := 1282) (by decide +kernel), mx_gw (i := 63) (by decide +kernel), by decide +kernel, by decide +kernel⟩
def dm_X8_item : Md := (yX8_item, cX8_item, 4, (some .int), 8)
theorem ow_X8_item : mx_own dm_X8_item := ⟨by decide +kernel, by decide +kernel⟩
theorem md_X8_item : mx_D dm_X8_item 2 := ⟨mx_gw (i := 1286) (by decide +kernel), mx_gw (i := 63) (by decide +kernel), by decide +kernel, by decide +kernel⟩
def dm_X8_rest : Md := (yX8_rest, cX8_rest, 3, (some .int), 8)
theorem ow_X8_rest : mx_own dm_X8_rest := ⟨by decide +kernel, by decide +kernel⟩
theorem md_X8_rest : mx_D dm_X8_rest 2 := ⟨mx_gw (i := 1290) (by decide +kernel), mx_gw (i := 63) (by decide +kernel), by decide +kernel, by decide +kernel⟩
def dm_X8_tell : Md := (yX8_tell, cX8_tell, 2, (some .int), 8)
theorem ow_X8_tell : mx_own dm_X8_tell := ⟨by decide +kernel, by decide +kernel⟩
theorem md_X8_tell : mx_D dm_X8_tell 1 := ⟨mx_gw (i := 1294) (by decide +kernel), mx_gw (i := 63) (by decide +kernel), by decide +kernel, by decide +kernel⟩
def dm_X8_fairs : Md := (yX8_fairs, cX8_fairs, 3, (some .int), 8)
theorem ow_X8_fairs : mx_own dm_X8_fairs := ⟨by decide +kernel, by decide +kernel⟩
theorem md_X8_fairs : mx_D dm_X8_fairs 0 := ⟨mx_gw (i := 1305) (by decide +kernel), mx_gw (i := 63) (by decide +kernel), by decide +kernel, by decide +kernel⟩
def dm_X8_check : Md := (yX8_check, cX8_check, 7, (some .int), 8)
theorem ow_X8_check : mx_own dm_X8_check := ⟨by decide +kernel, by decide +kernel⟩
theorem md_X8_check : mx_D dm_X8_check 1 := ⟨mx_gw (i := 1298) (by decide +kernel), mx_gw (i := 63) (by decide +kernel), by decide +kernel, by decide +kernel⟩
def dm_X8_keep : Md := (yX8_keep, cX8_keep, 1, (some .int), 8)
theorem ow_X8_keep : mx_own dm_X8_keep := ⟨by decide +kernel, by decide +kernel⟩
theorem md_X8_keep : mx_D dm_X8_keep 0 := ⟨mx_gw (i := 1309) (by decide +kernel), mx_gw (i := 63) (by decide +kernel), by decide +kernel, by decide +kernel⟩
def dm_X8_back : Md := (yX8_back, cX8_back, 1, (some .int), 8)
theorem ow_X8_back : mx_own dm_X8_back := ⟨by decide +kernel, by decide +kernel⟩
theorem md_X8_back : mx_D dm_X8_back 0 := ⟨mx_gw (i := 1313) (by decide +kernel), mx_gw (i := 63) (by decide +kernel), by decide +kernel, by decide +kernel⟩
def dm_X8_count : Md := (yX8_count, cX8_count, 2, (some .int), 8)
theorem ow_X8_count : mx_own dm_X8_count := ⟨by decide +kernel, by decide +kernel⟩
theorem md_X8_count : mx_D dm_X8_count 1 := ⟨mx_gw (i := 1317) (by decide +kernel), mx_gw (i := 63) (by decide +kernel), by decide +kernel, by decide +kernel⟩
def dm_J0_length_8abf5 : Md := (yJ0_length_8abf5, cJ0_length_8abf5, 1, (some .int), 10)
theorem ow_J0_length_8abf5 : mx_own dm_J0_length_8abf5 := ⟨by decide +kernel, by decide +kernel⟩
theorem md_J0_length_8abf5 : mx_D dm_J0_length_8abf5 0 := ⟨mx_gw (i := 626) (by decide +kernel), mx_gw (i := 65) (by decide +kernel), by decide +kernel, by decide +kernel⟩
def dm_J0_charAt_5068e : Md := (yJ0_charAt_5068e, cJ0_charAt_5068e, 2, (some .char), 10)
theorem ow_J0_charAt_5068e : mx_own dm_J0_charAt_5068e := ⟨by decide +kernel, by decide +kernel⟩
theorem md_J0_charAt_5068e : mx_D dm_J0_charAt_5068e 1 := ⟨mx_gw (i := 636) (by decide +kernel), mx_gw (i := 65) (by decide +kernel), by decide +kernel, by decide +kernel⟩
def dm_J0_indexOf_0f7a4 : Md := (yJ0_indexOf_0f7a4, cJ0_indexOf_0f7a4, 2, (some .int), 10)
theorem ow_J0_indexOf_0f7a4 : mx_own dm_J0_indexOf_0f7a4 := ⟨by decide +kernel, by decide +kernel⟩
theorem md_J0_indexOf_0f7a4 : mx_D dm_J0_indexOf_0f7a4 1 := ⟨mx_gw (i := 710) (by decide +kernel), mx_gw (i := 65) (by decide +kernel), by decide +kernel, by decide +kernel⟩
def dm_J0_indexOf_7cf53 : Md := (yJ0_indexOf_7cf53, cJ0_indexOf_7cf53, 3, (some .int), 10)
theorem ow_J0_indexOf_7cf53 : mx_own dm_J0_indexOf_7cf53 := ⟨by decide +kernel, by decide +kernel⟩
theorem md_J0_indexOf_7cf53 : mx_D dm_J0_indexOf_7cf53 2 := ⟨mx_gw (i := 714) (by decide +kernel), mx_gw (i := 65) (by decide +kernel), by decide +kernel, by decide +kernel⟩
def dm_J0_coder_7d493 : Md := (yJ0_coder_7d493, cJ0_coder_7d493, 1, (some .byte), 10)
theorem ow_J0_coder_7d493 : mx_own dm_J0_coder_7d493 := ⟨by decide +kernel, by decide +kernel⟩
theorem md_J0_coder_7d493 : mx_D dm_J0_coder_7d493 0 := ⟨mx_gw (i := 630) (by decide +kernel), mx_gw (i := 65) (by decide +kernel), by decide +kernel, by decide +kernel⟩
def dm_J0_isLatin1_aae02 : Md := (yJ0_isLatin1_aae02, cJ0_isLatin1_aae02, 1, (some .boolean), 10)
theorem ow_J0_isLatin1_aae02 : mx_own dm_J0_isLatin1_aae02 := ⟨by decide +kernel, by decide +kernel⟩
theorem md_J0_isLatin1_aae02 : mx_D dm_J0_isLatin1_aae02 0 := ⟨mx_gw (i := 640) (by decide +kernel), mx_gw (i := 65) (by decide +kernel), by decide +kernel, by decide +kernel⟩
def dm_J1_charAt_3b067 : Md := (yJ1_charAt_3b067, cJ1_charAt_3b067, 2, (some .char), 11)
theorem ow_J1_charAt_3b067 : mx_own dm_J1_charAt_3b067 := ⟨by decide +kernel, by decide +kernel⟩
theorem md_J1_charAt_3b067 : mx_D dm_J1_charAt_3b067 2 := ⟨mx_gw (i := 643) (by decide +kernel), mx_gw (i := 66) (by decide +kernel), by decide +kernel, by decide +kernel⟩
def dm_J1_canEncode_9a6ad : Md := (yJ1_canEncode_9a6ad, cJ1_canEncode_9a6ad, 1, (some .boolean), 11)
theorem ow_J1_canEncode_9a6ad : mx_own dm_J1_canEncode_9a6ad := ⟨by decide +kernel, by decide +kernel⟩
theorem md_J1_canEncode_9a6ad : mx_D dm_J1_canEncode_9a6ad 1 := ⟨mx_gw (i := 721) (by decide +kernel), mx_gw (i := 66) (by decide +kernel), by decide +kernel, by decide +kernel⟩
def dm_J1_indexOf_4cfef : Md := (yJ1_indexOf_4cfef, cJ1_indexOf_4cfef, 4, (some .int), 11)
theorem ow_J1_indexOf_4cfef : mx_own dm_J1_indexOf_4cfef := ⟨by decide +kernel, by decide +kernel⟩
theorem md_J1_indexOf_4cfef : mx_D dm_J1_indexOf_4cfef 4 := ⟨mx_gw (i := 718) (by decide +kernel), mx_gw (i := 66) (by decide +kernel), by decide +kernel, by decide +kernel⟩
def dm_J1_indexOfChar_4cfef : Md := (yJ1_indexOfChar_4cfef, cJ1_indexOfChar_4cfef, 6, (some .int), 11)
theorem ow_J1_indexOfChar_4cfef : mx_own dm_J1_indexOfChar_4cfef := ⟨by decide +kernel, by decide +kernel⟩
theorem md_J1_indexOfChar_4cfef : mx_D dm_J1_indexOfChar_4cfef 4 := ⟨mx_gw (i := 726) (by decide +kernel), mx_gw (i := 66) (by decide +kernel), by decide +kernel, by decide +kernel⟩
theorem cs_X0_40 : mx_cS 0 40 dm_X7_isKind ∨ mx_cN 0 40 dm_X7_isKind := (Or.inr ⟨mx_nwi (i := 421) (by decide +kernel), mx_gw (i := 343) (by decide +kernel)⟩)
theorem cs_X0_44 : mx_cS 0 44 dm_X7_held ∨ mx_cN 0 44 dm_X7_held := (Or.inr ⟨mx_nwi (i := 481) (by decide +kernel), mx_gw (i := 400) (by decide +kernel)⟩)
theorem cv_X1_31 : mx_cV 1 31 dm_X1_addStep := ⟨mx_gw (i := 693) (by decide +kernel), mx_gw (i := 695) (by decide +kernel), mx_gw (i := 16) (by decide +kernel)⟩
theorem ci_X2_21 : mx_cI 2 21 dm_X1_init := ⟨(Or.inr (mx_nwi (i := 87) (by decide +kernel))), rfl, mx_gw (i := 88) (by decide +kernel), rfl⟩
theorem cv_X2_45 : mx_cV 2 45 dm_X2_goOn := ⟨mx_gw (i := 603) (by decide +kernel), mx_gw (i := 605) (by decide +kernel), mx_gw (i := 9) (by decide +kernel)⟩
theorem cv_X2_48 : mx_cV 2 48 dm_X2_keyHere := ⟨mx_gw (i := 614) (by decide +kernel), mx_gw (i := 616) (by decide +kernel), mx_gw (i := 11) (by decide +kernel)⟩
theorem cv_X2_52 : mx_cV 2 52 dm_X1_becomeNew := ⟨mx_gw (i := 673) (by decide +kernel), mx_gw (i := 674) (by decide +kernel), mx_gw (i := 675) (by decide +kernel)⟩
theorem cv_X2_56 : mx_cV 2 56 dm_X2_takesLevel := ⟨mx_gw (i := 677) (by decide +kernel), mx_gw (i := 679) (by decide +kernel), mx_gw (i := 13) (by decide +kernel)⟩
theorem cv_X2_60 : mx_cV 2 60 dm_X2_takesPiece := ⟨mx_gw (i := 681) (by decide +kernel), mx_gw (i := 683) (by decide +kernel), mx_gw (i := 14) (by decide +kernel)⟩
theorem cs_X2_64 : mx_cS 2 64 dm_X2_levelOf ∨ mx_cN 2 64 dm_X2_levelOf := (Or.inl ⟨mx_gw (i := 774) (by decide +kernel), mx_gw (i := 775) (by decide +kernel)⟩)
theorem cv_X2_68 : mx_cV 2 68 dm_X1_addSign := ⟨mx_gw (i := 766) (by decide +kernel), mx_gw (i := 767) (by decide +kernel), mx_gw (i := 768) (by decide +kernel)⟩
theorem cv_X2_71 : mx_cV 2 71 dm_X2_takesNumber := ⟨mx_gw (i := 685) (by decide +kernel), mx_gw (i := 687) (by decide +kernel), mx_gw (i := 15) (by decide +kernel)⟩
theorem cv_X2_75 : mx_cV 2 75 dm_X2_takesName := ⟨mx_gw (i := 697) (by decide +kernel), mx_gw (i := 699) (by decide +kernel), mx_gw (i := 17) (by decide +kernel)⟩
theorem cv_X2_78 : mx_cV 2 78 dm_X2_takesNot := ⟨mx_gw (i := 762) (by decide +kernel), mx_gw (i := 764) (by decide +kernel), mx_gw (i := 18) (by decide +kernel)⟩
theorem cv_X2_81 : mx_cV 2 81 dm_X2_takesInner := ⟨mx_gw (i := 770) (by decide +kernel), mx_gw (i := 772) (by decide +kernel), mx_gw (i := 19) (by decide +kernel)⟩
theorem cv_X2_84 : mx_cV 2 84 dm_X2_byteAt := ⟨mx_gw (i := 607) (by decide +kernel), mx_gw (i := 609) (by decide +kernel), mx_gw (i := 10) (by decide +kernel)⟩
theorem cv_X2_87 : mx_cV 2 87 dm_X1_addAtom := ⟨mx_gw (i := 689) (by decide +kernel), mx_gw (i := 690) (by decide +kernel), mx_gw (i := 691) (by decide +kernel)⟩
theorem cs_X2_93 : mx_cS 2 93 dm_X2_namesOf ∨ mx_cN 2 93 dm_X2_namesOf := (Or.inl ⟨mx_gw (i := 701) (by decide +kernel), mx_gw (i := 702) (by decide +kernel)⟩)
theorem cv_X2_97 : mx_cV 2 97 dm_J0_indexOf_0f7a4 := ⟨mx_gw (i := 707) (by decide +kernel), mx_gw (i := 708) (by decide +kernel), mx_gw (i := 709) (by decide +kernel)⟩
theorem cv_X2_110 : mx_cV 2 110 dm_X2_spells := ⟨mx_gw (i := 619) (by decide +kernel), mx_gw (i := 621) (by decide +kernel), mx_gw (i := 12) (by decide +kernel)⟩
theorem cv_X2_118 : mx_cV 2 118 dm_J0_length_8abf5 := ⟨mx_gw (i := 623) (by decide +kernel), mx_gw (i := 624) (by decide +kernel), mx_gw (i := 625) (by decide +kernel)⟩
theorem cv_X2_120 : mx_cV 2 120 dm_J0_charAt_5068e := ⟨mx_gw (i := 633) (by decide +kernel), mx_gw (i := 634) (by decide +kernel), mx_gw (i := 635) (by decide +kernel)⟩
theorem cs_X2_124 : mx_cS 2 124 dm_X2_sortOf ∨ mx_cN 2 124 dm_X2_sortOf := (Or.inl ⟨mx_gw (i := 611) (by decide +kernel), mx_gw (i := 612) (by decide +kernel)⟩)
theorem cs_X3_24 : mx_cS 3 24 dm_X3_named ∨ mx_cN 3 24 dm_X3_named := (Or.inl ⟨mx_gw (i := 393) (by decide +kernel), mx_gw (i := 394) (by decide +kernel)⟩)
theorem cs_X3_28 : mx_cS 3 28 dm_X3_joined ∨ mx_cN 3 28 dm_X3_joined := (Or.inl ⟨mx_gw (i := 396) (by decide +kernel), mx_gw (i := 397) (by decide +kernel)⟩)
theorem cv_X4_28 : mx_cV 4 28 dm_X4_has := ⟨mx_gw (i := 555) (by decide +kernel), mx_gw (i := 556) (by decide +kernel), mx_gw (i := 557) (by decide +kernel)⟩
theorem cv_X4_33 : mx_cV 4 33 dm_X4_isNumberAt := ⟨mx_gw (i := 567) (by decide +kernel), mx_gw (i := 552) (by decide +kernel), mx_gw (i := 553) (by decide +kernel)⟩
theorem ci_X5_20 : mx_cI 5 20 dm_X0_init := ⟨(Or.inr (mx_nwi (i := 167) (by decide +kernel))), rfl, mx_gw (i := 168) (by decide +kernel), rfl⟩
theorem ci_X5_27 : mx_cI 5 27 dm_X4_init := ⟨(Or.inr (mx_nwi (i := 211) (by decide +kernel))), rfl, mx_gw (i := 144) (by decide +kernel), rfl⟩
theorem ci_X6_23 : mx_cI 6 23 dm_X3_init := ⟨(Or.inr (mx_nwi (i := 239) (by decide +kernel))), rfl, mx_gw (i := 240) (by decide +kernel), rfl⟩
theorem ci_X6_54 : mx_cI 6 54 dm_X0_init := ⟨(Or.inr (mx_nwi (i := 247) (by decide +kernel))), rfl, mx_gw (i := 168) (by decide +kernel), rfl⟩
theorem cv_X6_55 : mx_cV 6 55 dm_X0_becomeLike := ⟨mx_gw (i := 494) (by decide +kernel), mx_gw (i := 495) (by decide +kernel), mx_gw (i := 496) (by decide +kernel)⟩
theorem cv_X6_59 : mx_cV 6 59 dm_X0_becomeNew := ⟨mx_gw (i := 356) (by decide +kernel), mx_gw (i := 357) (by decide +kernel), mx_gw (i := 358) (by decide +kernel)⟩
theorem cv_X6_64 : mx_cV 6 64 dm_X1_becomeLike := ⟨mx_gw (i := 782) (by decide +kernel), mx_gw (i := 783) (by decide +kernel), mx_gw (i := 784) (by decide +kernel)⟩
theorem cv_X6_73 : mx_cV 6 73 dm_X6_has := ⟨mx_gw (i := 376) (by decide +kernel), mx_gw (i := 365) (by decide +kernel), mx_gw (i := 366) (by decide +kernel)⟩
theorem cv_X6_80 : mx_cV 6 80 dm_X6_fairAt := ⟨mx_gw (i := 868) (by decide +kernel), mx_gw (i := 373) (by decide +kernel), mx_gw (i := 374) (by decide +kernel)⟩
theorem cv_X6_90 : mx_cV 6 90 dm_X6_lawFor := ⟨mx_gw (i := 385) (by decide +kernel), mx_gw (i := 386) (by decide +kernel), mx_gw (i := 387) (by decide +kernel)⟩
theorem cv_X6_97 : mx_cV 6 97 dm_X3_gives := ⟨mx_gw (i := 389) (by decide +kernel), mx_gw (i := 390) (by decide +kernel), mx_gw (i := 391) (by decide +kernel)⟩
theorem cs_X6_101 : mx_cS 6 101 dm_X7_held ∨ mx_cN 6 101 dm_X7_held := (Or.inr ⟨mx_nwi (i := 399) (by decide +kernel), mx_gw (i := 400) (by decide +kernel)⟩)
theorem cv_X6_105 : mx_cV 6 105 dm_X0_birthsByKind := ⟨mx_gw (i := 408) (by decide +kernel), mx_gw (i := 409) (by decide +kernel), mx_gw (i := 410) (by decide +kernel)⟩
theorem cv_X6_111 : mx_cV 6 111 dm_X6_draw := ⟨mx_gw (i := 467) (by decide +kernel), mx_gw (i := 451) (by decide +kernel), mx_gw (i := 452) (by decide +kernel)⟩
theorem cv_X6_115 : mx_cV 6 115 dm_X6_dayOf := ⟨mx_gw (i := 468) (by decide +kernel), mx_gw (i := 470) (by decide +kernel), mx_gw (i := 0) (by decide +kernel)⟩
theorem cv_X6_122 : mx_cV 6 122 dm_X6_birthsOf := ⟨mx_gw (i := 472) (by decide +kernel), mx_gw (i := 382) (by decide +kernel), mx_gw (i := 383) (by decide +kernel)⟩
theorem cv_X6_125 : mx_cV 6 125 dm_X6_wageOf := ⟨mx_gw (i := 473) (by decide +kernel), mx_gw (i := 474) (by decide +kernel), mx_gw (i := 475) (by decide +kernel)⟩
theorem cv_X6_129 : mx_cV 6 129 dm_X0_beginWeek := ⟨mx_gw (i := 477) (by decide +kernel), mx_gw (i := 478) (by decide +kernel), mx_gw (i := 479) (by decide +kernel)⟩
theorem ci_X7_23 : mx_cI 7 23 dm_X2_init := ⟨(Or.inr (mx_nwi (i := 81) (by decide +kernel))), rfl, mx_gw (i := 82) (by decide +kernel), rfl⟩
theorem ci_X7_30 : mx_cI 7 30 dm_X1_init := ⟨(Or.inr (mx_nwi (i := 136) (by decide +kernel))), rfl, mx_gw (i := 88) (by decide +kernel), rfl⟩
theorem ci_X7_60 : mx_cI 7 60 dm_X4_init := ⟨(Or.inr (mx_nwi (i := 143) (by decide +kernel))), rfl, mx_gw (i := 144) (by decide +kernel), rfl⟩
theorem ci_X7_61 : mx_cI 7 61 dm_X5_init := ⟨(Or.inr (mx_nwi (i := 161) (by decide +kernel))), rfl, mx_gw (i := 162) (by decide +kernel), rfl⟩
theorem ci_X7_68 : mx_cI 7 68 dm_X6_init := ⟨(Or.inl (mx_gw (i := 231) (by decide +kernel))), rfl, mx_gw (i := 232) (by decide +kernel), rfl⟩
theorem cs_X7_81 : mx_cS 7 81 dm_X7_isKind ∨ mx_cN 7 81 dm_X7_isKind := (Or.inl ⟨mx_gw (i := 342) (by decide +kernel), mx_gw (i := 343) (by decide +kernel)⟩)
theorem cs_X7_85 : mx_cS 7 85 dm_X7_within ∨ mx_cN 7 85 dm_X7_within := (Or.inl ⟨mx_gw (i := 347) (by decide +kernel), mx_gw (i := 348) (by decide +kernel)⟩)
theorem cv_X7_94 : mx_cV 7 94 dm_X6_addDistrict := ⟨mx_gw (i := 352) (by decide +kernel), mx_gw (i := 353) (by decide +kernel), mx_gw (i := 354) (by decide +kernel)⟩
theorem cv_X7_98 : mx_cV 7 98 dm_X6_has := ⟨mx_gw (i := 364) (by decide +kernel), mx_gw (i := 365) (by decide +kernel), mx_gw (i := 366) (by decide +kernel)⟩
theorem cv_X7_131 : mx_cV 7 131 dm_X0_worth := ⟨mx_gw (i := 368) (by decide +kernel), mx_gw (i := 369) (by decide +kernel), mx_gw (i := 370) (by decide +kernel)⟩
theorem cv_X7_135 : mx_cV 7 135 dm_X6_fairAt := ⟨mx_gw (i := 372) (by decide +kernel), mx_gw (i := 373) (by decide +kernel), mx_gw (i := 374) (by decide +kernel)⟩
theorem cv_X7_139 : mx_cV 7 139 dm_X6_birthsOf := ⟨mx_gw (i := 381) (by decide +kernel), mx_gw (i := 382) (by decide +kernel), mx_gw (i := 383) (by decide +kernel)⟩
theorem cv_X7_143 : mx_cV 7 143 dm_X0_isOf := ⟨mx_gw (i := 416) (by decide +kernel), mx_gw (i := 417) (by decide +kernel), mx_gw (i := 418) (by decide +kernel)⟩
theorem cv_X7_150 : mx_cV 7 150 dm_X0_hideOne := ⟨mx_gw (i := 438) (by decide +kernel), mx_gw (i := 439) (by decide +kernel), mx_gw (i := 440) (by decide +kernel)⟩
theorem cv_X7_168 : mx_cV 7 168 dm_X6_draw := ⟨mx_gw (i := 450) (by decide +kernel), mx_gw (i := 451) (by decide +kernel), mx_gw (i := 452) (by decide +kernel)⟩
theorem cv_X7_177 : mx_cV 7 177 dm_X6_liveDay := ⟨mx_gw (i := 463) (by decide +kernel), mx_gw (i := 464) (by decide +kernel), mx_gw (i := 465) (by decide +kernel)⟩
theorem cv_X7_180 : mx_cV 7 180 dm_X7_thinkFromNow := ⟨mx_gw (i := 486) (by decide +kernel), mx_gw (i := 488) (by decide +kernel), mx_gw (i := 1) (by decide +kernel)⟩
theorem cs_X7_183 : mx_cS 7 183 dm_X7_only ∨ mx_cN 7 183 dm_X7_only := (Or.inl ⟨mx_gw (i := 498) (by decide +kernel), mx_gw (i := 499) (by decide +kernel)⟩)
theorem cv_X7_186 : mx_cV 7 186 dm_X7_thinkOn := ⟨mx_gw (i := 501) (by decide +kernel), mx_gw (i := 503) (by decide +kernel), mx_gw (i := 2) (by decide +kernel)⟩
theorem cv_X7_190 : mx_cV 7 190 dm_X7_tradeOneDay := ⟨mx_gw (i := 518) (by decide +kernel), mx_gw (i := 520) (by decide +kernel), mx_gw (i := 3) (by decide +kernel)⟩
theorem cv_X7_193 : mx_cV 7 193 dm_X7_mostSeenAt := ⟨mx_gw (i := 522) (by decide +kernel), mx_gw (i := 524) (by decide +kernel), mx_gw (i := 4) (by decide +kernel)⟩
theorem cv_X7_196 : mx_cV 7 196 dm_X7_isSheet := ⟨mx_gw (i := 538) (by decide +kernel), mx_gw (i := 540) (by decide +kernel), mx_gw (i := 5) (by decide +kernel)⟩
theorem cv_X7_199 : mx_cV 7 199 dm_X4_isMissing := ⟨mx_gw (i := 542) (by decide +kernel), mx_gw (i := 543) (by decide +kernel), mx_gw (i := 544) (by decide +kernel)⟩
theorem cv_X7_204 : mx_cV 7 204 dm_X7_differences := ⟨mx_gw (i := 547) (by decide +kernel), mx_gw (i := 549) (by decide +kernel), mx_gw (i := 6) (by decide +kernel)⟩
theorem cv_X7_208 : mx_cV 7 208 dm_X6_lawFor := ⟨mx_gw (i := 576) (by decide +kernel), mx_gw (i := 386) (by decide +kernel), mx_gw (i := 387) (by decide +kernel)⟩
theorem cv_X7_216 : mx_cV 7 216 dm_X6_bornOfAll := ⟨mx_gw (i := 577) (by decide +kernel), mx_gw (i := 578) (by decide +kernel), mx_gw (i := 579) (by decide +kernel)⟩
theorem cv_X7_219 : mx_cV 7 219 dm_X3_gives := ⟨mx_gw (i := 581) (by decide +kernel), mx_gw (i := 390) (by decide +kernel), mx_gw (i := 391) (by decide +kernel)⟩
theorem cv_X7_225 : mx_cV 7 225 dm_X7_feedOne := ⟨mx_gw (i := 586) (by decide +kernel), mx_gw (i := 588) (by decide +kernel), mx_gw (i := 8) (by decide +kernel)⟩
theorem cv_X7_229 : mx_cV 7 229 dm_X2_understands := ⟨mx_gw (i := 598) (by decide +kernel), mx_gw (i := 599) (by decide +kernel), mx_gw (i := 600) (by decide +kernel)⟩
theorem cv_X7_239 : mx_cV 7 239 dm_X6_addLaw := ⟨mx_gw (i := 777) (by decide +kernel), mx_gw (i := 778) (by decide +kernel), mx_gw (i := 779) (by decide +kernel)⟩
theorem cv_X7_252 : mx_cV 7 252 dm_X4_become := ⟨mx_gw (i := 801) (by decide +kernel), mx_gw (i := 802) (by decide +kernel), mx_gw (i := 803) (by decide +kernel)⟩
theorem cv_X7_256 : mx_cV 7 256 dm_X4_has := ⟨mx_gw (i := 810) (by decide +kernel), mx_gw (i := 556) (by decide +kernel), mx_gw (i := 557) (by decide +kernel)⟩
theorem cv_X7_264 : mx_cV 7 264 dm_X4_isNumberAt := ⟨mx_gw (i := 551) (by decide +kernel), mx_gw (i := 552) (by decide +kernel), mx_gw (i := 553) (by decide +kernel)⟩
theorem cs_X7_267 : mx_cS 7 267 dm_X7_held ∨ mx_cN 7 267 dm_X7_held := (Or.inl ⟨mx_gw (i := 816) (by decide +kernel), mx_gw (i := 400) (by decide +kernel)⟩)
theorem cv_X7_274 : mx_cV 7 274 dm_X4_hasRun := ⟨mx_gw (i := 825) (by decide +kernel), mx_gw (i := 826) (by decide +kernel), mx_gw (i := 827) (by decide +kernel)⟩
theorem cv_X7_284 : mx_cV 7 284 dm_X7_isSlot := ⟨mx_gw (i := 834) (by decide +kernel), mx_gw (i := 836) (by decide +kernel), mx_gw (i := 20) (by decide +kernel)⟩
theorem cv_X7_294 : mx_cV 7 294 dm_X0_becomeLike := ⟨mx_gw (i := 838) (by decide +kernel), mx_gw (i := 495) (by decide +kernel), mx_gw (i := 496) (by decide +kernel)⟩
theorem cv_X7_302 : mx_cV 7 302 dm_X4_becomeLike := ⟨mx_gw (i := 839) (by decide +kernel), mx_gw (i := 840) (by decide +kernel), mx_gw (i := 841) (by decide +kernel)⟩
theorem cv_X7_308 : mx_cV 7 308 dm_X6_becomeLike := ⟨mx_gw (i := 490) (by decide +kernel), mx_gw (i := 491) (by decide +kernel), mx_gw (i := 492) (by decide +kernel)⟩
theorem cv_X7_311 : mx_cV 7 311 dm_X6_fairs := ⟨mx_gw (i := 864) (by decide +kernel), mx_gw (i := 865) (by decide +kernel), mx_gw (i := 866) (by decide +kernel)⟩
theorem cv_X7_314 : mx_cV 7 314 dm_X7_stands := ⟨mx_gw (i := 869) (by decide +kernel), mx_gw (i := 871) (by decide +kernel), mx_gw (i := 21) (by decide +kernel)⟩
theorem cv_X7_317 : mx_cV 7 317 dm_X6_pursesOfAll := ⟨mx_gw (i := 873) (by decide +kernel), mx_gw (i := 874) (by decide +kernel), mx_gw (i := 875) (by decide +kernel)⟩
theorem cv_X7_329 : mx_cV 7 329 dm_X4_hasNumberBehind := ⟨mx_gw (i := 563) (by decide +kernel), mx_gw (i := 564) (by decide +kernel), mx_gw (i := 565) (by decide +kernel)⟩
theorem cv_X7_332 : mx_cV 7 332 dm_X7_thinkTillNextWeek := ⟨mx_gw (i := 568) (by decide +kernel), mx_gw (i := 570) (by decide +kernel), mx_gw (i := 7) (by decide +kernel)⟩
theorem cs_X8_81 : mx_cS 8 81 dm_X8_in ∨ mx_cN 8 81 dm_X8_in := (Or.inl ⟨mx_gw (i := 1007) (by decide +kernel), mx_gw (i := 1008) (by decide +kernel)⟩)
theorem cv_X8_85 : mx_cV 8 85 dm_X8_put := ⟨mx_gw (i := 1016) (by decide +kernel), mx_gw (i := 1018) (by decide +kernel), mx_gw (i := 23) (by decide +kernel)⟩
theorem cv_X8_91 : mx_cV 8 91 dm_X8_comes := ⟨mx_gw (i := 1012) (by decide +kernel), mx_gw (i := 1014) (by decide +kernel), mx_gw (i := 22) (by decide +kernel)⟩
theorem cv_X8_95 : mx_cV 8 95 dm_X8_of := ⟨mx_gw (i := 1028) (by decide +kernel), mx_gw (i := 1030) (by decide +kernel), mx_gw (i := 25) (by decide +kernel)⟩
theorem cv_X8_98 : mx_cV 8 98 dm_X8_isDistrict := ⟨mx_gw (i := 1024) (by decide +kernel), mx_gw (i := 1026) (by decide +kernel), mx_gw (i := 24) (by decide +kernel)⟩
theorem cv_X8_102 : mx_cV 8 102 dm_X8_worthOf := ⟨mx_gw (i := 1032) (by decide +kernel), mx_gw (i := 1034) (by decide +kernel), mx_gw (i := 26) (by decide +kernel)⟩
theorem cv_X8_106 : mx_cV 8 106 dm_X8_isFair := ⟨mx_gw (i := 1036) (by decide +kernel), mx_gw (i := 1038) (by decide +kernel), mx_gw (i := 27) (by decide +kernel)⟩
theorem cv_X8_109 : mx_cV 8 109 dm_X8_counts := ⟨mx_gw (i := 1048) (by decide +kernel), mx_gw (i := 1050) (by decide +kernel), mx_gw (i := 29) (by decide +kernel)⟩
theorem cv_X8_112 : mx_cV 8 112 dm_X8_worksOut := ⟨mx_gw (i := 1052) (by decide +kernel), mx_gw (i := 1054) (by decide +kernel), mx_gw (i := 30) (by decide +kernel)⟩
theorem cs_X8_115 : mx_cS 8 115 dm_X8_within ∨ mx_cN 8 115 dm_X8_within := (Or.inl ⟨mx_gw (i := 1059) (by decide +kernel), mx_gw (i := 1060) (by decide +kernel)⟩)
theorem cv_X8_119 : mx_cV 8 119 dm_X8_birthsOf := ⟨mx_gw (i := 1044) (by decide +kernel), mx_gw (i := 1046) (by decide +kernel), mx_gw (i := 28) (by decide +kernel)⟩
theorem cs_X8_122 : mx_cS 8 122 dm_X8_isUnder ∨ mx_cN 8 122 dm_X8_isUnder := (Or.inl ⟨mx_gw (i := 1066) (by decide +kernel), mx_gw (i := 1067) (by decide +kernel)⟩)
theorem cv_X8_127 : mx_cV 8 127 dm_X8_becomes := ⟨mx_gw (i := 1074) (by decide +kernel), mx_gw (i := 1076) (by decide +kernel), mx_gw (i := 31) (by decide +kernel)⟩
theorem cv_X8_133 : mx_cV 8 133 dm_X8_hides := ⟨mx_gw (i := 1089) (by decide +kernel), mx_gw (i := 1091) (by decide +kernel), mx_gw (i := 32) (by decide +kernel)⟩
theorem cv_X8_138 : mx_cV 8 138 dm_X8_draw := ⟨mx_gw (i := 1101) (by decide +kernel), mx_gw (i := 1103) (by decide +kernel), mx_gw (i := 33) (by decide +kernel)⟩
theorem cv_X8_142 : mx_cV 8 142 dm_X8_wageOf := ⟨mx_gw (i := 1126) (by decide +kernel), mx_gw (i := 1128) (by decide +kernel), mx_gw (i := 37) (by decide +kernel)⟩
theorem cv_X8_145 : mx_cV 8 145 dm_X8_weekEnds := ⟨mx_gw (i := 1122) (by decide +kernel), mx_gw (i := 1124) (by decide +kernel), mx_gw (i := 36) (by decide +kernel)⟩
theorem cv_X8_148 : mx_cV 8 148 dm_X8_day := ⟨mx_gw (i := 1118) (by decide +kernel), mx_gw (i := 1120) (by decide +kernel), mx_gw (i := 35) (by decide +kernel)⟩
theorem cv_X8_151 : mx_cV 8 151 dm_X8_goesOn := ⟨mx_gw (i := 1114) (by decide +kernel), mx_gw (i := 1116) (by decide +kernel), mx_gw (i := 34) (by decide +kernel)⟩
theorem cv_X8_154 : mx_cV 8 154 dm_X8_thinks := ⟨mx_gw (i := 1134) (by decide +kernel), mx_gw (i := 1136) (by decide +kernel), mx_gw (i := 38) (by decide +kernel)⟩
theorem cv_X8_157 : mx_cV 8 157 dm_X8_putsBack := ⟨mx_gw (i := 1138) (by decide +kernel), mx_gw (i := 1140) (by decide +kernel), mx_gw (i := 39) (by decide +kernel)⟩
theorem cv_X8_161 : mx_cV 8 161 dm_X8_trades := ⟨mx_gw (i := 1155) (by decide +kernel), mx_gw (i := 1157) (by decide +kernel), mx_gw (i := 40) (by decide +kernel)⟩
theorem cs_X8_164 : mx_cS 8 164 dm_X8_isSheet ∨ mx_cN 8 164 dm_X8_isSheet := (Or.inl ⟨mx_gw (i := 1171) (by decide +kernel), mx_gw (i := 1172) (by decide +kernel)⟩)
theorem cv_X8_168 : mx_cV 8 168 dm_X8_offBy := ⟨mx_gw (i := 1175) (by decide +kernel), mx_gw (i := 1177) (by decide +kernel), mx_gw (i := 41) (by decide +kernel)⟩
theorem cv_X8_172 : mx_cV 8 172 dm_X8_sumOf := ⟨mx_gw (i := 1183) (by decide +kernel), mx_gw (i := 1185) (by decide +kernel), mx_gw (i := 42) (by decide +kernel)⟩
theorem cv_X8_191 : mx_cV 8 191 dm_X8_isLetter := ⟨mx_gw (i := 1203) (by decide +kernel), mx_gw (i := 1205) (by decide +kernel), mx_gw (i := 44) (by decide +kernel)⟩
theorem cv_X8_197 : mx_cV 8 197 dm_X8_isFigure := ⟨mx_gw (i := 1207) (by decide +kernel), mx_gw (i := 1209) (by decide +kernel), mx_gw (i := 45) (by decide +kernel)⟩
theorem cv_X8_203 : mx_cV 8 203 dm_X8_go := ⟨mx_gw (i := 1199) (by decide +kernel), mx_gw (i := 1201) (by decide +kernel), mx_gw (i := 43) (by decide +kernel)⟩
theorem cs_X8_209 : mx_cS 8 209 dm_X8_rank ∨ mx_cN 8 209 dm_X8_rank := (Or.inl ⟨mx_gw (i := 1231) (by decide +kernel), mx_gw (i := 1232) (by decide +kernel)⟩)
theorem cv_X8_215 : mx_cV 8 215 dm_X8_nameOf := ⟨mx_gw (i := 1223) (by decide +kernel), mx_gw (i := 1225) (by decide +kernel), mx_gw (i := 49) (by decide +kernel)⟩
theorem cv_X8_221 : mx_cV 8 221 dm_X8_settle := ⟨mx_gw (i := 1227) (by decide +kernel), mx_gw (i := 1229) (by decide +kernel), mx_gw (i := 50) (by decide +kernel)⟩
theorem cv_X8_224 : mx_cV 8 224 dm_X8_takesPart := ⟨mx_gw (i := 1219) (by decide +kernel), mx_gw (i := 1221) (by decide +kernel), mx_gw (i := 48) (by decide +kernel)⟩
theorem cv_X8_228 : mx_cV 8 228 dm_X8_notsOpen := ⟨mx_gw (i := 1234) (by decide +kernel), mx_gw (i := 1236) (by decide +kernel), mx_gw (i := 51) (by decide +kernel)⟩
theorem cv_X8_231 : mx_cV 8 231 dm_X8_signHere := ⟨mx_gw (i := 1238) (by decide +kernel), mx_gw (i := 1240) (by decide +kernel), mx_gw (i := 52) (by decide +kernel)⟩
theorem cv_X8_234 : mx_cV 8 234 dm_X8_takesKey := ⟨mx_gw (i := 1211) (by decide +kernel), mx_gw (i := 1213) (by decide +kernel), mx_gw (i := 46) (by decide +kernel)⟩
theorem cv_X8_237 : mx_cV 8 237 dm_X8_takesE := ⟨mx_gw (i := 1215) (by decide +kernel), mx_gw (i := 1217) (by decide +kernel), mx_gw (i := 47) (by decide +kernel)⟩
theorem cs_X8_240 : mx_cS 8 240 dm_X8_two ∨ mx_cN 8 240 dm_X8_two := (Or.inl ⟨mx_gw (i := 1056) (by decide +kernel), mx_gw (i := 1057) (by decide +kernel)⟩)
theorem cs_X8_245 : mx_cS 8 245 dm_X8_isSlot ∨ mx_cN 8 245 dm_X8_isSlot := (Or.inl ⟨mx_gw (i := 1276) (by decide +kernel), mx_gw (i := 1277) (by decide +kernel)⟩)
theorem cs_X8_255 : mx_cS 8 255 dm_X8_copyAll ∨ mx_cN 8 255 dm_X8_copyAll := (Or.inl ⟨mx_gw (i := 1299) (by decide +kernel), mx_gw (i := 1300) (by decide +kernel)⟩)
theorem cv_X8_259 : mx_cV 8 259 dm_X8_fairs := ⟨mx_gw (i := 1302) (by decide +kernel), mx_gw (i := 1304) (by decide +kernel), mx_gw (i := 53) (by decide +kernel)⟩
theorem cv_J0_335 : mx_cV 10 335 dm_J0_coder_7d493 := ⟨mx_gw (i := 627) (by decide +kernel), mx_gw (i := 628) (by decide +kernel), mx_gw (i := 629) (by decide +kernel)⟩
theorem cv_J0_492 : mx_cV 10 492 dm_J0_isLatin1_aae02 := ⟨mx_gw (i := 637) (by decide +kernel), mx_gw (i := 638) (by decide +kernel), mx_gw (i := 639) (by decide +kernel)⟩
theorem cs_J0_495 : mx_cS 10 495 dm_J1_charAt_3b067 ∨ mx_cN 10 495 dm_J1_charAt_3b067 := (Or.inl ⟨mx_gw (i := 641) (by decide +kernel), mx_gw (i := 642) (by decide +kernel)⟩)
theorem cv_J0_633 : mx_cV 10 633 dm_J0_indexOf_7cf53 := ⟨mx_gw (i := 711) (by decide +kernel), mx_gw (i := 712) (by decide +kernel), mx_gw (i := 713) (by decide +kernel)⟩
theorem cv_J0_505 : mx_cV 10 505 dm_J0_length_8abf5 := ⟨mx_gw (i := 715) (by decide +kernel), mx_gw (i := 624) (by decide +kernel), mx_gw (i := 625) (by decide +kernel)⟩
theorem cs_J0_637 : mx_cS 10 637 dm_J1_indexOf_4cfef ∨ mx_cN 10 637 dm_J1_indexOf_4cfef := (Or.inl ⟨mx_gw (i := 716) (by decide +kernel), mx_gw (i := 717) (by decide +kernel)⟩)
theorem cs_J1_88 : mx_cS 11 88 dm_J1_canEncode_9a6ad ∨ mx_cN 11 88 dm_J1_canEncode_9a6ad := (Or.inl ⟨mx_gw (i := 719) (by decide +kernel), mx_gw (i := 720) (by decide +kernel)⟩)
theorem cs_J1_95 : mx_cS 11 95 dm_J1_indexOfChar_4cfef ∨ mx_cN 11 95 dm_J1_indexOfChar_4cfef := (Or.inl ⟨mx_gw (i := 724) (by decide +kernel), mx_gw (i := 725) (by decide +kernel)⟩)
end
section
theorem bk_X0_init_0 : mx_blk 0 cX0_init 0 [.inl (.aload 0)] 1 = true := by decide +kernel
theorem kc_X0_init_1 : mx_ko dm_X0_init 1 := ⟨3, by decide +kernel, mx_gw (i := 170) (by decide +kernel)⟩
theorem bk_X0_init_4 : mx_blk 0 cX0_init 4 [.inl (.aload 0), .inr (.int 0), .inl (.putfield 0), .inl (.aload 0), .inr (.int 0), .inl (.putfield 1), .inl (.aload 0), .inr (.int 0), .inl (.putfield 2), .inl (.aload 0), .inr (.int 7), .inl (.putfield 3), .inl (.aload 0), .inr (.int 0), .inl (.putfield 4), .inl (.aload 0), .inr (.int 0), .inl (.putfield 5), .inl (.aload 0), .inr (.int 0), .inl (.putfield 6), .inl (.aload 0), .inr (.int 0), .inl (.putfield 7)] 45 = true := by decide +kernel
theorem rt_X0_init_45 : mx_kv dm_X0_init 45 := ⟨by decide +kernel, rfl⟩
theorem bk_X0_becomeNew_0 : mx_blk 0 cX0_becomeNew 0 [.inl (.aload 0), .inl (.iload 1), .inl (.putfield 0), .inl (.aload 0), .inl (.iload 2), .inl (.putfield 1), .inl (.aload 0), .inr (.int 0), .inl (.putfield 2), .inl (.aload 0), .inr (.int 7), .inl (.putfield 3), .inl (.aload 0), .inr (.int 0), .inl (.putfield 4), .inl (.aload 0), .inr (.int 0), .inl (.putfield 5), .inl (.aload 0), .inr (.int 0), .inl (.putfield 6), .inl (.aload 0), .inr (.int 0), .inl (.putfield 7)] 41 = true := by decide +kernel
theorem rt_X0_becomeNew_41 : mx_kv dm_X0_becomeNew 41 := ⟨by decide +kernel, rfl⟩
theorem bk_X0_becomeLike_0 : mx_blk 0 cX0_becomeLike 0 [.inl (.aload 0), .inl (.aload 1), .inl (.getfield 0), .inl (.putfield 0), .inl (.aload 0), .inl (.aload 1), .inl (.getfield 1), .inl (.putfield 1), .inl (.aload 0), .inl (.aload 1), .inl (.getfield 2), .inl (.putfield 2), .inl (.aload 0), .inl (.aload 1), .inl (.getfield 3), .inl (.putfield 3), .inl (.aload 0), .inl (.aload 1), .inl (.getfield 4), .inl (.putfield 4), .inl (.aload 0), .inl (.aload 1), .inl (.getfield 5), .inl (.putfield 5), .inl (.aload 0), .inl (.aload 1), .inl (.getfield 6), .inl (.putfield 6), .inl (.aload 0), .inl (.aload 1), .inl (.getfield 7), .inl (.putfield 7)] 64 = true := by decide +kernel
theorem rt_X0_becomeLike_64 : mx_kv dm_X0_becomeLike 64 := ⟨by decide +kernel, rfl⟩
theorem bk_X0_isOf_0 : mx_blk 0 cX0_isOf 0 [.inl (.aload 0), .inl (.getfield 0), .inl (.istore 2), .inr (.int 0), .inl (.istore 3)] 7 = true := by decide +kernel
theorem bk_X0_isOf_7 : mx_blk 0 cX0_isOf 7 [.inl (.iload 3)] 8 = true := by decide +kernel
theorem dd_X0_isOf_8 : decode cX0_isOf 8 = .ok (.getstatic 36, 3) := by decide +kernel
theorem dd_X0_isOf_11 : decode cX0_isOf 11 = .ok (.arraylength, 1) := by decide +kernel
theorem br_X0_isOf_12 : mx_brk cX0_isOf 12 (.if_icmp .ge 29) 41 15 = true := by decide +kernel
theorem bk_X0_isOf_15 : mx_blk 0 cX0_isOf 15 [.inl (.iload 2)] 16 = true := by decide +kernel
theorem kc_X0_isOf_16 : mx_kS dm_X0_isOf 16 dm_X7_isKind 1 := ⟨40, by decide +kernel, md_X7_isKind, cs_X0_40⟩
theorem br_X0_isOf_19 : mx_brk cX0_isOf 19 (.ifCond .eq 22) 41 22 = true := by decide +kernel
theorem bk_X0_isOf_22 : mx_blk 0 cX0_isOf 22 [.inl (.iload 2), .inl (.iload 1)] 24 = true := by decide +kernel
theorem br_X0_isOf_24 : mx_brk cX0_isOf 24 (.if_icmp .ne 5) 29 27 = true := by decide +kernel
theorem bk_X0_isOf_27 : mx_blk 0 cX0_isOf 27 [.inr (.int 1)] 28 = true := by decide +kernel
theorem rt_X0_isOf_28 : mx_kr dm_X0_isOf 28 .boolean := ⟨by decide +kernel, rfl⟩
theorem dd_X0_isOf_29 : decode cX0_isOf 29 = .ok (.getstatic 36, 3) := by decide +kernel
theorem bk_X0_isOf_32 : mx_blk 0 cX0_isOf 32 [.inl (.iload 2)] 33 = true := by decide +kernel
theorem dd_X0_isOf_33 : decode cX0_isOf 33 = .ok (.iaload, 1) := by decide +kernel
theorem bk_X0_isOf_34 : mx_blk 0 cX0_isOf 34 [.inl (.istore 2), .inl (.iinc 3 1)] 38 = true := by decide +kernel
theorem gt_X0_isOf_38 : mx_jmp cX0_isOf 38 7 = true := by decide +kernel
theorem bk_X0_isOf_41 : mx_blk 0 cX0_isOf 41 [.inr (.int 0)] 42 = true := by decide +kernel
theorem rt_X0_isOf_42 : mx_kr dm_X0_isOf 42 .boolean := ⟨by decide +kernel, rfl⟩
theorem bk_X0_worth_0 : mx_blk 0 cX0_worth 0 [.inl (.aload 0), .inl (.getfield 0)] 4 = true := by decide +kernel
theorem sw_X0_worth_4 : mx_swk cX0_worth 4 [(1, 40), (2, 56), (3, 47), (4, 64), (5, 74)] 77 = true := by decide +kernel
theorem bk_X0_worth_40 : mx_blk 0 cX0_worth 40 [.inl (.aload 0), .inl (.getfield 1), .inr (.int 2), .inl .iadd] 46 = true := by decide +kernel
theorem rt_X0_worth_46 : mx_kr dm_X0_worth 46 .int := ⟨by decide +kernel, rfl⟩
theorem bk_X0_worth_47 : mx_blk 0 cX0_worth 47 [.inr (.int 2), .inl (.aload 0), .inl (.getfield 1), .inr (.int 2), .inl .iadd, .inl .imul] 55 = true := by decide +kernel
theorem rt_X0_worth_55 : mx_kr dm_X0_worth 55 .int := ⟨by decide +kernel, rfl⟩
theorem bk_X0_worth_56 : mx_blk 0 cX0_worth 56 [.inr (.int 30), .inl (.aload 0), .inl (.getfield 1), .inl .isub] 63 = true := by decide +kernel
theorem rt_X0_worth_63 : mx_kr dm_X0_worth 63 .int := ⟨by decide +kernel, rfl⟩
theorem bk_X0_worth_64 : mx_blk 0 cX0_worth 64 [.inr (.int 30), .inl (.aload 0), .inl (.getfield 1), .inl .isub, .inr (.int 4), .inl .isub] 73 = true := by decide +kernel
theorem rt_X0_worth_73 : mx_kr dm_X0_worth 73 .int := ⟨by decide +kernel, rfl⟩
theorem bk_X0_worth_74 : mx_blk 0 cX0_worth 74 [.inr (.int 11)] 76 = true := by decide +kernel
theorem rt_X0_worth_76 : mx_kr dm_X0_worth 76 .int := ⟨by decide +kernel, rfl⟩
theorem bk_X0_worth_77 : mx_blk 0 cX0_worth 77 [.inl (.aload 0), .inl (.getfield 1)] 81 = true := by decide +kernel
theorem rt_X0_worth_81 : mx_kr dm_X0_worth 81 .int := ⟨by decide +kernel, rfl⟩
theorem bk_X0_birthsByKind_0 : mx_blk 0 cX0_birthsByKind 0 [.inl (.aload 0), .inl (.getfield 0)] 4 = true := by decide +kernel
theorem sw_X0_birthsByKind_4 : mx_swk cX0_birthsByKind 4 [(1, 40), (2, 59), (3, 44), (4, 63), (5, 88)] 93 = true := by decide +kernel
theorem bk_X0_birthsByKind_40 : mx_blk 0 cX0_birthsByKind 40 [.inl (.iload 1), .inr (.int 2), .inl .idiv] 43 = true := by decide +kernel
theorem rt_X0_birthsByKind_43 : mx_kr dm_X0_birthsByKind 43 .int := ⟨by decide +kernel, rfl⟩
theorem bk_X0_birthsByKind_44 : mx_blk 0 cX0_birthsByKind 44 [.inl (.aload 0), .inl (.getfield 4)] 48 = true := by decide +kernel
theorem br_X0_birthsByKind_48 : mx_brk cX0_birthsByKind 48 (.ifCond .ne 7) 55 51 = true := by decide +kernel
theorem bk_X0_birthsByKind_51 : mx_blk 0 cX0_birthsByKind 51 [.inr (.int 0)] 52 = true := by decide +kernel
theorem gt_X0_birthsByKind_52 : mx_jmp cX0_birthsByKind 52 58 = true := by decide +kernel
theorem bk_X0_birthsByKind_55 : mx_blk 0 cX0_birthsByKind 55 [.inl (.iload 1), .inr (.int 2), .inl .idiv] 58 = true := by decide +kernel
theorem rt_X0_birthsByKind_58 : mx_kr dm_X0_birthsByKind 58 .int := ⟨by decide +kernel, rfl⟩
theorem bk_X0_birthsByKind_59 : mx_blk 0 cX0_birthsByKind 59 [.inl (.iload 1), .inr (.int 1), .inl .iadd] 62 = true := by decide +kernel
theorem rt_X0_birthsByKind_62 : mx_kr dm_X0_birthsByKind 62 .int := ⟨by decide +kernel, rfl⟩
theorem bk_X0_birthsByKind_63 : mx_blk 0 cX0_birthsByKind 63 [.inl (.aload 0), .inl (.getfield 4), .inl (.aload 0), .inl (.getfield 3), .inr (.int 1), .inl .isub] 73 = true := by decide +kernel
theorem br_X0_birthsByKind_73 : mx_brk cX0_birthsByKind 73 (.if_icmp .ne 11) 84 76 = true := by decide +kernel
theorem bk_X0_birthsByKind_76 : mx_blk 0 cX0_birthsByKind 76 [.inr (.int 2), .inl (.iload 1), .inr (.int 1), .inl .iadd, .inl .imul] 81 = true := by decide +kernel
theorem gt_X0_birthsByKind_81 : mx_jmp cX0_birthsByKind 81 87 = true := by decide +kernel
theorem bk_X0_birthsByKind_84 : mx_blk 0 cX0_birthsByKind 84 [.inl (.iload 1), .inr (.int 1), .inl .iadd] 87 = true := by decide +kernel
theorem rt_X0_birthsByKind_87 : mx_kr dm_X0_birthsByKind 87 .int := ⟨by decide +kernel, rfl⟩
theorem bk_X0_birthsByKind_88 : mx_blk 0 cX0_birthsByKind 88 [.inl (.aload 0), .inl (.getfield 1)] 92 = true := by decide +kernel
theorem rt_X0_birthsByKind_92 : mx_kr dm_X0_birthsByKind 92 .int := ⟨by decide +kernel, rfl⟩
theorem bk_X0_birthsByKind_93 : mx_blk 0 cX0_birthsByKind 93 [.inl (.iload 1)] 94 = true := by decide +kernel
theorem rt_X0_birthsByKind_94 : mx_kr dm_X0_birthsByKind 94 .int := ⟨by decide +kernel, rfl⟩
theorem bk_X0_hideOne_0 : mx_blk 0 cX0_hideOne 0 [.inl (.aload 0), .inl (.getfield 5)] 4 = true := by decide +kernel
theorem br_X0_hideOne_4 : mx_brk cX0_hideOne 4 (.ifCond .le 23) 27 7 = true := by decide +kernel
theorem bk_X0_hideOne_7 : mx_blk 0 cX0_hideOne 7 [.inl (.aload 0), .inl .dup, .inl (.getfield 5), .inr (.int 1), .inl .isub, .inl (.putfield 5), .inl (.aload 0), .inl .dup, .inl (.getfield 6), .inr (.int 1), .inl .iadd, .inl (.putfield 6)] 27 = true := by decide +kernel
theorem rt_X0_hideOne_27 : mx_kv dm_X0_hideOne 27 := ⟨by decide +kernel, rfl⟩
theorem bk_X0_beginWeek_0 : mx_blk 0 cX0_beginWeek 0 [.inl (.aload 0), .inl .dup, .inl (.getfield 2), .inr (.int 1), .inl .iadd, .inl (.putfield 2), .inl (.aload 0), .inl (.aload 0), .inl (.getfield 5), .inr (.int 2), .inr (.int 60)] 18 = true := by decide +kernel
theorem kc_X0_beginWeek_18 : mx_kS dm_X0_beginWeek 18 dm_X7_held 3 := ⟨44, by decide +kernel, md_X7_held, cs_X0_44⟩
theorem bk_X0_beginWeek_21 : mx_blk 0 cX0_beginWeek 21 [.inl (.putfield 3), .inl (.aload 0), .inl (.aload 0), .inl (.getfield 6), .inl (.putfield 5), .inl (.aload 0), .inr (.int 0), .inl (.putfield 6), .inl (.aload 0), .inr (.int 0), .inl (.putfield 4)] 42 = true := by decide +kernel
theorem rt_X0_beginWeek_42 : mx_kv dm_X0_beginWeek 42 := ⟨by decide +kernel, rfl⟩
theorem bk_X1_init_0 : mx_blk 1 cX1_init 0 [.inl (.aload 0)] 1 = true := by decide +kernel
theorem kc_X1_init_1 : mx_ko dm_X1_init 1 := ⟨3, by decide +kernel, mx_gw (i := 90) (by decide +kernel)⟩
theorem bk_X1_init_4 : mx_blk 1 cX1_init 4 [.inl (.aload 0), .inr (.int 0), .inl (.putfield 64), .inl (.aload 0), .inr (.int 0), .inl (.putfield 65), .inl (.aload 0), .inr (.int 0), .inl (.putfield 66), .inl (.aload 0), .inr (.int 96)] 22 = true := by decide +kernel
theorem dd_X1_init_22 : decode cX1_init 22 = .ok (.newarray .int, 2) := by decide +kernel
theorem bk_X1_init_24 : mx_blk 1 cX1_init 24 [.inl (.putfield 67)] 27 = true := by decide +kernel
theorem rt_X1_init_27 : mx_kv dm_X1_init 27 := ⟨by decide +kernel, rfl⟩
theorem bk_X1_becomeNew_0 : mx_blk 1 cX1_becomeNew 0 [.inl (.aload 0), .inl (.iload 1), .inl (.putfield 64), .inl (.aload 0), .inr (.int 0), .inl (.putfield 65), .inl (.aload 0), .inr (.int 0), .inl (.putfield 66)] 15 = true := by decide +kernel
theorem rt_X1_becomeNew_15 : mx_kv dm_X1_becomeNew 15 := ⟨by decide +kernel, rfl⟩
theorem bk_X1_becomeLike_0 : mx_blk 1 cX1_becomeLike 0 [.inl (.aload 0), .inl (.aload 1), .inl (.getfield 64), .inl (.putfield 64), .inl (.aload 0), .inl (.aload 1), .inl (.getfield 65), .inl (.putfield 65), .inl (.aload 0), .inl (.aload 1), .inl (.getfield 66), .inl (.putfield 66), .inl (.aload 1), .inl (.getfield 67), .inr (.int 0), .inl (.aload 0), .inl (.getfield 67), .inr (.int 0), .inl (.aload 0), .inl (.getfield 67), .inl .arraylength] 39 = true := by decide +kernel
theorem kc_X1_becomeLike_39 : mx_km dm_X1_becomeLike 39 arraycopyName := ⟨25, by decide +kernel, mx_gw (i := 786) (by decide +kernel)⟩
theorem rt_X1_becomeLike_42 : mx_kv dm_X1_becomeLike 42 := ⟨by decide +kernel, rfl⟩
theorem bk_X1_addAtom_0 : mx_blk 1 cX1_addAtom 0 [.inl (.aload 0), .inl .dup, .inl (.getfield 65), .inr (.int 1), .inl .iadd, .inl (.putfield 65), .inl (.aload 0), .inl (.iload 1)] 12 = true := by decide +kernel
theorem kc_X1_addAtom_12 : mx_kV dm_X1_addAtom 12 dm_X1_addStep 1 1 := ⟨31, by decide +kernel, md_X1_addStep, cv_X1_31, by decide, by decide +kernel⟩
theorem rt_X1_addAtom_15 : mx_kv dm_X1_addAtom 15 := ⟨by decide +kernel, rfl⟩
theorem bk_X1_addSign_0 : mx_blk 1 cX1_addSign 0 [.inl (.aload 0), .inl (.iload 1), .inl .ineg] 3 = true := by decide +kernel
theorem kc_X1_addSign_3 : mx_kV dm_X1_addSign 3 dm_X1_addStep 1 1 := ⟨31, by decide +kernel, md_X1_addStep, cv_X1_31, by decide, by decide +kernel⟩
theorem rt_X1_addSign_6 : mx_kv dm_X1_addSign 6 := ⟨by decide +kernel, rfl⟩
theorem bk_X1_addStep_0 : mx_blk 1 cX1_addStep 0 [.inl (.aload 0), .inl (.getfield 66), .inl (.aload 0), .inl (.getfield 67), .inl .arraylength] 9 = true := by decide +kernel
theorem br_X1_addStep_9 : mx_brk cX1_addStep 9 (.if_icmp .ge 23) 32 12 = true := by decide +kernel
theorem bk_X1_addStep_12 : mx_blk 1 cX1_addStep 12 [.inl (.aload 0), .inl (.getfield 67), .inl (.aload 0), .inl (.getfield 66), .inl (.iload 1), .inl .iastore, .inl (.aload 0), .inl .dup, .inl (.getfield 66), .inr (.int 1), .inl .iadd, .inl (.putfield 66)] 32 = true := by decide +kernel
theorem rt_X1_addStep_32 : mx_kv dm_X1_addStep 32 := ⟨by decide +kernel, rfl⟩
theorem bk_X2_init_0 : mx_blk 2 cX2_init 0 [.inl (.aload 0)] 1 = true := by decide +kernel
theorem kc_X2_init_1 : mx_ko dm_X2_init 1 := ⟨3, by decide +kernel, mx_gw (i := 84) (by decide +kernel)⟩
theorem bk_X2_init_4 : mx_blk 2 cX2_init 4 [.inl (.aload 0), .inr (.int 0)] 6 = true := by decide +kernel
theorem dd_X2_init_6 : decode cX2_init 6 = .ok (.newarray .byte, 2) := by decide +kernel
theorem bk_X2_init_8 : mx_blk 2 cX2_init 8 [.inl (.putfield 128), .inl (.aload 0), .inr (.int 0), .inl (.putfield 129), .inl (.aload 0)] 17 = true := by decide +kernel
theorem kc_X2_init_17 : mx_kn dm_X2_init 17 1 := ⟨19, by decide +kernel, by decide +kernel, by decide⟩
theorem bk_X2_init_20 : mx_blk 2 cX2_init 20 [.inl .dup] 21 = true := by decide +kernel
theorem kc_X2_init_21 : mx_kI dm_X2_init 21 dm_X1_init 0 := ⟨21, by decide +kernel, md_X1_init, ci_X2_21⟩
theorem bk_X2_init_24 : mx_blk 2 cX2_init 24 [.inl (.putfield 130), .inl (.aload 0), .inr (.int (-1)), .inl (.putfield 131), .inl (.aload 0), .inr (.int 0), .inl (.putfield 132), .inl (.aload 0), .inr (.int 0), .inl (.putfield 133), .inl (.aload 0), .inr (.int 0), .inl (.putfield 134)] 47 = true := by decide +kernel
theorem rt_X2_init_47 : mx_kv dm_X2_init 47 := ⟨by decide +kernel, rfl⟩
theorem bk_X2_understands_0 : mx_blk 2 cX2_understands 0 [.inl (.aload 0), .inl (.aload 1), .inl (.putfield 128), .inl (.aload 0), .inl (.iload 2), .inl (.aload 1), .inl .arraylength] 9 = true := by decide +kernel
theorem kc_X2_understands_9 : mx_km dm_X2_understands 9 Lib.Math.min.name := ⟨39, by decide +kernel, mx_gw (i := 602) (by decide +kernel)⟩
theorem bk_X2_understands_12 : mx_blk 2 cX2_understands 12 [.inl (.putfield 129), .inl (.aload 0), .inl (.aload 3), .inl (.putfield 130), .inl (.aload 0), .inr (.int (-1)), .inl (.putfield 131), .inl (.aload 0), .inr (.int 0), .inl (.putfield 133), .inl (.aload 0)] 31 = true := by decide +kernel
theorem kc_X2_understands_31 : mx_kV dm_X2_understands 31 dm_X2_goOn 2 0 := ⟨45, by decide +kernel, md_X2_goOn, cv_X2_45, by decide, by decide +kernel⟩
theorem bk_X2_understands_34 : mx_blk 2 cX2_understands 34 [.inl (.aload 0)] 35 = true := by decide +kernel
theorem kc_X2_understands_35 : mx_kV dm_X2_understands 35 dm_X2_keyHere 2 0 := ⟨48, by decide +kernel, md_X2_keyHere, cv_X2_48, by decide, by decide +kernel⟩
theorem bk_X2_understands_38 : mx_blk 2 cX2_understands 38 [.inl (.istore 4), .inl (.iload 4)] 42 = true := by decide +kernel
theorem br_X2_understands_42 : mx_brk cX2_understands 42 (.ifCond .ge 5) 47 45 = true := by decide +kernel
theorem bk_X2_understands_45 : mx_blk 2 cX2_understands 45 [.inr (.int 0)] 46 = true := by decide +kernel
theorem rt_X2_understands_46 : mx_kr dm_X2_understands 46 .boolean := ⟨by decide +kernel, rfl⟩
theorem bk_X2_understands_47 : mx_blk 2 cX2_understands 47 [.inl (.aload 0), .inl (.getfield 130), .inl (.iload 4)] 53 = true := by decide +kernel
theorem kc_X2_understands_53 : mx_kV dm_X2_understands 53 dm_X1_becomeNew 1 1 := ⟨52, by decide +kernel, md_X1_becomeNew, cv_X2_52, by decide, by decide +kernel⟩
theorem bk_X2_understands_56 : mx_blk 2 cX2_understands 56 [.inl (.aload 0)] 57 = true := by decide +kernel
theorem kc_X2_understands_57 : mx_kV dm_X2_understands 57 dm_X2_goOn 2 0 := ⟨45, by decide +kernel, md_X2_goOn, cv_X2_45, by decide, by decide +kernel⟩
theorem bk_X2_understands_60 : mx_blk 2 cX2_understands 60 [.inl (.aload 0), .inr (.int 0), .inr (.int 0), .inr (.int 0)] 64 = true := by decide +kernel
theorem kc_X2_understands_64 : mx_kV dm_X2_understands 64 dm_X2_takesLevel 2 3 := ⟨56, by decide +kernel, md_X2_takesLevel, cv_X2_56, by decide, by decide +kernel⟩
theorem br_X2_understands_67 : mx_brk cX2_understands 67 (.ifCond .eq 15) 82 70 = true := by decide +kernel
theorem bk_X2_understands_70 : mx_blk 2 cX2_understands 70 [.inl (.aload 0), .inl (.getfield 131), .inr (.int (-1))] 75 = true := by decide +kernel
theorem br_X2_understands_75 : mx_brk cX2_understands 75 (.if_icmp .ne 7) 82 78 = true := by decide +kernel
theorem bk_X2_understands_78 : mx_blk 2 cX2_understands 78 [.inr (.int 1)] 79 = true := by decide +kernel
theorem gt_X2_understands_79 : mx_jmp cX2_understands 79 83 = true := by decide +kernel
theorem bk_X2_understands_82 : mx_blk 2 cX2_understands 82 [.inr (.int 0)] 83 = true := by decide +kernel
theorem rt_X2_understands_83 : mx_kr dm_X2_understands 83 .boolean := ⟨by decide +kernel, rfl⟩
theorem bk_X2_takesLevel_0 : mx_blk 2 cX2_takesLevel 0 [.inl (.iload 1), .inr (.int 5)] 2 = true := by decide +kernel
theorem br_X2_takesLevel_2 : mx_brk cX2_takesLevel 2 (.if_icmp .lt 10) 12 5 = true := by decide +kernel
theorem bk_X2_takesLevel_5 : mx_blk 2 cX2_takesLevel 5 [.inl (.aload 0), .inl (.iload 2), .inl (.iload 3)] 8 = true := by decide +kernel
theorem kc_X2_takesLevel_8 : mx_kV dm_X2_takesLevel 8 dm_X2_takesPiece 2 2 := ⟨60, by decide +kernel, md_X2_takesPiece, cv_X2_60, by decide, by decide +kernel⟩
theorem rt_X2_takesLevel_11 : mx_kr dm_X2_takesLevel 11 .boolean := ⟨by decide +kernel, rfl⟩
theorem bk_X2_takesLevel_12 : mx_blk 2 cX2_takesLevel 12 [.inl (.aload 0), .inl (.iload 1), .inr (.int 1), .inl .iadd, .inl (.iload 2), .inl (.iload 3)] 18 = true := by decide +kernel
theorem kc_X2_takesLevel_18 : mx_kV dm_X2_takesLevel 18 dm_X2_takesLevel 2 3 := ⟨56, by decide +kernel, md_X2_takesLevel, cv_X2_56, by decide, by decide +kernel⟩
theorem br_X2_takesLevel_21 : mx_brk cX2_takesLevel 21 (.ifCond .ne 5) 26 24 = true := by decide +kernel
theorem bk_X2_takesLevel_24 : mx_blk 2 cX2_takesLevel 24 [.inr (.int 0)] 25 = true := by decide +kernel
theorem rt_X2_takesLevel_25 : mx_kr dm_X2_takesLevel 25 .boolean := ⟨by decide +kernel, rfl⟩
theorem bk_X2_takesLevel_26 : mx_blk 2 cX2_takesLevel 26 [.inr (.int 0), .inl (.istore 4)] 29 = true := by decide +kernel
theorem bk_X2_takesLevel_29 : mx_blk 2 cX2_takesLevel 29 [.inl (.iload 4), .inr (.int 96)] 33 = true := by decide +kernel
theorem br_X2_takesLevel_33 : mx_brk cX2_takesLevel 33 (.if_icmp .ge 65) 98 36 = true := by decide +kernel
theorem bk_X2_takesLevel_36 : mx_blk 2 cX2_takesLevel 36 [.inl (.aload 0), .inl (.getfield 131)] 40 = true := by decide +kernel
theorem kc_X2_takesLevel_40 : mx_kS dm_X2_takesLevel 40 dm_X2_levelOf 1 := ⟨64, by decide +kernel, md_X2_levelOf, cs_X2_64⟩
theorem bk_X2_takesLevel_43 : mx_blk 2 cX2_takesLevel 43 [.inl (.iload 1)] 44 = true := by decide +kernel
theorem br_X2_takesLevel_44 : mx_brk cX2_takesLevel 44 (.if_icmp .ne 54) 98 47 = true := by decide +kernel
theorem bk_X2_takesLevel_47 : mx_blk 2 cX2_takesLevel 47 [.inl (.iload 1), .inr (.int 2)] 49 = true := by decide +kernel
theorem br_X2_takesLevel_49 : mx_brk cX2_takesLevel 49 (.if_icmp .ne 10) 59 52 = true := by decide +kernel
theorem bk_X2_takesLevel_52 : mx_blk 2 cX2_takesLevel 52 [.inl (.iload 4)] 54 = true := by decide +kernel
theorem br_X2_takesLevel_54 : mx_brk cX2_takesLevel 54 (.ifCond .le 5) 59 57 = true := by decide +kernel
theorem bk_X2_takesLevel_57 : mx_blk 2 cX2_takesLevel 57 [.inr (.int 1)] 58 = true := by decide +kernel
theorem rt_X2_takesLevel_58 : mx_kr dm_X2_takesLevel 58 .boolean := ⟨by decide +kernel, rfl⟩
theorem bk_X2_takesLevel_59 : mx_blk 2 cX2_takesLevel 59 [.inl (.aload 0), .inl (.getfield 131), .inl (.istore 5), .inl (.aload 0)] 66 = true := by decide +kernel
theorem kc_X2_takesLevel_66 : mx_kV dm_X2_takesLevel 66 dm_X2_goOn 2 0 := ⟨45, by decide +kernel, md_X2_goOn, cv_X2_45, by decide, by decide +kernel⟩
theorem bk_X2_takesLevel_69 : mx_blk 2 cX2_takesLevel 69 [.inl (.aload 0), .inl (.iload 1), .inr (.int 1), .inl .iadd, .inl (.iload 2), .inl (.iload 3)] 75 = true := by decide +kernel
theorem kc_X2_takesLevel_75 : mx_kV dm_X2_takesLevel 75 dm_X2_takesLevel 2 3 := ⟨56, by decide +kernel, md_X2_takesLevel, cv_X2_56, by decide, by decide +kernel⟩
theorem br_X2_takesLevel_78 : mx_brk cX2_takesLevel 78 (.ifCond .ne 5) 83 81 = true := by decide +kernel
theorem bk_X2_takesLevel_81 : mx_blk 2 cX2_takesLevel 81 [.inr (.int 0)] 82 = true := by decide +kernel
theorem rt_X2_takesLevel_82 : mx_kr dm_X2_takesLevel 82 .boolean := ⟨by decide +kernel, rfl⟩
theorem bk_X2_takesLevel_83 : mx_blk 2 cX2_takesLevel 83 [.inl (.aload 0), .inl (.getfield 130), .inl (.iload 5)] 89 = true := by decide +kernel
theorem kc_X2_takesLevel_89 : mx_kV dm_X2_takesLevel 89 dm_X1_addSign 1 1 := ⟨68, by decide +kernel, md_X1_addSign, cv_X2_68, by decide, by decide +kernel⟩
theorem bk_X2_takesLevel_92 : mx_blk 2 cX2_takesLevel 92 [.inl (.iinc 4 1)] 95 = true := by decide +kernel
theorem gt_X2_takesLevel_95 : mx_jmp cX2_takesLevel 95 29 = true := by decide +kernel
theorem bk_X2_takesLevel_98 : mx_blk 2 cX2_takesLevel 98 [.inr (.int 1)] 99 = true := by decide +kernel
theorem rt_X2_takesLevel_99 : mx_kr dm_X2_takesLevel 99 .boolean := ⟨by decide +kernel, rfl⟩
theorem bk_X2_takesPiece_0 : mx_blk 2 cX2_takesPiece 0 [.inl (.aload 0), .inl (.getfield 131)] 4 = true := by decide +kernel
theorem sw_X2_takesPiece_4 : mx_swk cX2_takesPiece 4 [(-3, 48), (-2, 53), (33, 58), (40, 81)] 104 = true := by decide +kernel
theorem bk_X2_takesPiece_48 : mx_blk 2 cX2_takesPiece 48 [.inl (.aload 0)] 49 = true := by decide +kernel
theorem kc_X2_takesPiece_49 : mx_kV dm_X2_takesPiece 49 dm_X2_takesNumber 2 0 := ⟨71, by decide +kernel, md_X2_takesNumber, cv_X2_71, by decide, by decide +kernel⟩
theorem rt_X2_takesPiece_52 : mx_kr dm_X2_takesPiece 52 .boolean := ⟨by decide +kernel, rfl⟩
theorem bk_X2_takesPiece_53 : mx_blk 2 cX2_takesPiece 53 [.inl (.aload 0)] 54 = true := by decide +kernel
theorem kc_X2_takesPiece_54 : mx_kV dm_X2_takesPiece 54 dm_X2_takesName 2 0 := ⟨75, by decide +kernel, md_X2_takesName, cv_X2_75, by decide, by decide +kernel⟩
theorem rt_X2_takesPiece_57 : mx_kr dm_X2_takesPiece 57 .boolean := ⟨by decide +kernel, rfl⟩
theorem bk_X2_takesPiece_58 : mx_blk 2 cX2_takesPiece 58 [.inl (.iload 2), .inr (.int 8)] 61 = true := by decide +kernel
theorem br_X2_takesPiece_61 : mx_brk cX2_takesPiece 61 (.if_icmp .ge 18) 79 64 = true := by decide +kernel
theorem bk_X2_takesPiece_64 : mx_blk 2 cX2_takesPiece 64 [.inl (.aload 0), .inl (.iload 1), .inl (.iload 2), .inr (.int 1), .inl .iadd] 69 = true := by decide +kernel
theorem kc_X2_takesPiece_69 : mx_kV dm_X2_takesPiece 69 dm_X2_takesNot 2 2 := ⟨78, by decide +kernel, md_X2_takesNot, cv_X2_78, by decide, by decide +kernel⟩
theorem br_X2_takesPiece_72 : mx_brk cX2_takesPiece 72 (.ifCond .eq 7) 79 75 = true := by decide +kernel
theorem bk_X2_takesPiece_75 : mx_blk 2 cX2_takesPiece 75 [.inr (.int 1)] 76 = true := by decide +kernel
theorem gt_X2_takesPiece_76 : mx_jmp cX2_takesPiece 76 80 = true := by decide +kernel
theorem bk_X2_takesPiece_79 : mx_blk 2 cX2_takesPiece 79 [.inr (.int 0)] 80 = true := by decide +kernel
theorem rt_X2_takesPiece_80 : mx_kr dm_X2_takesPiece 80 .boolean := ⟨by decide +kernel, rfl⟩
theorem bk_X2_takesPiece_81 : mx_blk 2 cX2_takesPiece 81 [.inl (.iload 1), .inr (.int 8)] 84 = true := by decide +kernel
theorem br_X2_takesPiece_84 : mx_brk cX2_takesPiece 84 (.if_icmp .ge 18) 102 87 = true := by decide +kernel
theorem bk_X2_takesPiece_87 : mx_blk 2 cX2_takesPiece 87 [.inl (.aload 0), .inl (.iload 1), .inr (.int 1), .inl .iadd, .inl (.iload 2)] 92 = true := by decide +kernel
theorem kc_X2_takesPiece_92 : mx_kV dm_X2_takesPiece 92 dm_X2_takesInner 2 2 := ⟨81, by decide +kernel, md_X2_takesInner, cv_X2_81, by decide, by decide +kernel⟩
theorem br_X2_takesPiece_95 : mx_brk cX2_takesPiece 95 (.ifCond .eq 7) 102 98 = true := by decide +kernel
theorem bk_X2_takesPiece_98 : mx_blk 2 cX2_takesPiece 98 [.inr (.int 1)] 99 = true := by decide +kernel
theorem gt_X2_takesPiece_99 : mx_jmp cX2_takesPiece 99 103 = true := by decide +kernel
theorem bk_X2_takesPiece_102 : mx_blk 2 cX2_takesPiece 102 [.inr (.int 0)] 103 = true := by decide +kernel
theorem rt_X2_takesPiece_103 : mx_kr dm_X2_takesPiece 103 .boolean := ⟨by decide +kernel, rfl⟩
theorem bk_X2_takesPiece_104 : mx_blk 2 cX2_takesPiece 104 [.inr (.int 0)] 105 = true := by decide +kernel
theorem rt_X2_takesPiece_105 : mx_kr dm_X2_takesPiece 105 .boolean := ⟨by decide +kernel, rfl⟩
theorem bk_X2_takesNumber_0 : mx_blk 2 cX2_takesNumber 0 [.inl (.aload 0), .inl (.getfield 134)] 4 = true := by decide +kernel
theorem br_X2_takesNumber_4 : mx_brk cX2_takesNumber 4 (.ifCond .ne 16) 20 7 = true := by decide +kernel
theorem bk_X2_takesNumber_7 : mx_blk 2 cX2_takesNumber 7 [.inl (.aload 0), .inl (.getfield 133), .inl (.aload 0), .inl (.getfield 132), .inl .isub, .inr (.int 4)] 17 = true := by decide +kernel
theorem br_X2_takesNumber_17 : mx_brk cX2_takesNumber 17 (.if_icmp .le 5) 22 20 = true := by decide +kernel
theorem bk_X2_takesNumber_20 : mx_blk 2 cX2_takesNumber 20 [.inr (.int 0)] 21 = true := by decide +kernel
theorem rt_X2_takesNumber_21 : mx_kr dm_X2_takesNumber 21 .boolean := ⟨by decide +kernel, rfl⟩
theorem bk_X2_takesNumber_22 : mx_blk 2 cX2_takesNumber 22 [.inr (.int 0), .inl (.istore 1), .inl (.aload 0), .inl (.getfield 132), .inl (.istore 2)] 29 = true := by decide +kernel
theorem bk_X2_takesNumber_29 : mx_blk 2 cX2_takesNumber 29 [.inl (.iload 2), .inl (.aload 0), .inl (.getfield 133)] 34 = true := by decide +kernel
theorem br_X2_takesNumber_34 : mx_brk cX2_takesNumber 34 (.if_icmp .ge 23) 57 37 = true := by decide +kernel
theorem bk_X2_takesNumber_37 : mx_blk 2 cX2_takesNumber 37 [.inl (.iload 1), .inr (.int 10), .inl .imul, .inl (.aload 0), .inl (.iload 2)] 43 = true := by decide +kernel
theorem kc_X2_takesNumber_43 : mx_kV dm_X2_takesNumber 43 dm_X2_byteAt 2 1 := ⟨84, by decide +kernel, md_X2_byteAt, cv_X2_84, by decide, by decide +kernel⟩
theorem bk_X2_takesNumber_46 : mx_blk 2 cX2_takesNumber 46 [.inl .iadd, .inr (.int 48), .inl .isub, .inl (.istore 1), .inl (.iinc 2 1)] 54 = true := by decide +kernel
theorem gt_X2_takesNumber_54 : mx_jmp cX2_takesNumber 54 29 = true := by decide +kernel
theorem bk_X2_takesNumber_57 : mx_blk 2 cX2_takesNumber 57 [.inl (.aload 0), .inl (.getfield 130), .inl (.iload 1)] 62 = true := by decide +kernel
theorem kc_X2_takesNumber_62 : mx_kV dm_X2_takesNumber 62 dm_X1_addAtom 1 1 := ⟨87, by decide +kernel, md_X1_addAtom, cv_X2_87, by decide, by decide +kernel⟩
theorem bk_X2_takesNumber_65 : mx_blk 2 cX2_takesNumber 65 [.inl (.aload 0)] 66 = true := by decide +kernel
theorem kc_X2_takesNumber_66 : mx_kV dm_X2_takesNumber 66 dm_X2_goOn 2 0 := ⟨45, by decide +kernel, md_X2_goOn, cv_X2_45, by decide, by decide +kernel⟩
theorem bk_X2_takesNumber_69 : mx_blk 2 cX2_takesNumber 69 [.inr (.int 1)] 70 = true := by decide +kernel
theorem rt_X2_takesNumber_70 : mx_kr dm_X2_takesNumber 70 .boolean := ⟨by decide +kernel, rfl⟩
theorem bk_X2_takesName_0 : mx_blk 2 cX2_takesName 0 [.inl (.aload 0), .inl (.getfield 134)] 4 = true := by decide +kernel
theorem br_X2_takesName_4 : mx_brk cX2_takesName 4 (.ifCond .ne 16) 20 7 = true := by decide +kernel
theorem bk_X2_takesName_7 : mx_blk 2 cX2_takesName 7 [.inl (.aload 0), .inl (.getfield 133), .inl (.aload 0), .inl (.getfield 132), .inl .isub, .inr (.int 1)] 17 = true := by decide +kernel
theorem br_X2_takesName_17 : mx_brk cX2_takesName 17 (.if_icmp .eq 5) 22 20 = true := by decide +kernel
theorem bk_X2_takesName_20 : mx_blk 2 cX2_takesName 20 [.inr (.int 0)] 21 = true := by decide +kernel
theorem rt_X2_takesName_21 : mx_kr dm_X2_takesName 21 .boolean := ⟨by decide +kernel, rfl⟩
theorem bk_X2_takesName_22 : mx_blk 2 cX2_takesName 22 [.inl (.aload 0), .inl (.getfield 130), .inl (.getfield 64)] 29 = true := by decide +kernel
theorem kc_X2_takesName_29 : mx_kS dm_X2_takesName 29 dm_X2_namesOf 1 := ⟨93, by decide +kernel, md_X2_namesOf, cs_X2_93⟩
theorem bk_X2_takesName_32 : mx_blk 2 cX2_takesName 32 [.inl (.aload 0), .inl (.aload 0), .inl (.getfield 132)] 37 = true := by decide +kernel
theorem kc_X2_takesName_37 : mx_kV dm_X2_takesName 37 dm_X2_byteAt 2 1 := ⟨84, by decide +kernel, md_X2_byteAt, cv_X2_84, by decide, by decide +kernel⟩
theorem bk_X2_takesName_40 : mx_blk 2 cX2_takesName 40 [.inl .i2c] 41 = true := by decide +kernel
theorem kc_X2_takesName_41 : mx_kT dm_X2_takesName 41 dm_J0_indexOf_0f7a4 1 := ⟨97, by decide +kernel, md_J0_indexOf_0f7a4, cv_X2_97, by decide +kernel⟩
theorem bk_X2_takesName_44 : mx_blk 2 cX2_takesName 44 [.inl (.istore 1), .inl (.iload 1)] 46 = true := by decide +kernel
theorem br_X2_takesName_46 : mx_brk cX2_takesName 46 (.ifCond .ge 5) 51 49 = true := by decide +kernel
theorem bk_X2_takesName_49 : mx_blk 2 cX2_takesName 49 [.inr (.int 0)] 50 = true := by decide +kernel
theorem rt_X2_takesName_50 : mx_kr dm_X2_takesName 50 .boolean := ⟨by decide +kernel, rfl⟩
theorem bk_X2_takesName_51 : mx_blk 2 cX2_takesName 51 [.inl (.aload 0), .inl (.getfield 130), .inr (.int (-1)), .inl (.iload 1), .inl .isub] 58 = true := by decide +kernel
theorem kc_X2_takesName_58 : mx_kV dm_X2_takesName 58 dm_X1_addAtom 1 1 := ⟨87, by decide +kernel, md_X1_addAtom, cv_X2_87, by decide, by decide +kernel⟩
theorem bk_X2_takesName_61 : mx_blk 2 cX2_takesName 61 [.inl (.aload 0)] 62 = true := by decide +kernel
theorem kc_X2_takesName_62 : mx_kV dm_X2_takesName 62 dm_X2_goOn 2 0 := ⟨45, by decide +kernel, md_X2_goOn, cv_X2_45, by decide, by decide +kernel⟩
theorem bk_X2_takesName_65 : mx_blk 2 cX2_takesName 65 [.inr (.int 1)] 66 = true := by decide +kernel
theorem rt_X2_takesName_66 : mx_kr dm_X2_takesName 66 .boolean := ⟨by decide +kernel, rfl⟩
theorem bk_X2_takesNot_0 : mx_blk 2 cX2_takesNot 0 [.inl (.aload 0)] 1 = true := by decide +kernel
theorem kc_X2_takesNot_1 : mx_kV dm_X2_takesNot 1 dm_X2_goOn 2 0 := ⟨45, by decide +kernel, md_X2_goOn, cv_X2_45, by decide, by decide +kernel⟩
theorem bk_X2_takesNot_4 : mx_blk 2 cX2_takesNot 4 [.inl (.aload 0), .inl (.iload 1), .inl (.iload 2)] 7 = true := by decide +kernel
theorem kc_X2_takesNot_7 : mx_kV dm_X2_takesNot 7 dm_X2_takesPiece 2 2 := ⟨60, by decide +kernel, md_X2_takesPiece, cv_X2_60, by decide, by decide +kernel⟩
theorem br_X2_takesNot_10 : mx_brk cX2_takesNot 10 (.ifCond .ne 5) 15 13 = true := by decide +kernel
theorem bk_X2_takesNot_13 : mx_blk 2 cX2_takesNot 13 [.inr (.int 0)] 14 = true := by decide +kernel
theorem rt_X2_takesNot_14 : mx_kr dm_X2_takesNot 14 .boolean := ⟨by decide +kernel, rfl⟩
theorem bk_X2_takesNot_15 : mx_blk 2 cX2_takesNot 15 [.inl (.aload 0), .inl (.getfield 130), .inr (.int 33)] 21 = true := by decide +kernel
theorem kc_X2_takesNot_21 : mx_kV dm_X2_takesNot 21 dm_X1_addSign 1 1 := ⟨68, by decide +kernel, md_X1_addSign, cv_X2_68, by decide, by decide +kernel⟩
theorem bk_X2_takesNot_24 : mx_blk 2 cX2_takesNot 24 [.inr (.int 1)] 25 = true := by decide +kernel
theorem rt_X2_takesNot_25 : mx_kr dm_X2_takesNot 25 .boolean := ⟨by decide +kernel, rfl⟩
theorem bk_X2_takesInner_0 : mx_blk 2 cX2_takesInner 0 [.inl (.aload 0)] 1 = true := by decide +kernel
theorem kc_X2_takesInner_1 : mx_kV dm_X2_takesInner 1 dm_X2_goOn 2 0 := ⟨45, by decide +kernel, md_X2_goOn, cv_X2_45, by decide, by decide +kernel⟩
theorem bk_X2_takesInner_4 : mx_blk 2 cX2_takesInner 4 [.inl (.aload 0), .inr (.int 0), .inl (.iload 1), .inl (.iload 2)] 8 = true := by decide +kernel
theorem kc_X2_takesInner_8 : mx_kV dm_X2_takesInner 8 dm_X2_takesLevel 2 3 := ⟨56, by decide +kernel, md_X2_takesLevel, cv_X2_56, by decide, by decide +kernel⟩
theorem br_X2_takesInner_11 : mx_brk cX2_takesInner 11 (.ifCond .eq 12) 23 14 = true := by decide +kernel
theorem bk_X2_takesInner_14 : mx_blk 2 cX2_takesInner 14 [.inl (.aload 0), .inl (.getfield 131), .inr (.int 41)] 20 = true := by decide +kernel
theorem br_X2_takesInner_20 : mx_brk cX2_takesInner 20 (.if_icmp .eq 5) 25 23 = true := by decide +kernel
theorem bk_X2_takesInner_23 : mx_blk 2 cX2_takesInner 23 [.inr (.int 0)] 24 = true := by decide +kernel
theorem rt_X2_takesInner_24 : mx_kr dm_X2_takesInner 24 .boolean := ⟨by decide +kernel, rfl⟩
theorem bk_X2_takesInner_25 : mx_blk 2 cX2_takesInner 25 [.inl (.aload 0)] 26 = true := by decide +kernel
theorem kc_X2_takesInner_26 : mx_kV dm_X2_takesInner 26 dm_X2_goOn 2 0 := ⟨45, by decide +kernel, md_X2_goOn, cv_X2_45, by decide, by decide +kernel⟩
theorem bk_X2_takesInner_29 : mx_blk 2 cX2_takesInner 29 [.inr (.int 1)] 30 = true := by decide +kernel
theorem rt_X2_takesInner_30 : mx_kr dm_X2_takesInner 30 .boolean := ⟨by decide +kernel, rfl⟩
theorem bk_X2_levelOf_0 : mx_blk 2 cX2_levelOf 0 [.inl (.iload 0)] 1 = true := by decide +kernel
theorem sw_X2_levelOf_1 : mx_swk cX2_levelOf 1 [(38, 86), (42, 92), (43, 90), (45, 90), (47, 92), (60, 88), (61, 88), (62, 88), (124, 84)] 94 = true := by decide +kernel
theorem bk_X2_levelOf_84 : mx_blk 2 cX2_levelOf 84 [.inr (.int 0)] 85 = true := by decide +kernel
theorem rt_X2_levelOf_85 : mx_kr dm_X2_levelOf 85 .int := ⟨by decide +kernel, rfl⟩
theorem bk_X2_levelOf_86 : mx_blk 2 cX2_levelOf 86 [.inr (.int 1)] 87 = true := by decide +kernel
theorem rt_X2_levelOf_87 : mx_kr dm_X2_levelOf 87 .int := ⟨by decide +kernel, rfl⟩
theorem bk_X2_levelOf_88 : mx_blk 2 cX2_levelOf 88 [.inr (.int 2)] 89 = true := by decide +kernel
theorem rt_X2_levelOf_89 : mx_kr dm_X2_levelOf 89 .int := ⟨by decide +kernel, rfl⟩
theorem bk_X2_levelOf_90 : mx_blk 2 cX2_levelOf 90 [.inr (.int 3)] 91 = true := by decide +kernel
theorem rt_X2_levelOf_91 : mx_kr dm_X2_levelOf 91 .int := ⟨by decide +kernel, rfl⟩
theorem bk_X2_levelOf_92 : mx_blk 2 cX2_levelOf 92 [.inr (.int 4)] 93 = true := by decide +kernel
theorem rt_X2_levelOf_93 : mx_kr dm_X2_levelOf 93 .int := ⟨by decide +kernel, rfl⟩
theorem bk_X2_levelOf_94 : mx_blk 2 cX2_levelOf 94 [.inr (.int (-1))] 95 = true := by decide +kernel
theorem rt_X2_levelOf_95 : mx_kr dm_X2_levelOf 95 .int := ⟨by decide +kernel, rfl⟩
theorem bk_X2_namesOf_0 : mx_blk 2 cX2_namesOf 0 [.inl (.iload 0)] 1 = true := by decide +kernel
theorem sw_X2_namesOf_1 : mx_swk cX2_namesOf 1 [(0, 28), (1, 31)] 34 = true := by decide +kernel
theorem dd_X2_namesOf_28 : decode cX2_namesOf 28 = .ok (.ldc 102, 2) := by decide +kernel
theorem rt_X2_namesOf_30 : mx_ka dm_X2_namesOf 30 := ⟨by decide +kernel, _, rfl, rfl⟩
theorem dd_X2_namesOf_31 : decode cX2_namesOf 31 = .ok (.ldc 104, 2) := by decide +kernel
theorem rt_X2_namesOf_33 : mx_ka dm_X2_namesOf 33 := ⟨by decide +kernel, _, rfl, rfl⟩
theorem dd_X2_namesOf_34 : decode cX2_namesOf 34 = .ok (.ldc 106, 2) := by decide +kernel
theorem rt_X2_namesOf_36 : mx_ka dm_X2_namesOf 36 := ⟨by decide +kernel, _, rfl, rfl⟩
theorem bk_X2_keyHere_0 : mx_blk 2 cX2_keyHere 0 [.inl (.aload 0), .inl (.getfield 131), .inr (.int (-2))] 6 = true := by decide +kernel
theorem br_X2_keyHere_6 : mx_brk cX2_keyHere 6 (.if_icmp .eq 5) 11 9 = true := by decide +kernel
theorem bk_X2_keyHere_9 : mx_blk 2 cX2_keyHere 9 [.inr (.int (-1))] 10 = true := by decide +kernel
theorem rt_X2_keyHere_10 : mx_kr dm_X2_keyHere 10 .int := ⟨by decide +kernel, rfl⟩
theorem bk_X2_keyHere_11 : mx_blk 2 cX2_keyHere 11 [.inl (.aload 0)] 12 = true := by decide +kernel
theorem dd_X2_keyHere_12 : decode cX2_keyHere 12 = .ok (.ldc 108, 2) := by decide +kernel
theorem kc_X2_keyHere_14 : mx_kV dm_X2_keyHere 14 dm_X2_spells 2 1 := ⟨110, by decide +kernel, md_X2_spells, cv_X2_110, by decide, by decide +kernel⟩
theorem br_X2_keyHere_17 : mx_brk cX2_keyHere 17 (.ifCond .eq 5) 22 20 = true := by decide +kernel
theorem bk_X2_keyHere_20 : mx_blk 2 cX2_keyHere 20 [.inr (.int 0)] 21 = true := by decide +kernel
theorem rt_X2_keyHere_21 : mx_kr dm_X2_keyHere 21 .int := ⟨by decide +kernel, rfl⟩
theorem bk_X2_keyHere_22 : mx_blk 2 cX2_keyHere 22 [.inl (.aload 0)] 23 = true := by decide +kernel
theorem dd_X2_keyHere_23 : decode cX2_keyHere 23 = .ok (.ldc 114, 2) := by decide +kernel
theorem kc_X2_keyHere_25 : mx_kV dm_X2_keyHere 25 dm_X2_spells 2 1 := ⟨110, by decide +kernel, md_X2_spells, cv_X2_110, by decide, by decide +kernel⟩
theorem br_X2_keyHere_28 : mx_brk cX2_keyHere 28 (.ifCond .eq 5) 33 31 = true := by decide +kernel
theorem bk_X2_keyHere_31 : mx_blk 2 cX2_keyHere 31 [.inr (.int 1)] 32 = true := by decide +kernel
theorem rt_X2_keyHere_32 : mx_kr dm_X2_keyHere 32 .int := ⟨by decide +kernel, rfl⟩
theorem bk_X2_keyHere_33 : mx_blk 2 cX2_keyHere 33 [.inl (.aload 0)] 34 = true := by decide +kernel
theorem dd_X2_keyHere_34 : decode cX2_keyHere 34 = .ok (.ldc 116, 2) := by decide +kernel
theorem kc_X2_keyHere_36 : mx_kV dm_X2_keyHere 36 dm_X2_spells 2 1 := ⟨110, by decide +kernel, md_X2_spells, cv_X2_110, by decide, by decide +kernel⟩
theorem br_X2_keyHere_39 : mx_brk cX2_keyHere 39 (.ifCond .eq 7) 46 42 = true := by decide +kernel
theorem bk_X2_keyHere_42 : mx_blk 2 cX2_keyHere 42 [.inr (.int 2)] 43 = true := by decide +kernel
theorem gt_X2_keyHere_43 : mx_jmp cX2_keyHere 43 47 = true := by decide +kernel
theorem bk_X2_keyHere_46 : mx_blk 2 cX2_keyHere 46 [.inr (.int (-1))] 47 = true := by decide +kernel
theorem rt_X2_keyHere_47 : mx_kr dm_X2_keyHere 47 .int := ⟨by decide +kernel, rfl⟩
theorem bk_X2_spells_0 : mx_blk 2 cX2_spells 0 [.inl (.aload 0), .inl (.getfield 133), .inl (.aload 0), .inl (.getfield 132), .inl .isub, .inl (.aload 1)] 10 = true := by decide +kernel
theorem kc_X2_spells_10 : mx_kT dm_X2_spells 10 dm_J0_length_8abf5 0 := ⟨118, by decide +kernel, md_J0_length_8abf5, cv_X2_118, by decide +kernel⟩
theorem br_X2_spells_13 : mx_brk cX2_spells 13 (.if_icmp .eq 5) 18 16 = true := by decide +kernel
theorem bk_X2_spells_16 : mx_blk 2 cX2_spells 16 [.inr (.int 0)] 17 = true := by decide +kernel
theorem rt_X2_spells_17 : mx_kr dm_X2_spells 17 .boolean := ⟨by decide +kernel, rfl⟩
theorem bk_X2_spells_18 : mx_blk 2 cX2_spells 18 [.inr (.int 0), .inl (.istore 2)] 20 = true := by decide +kernel
theorem bk_X2_spells_20 : mx_blk 2 cX2_spells 20 [.inl (.iload 2), .inl (.aload 1)] 22 = true := by decide +kernel
theorem kc_X2_spells_22 : mx_kT dm_X2_spells 22 dm_J0_length_8abf5 0 := ⟨118, by decide +kernel, md_J0_length_8abf5, cv_X2_118, by decide +kernel⟩
theorem br_X2_spells_25 : mx_brk cX2_spells 25 (.if_icmp .ge 29) 54 28 = true := by decide +kernel
theorem bk_X2_spells_28 : mx_blk 2 cX2_spells 28 [.inl (.aload 0), .inl (.aload 0), .inl (.getfield 132), .inl (.iload 2), .inl .iadd] 35 = true := by decide +kernel
theorem kc_X2_spells_35 : mx_kV dm_X2_spells 35 dm_X2_byteAt 2 1 := ⟨84, by decide +kernel, md_X2_byteAt, cv_X2_84, by decide, by decide +kernel⟩
theorem bk_X2_spells_38 : mx_blk 2 cX2_spells 38 [.inl (.aload 1), .inl (.iload 2)] 40 = true := by decide +kernel
theorem kc_X2_spells_40 : mx_kT dm_X2_spells 40 dm_J0_charAt_5068e 1 := ⟨120, by decide +kernel, md_J0_charAt_5068e, cv_X2_120, by decide +kernel⟩
theorem br_X2_spells_43 : mx_brk cX2_spells 43 (.if_icmp .eq 5) 48 46 = true := by decide +kernel
theorem bk_X2_spells_46 : mx_blk 2 cX2_spells 46 [.inr (.int 0)] 47 = true := by decide +kernel
theorem rt_X2_spells_47 : mx_kr dm_X2_spells 47 .boolean := ⟨by decide +kernel, rfl⟩
theorem bk_X2_spells_48 : mx_blk 2 cX2_spells 48 [.inl (.iinc 2 1)] 51 = true := by decide +kernel
theorem gt_X2_spells_51 : mx_jmp cX2_spells 51 20 = true := by decide +kernel
theorem bk_X2_spells_54 : mx_blk 2 cX2_spells 54 [.inr (.int 1)] 55 = true := by decide +kernel
theorem rt_X2_spells_55 : mx_kr dm_X2_spells 55 .boolean := ⟨by decide +kernel, rfl⟩
theorem bk_X2_goOn_0 : mx_blk 2 cX2_goOn 0 [.inl (.aload 0), .inl (.getfield 131), .inr (.int (-2))] 6 = true := by decide +kernel
theorem br_X2_goOn_6 : mx_brk cX2_goOn 6 (.if_icmp .eq 12) 18 9 = true := by decide +kernel
theorem bk_X2_goOn_9 : mx_blk 2 cX2_goOn 9 [.inl (.aload 0), .inl (.getfield 131), .inr (.int (-3))] 15 = true := by decide +kernel
theorem br_X2_goOn_15 : mx_brk cX2_goOn 15 (.if_icmp .ne 7) 22 18 = true := by decide +kernel
theorem bk_X2_goOn_18 : mx_blk 2 cX2_goOn 18 [.inr (.int 1)] 19 = true := by decide +kernel
theorem gt_X2_goOn_19 : mx_jmp cX2_goOn 19 23 = true := by decide +kernel
theorem bk_X2_goOn_22 : mx_blk 2 cX2_goOn 22 [.inr (.int 0)] 23 = true := by decide +kernel
theorem bk_X2_goOn_23 : mx_blk 2 cX2_goOn 23 [.inl (.istore 1), .inl (.aload 0), .inl (.aload 0), .inl (.getfield 133), .inl (.putfield 132)] 32 = true := by decide +kernel
theorem bk_X2_goOn_32 : mx_blk 2 cX2_goOn 32 [.inl (.aload 0), .inl (.getfield 132), .inl (.aload 0), .inl (.getfield 129)] 40 = true := by decide +kernel
theorem br_X2_goOn_40 : mx_brk cX2_goOn 40 (.if_icmp .ge 29) 69 43 = true := by decide +kernel
theorem bk_X2_goOn_43 : mx_blk 2 cX2_goOn 43 [.inl (.aload 0), .inl (.aload 0), .inl (.getfield 132)] 48 = true := by decide +kernel
theorem kc_X2_goOn_48 : mx_kV dm_X2_goOn 48 dm_X2_byteAt 2 1 := ⟨84, by decide +kernel, md_X2_byteAt, cv_X2_84, by decide, by decide +kernel⟩
theorem bk_X2_goOn_51 : mx_blk 2 cX2_goOn 51 [.inr (.int 32)] 53 = true := by decide +kernel
theorem br_X2_goOn_53 : mx_brk cX2_goOn 53 (.if_icmp .ne 16) 69 56 = true := by decide +kernel
theorem bk_X2_goOn_56 : mx_blk 2 cX2_goOn 56 [.inl (.aload 0), .inl .dup, .inl (.getfield 132), .inr (.int 1), .inl .iadd, .inl (.putfield 132)] 66 = true := by decide +kernel
theorem gt_X2_goOn_66 : mx_jmp cX2_goOn 66 32 = true := by decide +kernel
theorem bk_X2_goOn_69 : mx_blk 2 cX2_goOn 69 [.inl (.aload 0), .inl (.iload 1)] 71 = true := by decide +kernel
theorem br_X2_goOn_71 : mx_brk cX2_goOn 71 (.ifCond .eq 18) 89 74 = true := by decide +kernel
theorem bk_X2_goOn_74 : mx_blk 2 cX2_goOn 74 [.inl (.aload 0), .inl (.getfield 132), .inl (.aload 0), .inl (.getfield 133)] 82 = true := by decide +kernel
theorem br_X2_goOn_82 : mx_brk cX2_goOn 82 (.if_icmp .ne 7) 89 85 = true := by decide +kernel
theorem bk_X2_goOn_85 : mx_blk 2 cX2_goOn 85 [.inr (.int 1)] 86 = true := by decide +kernel
theorem gt_X2_goOn_86 : mx_jmp cX2_goOn 86 90 = true := by decide +kernel
theorem bk_X2_goOn_89 : mx_blk 2 cX2_goOn 89 [.inr (.int 0)] 90 = true := by decide +kernel
theorem bk_X2_goOn_90 : mx_blk 2 cX2_goOn 90 [.inl (.putfield 134), .inl (.aload 0), .inl (.aload 0), .inl (.getfield 132), .inl (.aload 0), .inl (.getfield 129)] 102 = true := by decide +kernel
theorem br_X2_goOn_102 : mx_brk cX2_goOn 102 (.if_icmp .ge 17) 119 105 = true := by decide +kernel
theorem bk_X2_goOn_105 : mx_blk 2 cX2_goOn 105 [.inl (.aload 0), .inl (.aload 0), .inl (.getfield 132)] 110 = true := by decide +kernel
theorem kc_X2_goOn_110 : mx_kV dm_X2_goOn 110 dm_X2_byteAt 2 1 := ⟨84, by decide +kernel, md_X2_byteAt, cv_X2_84, by decide, by decide +kernel⟩
theorem kc_X2_goOn_113 : mx_kS dm_X2_goOn 113 dm_X2_sortOf 1 := ⟨124, by decide +kernel, md_X2_sortOf, cs_X2_124⟩
theorem gt_X2_goOn_116 : mx_jmp cX2_goOn 116 120 = true := by decide +kernel
theorem bk_X2_goOn_119 : mx_blk 2 cX2_goOn 119 [.inr (.int (-1))] 120 = true := by decide +kernel
theorem bk_X2_goOn_120 : mx_blk 2 cX2_goOn 120 [.inl (.putfield 131), .inl (.aload 0), .inl (.aload 0), .inl (.getfield 132), .inr (.int 1), .inl .iadd, .inl (.aload 0), .inl (.getfield 129)] 134 = true := by decide +kernel
theorem kc_X2_goOn_134 : mx_km dm_X2_goOn 134 Lib.Math.min.name := ⟨39, by decide +kernel, mx_gw (i := 602) (by decide +kernel)⟩
theorem bk_X2_goOn_137 : mx_blk 2 cX2_goOn 137 [.inl (.putfield 133), .inl (.aload 0), .inl (.getfield 131), .inr (.int (-2))] 146 = true := by decide +kernel
theorem br_X2_goOn_146 : mx_brk cX2_goOn 146 (.if_icmp .eq 12) 158 149 = true := by decide +kernel
theorem bk_X2_goOn_149 : mx_blk 2 cX2_goOn 149 [.inl (.aload 0), .inl (.getfield 131), .inr (.int (-3))] 155 = true := by decide +kernel
theorem br_X2_goOn_155 : mx_brk cX2_goOn 155 (.if_icmp .ne 45) 200 158 = true := by decide +kernel
theorem bk_X2_goOn_158 : mx_blk 2 cX2_goOn 158 [.inl (.aload 0), .inl (.getfield 133), .inl (.aload 0), .inl (.getfield 129)] 166 = true := by decide +kernel
theorem br_X2_goOn_166 : mx_brk cX2_goOn 166 (.if_icmp .ge 34) 200 169 = true := by decide +kernel
theorem bk_X2_goOn_169 : mx_blk 2 cX2_goOn 169 [.inl (.aload 0), .inl (.aload 0), .inl (.getfield 133)] 174 = true := by decide +kernel
theorem kc_X2_goOn_174 : mx_kV dm_X2_goOn 174 dm_X2_byteAt 2 1 := ⟨84, by decide +kernel, md_X2_byteAt, cv_X2_84, by decide, by decide +kernel⟩
theorem kc_X2_goOn_177 : mx_kS dm_X2_goOn 177 dm_X2_sortOf 1 := ⟨124, by decide +kernel, md_X2_sortOf, cs_X2_124⟩
theorem bk_X2_goOn_180 : mx_blk 2 cX2_goOn 180 [.inl (.aload 0), .inl (.getfield 131)] 184 = true := by decide +kernel
theorem br_X2_goOn_184 : mx_brk cX2_goOn 184 (.if_icmp .ne 16) 200 187 = true := by decide +kernel
theorem bk_X2_goOn_187 : mx_blk 2 cX2_goOn 187 [.inl (.aload 0), .inl .dup, .inl (.getfield 133), .inr (.int 1), .inl .iadd, .inl (.putfield 133)] 197 = true := by decide +kernel
theorem gt_X2_goOn_197 : mx_jmp cX2_goOn 197 158 = true := by decide +kernel
theorem rt_X2_goOn_200 : mx_kv dm_X2_goOn 200 := ⟨by decide +kernel, rfl⟩
theorem bk_X2_sortOf_0 : mx_blk 2 cX2_sortOf 0 [.inl (.iload 0), .inr (.int 97)] 3 = true := by decide +kernel
theorem br_X2_sortOf_3 : mx_brk cX2_sortOf 3 (.if_icmp .lt 12) 15 6 = true := by decide +kernel
theorem bk_X2_sortOf_6 : mx_blk 2 cX2_sortOf 6 [.inl (.iload 0), .inr (.int 122)] 9 = true := by decide +kernel
theorem br_X2_sortOf_9 : mx_brk cX2_sortOf 9 (.if_icmp .gt 6) 15 12 = true := by decide +kernel
theorem bk_X2_sortOf_12 : mx_blk 2 cX2_sortOf 12 [.inr (.int (-2))] 14 = true := by decide +kernel
theorem rt_X2_sortOf_14 : mx_kr dm_X2_sortOf 14 .int := ⟨by decide +kernel, rfl⟩
theorem bk_X2_sortOf_15 : mx_blk 2 cX2_sortOf 15 [.inl (.iload 0), .inr (.int 48)] 18 = true := by decide +kernel
theorem br_X2_sortOf_18 : mx_brk cX2_sortOf 18 (.if_icmp .lt 14) 32 21 = true := by decide +kernel
theorem bk_X2_sortOf_21 : mx_blk 2 cX2_sortOf 21 [.inl (.iload 0), .inr (.int 57)] 24 = true := by decide +kernel
theorem br_X2_sortOf_24 : mx_brk cX2_sortOf 24 (.if_icmp .gt 8) 32 27 = true := by decide +kernel
theorem bk_X2_sortOf_27 : mx_blk 2 cX2_sortOf 27 [.inr (.int (-3))] 29 = true := by decide +kernel
theorem gt_X2_sortOf_29 : mx_jmp cX2_sortOf 29 33 = true := by decide +kernel
theorem bk_X2_sortOf_32 : mx_blk 2 cX2_sortOf 32 [.inl (.iload 0)] 33 = true := by decide +kernel
theorem rt_X2_sortOf_33 : mx_kr dm_X2_sortOf 33 .int := ⟨by decide +kernel, rfl⟩
theorem bk_X2_byteAt_0 : mx_blk 2 cX2_byteAt 0 [.inl (.iload 1)] 1 = true := by decide +kernel
theorem br_X2_byteAt_1 : mx_brk cX2_byteAt 1 (.ifCond .lt 25) 26 4 = true := by decide +kernel
theorem bk_X2_byteAt_4 : mx_blk 2 cX2_byteAt 4 [.inl (.iload 1), .inl (.aload 0), .inl (.getfield 128), .inl .arraylength] 10 = true := by decide +kernel
theorem br_X2_byteAt_10 : mx_brk cX2_byteAt 10 (.if_icmp .ge 16) 26 13 = true := by decide +kernel
theorem bk_X2_byteAt_13 : mx_blk 2 cX2_byteAt 13 [.inl (.aload 0), .inl (.getfield 128), .inl (.iload 1), .inl .baload, .inr (.int 255), .inl .iand] 23 = true := by decide +kernel
theorem gt_X2_byteAt_23 : mx_jmp cX2_byteAt 23 27 = true := by decide +kernel
theorem bk_X2_byteAt_26 : mx_blk 2 cX2_byteAt 26 [.inr (.int 0)] 27 = true := by decide +kernel
theorem rt_X2_byteAt_27 : mx_kr dm_X2_byteAt 27 .int := ⟨by decide +kernel, rfl⟩
theorem bk_X3_init_0 : mx_blk 3 cX3_init 0 [.inl (.aload 0)] 1 = true := by decide +kernel
theorem kc_X3_init_1 : mx_ko dm_X3_init 1 := ⟨3, by decide +kernel, mx_gw (i := 242) (by decide +kernel)⟩
theorem bk_X3_init_4 : mx_blk 3 cX3_init 4 [.inl (.aload 0), .inr (.int 96)] 7 = true := by decide +kernel
theorem dd_X3_init_7 : decode cX3_init 7 = .ok (.newarray .int, 2) := by decide +kernel
theorem bk_X3_init_9 : mx_blk 3 cX3_init 9 [.inl (.putfield 192)] 12 = true := by decide +kernel
theorem rt_X3_init_12 : mx_kv dm_X3_init 12 := ⟨by decide +kernel, rfl⟩
theorem bk_X3_gives_0 : mx_blk 3 cX3_gives 0 [.inr (.int 0), .inl (.istore 5), .inr (.int 0), .inl (.istore 6)] 6 = true := by decide +kernel
theorem bk_X3_gives_6 : mx_blk 3 cX3_gives 6 [.inl (.iload 6), .inl (.aload 1), .inl (.getfield 66)] 12 = true := by decide +kernel
theorem br_X3_gives_12 : mx_brk cX3_gives 12 (.if_icmp .ge 148) 160 15 = true := by decide +kernel
theorem bk_X3_gives_15 : mx_blk 3 cX3_gives 15 [.inl (.aload 1), .inl (.getfield 67), .inl (.iload 6), .inl .iaload, .inl (.istore 7), .inl (.iload 7), .inr (.int (-3))] 28 = true := by decide +kernel
theorem br_X3_gives_28 : mx_brk cX3_gives 28 (.if_icmp .lt 45) 73 31 = true := by decide +kernel
theorem bk_X3_gives_31 : mx_blk 3 cX3_gives 31 [.inl (.iload 5), .inl (.aload 0), .inl (.getfield 192), .inl .arraylength] 38 = true := by decide +kernel
theorem br_X3_gives_38 : mx_brk cX3_gives 38 (.if_icmp .ge 116) 154 41 = true := by decide +kernel
theorem bk_X3_gives_41 : mx_blk 3 cX3_gives 41 [.inl (.aload 0), .inl (.getfield 192), .inl (.iload 5), .inl (.iload 7)] 49 = true := by decide +kernel
theorem br_X3_gives_49 : mx_brk cX3_gives 49 (.ifCond .lt 8) 57 52 = true := by decide +kernel
theorem bk_X3_gives_52 : mx_blk 3 cX3_gives 52 [.inl (.iload 7)] 54 = true := by decide +kernel
theorem gt_X3_gives_54 : mx_jmp cX3_gives 54 66 = true := by decide +kernel
theorem bk_X3_gives_57 : mx_blk 3 cX3_gives 57 [.inl (.iload 7), .inl (.iload 2), .inl (.iload 3), .inl (.iload 4)] 63 = true := by decide +kernel
theorem kc_X3_gives_63 : mx_kS dm_X3_gives 63 dm_X3_named 4 := ⟨24, by decide +kernel, md_X3_named, cs_X3_24⟩
theorem bk_X3_gives_66 : mx_blk 3 cX3_gives 66 [.inl .iastore, .inl (.iinc 5 1)] 70 = true := by decide +kernel
theorem gt_X3_gives_70 : mx_jmp cX3_gives 70 154 = true := by decide +kernel
theorem bk_X3_gives_73 : mx_blk 3 cX3_gives 73 [.inl (.iload 7), .inr (.int (-33))] 77 = true := by decide +kernel
theorem br_X3_gives_77 : mx_brk cX3_gives 77 (.if_icmp .ne 37) 114 80 = true := by decide +kernel
theorem bk_X3_gives_80 : mx_blk 3 cX3_gives 80 [.inl (.iload 5)] 82 = true := by decide +kernel
theorem br_X3_gives_82 : mx_brk cX3_gives 82 (.ifCond .le 72) 154 85 = true := by decide +kernel
theorem bk_X3_gives_85 : mx_blk 3 cX3_gives 85 [.inl (.aload 0), .inl (.getfield 192), .inl (.iload 5), .inr (.int 1), .inl .isub, .inl (.aload 0), .inl (.getfield 192), .inl (.iload 5), .inr (.int 1), .inl .isub, .inl .iaload] 102 = true := by decide +kernel
theorem br_X3_gives_102 : mx_brk cX3_gives 102 (.ifCond .ne 7) 109 105 = true := by decide +kernel
theorem bk_X3_gives_105 : mx_blk 3 cX3_gives 105 [.inr (.int 1)] 106 = true := by decide +kernel
theorem gt_X3_gives_106 : mx_jmp cX3_gives 106 110 = true := by decide +kernel
theorem bk_X3_gives_109 : mx_blk 3 cX3_gives 109 [.inr (.int 0)] 110 = true := by decide +kernel
theorem bk_X3_gives_110 : mx_blk 3 cX3_gives 110 [.inl .iastore] 111 = true := by decide +kernel
theorem gt_X3_gives_111 : mx_jmp cX3_gives 111 154 = true := by decide +kernel
theorem bk_X3_gives_114 : mx_blk 3 cX3_gives 114 [.inl (.iload 5), .inr (.int 1)] 117 = true := by decide +kernel
theorem br_X3_gives_117 : mx_brk cX3_gives 117 (.if_icmp .le 37) 154 120 = true := by decide +kernel
theorem bk_X3_gives_120 : mx_blk 3 cX3_gives 120 [.inl (.iinc 5 (-1)), .inl (.aload 0), .inl (.getfield 192), .inl (.iload 5), .inr (.int 1), .inl .isub, .inl (.iload 7), .inl .ineg, .inl (.aload 0), .inl (.getfield 192), .inl (.iload 5), .inr (.int 1), .inl .isub, .inl .iaload, .inl (.aload 0), .inl (.getfield 192), .inl (.iload 5), .inl .iaload] 150 = true := by decide +kernel
theorem kc_X3_gives_150 : mx_kS dm_X3_gives 150 dm_X3_joined 3 := ⟨28, by decide +kernel, md_X3_joined, cs_X3_28⟩
theorem bk_X3_gives_153 : mx_blk 3 cX3_gives 153 [.inl .iastore] 154 = true := by decide +kernel
theorem bk_X3_gives_154 : mx_blk 3 cX3_gives 154 [.inl (.iinc 6 1)] 157 = true := by decide +kernel
theorem gt_X3_gives_157 : mx_jmp cX3_gives 157 6 = true := by decide +kernel
theorem bk_X3_gives_160 : mx_blk 3 cX3_gives 160 [.inl (.iload 5)] 162 = true := by decide +kernel
theorem br_X3_gives_162 : mx_brk cX3_gives 162 (.ifCond .le 12) 174 165 = true := by decide +kernel
theorem bk_X3_gives_165 : mx_blk 3 cX3_gives 165 [.inl (.aload 0), .inl (.getfield 192), .inr (.int 0), .inl .iaload] 171 = true := by decide +kernel
theorem gt_X3_gives_171 : mx_jmp cX3_gives 171 175 = true := by decide +kernel
theorem bk_X3_gives_174 : mx_blk 3 cX3_gives 174 [.inr (.int 0)] 175 = true := by decide +kernel
theorem rt_X3_gives_175 : mx_kr dm_X3_gives 175 .int := ⟨by decide +kernel, rfl⟩
theorem bk_X3_named_0 : mx_blk 3 cX3_named 0 [.inl (.iload 0), .inr (.int (-1))] 2 = true := by decide +kernel
theorem br_X3_named_2 : mx_brk cX3_named 2 (.if_icmp .ne 5) 7 5 = true := by decide +kernel
theorem bk_X3_named_5 : mx_blk 3 cX3_named 5 [.inl (.iload 1)] 6 = true := by decide +kernel
theorem rt_X3_named_6 : mx_kr dm_X3_named 6 .int := ⟨by decide +kernel, rfl⟩
theorem bk_X3_named_7 : mx_blk 3 cX3_named 7 [.inl (.iload 0), .inr (.int (-2))] 10 = true := by decide +kernel
theorem br_X3_named_10 : mx_brk cX3_named 10 (.if_icmp .ne 7) 17 13 = true := by decide +kernel
theorem bk_X3_named_13 : mx_blk 3 cX3_named 13 [.inl (.iload 2)] 14 = true := by decide +kernel
theorem gt_X3_named_14 : mx_jmp cX3_named 14 18 = true := by decide +kernel
theorem bk_X3_named_17 : mx_blk 3 cX3_named 17 [.inl (.iload 3)] 18 = true := by decide +kernel
theorem rt_X3_named_18 : mx_kr dm_X3_named 18 .int := ⟨by decide +kernel, rfl⟩
theorem bk_X3_joined_0 : mx_blk 3 cX3_joined 0 [.inl (.iload 0)] 1 = true := by decide +kernel
theorem sw_X3_joined_1 : mx_swk cX3_joined 1 [(38, 173), (39, 187), (40, 187), (41, 187), (42, 124), (43, 116), (44, 187), (45, 120), (46, 187), (47, 128), (48, 187), (49, 187), (50, 187), (51, 187), (52, 187), (53, 187), (54, 187), (55, 187), (56, 187), (57, 187), (58, 187), (59, 187), (60, 140), (61, 151), (62, 162)] 187 = true := by decide +kernel
theorem bk_X3_joined_116 : mx_blk 3 cX3_joined 116 [.inl (.iload 1), .inl (.iload 2), .inl .iadd] 119 = true := by decide +kernel
theorem rt_X3_joined_119 : mx_kr dm_X3_joined 119 .int := ⟨by decide +kernel, rfl⟩
theorem bk_X3_joined_120 : mx_blk 3 cX3_joined 120 [.inl (.iload 1), .inl (.iload 2), .inl .isub] 123 = true := by decide +kernel
theorem rt_X3_joined_123 : mx_kr dm_X3_joined 123 .int := ⟨by decide +kernel, rfl⟩
theorem bk_X3_joined_124 : mx_blk 3 cX3_joined 124 [.inl (.iload 1), .inl (.iload 2), .inl .imul] 127 = true := by decide +kernel
theorem rt_X3_joined_127 : mx_kr dm_X3_joined 127 .int := ⟨by decide +kernel, rfl⟩
theorem bk_X3_joined_128 : mx_blk 3 cX3_joined 128 [.inl (.iload 2)] 129 = true := by decide +kernel
theorem br_X3_joined_129 : mx_brk cX3_joined 129 (.ifCond .ne 7) 136 132 = true := by decide +kernel
theorem bk_X3_joined_132 : mx_blk 3 cX3_joined 132 [.inr (.int 0)] 133 = true := by decide +kernel
theorem gt_X3_joined_133 : mx_jmp cX3_joined 133 139 = true := by decide +kernel
theorem bk_X3_joined_136 : mx_blk 3 cX3_joined 136 [.inl (.iload 1), .inl (.iload 2), .inl .idiv] 139 = true := by decide +kernel
theorem rt_X3_joined_139 : mx_kr dm_X3_joined 139 .int := ⟨by decide +kernel, rfl⟩
theorem bk_X3_joined_140 : mx_blk 3 cX3_joined 140 [.inl (.iload 1), .inl (.iload 2)] 142 = true := by decide +kernel
theorem br_X3_joined_142 : mx_brk cX3_joined 142 (.if_icmp .ge 7) 149 145 = true := by decide +kernel
theorem bk_X3_joined_145 : mx_blk 3 cX3_joined 145 [.inr (.int 1)] 146 = true := by decide +kernel
theorem gt_X3_joined_146 : mx_jmp cX3_joined 146 150 = true := by decide +kernel
theorem bk_X3_joined_149 : mx_blk 3 cX3_joined 149 [.inr (.int 0)] 150 = true := by decide +kernel
theorem rt_X3_joined_150 : mx_kr dm_X3_joined 150 .int := ⟨by decide +kernel, rfl⟩
theorem bk_X3_joined_151 : mx_blk 3 cX3_joined 151 [.inl (.iload 1), .inl (.iload 2)] 153 = true := by decide +kernel
theorem br_X3_joined_153 : mx_brk cX3_joined 153 (.if_icmp .ne 7) 160 156 = true := by decide +kernel
theorem bk_X3_joined_156 : mx_blk 3 cX3_joined 156 [.inr (.int 1)] 157 = true := by decide +kernel
theorem gt_X3_joined_157 : mx_jmp cX3_joined 157 161 = true := by decide +kernel
theorem bk_X3_joined_160 : mx_blk 3 cX3_joined 160 [.inr (.int 0)] 161 = true := by decide +kernel
theorem rt_X3_joined_161 : mx_kr dm_X3_joined 161 .int := ⟨by decide +kernel, rfl⟩
theorem bk_X3_joined_162 : mx_blk 3 cX3_joined 162 [.inl (.iload 1), .inl (.iload 2)] 164 = true := by decide +kernel
theorem br_X3_joined_164 : mx_brk cX3_joined 164 (.if_icmp .le 7) 171 167 = true := by decide +kernel
theorem bk_X3_joined_167 : mx_blk 3 cX3_joined 167 [.inr (.int 1)] 168 = true := by decide +kernel
theorem gt_X3_joined_168 : mx_jmp cX3_joined 168 172 = true := by decide +kernel
theorem bk_X3_joined_171 : mx_blk 3 cX3_joined 171 [.inr (.int 0)] 172 = true := by decide +kernel
theorem rt_X3_joined_172 : mx_kr dm_X3_joined 172 .int := ⟨by decide +kernel, rfl⟩
theorem bk_X3_joined_173 : mx_blk 3 cX3_joined 173 [.inl (.iload 1)] 174 = true := by decide +kernel
theorem br_X3_joined_174 : mx_brk cX3_joined 174 (.ifCond .eq 11) 185 177 = true := by decide +kernel
theorem bk_X3_joined_177 : mx_blk 3 cX3_joined 177 [.inl (.iload 2)] 178 = true := by decide +kernel
theorem br_X3_joined_178 : mx_brk cX3_joined 178 (.ifCond .eq 7) 185 181 = true := by decide +kernel
theorem bk_X3_joined_181 : mx_blk 3 cX3_joined 181 [.inr (.int 1)] 182 = true := by decide +kernel
theorem gt_X3_joined_182 : mx_jmp cX3_joined 182 186 = true := by decide +kernel
theorem bk_X3_joined_185 : mx_blk 3 cX3_joined 185 [.inr (.int 0)] 186 = true := by decide +kernel
theorem rt_X3_joined_186 : mx_kr dm_X3_joined 186 .int := ⟨by decide +kernel, rfl⟩
theorem bk_X3_joined_187 : mx_blk 3 cX3_joined 187 [.inl (.iload 1)] 188 = true := by decide +kernel
theorem br_X3_joined_188 : mx_brk cX3_joined 188 (.ifCond .ne 7) 195 191 = true := by decide +kernel
theorem bk_X3_joined_191 : mx_blk 3 cX3_joined 191 [.inl (.iload 2)] 192 = true := by decide +kernel
theorem br_X3_joined_192 : mx_brk cX3_joined 192 (.ifCond .eq 7) 199 195 = true := by decide +kernel
theorem bk_X3_joined_195 : mx_blk 3 cX3_joined 195 [.inr (.int 1)] 196 = true := by decide +kernel
theorem gt_X3_joined_196 : mx_jmp cX3_joined 196 200 = true := by decide +kernel
theorem bk_X3_joined_199 : mx_blk 3 cX3_joined 199 [.inr (.int 0)] 200 = true := by decide +kernel
theorem rt_X3_joined_200 : mx_kr dm_X3_joined 200 .int := ⟨by decide +kernel, rfl⟩
theorem bk_X4_init_0 : mx_blk 4 cX4_init 0 [.inl (.aload 0)] 1 = true := by decide +kernel
theorem kc_X4_init_1 : mx_ko dm_X4_init 1 := ⟨3, by decide +kernel, mx_gw (i := 146) (by decide +kernel)⟩
theorem bk_X4_init_4 : mx_blk 4 cX4_init 4 [.inl (.aload 0), .inr (.int (-1)), .inl (.putfield 256), .inl (.aload 0), .inr (.int 0), .inl (.putfield 257), .inl (.aload 0), .inr (.int 24)] 17 = true := by decide +kernel
theorem dd_X4_init_17 : decode cX4_init 17 = .ok (.newarray .int, 2) := by decide +kernel
theorem bk_X4_init_19 : mx_blk 4 cX4_init 19 [.inl (.putfield 258)] 22 = true := by decide +kernel
theorem rt_X4_init_22 : mx_kv dm_X4_init 22 := ⟨by decide +kernel, rfl⟩
theorem bk_X4_become_0 : mx_blk 4 cX4_become 0 [.inl (.aload 0), .inl (.iload 1), .inl (.putfield 256), .inl (.aload 0), .inl (.iload 2), .inl (.putfield 257), .inr (.int 0), .inl (.istore 3)] 12 = true := by decide +kernel
theorem bk_X4_become_12 : mx_blk 4 cX4_become 12 [.inl (.iload 3), .inl (.aload 0), .inl (.getfield 258), .inl .arraylength] 18 = true := by decide +kernel
theorem br_X4_become_18 : mx_brk cX4_become 18 (.if_icmp .ge 16) 34 21 = true := by decide +kernel
theorem bk_X4_become_21 : mx_blk 4 cX4_become 21 [.inl (.aload 0), .inl (.getfield 258), .inl (.iload 3), .inr (.int 0), .inl .iastore, .inl (.iinc 3 1)] 31 = true := by decide +kernel
theorem gt_X4_become_31 : mx_jmp cX4_become 31 12 = true := by decide +kernel
theorem rt_X4_become_34 : mx_kv dm_X4_become 34 := ⟨by decide +kernel, rfl⟩
theorem bk_X4_becomeLike_0 : mx_blk 4 cX4_becomeLike 0 [.inl (.aload 0), .inl (.aload 1), .inl (.getfield 256), .inl (.putfield 256), .inl (.aload 0), .inl (.aload 1), .inl (.getfield 257), .inl (.putfield 257), .inl (.aload 1), .inl (.getfield 258), .inr (.int 0), .inl (.aload 0), .inl (.getfield 258), .inr (.int 0), .inl (.aload 0), .inl (.getfield 258), .inl .arraylength] 31 = true := by decide +kernel
theorem kc_X4_becomeLike_31 : mx_km dm_X4_becomeLike 31 arraycopyName := ⟨22, by decide +kernel, mx_gw (i := 843) (by decide +kernel)⟩
theorem rt_X4_becomeLike_34 : mx_kv dm_X4_becomeLike 34 := ⟨by decide +kernel, rfl⟩
theorem bk_X4_isMissing_0 : mx_blk 4 cX4_isMissing 0 [.inl (.aload 0), .inl (.getfield 256), .inr (.int (-1))] 5 = true := by decide +kernel
theorem br_X4_isMissing_5 : mx_brk cX4_isMissing 5 (.if_icmp .ne 7) 12 8 = true := by decide +kernel
theorem bk_X4_isMissing_8 : mx_blk 4 cX4_isMissing 8 [.inr (.int 1)] 9 = true := by decide +kernel
theorem gt_X4_isMissing_9 : mx_jmp cX4_isMissing 9 13 = true := by decide +kernel
theorem bk_X4_isMissing_12 : mx_blk 4 cX4_isMissing 12 [.inr (.int 0)] 13 = true := by decide +kernel
theorem rt_X4_isMissing_13 : mx_kr dm_X4_isMissing 13 .boolean := ⟨by decide +kernel, rfl⟩
theorem bk_X4_has_0 : mx_blk 4 cX4_has 0 [.inl (.iload 1)] 1 = true := by decide +kernel
theorem br_X4_has_1 : mx_brk cX4_has 1 (.ifCond .lt 15) 16 4 = true := by decide +kernel
theorem bk_X4_has_4 : mx_blk 4 cX4_has 4 [.inl (.iload 1), .inl (.aload 0), .inl (.getfield 257)] 9 = true := by decide +kernel
theorem br_X4_has_9 : mx_brk cX4_has 9 (.if_icmp .ge 7) 16 12 = true := by decide +kernel
theorem bk_X4_has_12 : mx_blk 4 cX4_has 12 [.inr (.int 1)] 13 = true := by decide +kernel
theorem gt_X4_has_13 : mx_jmp cX4_has 13 17 = true := by decide +kernel
theorem bk_X4_has_16 : mx_blk 4 cX4_has 16 [.inr (.int 0)] 17 = true := by decide +kernel
theorem rt_X4_has_17 : mx_kr dm_X4_has 17 .boolean := ⟨by decide +kernel, rfl⟩
theorem bk_X4_hasRun_0 : mx_blk 4 cX4_hasRun 0 [.inl (.iload 2)] 1 = true := by decide +kernel
theorem br_X4_hasRun_1 : mx_brk cX4_hasRun 1 (.ifCond .lt 29) 30 4 = true := by decide +kernel
theorem bk_X4_hasRun_4 : mx_blk 4 cX4_hasRun 4 [.inl (.iload 1)] 5 = true := by decide +kernel
theorem br_X4_hasRun_5 : mx_brk cX4_hasRun 5 (.ifCond .lt 25) 30 8 = true := by decide +kernel
theorem bk_X4_hasRun_8 : mx_blk 4 cX4_hasRun 8 [.inl (.iload 1), .inl (.aload 0), .inl (.getfield 257)] 13 = true := by decide +kernel
theorem br_X4_hasRun_13 : mx_brk cX4_hasRun 13 (.if_icmp .gt 17) 30 16 = true := by decide +kernel
theorem bk_X4_hasRun_16 : mx_blk 4 cX4_hasRun 16 [.inl (.iload 2), .inl (.aload 0), .inl (.getfield 257), .inl (.iload 1), .inl .isub] 23 = true := by decide +kernel
theorem br_X4_hasRun_23 : mx_brk cX4_hasRun 23 (.if_icmp .gt 7) 30 26 = true := by decide +kernel
theorem bk_X4_hasRun_26 : mx_blk 4 cX4_hasRun 26 [.inr (.int 1)] 27 = true := by decide +kernel
theorem gt_X4_hasRun_27 : mx_jmp cX4_hasRun 27 31 = true := by decide +kernel
theorem bk_X4_hasRun_30 : mx_blk 4 cX4_hasRun 30 [.inr (.int 0)] 31 = true := by decide +kernel
theorem rt_X4_hasRun_31 : mx_kr dm_X4_hasRun 31 .boolean := ⟨by decide +kernel, rfl⟩
theorem bk_X4_isNumberAt_0 : mx_blk 4 cX4_isNumberAt 0 [.inl (.aload 0), .inl (.iload 1)] 2 = true := by decide +kernel
theorem kc_X4_isNumberAt_2 : mx_kV dm_X4_isNumberAt 2 dm_X4_has 4 1 := ⟨28, by decide +kernel, md_X4_has, cv_X4_28, by decide, by decide +kernel⟩
theorem br_X4_isNumberAt_5 : mx_brk cX4_isNumberAt 5 (.ifCond .eq 18) 23 8 = true := by decide +kernel
theorem bk_X4_isNumberAt_8 : mx_blk 4 cX4_isNumberAt 8 [.inl (.aload 0), .inl (.getfield 258), .inl (.iload 1), .inl .iaload, .inr (.int (-1000000005))] 16 = true := by decide +kernel
theorem br_X4_isNumberAt_16 : mx_brk cX4_isNumberAt 16 (.if_icmp .eq 7) 23 19 = true := by decide +kernel
theorem bk_X4_isNumberAt_19 : mx_blk 4 cX4_isNumberAt 19 [.inr (.int 1)] 20 = true := by decide +kernel
theorem gt_X4_isNumberAt_20 : mx_jmp cX4_isNumberAt 20 24 = true := by decide +kernel
theorem bk_X4_isNumberAt_23 : mx_blk 4 cX4_isNumberAt 23 [.inr (.int 0)] 24 = true := by decide +kernel
theorem rt_X4_isNumberAt_24 : mx_kr dm_X4_isNumberAt 24 .boolean := ⟨by decide +kernel, rfl⟩
theorem bk_X4_hasNumberBehind_0 : mx_blk 4 cX4_hasNumberBehind 0 [.inl (.iload 1), .inr (.int 1), .inl .iadd, .inl (.istore 2)] 4 = true := by decide +kernel
theorem bk_X4_hasNumberBehind_4 : mx_blk 4 cX4_hasNumberBehind 4 [.inl (.iload 2), .inr (.int 6)] 7 = true := by decide +kernel
theorem br_X4_hasNumberBehind_7 : mx_brk cX4_hasNumberBehind 7 (.if_icmp .ge 27) 34 10 = true := by decide +kernel
theorem bk_X4_hasNumberBehind_10 : mx_blk 4 cX4_hasNumberBehind 10 [.inl (.iload 2), .inl (.aload 0), .inl (.getfield 257)] 15 = true := by decide +kernel
theorem br_X4_hasNumberBehind_15 : mx_brk cX4_hasNumberBehind 15 (.if_icmp .ge 19) 34 18 = true := by decide +kernel
theorem bk_X4_hasNumberBehind_18 : mx_blk 4 cX4_hasNumberBehind 18 [.inl (.aload 0), .inl (.iload 2)] 20 = true := by decide +kernel
theorem kc_X4_hasNumberBehind_20 : mx_kV dm_X4_hasNumberBehind 20 dm_X4_isNumberAt 4 1 := ⟨33, by decide +kernel, md_X4_isNumberAt, cv_X4_33, by decide, by decide +kernel⟩
theorem br_X4_hasNumberBehind_23 : mx_brk cX4_hasNumberBehind 23 (.ifCond .eq 5) 28 26 = true := by decide +kernel
theorem bk_X4_hasNumberBehind_26 : mx_blk 4 cX4_hasNumberBehind 26 [.inr (.int 1)] 27 = true := by decide +kernel
theorem rt_X4_hasNumberBehind_27 : mx_kr dm_X4_hasNumberBehind 27 .boolean := ⟨by decide +kernel, rfl⟩
theorem bk_X4_hasNumberBehind_28 : mx_blk 4 cX4_hasNumberBehind 28 [.inl (.iinc 2 1)] 31 = true := by decide +kernel
theorem gt_X4_hasNumberBehind_31 : mx_jmp cX4_hasNumberBehind 31 4 = true := by decide +kernel
theorem bk_X4_hasNumberBehind_34 : mx_blk 4 cX4_hasNumberBehind 34 [.inr (.int 0)] 35 = true := by decide +kernel
theorem rt_X4_hasNumberBehind_35 : mx_kr dm_X4_hasNumberBehind 35 .boolean := ⟨by decide +kernel, rfl⟩
theorem bk_X5_init_0 : mx_blk 5 cX5_init 0 [.inl (.aload 0)] 1 = true := by decide +kernel
theorem kc_X5_init_1 : mx_ko dm_X5_init 1 := ⟨3, by decide +kernel, mx_gw (i := 164) (by decide +kernel)⟩
theorem bk_X5_init_4 : mx_blk 5 cX5_init 4 [.inl (.aload 0), .inr (.int 0), .inl (.putfield 320), .inl (.aload 0), .inr (.int 0), .inl (.putfield 321), .inl (.aload 0)] 15 = true := by decide +kernel
theorem kc_X5_init_15 : mx_kn dm_X5_init 15 0 := ⟨18, by decide +kernel, by decide +kernel, by decide⟩
theorem bk_X5_init_18 : mx_blk 5 cX5_init 18 [.inl .dup] 19 = true := by decide +kernel
theorem kc_X5_init_19 : mx_kI dm_X5_init 19 dm_X0_init 0 := ⟨20, by decide +kernel, md_X0_init, ci_X5_20⟩
theorem bk_X5_init_22 : mx_blk 5 cX5_init 22 [.inl (.putfield 322), .inl (.aload 0)] 26 = true := by decide +kernel
theorem kc_X5_init_26 : mx_kn dm_X5_init 26 4 := ⟨25, by decide +kernel, by decide +kernel, by decide⟩
theorem bk_X5_init_29 : mx_blk 5 cX5_init 29 [.inl .dup] 30 = true := by decide +kernel
theorem kc_X5_init_30 : mx_kI dm_X5_init 30 dm_X4_init 0 := ⟨27, by decide +kernel, md_X4_init, ci_X5_27⟩
theorem bk_X5_init_33 : mx_blk 5 cX5_init 33 [.inl (.putfield 323)] 36 = true := by decide +kernel
theorem rt_X5_init_36 : mx_kv dm_X5_init 36 := ⟨by decide +kernel, rfl⟩
theorem bk_X6_init_0 : mx_blk 6 cX6_init 0 [.inl (.aload 0)] 1 = true := by decide +kernel
theorem kc_X6_init_1 : mx_ko dm_X6_init 1 := ⟨3, by decide +kernel, mx_gw (i := 234) (by decide +kernel)⟩
theorem bk_X6_init_4 : mx_blk 6 cX6_init 4 [.inl (.aload 0), .inr (.int 6)] 7 = true := by decide +kernel
theorem kc_X6_init_7 : mx_kq dm_X6_init 7 13 := ⟨9, by decide +kernel, by decide +kernel, by decide, by decide⟩
theorem bk_X6_init_10 : mx_blk 6 cX6_init 10 [.inl (.putfield 384), .inl (.aload 0), .inr (.int 3)] 15 = true := by decide +kernel
theorem dd_X6_init_15 : decode cX6_init 15 = .ok (.newarray .int, 2) := by decide +kernel
theorem bk_X6_init_17 : mx_blk 6 cX6_init 17 [.inl (.putfield 385), .inl (.aload 0)] 21 = true := by decide +kernel
theorem kc_X6_init_21 : mx_kn dm_X6_init 21 3 := ⟨21, by decide +kernel, by decide +kernel, by decide⟩
theorem bk_X6_init_24 : mx_blk 6 cX6_init 24 [.inl .dup] 25 = true := by decide +kernel
theorem kc_X6_init_25 : mx_kI dm_X6_init 25 dm_X3_init 0 := ⟨23, by decide +kernel, md_X3_init, ci_X6_23⟩
theorem bk_X6_init_28 : mx_blk 6 cX6_init 28 [.inl (.putfield 387), .inl (.aload 0), .inr (.int 0), .inl (.putfield 388), .inl (.aload 0), .inr (.int 0), .inl (.putfield 389), .inl (.aload 0), .inr (.int 20), .inl (.putfield 390), .inl (.aload 0), .inr (.int 2), .inl (.putfield 391), .inl (.aload 0), .inr (.int 2), .inl (.putfield 392), .inl (.aload 0), .inr (.int 1), .inl (.putfield 393), .inl (.aload 0), .inr (.int 0), .inl (.putfield 394), .inl (.aload 0), .inl (.aload 1), .inl (.putfield 386), .inr (.int 0), .inl (.istore 2)] 74 = true := by decide +kernel
theorem bk_X6_init_74 : mx_blk 6 cX6_init 74 [.inl (.iload 2), .inl (.aload 0), .inl (.getfield 384), .inl .arraylength] 80 = true := by decide +kernel
theorem br_X6_init_80 : mx_brk cX6_init 80 (.if_icmp .ge 22) 102 83 = true := by decide +kernel
theorem bk_X6_init_83 : mx_blk 6 cX6_init 83 [.inl (.aload 0), .inl (.getfield 384), .inl (.iload 2)] 88 = true := by decide +kernel
theorem kc_X6_init_88 : mx_kn dm_X6_init 88 0 := ⟨9, by decide +kernel, by decide +kernel, by decide⟩
theorem bk_X6_init_91 : mx_blk 6 cX6_init 91 [.inl .dup] 92 = true := by decide +kernel
theorem kc_X6_init_92 : mx_kI dm_X6_init 92 dm_X0_init 0 := ⟨54, by decide +kernel, md_X0_init, ci_X6_54⟩
theorem dd_X6_init_95 : decode cX6_init 95 = .ok (.aastore, 1) := by decide +kernel
theorem bk_X6_init_96 : mx_blk 6 cX6_init 96 [.inl (.iinc 2 1)] 99 = true := by decide +kernel
theorem gt_X6_init_99 : mx_jmp cX6_init 99 74 = true := by decide +kernel
theorem bk_X6_init_102 : mx_blk 6 cX6_init 102 [.inr (.int 0), .inl (.istore 2)] 104 = true := by decide +kernel
theorem bk_X6_init_104 : mx_blk 6 cX6_init 104 [.inl (.iload 2), .inl (.aload 0), .inl (.getfield 385), .inl .arraylength] 110 = true := by decide +kernel
theorem br_X6_init_110 : mx_brk cX6_init 110 (.if_icmp .ge 16) 126 113 = true := by decide +kernel
theorem bk_X6_init_113 : mx_blk 6 cX6_init 113 [.inl (.aload 0), .inl (.getfield 385), .inl (.iload 2), .inr (.int (-1)), .inl .iastore, .inl (.iinc 2 1)] 123 = true := by decide +kernel
theorem gt_X6_init_123 : mx_jmp cX6_init 123 104 = true := by decide +kernel
theorem rt_X6_init_126 : mx_kv dm_X6_init 126 := ⟨by decide +kernel, rfl⟩
theorem bk_X6_becomeLike_0 : mx_blk 6 cX6_becomeLike 0 [.inr (.int 0), .inl (.istore 2)] 2 = true := by decide +kernel
theorem bk_X6_becomeLike_2 : mx_blk 6 cX6_becomeLike 2 [.inl (.iload 2), .inl (.aload 1), .inl (.getfield 388)] 7 = true := by decide +kernel
theorem br_X6_becomeLike_7 : mx_brk cX6_becomeLike 7 (.if_icmp .ge 24) 31 10 = true := by decide +kernel
theorem bk_X6_becomeLike_10 : mx_blk 6 cX6_becomeLike 10 [.inl (.aload 0), .inl (.getfield 384), .inl (.iload 2), .inl (.anewarray 13), .inl (.aload 1), .inl (.getfield 384), .inl (.iload 2), .inl (.anewarray 13)] 22 = true := by decide +kernel
theorem kc_X6_becomeLike_22 : mx_kV dm_X6_becomeLike 22 dm_X0_becomeLike 0 1 := ⟨55, by decide +kernel, md_X0_becomeLike, cv_X6_55, by decide, by decide +kernel⟩
theorem bk_X6_becomeLike_25 : mx_blk 6 cX6_becomeLike 25 [.inl (.iinc 2 1)] 28 = true := by decide +kernel
theorem gt_X6_becomeLike_28 : mx_jmp cX6_becomeLike 28 2 = true := by decide +kernel
theorem bk_X6_becomeLike_31 : mx_blk 6 cX6_becomeLike 31 [.inr (.int 0), .inl (.istore 2)] 33 = true := by decide +kernel
theorem bk_X6_becomeLike_33 : mx_blk 6 cX6_becomeLike 33 [.inl (.iload 2), .inl (.aload 0), .inl (.getfield 385), .inl .arraylength] 39 = true := by decide +kernel
theorem br_X6_becomeLike_39 : mx_brk cX6_becomeLike 39 (.if_icmp .ge 21) 60 42 = true := by decide +kernel
theorem bk_X6_becomeLike_42 : mx_blk 6 cX6_becomeLike 42 [.inl (.aload 0), .inl (.getfield 385), .inl (.iload 2), .inl (.aload 1), .inl (.getfield 385), .inl (.iload 2), .inl .iaload, .inl .iastore, .inl (.iinc 2 1)] 57 = true := by decide +kernel
theorem gt_X6_becomeLike_57 : mx_jmp cX6_becomeLike 57 33 = true := by decide +kernel
theorem bk_X6_becomeLike_60 : mx_blk 6 cX6_becomeLike 60 [.inl (.aload 0), .inl (.aload 1), .inl (.getfield 388), .inl (.putfield 388), .inl (.aload 0), .inl (.aload 1), .inl (.getfield 389), .inl (.putfield 389), .inl (.aload 0), .inl (.aload 1), .inl (.getfield 390), .inl (.putfield 390), .inl (.aload 0), .inl (.aload 1), .inl (.getfield 391), .inl (.putfield 391), .inl (.aload 0), .inl (.aload 1), .inl (.getfield 392), .inl (.putfield 392), .inl (.aload 0), .inl (.aload 1), .inl (.getfield 393), .inl (.putfield 393), .inl (.aload 0), .inl (.aload 1), .inl (.getfield 394), .inl (.putfield 394)] 116 = true := by decide +kernel
theorem rt_X6_becomeLike_116 : mx_kv dm_X6_becomeLike 116 := ⟨by decide +kernel, rfl⟩
theorem bk_X6_has_0 : mx_blk 6 cX6_has 0 [.inl (.iload 1)] 1 = true := by decide +kernel
theorem br_X6_has_1 : mx_brk cX6_has 1 (.ifCond .lt 15) 16 4 = true := by decide +kernel
theorem bk_X6_has_4 : mx_blk 6 cX6_has 4 [.inl (.iload 1), .inl (.aload 0), .inl (.getfield 388)] 9 = true := by decide +kernel
theorem br_X6_has_9 : mx_brk cX6_has 9 (.if_icmp .ge 7) 16 12 = true := by decide +kernel
theorem bk_X6_has_12 : mx_blk 6 cX6_has 12 [.inr (.int 1)] 13 = true := by decide +kernel
theorem gt_X6_has_13 : mx_jmp cX6_has 13 17 = true := by decide +kernel
theorem bk_X6_has_16 : mx_blk 6 cX6_has 16 [.inr (.int 0)] 17 = true := by decide +kernel
theorem rt_X6_has_17 : mx_kr dm_X6_has 17 .boolean := ⟨by decide +kernel, rfl⟩
theorem bk_X6_addDistrict_0 : mx_blk 6 cX6_addDistrict 0 [.inl (.aload 0), .inl (.getfield 388), .inl (.aload 0), .inl (.getfield 384), .inl .arraylength] 9 = true := by decide +kernel
theorem br_X6_addDistrict_9 : mx_brk cX6_addDistrict 9 (.if_icmp .ge 27) 36 12 = true := by decide +kernel
theorem bk_X6_addDistrict_12 : mx_blk 6 cX6_addDistrict 12 [.inl (.aload 0), .inl (.getfield 384), .inl (.aload 0), .inl (.getfield 388), .inl (.anewarray 13), .inl (.iload 1), .inl (.iload 2)] 23 = true := by decide +kernel
theorem kc_X6_addDistrict_23 : mx_kV dm_X6_addDistrict 23 dm_X0_becomeNew 0 2 := ⟨59, by decide +kernel, md_X0_becomeNew, cv_X6_59, by decide, by decide +kernel⟩
theorem bk_X6_addDistrict_26 : mx_blk 6 cX6_addDistrict 26 [.inl (.aload 0), .inl .dup, .inl (.getfield 388), .inr (.int 1), .inl .iadd, .inl (.putfield 388)] 36 = true := by decide +kernel
theorem rt_X6_addDistrict_36 : mx_kv dm_X6_addDistrict 36 := ⟨by decide +kernel, rfl⟩
theorem bk_X6_addLaw_0 : mx_blk 6 cX6_addLaw 0 [.inl (.aload 0), .inl (.getfield 394), .inl (.istore 2), .inl (.iload 2), .inl (.aload 0), .inl (.getfield 386), .inl .arraylength] 11 = true := by decide +kernel
theorem br_X6_addLaw_11 : mx_brk cX6_addLaw 11 (.if_icmp .lt 6) 17 14 = true := by decide +kernel
theorem bk_X6_addLaw_14 : mx_blk 6 cX6_addLaw 14 [.inr (.int (-1000000003))] 16 = true := by decide +kernel
theorem rt_X6_addLaw_16 : mx_kr dm_X6_addLaw 16 .int := ⟨by decide +kernel, rfl⟩
theorem bk_X6_addLaw_17 : mx_blk 6 cX6_addLaw 17 [.inl (.aload 0), .inl (.getfield 386), .inl (.iload 2), .inl (.anewarray 14), .inl (.aload 1)] 24 = true := by decide +kernel
theorem kc_X6_addLaw_24 : mx_kV dm_X6_addLaw 24 dm_X1_becomeLike 1 1 := ⟨64, by decide +kernel, md_X1_becomeLike, cv_X6_64, by decide, by decide +kernel⟩
theorem bk_X6_addLaw_27 : mx_blk 6 cX6_addLaw 27 [.inl (.aload 0), .inl (.getfield 385), .inl (.aload 1), .inl (.getfield 64), .inl (.iload 2), .inl .iastore, .inl (.aload 0), .inl .dup, .inl (.getfield 394), .inr (.int 1), .inl .iadd, .inl (.putfield 394), .inl (.iload 2)] 48 = true := by decide +kernel
theorem rt_X6_addLaw_48 : mx_kr dm_X6_addLaw 48 .int := ⟨by decide +kernel, rfl⟩
theorem bk_X6_lawFor_0 : mx_blk 6 cX6_lawFor 0 [.inl (.aload 0), .inl (.getfield 385), .inl (.iload 1), .inl .iaload, .inl (.istore 2), .inl (.iload 2)] 8 = true := by decide +kernel
theorem br_X6_lawFor_8 : mx_brk cX6_lawFor 8 (.ifCond .lt 21) 29 11 = true := by decide +kernel
theorem bk_X6_lawFor_11 : mx_blk 6 cX6_lawFor 11 [.inl (.iload 2), .inl (.aload 0), .inl (.getfield 386), .inl .arraylength] 17 = true := by decide +kernel
theorem br_X6_lawFor_17 : mx_brk cX6_lawFor 17 (.if_icmp .ge 12) 29 20 = true := by decide +kernel
theorem bk_X6_lawFor_20 : mx_blk 6 cX6_lawFor 20 [.inl (.aload 0), .inl (.getfield 386), .inl (.iload 2), .inl (.anewarray 14)] 26 = true := by decide +kernel
theorem gt_X6_lawFor_26 : mx_jmp cX6_lawFor 26 30 = true := by decide +kernel
theorem bk_X6_lawFor_29 : mx_blk 6 cX6_lawFor 29 [.inr .null] 30 = true := by decide +kernel
theorem rt_X6_lawFor_30 : mx_ka dm_X6_lawFor 30 := ⟨by decide +kernel, _, rfl, rfl⟩
theorem bk_X6_draw_0 : mx_blk 6 cX6_draw 0 [.inl (.aload 0), .inl (.aload 0), .inl (.getfield 393), .inr (.int 1103515245), .inl .imul, .inr (.int 12345), .inl .iadd, .inl (.putfield 393), .inl (.aload 0), .inl (.getfield 393), .inr (.int 8), .inl .iushr] 22 = true := by decide +kernel
theorem rt_X6_draw_22 : mx_kr dm_X6_draw 22 .int := ⟨by decide +kernel, rfl⟩
theorem bk_X6_fairAt_0 : mx_blk 6 cX6_fairAt 0 [.inl (.aload 0), .inl (.iload 1)] 2 = true := by decide +kernel
theorem kc_X6_fairAt_2 : mx_kV dm_X6_fairAt 2 dm_X6_has 6 1 := ⟨73, by decide +kernel, md_X6_has, cv_X6_73, by decide, by decide +kernel⟩
theorem br_X6_fairAt_5 : mx_brk cX6_fairAt 5 (.ifCond .eq 23) 28 8 = true := by decide +kernel
theorem bk_X6_fairAt_8 : mx_blk 6 cX6_fairAt 8 [.inl (.aload 0), .inl (.getfield 384), .inl (.iload 1), .inl (.anewarray 13), .inl (.getfield 4), .inl (.aload 0), .inl (.getfield 392)] 21 = true := by decide +kernel
theorem br_X6_fairAt_21 : mx_brk cX6_fairAt 21 (.if_icmp .ne 7) 28 24 = true := by decide +kernel
theorem bk_X6_fairAt_24 : mx_blk 6 cX6_fairAt 24 [.inr (.int 1)] 25 = true := by decide +kernel
theorem gt_X6_fairAt_25 : mx_jmp cX6_fairAt 25 29 = true := by decide +kernel
theorem bk_X6_fairAt_28 : mx_blk 6 cX6_fairAt 28 [.inr (.int 0)] 29 = true := by decide +kernel
theorem rt_X6_fairAt_29 : mx_kr dm_X6_fairAt 29 .int := ⟨by decide +kernel, rfl⟩
theorem bk_X6_fairs_0 : mx_blk 6 cX6_fairs 0 [.inr (.int 0), .inl (.istore 1), .inr (.int 0), .inl (.istore 2)] 4 = true := by decide +kernel
theorem bk_X6_fairs_4 : mx_blk 6 cX6_fairs 4 [.inl (.iload 2), .inl (.aload 0), .inl (.getfield 388)] 9 = true := by decide +kernel
theorem br_X6_fairs_9 : mx_brk cX6_fairs 9 (.if_icmp .ge 17) 26 12 = true := by decide +kernel
theorem bk_X6_fairs_12 : mx_blk 6 cX6_fairs 12 [.inl (.iload 1), .inl (.aload 0), .inl (.iload 2)] 15 = true := by decide +kernel
theorem kc_X6_fairs_15 : mx_kV dm_X6_fairs 15 dm_X6_fairAt 6 1 := ⟨80, by decide +kernel, md_X6_fairAt, cv_X6_80, by decide, by decide +kernel⟩
theorem bk_X6_fairs_18 : mx_blk 6 cX6_fairs 18 [.inl .iadd, .inl (.istore 1), .inl (.iinc 2 1)] 23 = true := by decide +kernel
theorem gt_X6_fairs_23 : mx_jmp cX6_fairs 23 4 = true := by decide +kernel
theorem bk_X6_fairs_26 : mx_blk 6 cX6_fairs 26 [.inl (.iload 1)] 27 = true := by decide +kernel
theorem rt_X6_fairs_27 : mx_kr dm_X6_fairs 27 .int := ⟨by decide +kernel, rfl⟩
theorem bk_X6_pursesOfAll_0 : mx_blk 6 cX6_pursesOfAll 0 [.inr (.int 0), .inl (.istore 1), .inr (.int 0), .inl (.istore 2)] 4 = true := by decide +kernel
theorem bk_X6_pursesOfAll_4 : mx_blk 6 cX6_pursesOfAll 4 [.inl (.iload 2), .inl (.aload 0), .inl (.getfield 388)] 9 = true := by decide +kernel
theorem br_X6_pursesOfAll_9 : mx_brk cX6_pursesOfAll 9 (.if_icmp .ge 21) 30 12 = true := by decide +kernel
theorem bk_X6_pursesOfAll_12 : mx_blk 6 cX6_pursesOfAll 12 [.inl (.iload 1), .inl (.aload 0), .inl (.getfield 384), .inl (.iload 2), .inl (.anewarray 13), .inl (.getfield 7), .inl .iadd, .inl (.istore 1), .inl (.iinc 2 1)] 27 = true := by decide +kernel
theorem gt_X6_pursesOfAll_27 : mx_jmp cX6_pursesOfAll 27 4 = true := by decide +kernel
theorem bk_X6_pursesOfAll_30 : mx_blk 6 cX6_pursesOfAll 30 [.inl (.iload 1)] 31 = true := by decide +kernel
theorem rt_X6_pursesOfAll_31 : mx_kr dm_X6_pursesOfAll 31 .int := ⟨by decide +kernel, rfl⟩
theorem bk_X6_bornOfAll_0 : mx_blk 6 cX6_bornOfAll 0 [.inr (.int 0), .inl (.istore 1), .inr (.int 0), .inl (.istore 2)] 4 = true := by decide +kernel
theorem bk_X6_bornOfAll_4 : mx_blk 6 cX6_bornOfAll 4 [.inl (.iload 2), .inl (.aload 0), .inl (.getfield 388)] 9 = true := by decide +kernel
theorem br_X6_bornOfAll_9 : mx_brk cX6_bornOfAll 9 (.if_icmp .ge 21) 30 12 = true := by decide +kernel
theorem bk_X6_bornOfAll_12 : mx_blk 6 cX6_bornOfAll 12 [.inl (.iload 1), .inl (.aload 0), .inl (.getfield 384), .inl (.iload 2), .inl (.anewarray 13), .inl (.getfield 5), .inl .iadd, .inl (.istore 1), .inl (.iinc 2 1)] 27 = true := by decide +kernel
theorem gt_X6_bornOfAll_27 : mx_jmp cX6_bornOfAll 27 4 = true := by decide +kernel
theorem bk_X6_bornOfAll_30 : mx_blk 6 cX6_bornOfAll 30 [.inl (.iload 1)] 31 = true := by decide +kernel
theorem rt_X6_bornOfAll_31 : mx_kr dm_X6_bornOfAll 31 .int := ⟨by decide +kernel, rfl⟩
theorem bk_X6_birthsOf_0 : mx_blk 6 cX6_birthsOf 0 [.inl (.aload 0), .inr (.int 0)] 2 = true := by decide +kernel
theorem kc_X6_birthsOf_2 : mx_kV dm_X6_birthsOf 2 dm_X6_lawFor 6 1 := ⟨90, by decide +kernel, md_X6_lawFor, cv_X6_90, by decide, by decide +kernel⟩
theorem bk_X6_birthsOf_5 : mx_blk 6 cX6_birthsOf 5 [.inl (.astore 3), .inl (.aload 3)] 7 = true := by decide +kernel
theorem br_X6_birthsOf_7 : mx_brk cX6_birthsOf 7 (.ifnonnull 7) 14 10 = true := by decide +kernel
theorem bk_X6_birthsOf_10 : mx_blk 6 cX6_birthsOf 10 [.inl (.iload 2)] 11 = true := by decide +kernel
theorem gt_X6_birthsOf_11 : mx_jmp cX6_birthsOf 11 31 = true := by decide +kernel
theorem bk_X6_birthsOf_14 : mx_blk 6 cX6_birthsOf 14 [.inl (.aload 0), .inl (.getfield 387), .inl (.aload 3), .inl (.iload 2), .inl (.aload 1), .inl (.getfield 3), .inl (.aload 1), .inl (.getfield 4)] 28 = true := by decide +kernel
theorem kc_X6_birthsOf_28 : mx_kV dm_X6_birthsOf 28 dm_X3_gives 3 4 := ⟨97, by decide +kernel, md_X3_gives, cv_X6_97, by decide, by decide +kernel⟩
theorem bk_X6_birthsOf_31 : mx_blk 6 cX6_birthsOf 31 [.inl (.istore 4), .inl (.aload 1), .inl (.iload 4), .inr (.int 0), .inr (.int 30)] 39 = true := by decide +kernel
theorem kc_X6_birthsOf_39 : mx_kS dm_X6_birthsOf 39 dm_X7_held 3 := ⟨101, by decide +kernel, md_X7_held, cs_X6_101⟩
theorem kc_X6_birthsOf_42 : mx_kV dm_X6_birthsOf 42 dm_X0_birthsByKind 0 1 := ⟨105, by decide +kernel, md_X0_birthsByKind, cv_X6_105, by decide, by decide +kernel⟩
theorem rt_X6_birthsOf_45 : mx_kr dm_X6_birthsOf 45 .int := ⟨by decide +kernel, rfl⟩
theorem bk_X6_wageOf_0 : mx_blk 6 cX6_wageOf 0 [.inl (.aload 0), .inr (.int 1)] 2 = true := by decide +kernel
theorem kc_X6_wageOf_2 : mx_kV dm_X6_wageOf 2 dm_X6_lawFor 6 1 := ⟨90, by decide +kernel, md_X6_lawFor, cv_X6_90, by decide, by decide +kernel⟩
theorem bk_X6_wageOf_5 : mx_blk 6 cX6_wageOf 5 [.inl (.astore 2), .inl (.aload 2)] 7 = true := by decide +kernel
theorem br_X6_wageOf_7 : mx_brk cX6_wageOf 7 (.ifnonnull 10) 17 10 = true := by decide +kernel
theorem bk_X6_wageOf_10 : mx_blk 6 cX6_wageOf 10 [.inl (.aload 0), .inl (.getfield 390)] 14 = true := by decide +kernel
theorem gt_X6_wageOf_14 : mx_jmp cX6_wageOf 14 41 = true := by decide +kernel
theorem bk_X6_wageOf_17 : mx_blk 6 cX6_wageOf 17 [.inl (.aload 0), .inl (.getfield 387), .inl (.aload 2), .inl (.aload 1), .inl (.getfield 3), .inl (.aload 1), .inl (.getfield 2), .inr (.int 0)] 31 = true := by decide +kernel
theorem kc_X6_wageOf_31 : mx_kV dm_X6_wageOf 31 dm_X3_gives 3 4 := ⟨97, by decide +kernel, md_X3_gives, cv_X6_97, by decide, by decide +kernel⟩
theorem bk_X6_wageOf_34 : mx_blk 6 cX6_wageOf 34 [.inr (.int 0), .inr (.int 9999)] 38 = true := by decide +kernel
theorem kc_X6_wageOf_38 : mx_kS dm_X6_wageOf 38 dm_X7_held 3 := ⟨101, by decide +kernel, md_X7_held, cs_X6_101⟩
theorem rt_X6_wageOf_41 : mx_kr dm_X6_wageOf 41 .int := ⟨by decide +kernel, rfl⟩
theorem bk_X6_liveDay_0 : mx_blk 6 cX6_liveDay 0 [.inr (.int 0), .inl (.istore 2), .inr (.int 0), .inl (.istore 3)] 4 = true := by decide +kernel
theorem bk_X6_liveDay_4 : mx_blk 6 cX6_liveDay 4 [.inl (.iload 3), .inl (.aload 0), .inl (.getfield 388)] 9 = true := by decide +kernel
theorem br_X6_liveDay_9 : mx_brk cX6_liveDay 9 (.if_icmp .ge 39) 48 12 = true := by decide +kernel
theorem bk_X6_liveDay_12 : mx_blk 6 cX6_liveDay 12 [.inl (.aload 0)] 13 = true := by decide +kernel
theorem kc_X6_liveDay_13 : mx_kV dm_X6_liveDay 13 dm_X6_draw 6 0 := ⟨111, by decide +kernel, md_X6_draw, cv_X6_111, by decide, by decide +kernel⟩
theorem bk_X6_liveDay_16 : mx_blk 6 cX6_liveDay 16 [.inl (.istore 4), .inl (.iload 1), .inl (.iload 3), .inl .ishr, .inr (.int 1), .inl .iand, .inr (.int 1)] 24 = true := by decide +kernel
theorem br_X6_liveDay_24 : mx_brk cX6_liveDay 24 (.if_icmp .ne 18) 42 27 = true := by decide +kernel
theorem bk_X6_liveDay_27 : mx_blk 6 cX6_liveDay 27 [.inl (.iload 2), .inl (.aload 0), .inl (.aload 0), .inl (.getfield 384), .inl (.iload 3), .inl (.anewarray 13), .inl (.iload 4)] 37 = true := by decide +kernel
theorem kc_X6_liveDay_37 : mx_kV dm_X6_liveDay 37 dm_X6_dayOf 6 2 := ⟨115, by decide +kernel, md_X6_dayOf, cv_X6_115, by decide, by decide +kernel⟩
theorem bk_X6_liveDay_40 : mx_blk 6 cX6_liveDay 40 [.inl .iadd, .inl (.istore 2)] 42 = true := by decide +kernel
theorem bk_X6_liveDay_42 : mx_blk 6 cX6_liveDay 42 [.inl (.iinc 3 1)] 45 = true := by decide +kernel
theorem gt_X6_liveDay_45 : mx_jmp cX6_liveDay 45 4 = true := by decide +kernel
theorem bk_X6_liveDay_48 : mx_blk 6 cX6_liveDay 48 [.inl (.aload 0), .inl .dup, .inl (.getfield 389), .inr (.int 1), .inl .iadd, .inl (.putfield 389), .inl (.iload 2)] 59 = true := by decide +kernel
theorem rt_X6_liveDay_59 : mx_kr dm_X6_liveDay 59 .int := ⟨by decide +kernel, rfl⟩
theorem bk_X6_dayOf_0 : mx_blk 6 cX6_dayOf 0 [.inl (.aload 1), .inl (.getfield 1), .inr (.int 1), .inl .iadd, .inl (.istore 3), .inl (.iload 3)] 8 = true := by decide +kernel
theorem br_X6_dayOf_8 : mx_brk cX6_dayOf 8 (.ifCond .le 9) 17 11 = true := by decide +kernel
theorem bk_X6_dayOf_11 : mx_blk 6 cX6_dayOf 11 [.inl (.iload 2), .inl (.iload 3), .inl .irem] 14 = true := by decide +kernel
theorem gt_X6_dayOf_14 : mx_jmp cX6_dayOf 14 18 = true := by decide +kernel
theorem bk_X6_dayOf_17 : mx_blk 6 cX6_dayOf 17 [.inr (.int 0)] 18 = true := by decide +kernel
theorem bk_X6_dayOf_18 : mx_blk 6 cX6_dayOf 18 [.inl (.istore 4), .inl (.aload 1), .inl .dup, .inl (.getfield 5), .inl (.aload 0), .inl (.aload 1), .inl (.iload 4)] 29 = true := by decide +kernel
theorem kc_X6_dayOf_29 : mx_kV dm_X6_dayOf 29 dm_X6_birthsOf 6 2 := ⟨122, by decide +kernel, md_X6_birthsOf, cv_X6_122, by decide, by decide +kernel⟩
theorem bk_X6_dayOf_32 : mx_blk 6 cX6_dayOf 32 [.inl .iadd, .inl (.putfield 5), .inl (.aload 1), .inl .dup, .inl (.getfield 7), .inl (.aload 0), .inl (.getfield 391), .inl .isub, .inl (.putfield 7), .inl (.aload 1), .inl .dup, .inl (.getfield 4), .inr (.int 1), .inl .iadd, .inl (.putfield 4), .inl (.aload 1), .inl (.getfield 4), .inl (.aload 1), .inl (.getfield 3)] 67 = true := by decide +kernel
theorem br_X6_dayOf_67 : mx_brk cX6_dayOf 67 (.if_icmp .ge 5) 72 70 = true := by decide +kernel
theorem bk_X6_dayOf_70 : mx_blk 6 cX6_dayOf 70 [.inr (.int 0)] 71 = true := by decide +kernel
theorem rt_X6_dayOf_71 : mx_kr dm_X6_dayOf 71 .int := ⟨by decide +kernel, rfl⟩
theorem bk_X6_dayOf_72 : mx_blk 6 cX6_dayOf 72 [.inl (.aload 1), .inl .dup, .inl (.getfield 7), .inl (.aload 0), .inl (.aload 1)] 79 = true := by decide +kernel
theorem kc_X6_dayOf_79 : mx_kV dm_X6_dayOf 79 dm_X6_wageOf 6 1 := ⟨125, by decide +kernel, md_X6_wageOf, cv_X6_125, by decide, by decide +kernel⟩
theorem bk_X6_dayOf_82 : mx_blk 6 cX6_dayOf 82 [.inl .iadd, .inl (.putfield 7), .inl (.aload 1)] 87 = true := by decide +kernel
theorem kc_X6_dayOf_87 : mx_kV dm_X6_dayOf 87 dm_X0_beginWeek 0 0 := ⟨129, by decide +kernel, md_X0_beginWeek, cv_X6_129, by decide, by decide +kernel⟩
theorem bk_X6_dayOf_90 : mx_blk 6 cX6_dayOf 90 [.inr (.int 1)] 91 = true := by decide +kernel
theorem rt_X6_dayOf_91 : mx_kr dm_X6_dayOf 91 .int := ⟨by decide +kernel, rfl⟩
theorem bk_J0_length_8abf5_0 : mx_blk 10 cJ0_length_8abf5 0 [.inl (.aload 0)] 1 = true := by decide +kernel
theorem dd_J0_length_8abf5_1 : decode cJ0_length_8abf5 1 = .ok (.getfield 9, 3) := by decide +kernel
theorem dd_J0_length_8abf5_4 : decode cJ0_length_8abf5 4 = .ok (.arraylength, 1) := by decide +kernel
theorem bk_J0_length_8abf5_5 : mx_blk 10 cJ0_length_8abf5 5 [.inl (.aload 0)] 6 = true := by decide +kernel
theorem kc_J0_length_8abf5_6 : mx_kT dm_J0_length_8abf5 6 dm_J0_coder_7d493 0 := ⟨335, by decide +kernel, md_J0_coder_7d493, cv_J0_335, by decide +kernel⟩
theorem bk_J0_length_8abf5_9 : mx_blk 10 cJ0_length_8abf5 9 [.inl .ishr] 10 = true := by decide +kernel
theorem rt_J0_length_8abf5_10 : mx_kr dm_J0_length_8abf5 10 .int := ⟨by decide +kernel, rfl⟩
theorem bk_J0_charAt_5068e_0 : mx_blk 10 cJ0_charAt_5068e 0 [.inl (.aload 0)] 1 = true := by decide +kernel
theorem kc_J0_charAt_5068e_1 : mx_kT dm_J0_charAt_5068e 1 dm_J0_isLatin1_aae02 0 := ⟨492, by decide +kernel, md_J0_isLatin1_aae02, cv_J0_492, by decide +kernel⟩
theorem br_J0_charAt_5068e_4 : mx_brk cJ0_charAt_5068e 4 (.ifCond .eq 12) 16 7 = true := by decide +kernel
theorem bk_J0_charAt_5068e_7 : mx_blk 10 cJ0_charAt_5068e 7 [.inl (.aload 0)] 8 = true := by decide +kernel
theorem dd_J0_charAt_5068e_8 : decode cJ0_charAt_5068e 8 = .ok (.getfield 9, 3) := by decide +kernel
theorem bk_J0_charAt_5068e_11 : mx_blk 10 cJ0_charAt_5068e 11 [.inl (.iload 1)] 12 = true := by decide +kernel
theorem kc_J0_charAt_5068e_12 : mx_kS dm_J0_charAt_5068e 12 dm_J1_charAt_3b067 2 := ⟨495, by decide +kernel, md_J1_charAt_3b067, cs_J0_495⟩
theorem rt_J0_charAt_5068e_15 : mx_kr dm_J0_charAt_5068e 15 .char := ⟨by decide +kernel, rfl⟩
theorem bk_J0_charAt_5068e_16 : mx_blk 10 cJ0_charAt_5068e 16 [.inl (.aload 0)] 17 = true := by decide +kernel
theorem dd_J0_charAt_5068e_17 : decode cJ0_charAt_5068e 17 = .ok (.getfield 9, 3) := by decide +kernel
theorem bk_J0_charAt_5068e_20 : mx_blk 10 cJ0_charAt_5068e 20 [.inl (.iload 1)] 21 = true := by decide +kernel
theorem rt_J0_charAt_5068e_24 : mx_kr dm_J0_charAt_5068e 24 .char := ⟨by decide +kernel, rfl⟩
theorem bk_J0_indexOf_0f7a4_0 : mx_blk 10 cJ0_indexOf_0f7a4 0 [.inl (.aload 0), .inl (.iload 1), .inr (.int 0)] 3 = true := by decide +kernel
theorem kc_J0_indexOf_0f7a4_3 : mx_kT dm_J0_indexOf_0f7a4 3 dm_J0_indexOf_7cf53 2 := ⟨633, by decide +kernel, md_J0_indexOf_7cf53, cv_J0_633, by decide +kernel⟩
theorem rt_J0_indexOf_0f7a4_6 : mx_kr dm_J0_indexOf_0f7a4 6 .int := ⟨by decide +kernel, rfl⟩
theorem bk_J0_indexOf_7cf53_0 : mx_blk 10 cJ0_indexOf_7cf53 0 [.inl (.aload 0)] 1 = true := by decide +kernel
theorem kc_J0_indexOf_7cf53_1 : mx_kT dm_J0_indexOf_7cf53 1 dm_J0_isLatin1_aae02 0 := ⟨492, by decide +kernel, md_J0_isLatin1_aae02, cv_J0_492, by decide +kernel⟩
theorem br_J0_indexOf_7cf53_4 : mx_brk cJ0_indexOf_7cf53 4 (.ifCond .eq 19) 23 7 = true := by decide +kernel
theorem bk_J0_indexOf_7cf53_7 : mx_blk 10 cJ0_indexOf_7cf53 7 [.inl (.aload 0)] 8 = true := by decide +kernel
theorem dd_J0_indexOf_7cf53_8 : decode cJ0_indexOf_7cf53 8 = .ok (.getfield 9, 3) := by decide +kernel
theorem bk_J0_indexOf_7cf53_11 : mx_blk 10 cJ0_indexOf_7cf53 11 [.inl (.iload 1), .inl (.iload 2), .inl (.aload 0)] 14 = true := by decide +kernel
theorem kc_J0_indexOf_7cf53_14 : mx_kT dm_J0_indexOf_7cf53 14 dm_J0_length_8abf5 0 := ⟨505, by decide +kernel, md_J0_length_8abf5, cv_J0_505, by decide +kernel⟩
theorem kc_J0_indexOf_7cf53_17 : mx_kS dm_J0_indexOf_7cf53 17 dm_J1_indexOf_4cfef 4 := ⟨637, by decide +kernel, md_J1_indexOf_4cfef, cs_J0_637⟩
theorem gt_J0_indexOf_7cf53_20 : mx_jmp cJ0_indexOf_7cf53 20 36 = true := by decide +kernel
theorem bk_J0_indexOf_7cf53_23 : mx_blk 10 cJ0_indexOf_7cf53 23 [.inl (.aload 0)] 24 = true := by decide +kernel
theorem dd_J0_indexOf_7cf53_24 : decode cJ0_indexOf_7cf53 24 = .ok (.getfield 9, 3) := by decide +kernel
theorem bk_J0_indexOf_7cf53_27 : mx_blk 10 cJ0_indexOf_7cf53 27 [.inl (.iload 1), .inl (.iload 2), .inl (.aload 0)] 30 = true := by decide +kernel
theorem kc_J0_indexOf_7cf53_30 : mx_kT dm_J0_indexOf_7cf53 30 dm_J0_length_8abf5 0 := ⟨505, by decide +kernel, md_J0_length_8abf5, cv_J0_505, by decide +kernel⟩
theorem rt_J0_indexOf_7cf53_36 : mx_kr dm_J0_indexOf_7cf53 36 .int := ⟨by decide +kernel, rfl⟩
theorem dd_J0_coder_7d493_0 : decode cJ0_coder_7d493 0 = .ok (.getstatic 38, 3) := by decide +kernel
theorem br_J0_coder_7d493_3 : mx_brk cJ0_coder_7d493 3 (.ifCond .eq 10) 13 6 = true := by decide +kernel
theorem bk_J0_coder_7d493_6 : mx_blk 10 cJ0_coder_7d493 6 [.inl (.aload 0)] 7 = true := by decide +kernel
theorem dd_J0_coder_7d493_7 : decode cJ0_coder_7d493 7 = .ok (.getfield 15, 3) := by decide +kernel
theorem gt_J0_coder_7d493_10 : mx_jmp cJ0_coder_7d493 10 14 = true := by decide +kernel
theorem bk_J0_coder_7d493_13 : mx_blk 10 cJ0_coder_7d493 13 [.inr (.int 1)] 14 = true := by decide +kernel
theorem rt_J0_coder_7d493_14 : mx_kr dm_J0_coder_7d493 14 .byte := ⟨by decide +kernel, rfl⟩
theorem dd_J0_isLatin1_aae02_0 : decode cJ0_isLatin1_aae02 0 = .ok (.getstatic 38, 3) := by decide +kernel
theorem br_J0_isLatin1_aae02_3 : mx_brk cJ0_isLatin1_aae02 3 (.ifCond .eq 14) 17 6 = true := by decide +kernel
theorem bk_J0_isLatin1_aae02_6 : mx_blk 10 cJ0_isLatin1_aae02 6 [.inl (.aload 0)] 7 = true := by decide +kernel
theorem dd_J0_isLatin1_aae02_7 : decode cJ0_isLatin1_aae02 7 = .ok (.getfield 15, 3) := by decide +kernel
theorem br_J0_isLatin1_aae02_10 : mx_brk cJ0_isLatin1_aae02 10 (.ifCond .ne 7) 17 13 = true := by decide +kernel
theorem bk_J0_isLatin1_aae02_13 : mx_blk 10 cJ0_isLatin1_aae02 13 [.inr (.int 1)] 14 = true := by decide +kernel
theorem gt_J0_isLatin1_aae02_14 : mx_jmp cJ0_isLatin1_aae02 14 18 = true := by decide +kernel
theorem bk_J0_isLatin1_aae02_17 : mx_blk 10 cJ0_isLatin1_aae02 17 [.inr (.int 0)] 18 = true := by decide +kernel
theorem rt_J0_isLatin1_aae02_18 : mx_kr dm_J0_isLatin1_aae02 18 .boolean := ⟨by decide +kernel, rfl⟩
theorem bk_J1_charAt_3b067_0 : mx_blk 11 cJ1_charAt_3b067 0 [.inl (.iload 1), .inl (.aload 0)] 2 = true := by decide +kernel
theorem dd_J1_charAt_3b067_2 : decode cJ1_charAt_3b067 2 = .ok (.arraylength, 1) := by decide +kernel
theorem bk_J1_charAt_3b067_6 : mx_blk 11 cJ1_charAt_3b067 6 [.inl (.aload 0), .inl (.iload 1)] 8 = true := by decide +kernel
theorem dd_J1_charAt_3b067_8 : decode cJ1_charAt_3b067 8 = .ok (.baload, 1) := by decide +kernel
theorem bk_J1_charAt_3b067_9 : mx_blk 11 cJ1_charAt_3b067 9 [.inr (.int 255), .inl .iand, .inl .i2c] 14 = true := by decide +kernel
theorem rt_J1_charAt_3b067_14 : mx_kr dm_J1_charAt_3b067 14 .char := ⟨by decide +kernel, rfl⟩
theorem bk_J1_canEncode_9a6ad_0 : mx_blk 11 cJ1_canEncode_9a6ad 0 [.inl (.iload 0)] 1 = true := by decide +kernel
theorem br_J1_canEncode_9a6ad_1 : mx_brk cJ1_canEncode_9a6ad 1 (.ifCond .lt 14) 15 4 = true := by decide +kernel
theorem bk_J1_canEncode_9a6ad_4 : mx_blk 11 cJ1_canEncode_9a6ad 4 [.inl (.iload 0), .inr (.int 255)] 8 = true := by decide +kernel
theorem br_J1_canEncode_9a6ad_8 : mx_brk cJ1_canEncode_9a6ad 8 (.if_icmp .gt 7) 15 11 = true := by decide +kernel
theorem bk_J1_canEncode_9a6ad_11 : mx_blk 11 cJ1_canEncode_9a6ad 11 [.inr (.int 1)] 12 = true := by decide +kernel
theorem gt_J1_canEncode_9a6ad_12 : mx_jmp cJ1_canEncode_9a6ad 12 16 = true := by decide +kernel
theorem bk_J1_canEncode_9a6ad_15 : mx_blk 11 cJ1_canEncode_9a6ad 15 [.inr (.int 0)] 16 = true := by decide +kernel
theorem rt_J1_canEncode_9a6ad_16 : mx_kr dm_J1_canEncode_9a6ad 16 .boolean := ⟨by decide +kernel, rfl⟩
theorem bk_J1_indexOf_4cfef_0 : mx_blk 11 cJ1_indexOf_4cfef 0 [.inl (.iload 1)] 1 = true := by decide +kernel
theorem kc_J1_indexOf_4cfef_1 : mx_kS dm_J1_indexOf_4cfef 1 dm_J1_canEncode_9a6ad 1 := ⟨88, by decide +kernel, md_J1_canEncode_9a6ad, cs_J1_88⟩
theorem br_J1_indexOf_4cfef_4 : mx_brk cJ1_indexOf_4cfef 4 (.ifCond .ne 5) 9 7 = true := by decide +kernel
theorem bk_J1_indexOf_4cfef_7 : mx_blk 11 cJ1_indexOf_4cfef 7 [.inr (.int (-1))] 8 = true := by decide +kernel
theorem rt_J1_indexOf_4cfef_8 : mx_kr dm_J1_indexOf_4cfef 8 .int := ⟨by decide +kernel, rfl⟩
theorem bk_J1_indexOf_4cfef_9 : mx_blk 11 cJ1_indexOf_4cfef 9 [.inl (.iload 2), .inr (.int 0)] 11 = true := by decide +kernel
theorem kc_J1_indexOf_4cfef_11 : mx_km dm_J1_indexOf_4cfef 11 Lib.Math.max.name := ⟨92, by decide +kernel, mx_gw (i := 722) (by decide +kernel)⟩
theorem bk_J1_indexOf_4cfef_14 : mx_blk 11 cJ1_indexOf_4cfef 14 [.inl (.istore 2), .inl (.iload 3), .inl (.aload 0)] 17 = true := by decide +kernel
theorem dd_J1_indexOf_4cfef_17 : decode cJ1_indexOf_4cfef 17 = .ok (.arraylength, 1) := by decide +kernel
theorem kc_J1_indexOf_4cfef_18 : mx_km dm_J1_indexOf_4cfef 18 Lib.Math.min.name := ⟨38, by decide +kernel, mx_gw (i := 723) (by decide +kernel)⟩
theorem bk_J1_indexOf_4cfef_21 : mx_blk 11 cJ1_indexOf_4cfef 21 [.inl (.istore 3), .inl (.iload 2), .inl (.iload 3)] 24 = true := by decide +kernel
theorem br_J1_indexOf_4cfef_24 : mx_brk cJ1_indexOf_4cfef 24 (.if_icmp .lt 5) 29 27 = true := by decide +kernel
theorem bk_J1_indexOf_4cfef_27 : mx_blk 11 cJ1_indexOf_4cfef 27 [.inr (.int (-1))] 28 = true := by decide +kernel
theorem rt_J1_indexOf_4cfef_28 : mx_kr dm_J1_indexOf_4cfef 28 .int := ⟨by decide +kernel, rfl⟩
theorem bk_J1_indexOf_4cfef_29 : mx_blk 11 cJ1_indexOf_4cfef 29 [.inl (.aload 0), .inl (.iload 1), .inl (.iload 2), .inl (.iload 3)] 33 = true := by decide +kernel
theorem kc_J1_indexOf_4cfef_33 : mx_kS dm_J1_indexOf_4cfef 33 dm_J1_indexOfChar_4cfef 4 := ⟨95, by decide +kernel, md_J1_indexOfChar_4cfef, cs_J1_95⟩
theorem rt_J1_indexOf_4cfef_36 : mx_kr dm_J1_indexOf_4cfef 36 .int := ⟨by decide +kernel, rfl⟩
theorem bk_J1_indexOfChar_4cfef_0 : mx_blk 11 cJ1_indexOfChar_4cfef 0 [.inl (.iload 1), .inl .i2b, .inl (.istore 4), .inl (.iload 2), .inl (.istore 5)] 7 = true := by decide +kernel
theorem bk_J1_indexOfChar_4cfef_7 : mx_blk 11 cJ1_indexOfChar_4cfef 7 [.inl (.iload 5), .inl (.iload 3)] 10 = true := by decide +kernel
theorem br_J1_indexOfChar_4cfef_10 : mx_brk cJ1_indexOfChar_4cfef 10 (.if_icmp .ge 21) 31 13 = true := by decide +kernel
theorem bk_J1_indexOfChar_4cfef_13 : mx_blk 11 cJ1_indexOfChar_4cfef 13 [.inl (.aload 0), .inl (.iload 5)] 16 = true := by decide +kernel
theorem dd_J1_indexOfChar_4cfef_16 : decode cJ1_indexOfChar_4cfef 16 = .ok (.baload, 1) := by decide +kernel
theorem bk_J1_indexOfChar_4cfef_17 : mx_blk 11 cJ1_indexOfChar_4cfef 17 [.inl (.iload 4)] 19 = true := by decide +kernel
theorem br_J1_indexOfChar_4cfef_19 : mx_brk cJ1_indexOfChar_4cfef 19 (.if_icmp .ne 6) 25 22 = true := by decide +kernel
theorem bk_J1_indexOfChar_4cfef_22 : mx_blk 11 cJ1_indexOfChar_4cfef 22 [.inl (.iload 5)] 24 = true := by decide +kernel
theorem rt_J1_indexOfChar_4cfef_24 : mx_kr dm_J1_indexOfChar_4cfef 24 .int := ⟨by decide +kernel, rfl⟩
theorem bk_J1_indexOfChar_4cfef_25 : mx_blk 11 cJ1_indexOfChar_4cfef 25 [.inl (.iinc 5 1)] 28 = true := by decide +kernel
theorem gt_J1_indexOfChar_4cfef_28 : mx_jmp cJ1_indexOfChar_4cfef 28 7 = true := by decide +kernel
theorem bk_J1_indexOfChar_4cfef_31 : mx_blk 11 cJ1_indexOfChar_4cfef 31 [.inr (.int (-1))] 32 = true := by decide +kernel
theorem rt_J1_indexOfChar_4cfef_32 : mx_kr dm_J1_indexOfChar_4cfef 32 .int := ⟨by decide +kernel, rfl⟩
end
section
theorem bk_X7_init_0 : mx_blk 7 cX7_init 0 [.inl (.aload 0)] 1 = true := by decide +kernel
theorem kc_X7_init_1 : mx_ko dm_X7_init 1 := ⟨1, by decide +kernel, mx_gw (i := 76) (by decide +kernel)⟩
theorem bk_X7_init_4 : mx_blk 7 cX7_init 4 [.inl (.aload 0), .inr (.int 0), .inl (.putfield 452), .inl (.aload 0), .inr (.int 96)] 12 = true := by decide +kernel
theorem dd_X7_init_12 : decode cX7_init 12 = .ok (.newarray .byte, 2) := by decide +kernel
theorem bk_X7_init_14 : mx_blk 7 cX7_init 14 [.inl (.putfield 453), .inl (.aload 0), .inr (.int 0), .inl (.putfield 454), .inl (.aload 0)] 23 = true := by decide +kernel
theorem kc_X7_init_23 : mx_kn dm_X7_init 23 2 := ⟨21, by decide +kernel, by decide +kernel, by decide⟩
theorem bk_X7_init_26 : mx_blk 7 cX7_init 26 [.inl .dup] 27 = true := by decide +kernel
theorem kc_X7_init_27 : mx_kI dm_X7_init 27 dm_X2_init 0 := ⟨23, by decide +kernel, md_X2_init, ci_X7_23⟩
theorem bk_X7_init_30 : mx_blk 7 cX7_init 30 [.inl (.putfield 455), .inl (.aload 0)] 34 = true := by decide +kernel
theorem kc_X7_init_34 : mx_kn dm_X7_init 34 1 := ⟨28, by decide +kernel, by decide +kernel, by decide⟩
theorem bk_X7_init_37 : mx_blk 7 cX7_init 37 [.inl .dup] 38 = true := by decide +kernel
theorem kc_X7_init_38 : mx_kI dm_X7_init 38 dm_X1_init 0 := ⟨30, by decide +kernel, md_X1_init, ci_X7_30⟩
theorem bk_X7_init_41 : mx_blk 7 cX7_init 41 [.inl (.putfield 456), .inl (.aload 0), .inr (.int 4)] 46 = true := by decide +kernel
theorem kc_X7_init_46 : mx_kq dm_X7_init 46 15 := ⟨35, by decide +kernel, by decide +kernel, by decide, by decide⟩
theorem bk_X7_init_49 : mx_blk 7 cX7_init 49 [.inl (.putfield 457), .inl (.aload 0), .inr (.int 5)] 54 = true := by decide +kernel
theorem kc_X7_init_54 : mx_kq dm_X7_init 54 16 := ⟨41, by decide +kernel, by decide +kernel, by decide, by decide⟩
theorem bk_X7_init_57 : mx_blk 7 cX7_init 57 [.inl (.putfield 458), .inl (.aload 0), .inr (.int 60)] 63 = true := by decide +kernel
theorem dd_X7_init_63 : decode cX7_init 63 = .ok (.newarray .int, 2) := by decide +kernel
theorem bk_X7_init_65 : mx_blk 7 cX7_init 65 [.inl (.putfield 459), .inl (.aload 0), .inr (.int 0), .inl (.putfield 460), .inl (.aload 0), .inr (.int 6)] 76 = true := by decide +kernel
theorem dd_X7_init_76 : decode cX7_init 76 = .ok (.newarray .int, 2) := by decide +kernel
theorem bk_X7_init_78 : mx_blk 7 cX7_init 78 [.inl (.putfield 461), .inl (.aload 0), .inr (.int 6)] 84 = true := by decide +kernel
theorem dd_X7_init_84 : decode cX7_init 84 = .ok (.newarray .int, 2) := by decide +kernel
theorem bk_X7_init_86 : mx_blk 7 cX7_init 86 [.inl (.putfield 462), .inr (.int 14)] 91 = true := by decide +kernel
theorem kc_X7_init_91 : mx_kq dm_X7_init 91 14 := ⟨28, by decide +kernel, by decide +kernel, by decide, by decide⟩
theorem bk_X7_init_94 : mx_blk 7 cX7_init 94 [.inl (.astore 1), .inr (.int 0), .inl (.istore 2)] 97 = true := by decide +kernel
theorem bk_X7_init_97 : mx_blk 7 cX7_init 97 [.inl (.iload 2), .inl (.aload 1), .inl .arraylength] 100 = true := by decide +kernel
theorem br_X7_init_100 : mx_brk cX7_init 100 (.if_icmp .ge 19) 119 103 = true := by decide +kernel
theorem bk_X7_init_103 : mx_blk 7 cX7_init 103 [.inl (.aload 1), .inl (.iload 2)] 105 = true := by decide +kernel
theorem kc_X7_init_105 : mx_kn dm_X7_init 105 1 := ⟨28, by decide +kernel, by decide +kernel, by decide⟩
theorem bk_X7_init_108 : mx_blk 7 cX7_init 108 [.inl .dup] 109 = true := by decide +kernel
theorem kc_X7_init_109 : mx_kI dm_X7_init 109 dm_X1_init 0 := ⟨30, by decide +kernel, md_X1_init, ci_X7_30⟩
theorem dd_X7_init_112 : decode cX7_init 112 = .ok (.aastore, 1) := by decide +kernel
theorem bk_X7_init_113 : mx_blk 7 cX7_init 113 [.inl (.iinc 2 1)] 116 = true := by decide +kernel
theorem gt_X7_init_116 : mx_jmp cX7_init 116 97 = true := by decide +kernel
theorem bk_X7_init_119 : mx_blk 7 cX7_init 119 [.inr (.int 0), .inl (.istore 2)] 121 = true := by decide +kernel
theorem bk_X7_init_121 : mx_blk 7 cX7_init 121 [.inl (.iload 2), .inl (.aload 0), .inl (.getfield 457), .inl .arraylength] 127 = true := by decide +kernel
theorem br_X7_init_127 : mx_brk cX7_init 127 (.if_icmp .ge 22) 149 130 = true := by decide +kernel
theorem bk_X7_init_130 : mx_blk 7 cX7_init 130 [.inl (.aload 0), .inl (.getfield 457), .inl (.iload 2)] 135 = true := by decide +kernel
theorem kc_X7_init_135 : mx_kn dm_X7_init 135 4 := ⟨35, by decide +kernel, by decide +kernel, by decide⟩
theorem bk_X7_init_138 : mx_blk 7 cX7_init 138 [.inl .dup] 139 = true := by decide +kernel
theorem kc_X7_init_139 : mx_kI dm_X7_init 139 dm_X4_init 0 := ⟨60, by decide +kernel, md_X4_init, ci_X7_60⟩
theorem dd_X7_init_142 : decode cX7_init 142 = .ok (.aastore, 1) := by decide +kernel
theorem bk_X7_init_143 : mx_blk 7 cX7_init 143 [.inl (.iinc 2 1)] 146 = true := by decide +kernel
theorem gt_X7_init_146 : mx_jmp cX7_init 146 121 = true := by decide +kernel
theorem bk_X7_init_149 : mx_blk 7 cX7_init 149 [.inr (.int 0), .inl (.istore 2)] 151 = true := by decide +kernel
theorem bk_X7_init_151 : mx_blk 7 cX7_init 151 [.inl (.iload 2), .inl (.aload 0), .inl (.getfield 458), .inl .arraylength] 157 = true := by decide +kernel
theorem br_X7_init_157 : mx_brk cX7_init 157 (.if_icmp .ge 22) 179 160 = true := by decide +kernel
theorem bk_X7_init_160 : mx_blk 7 cX7_init 160 [.inl (.aload 0), .inl (.getfield 458), .inl (.iload 2)] 165 = true := by decide +kernel
theorem kc_X7_init_165 : mx_kn dm_X7_init 165 5 := ⟨41, by decide +kernel, by decide +kernel, by decide⟩
theorem bk_X7_init_168 : mx_blk 7 cX7_init 168 [.inl .dup] 169 = true := by decide +kernel
theorem kc_X7_init_169 : mx_kI dm_X7_init 169 dm_X5_init 0 := ⟨61, by decide +kernel, md_X5_init, ci_X7_61⟩
theorem dd_X7_init_172 : decode cX7_init 172 = .ok (.aastore, 1) := by decide +kernel
theorem bk_X7_init_173 : mx_blk 7 cX7_init 173 [.inl (.iinc 2 1)] 176 = true := by decide +kernel
theorem gt_X7_init_176 : mx_jmp cX7_init 176 151 = true := by decide +kernel
theorem bk_X7_init_179 : mx_blk 7 cX7_init 179 [.inl (.aload 0), .inl (.aload 1), .inl (.putfield 448), .inl (.aload 0)] 185 = true := by decide +kernel
theorem kc_X7_init_185 : mx_kn dm_X7_init 185 6 := ⟨66, by decide +kernel, by decide +kernel, by decide⟩
theorem bk_X7_init_188 : mx_blk 7 cX7_init 188 [.inl .dup, .inl (.aload 1)] 190 = true := by decide +kernel
theorem kc_X7_init_190 : mx_kI dm_X7_init 190 dm_X6_init 1 := ⟨68, by decide +kernel, md_X6_init, ci_X7_68⟩
theorem bk_X7_init_193 : mx_blk 7 cX7_init 193 [.inl (.putfield 449), .inl (.aload 0)] 197 = true := by decide +kernel
theorem kc_X7_init_197 : mx_kn dm_X7_init 197 6 := ⟨66, by decide +kernel, by decide +kernel, by decide⟩
theorem bk_X7_init_200 : mx_blk 7 cX7_init 200 [.inl .dup, .inl (.aload 1)] 202 = true := by decide +kernel
theorem kc_X7_init_202 : mx_kI dm_X7_init 202 dm_X6_init 1 := ⟨68, by decide +kernel, md_X6_init, ci_X7_68⟩
theorem bk_X7_init_205 : mx_blk 7 cX7_init 205 [.inl (.putfield 450), .inl (.aload 0)] 209 = true := by decide +kernel
theorem kc_X7_init_209 : mx_kn dm_X7_init 209 6 := ⟨66, by decide +kernel, by decide +kernel, by decide⟩
theorem bk_X7_init_212 : mx_blk 7 cX7_init 212 [.inl .dup, .inl (.aload 1)] 214 = true := by decide +kernel
theorem kc_X7_init_214 : mx_kI dm_X7_init 214 dm_X6_init 1 := ⟨68, by decide +kernel, md_X6_init, ci_X7_68⟩
theorem bk_X7_init_217 : mx_blk 7 cX7_init 217 [.inl (.putfield 451)] 220 = true := by decide +kernel
theorem rt_X7_init_220 : mx_kv dm_X7_init 220 := ⟨by decide +kernel, rfl⟩
theorem bk_X7_district_0 : mx_blk 7 cX7_district 0 [.inl (.iload 1)] 1 = true := by decide +kernel
theorem kc_X7_district_1 : mx_kS dm_X7_district 1 dm_X7_isKind 1 := ⟨81, by decide +kernel, md_X7_isKind, cs_X7_81⟩
theorem br_X7_district_4 : mx_brk cX7_district 4 (.ifCond .eq 13) 17 7 = true := by decide +kernel
theorem bk_X7_district_7 : mx_blk 7 cX7_district 7 [.inl (.iload 2), .inr (.int 0), .inr (.int 9)] 11 = true := by decide +kernel
theorem kc_X7_district_11 : mx_kS dm_X7_district 11 dm_X7_within 3 := ⟨85, by decide +kernel, md_X7_within, cs_X7_85⟩
theorem br_X7_district_14 : mx_brk cX7_district 14 (.ifCond .ne 6) 20 17 = true := by decide +kernel
theorem bk_X7_district_17 : mx_blk 7 cX7_district 17 [.inr (.int (-1000000001))] 19 = true := by decide +kernel
theorem rt_X7_district_19 : mx_kr dm_X7_district 19 .int := ⟨by decide +kernel, rfl⟩
theorem bk_X7_district_20 : mx_blk 7 cX7_district 20 [.inl (.aload 0), .inl (.getfield 449), .inl (.getfield 388), .inr (.int 6)] 29 = true := by decide +kernel
theorem br_X7_district_29 : mx_brk cX7_district 29 (.if_icmp .lt 6) 35 32 = true := by decide +kernel
theorem bk_X7_district_32 : mx_blk 7 cX7_district 32 [.inr (.int (-1000000003))] 34 = true := by decide +kernel
theorem rt_X7_district_34 : mx_kr dm_X7_district 34 .int := ⟨by decide +kernel, rfl⟩
theorem bk_X7_district_35 : mx_blk 7 cX7_district 35 [.inl (.aload 0), .inl (.getfield 449), .inl (.iload 1), .inl (.iload 2)] 41 = true := by decide +kernel
theorem kc_X7_district_41 : mx_kV dm_X7_district 41 dm_X6_addDistrict 6 2 := ⟨94, by decide +kernel, md_X6_addDistrict, cv_X7_94, by decide, by decide +kernel⟩
theorem bk_X7_district_44 : mx_blk 7 cX7_district 44 [.inl (.aload 0), .inl (.getfield 449), .inl (.getfield 388), .inr (.int 1), .inl .isub] 53 = true := by decide +kernel
theorem rt_X7_district_53 : mx_kr dm_X7_district 53 .int := ⟨by decide +kernel, rfl⟩
theorem bk_X7_told_0 : mx_blk 7 cX7_told 0 [.inl (.aload 0), .inl (.getfield 449), .inl (.iload 1)] 5 = true := by decide +kernel
theorem kc_X7_told_5 : mx_kV dm_X7_told 5 dm_X6_has 6 1 := ⟨98, by decide +kernel, md_X6_has, cv_X7_98, by decide, by decide +kernel⟩
theorem br_X7_told_8 : mx_brk cX7_told 8 (.ifCond .ne 6) 14 11 = true := by decide +kernel
theorem bk_X7_told_11 : mx_blk 7 cX7_told 11 [.inr (.int (-1000000001))] 13 = true := by decide +kernel
theorem rt_X7_told_13 : mx_kr dm_X7_told 13 .int := ⟨by decide +kernel, rfl⟩
theorem bk_X7_told_14 : mx_blk 7 cX7_told 14 [.inl (.aload 0), .inl (.getfield 449), .inl (.getfield 384), .inl (.iload 1), .inl (.anewarray 13), .inl (.astore 3), .inl (.iload 2)] 25 = true := by decide +kernel
theorem sw_X7_told_25 : mx_swk cX7_told 25 [(0, 80), (1, 85), (2, 90), (3, 95), (4, 100), (5, 105), (6, 110), (7, 115), (8, 120), (9, 125)] 134 = true := by decide +kernel
theorem bk_X7_told_80 : mx_blk 7 cX7_told 80 [.inl (.aload 3), .inl (.getfield 0)] 84 = true := by decide +kernel
theorem rt_X7_told_84 : mx_kr dm_X7_told 84 .int := ⟨by decide +kernel, rfl⟩
theorem bk_X7_told_85 : mx_blk 7 cX7_told 85 [.inl (.aload 3), .inl (.getfield 1)] 89 = true := by decide +kernel
theorem rt_X7_told_89 : mx_kr dm_X7_told 89 .int := ⟨by decide +kernel, rfl⟩
theorem bk_X7_told_90 : mx_blk 7 cX7_told 90 [.inl (.aload 3), .inl (.getfield 2)] 94 = true := by decide +kernel
theorem rt_X7_told_94 : mx_kr dm_X7_told 94 .int := ⟨by decide +kernel, rfl⟩
theorem bk_X7_told_95 : mx_blk 7 cX7_told 95 [.inl (.aload 3), .inl (.getfield 3)] 99 = true := by decide +kernel
theorem rt_X7_told_99 : mx_kr dm_X7_told 99 .int := ⟨by decide +kernel, rfl⟩
theorem bk_X7_told_100 : mx_blk 7 cX7_told 100 [.inl (.aload 3), .inl (.getfield 4)] 104 = true := by decide +kernel
theorem rt_X7_told_104 : mx_kr dm_X7_told 104 .int := ⟨by decide +kernel, rfl⟩
theorem bk_X7_told_105 : mx_blk 7 cX7_told 105 [.inl (.aload 3), .inl (.getfield 5)] 109 = true := by decide +kernel
theorem rt_X7_told_109 : mx_kr dm_X7_told 109 .int := ⟨by decide +kernel, rfl⟩
theorem bk_X7_told_110 : mx_blk 7 cX7_told 110 [.inl (.aload 3), .inl (.getfield 6)] 114 = true := by decide +kernel
theorem rt_X7_told_114 : mx_kr dm_X7_told 114 .int := ⟨by decide +kernel, rfl⟩
theorem bk_X7_told_115 : mx_blk 7 cX7_told 115 [.inl (.aload 3), .inl (.getfield 7)] 119 = true := by decide +kernel
theorem rt_X7_told_119 : mx_kr dm_X7_told 119 .int := ⟨by decide +kernel, rfl⟩
theorem bk_X7_told_120 : mx_blk 7 cX7_told 120 [.inl (.aload 3)] 121 = true := by decide +kernel
theorem kc_X7_told_121 : mx_kV dm_X7_told 121 dm_X0_worth 0 0 := ⟨131, by decide +kernel, md_X0_worth, cv_X7_131, by decide, by decide +kernel⟩
theorem rt_X7_told_124 : mx_kr dm_X7_told 124 .int := ⟨by decide +kernel, rfl⟩
theorem bk_X7_told_125 : mx_blk 7 cX7_told 125 [.inl (.aload 0), .inl (.getfield 449), .inl (.iload 1)] 130 = true := by decide +kernel
theorem kc_X7_told_130 : mx_kV dm_X7_told 130 dm_X6_fairAt 6 1 := ⟨135, by decide +kernel, md_X6_fairAt, cv_X7_135, by decide, by decide +kernel⟩
theorem rt_X7_told_133 : mx_kr dm_X7_told 133 .int := ⟨by decide +kernel, rfl⟩
theorem bk_X7_told_134 : mx_blk 7 cX7_told 134 [.inr (.int (-1000000001))] 136 = true := by decide +kernel
theorem rt_X7_told_136 : mx_kr dm_X7_told 136 .int := ⟨by decide +kernel, rfl⟩
theorem bk_X7_births_0 : mx_blk 7 cX7_births 0 [.inl (.aload 0), .inl (.getfield 449), .inl (.iload 1)] 5 = true := by decide +kernel
theorem kc_X7_births_5 : mx_kV dm_X7_births 5 dm_X6_has 6 1 := ⟨98, by decide +kernel, md_X6_has, cv_X7_98, by decide, by decide +kernel⟩
theorem br_X7_births_8 : mx_brk cX7_births 8 (.ifCond .eq 13) 21 11 = true := by decide +kernel
theorem bk_X7_births_11 : mx_blk 7 cX7_births 11 [.inl (.iload 2), .inr (.int 0), .inr (.int 9)] 15 = true := by decide +kernel
theorem kc_X7_births_15 : mx_kS dm_X7_births 15 dm_X7_within 3 := ⟨85, by decide +kernel, md_X7_within, cs_X7_85⟩
theorem br_X7_births_18 : mx_brk cX7_births 18 (.ifCond .ne 6) 24 21 = true := by decide +kernel
theorem bk_X7_births_21 : mx_blk 7 cX7_births 21 [.inr (.int (-1000000001))] 23 = true := by decide +kernel
theorem rt_X7_births_23 : mx_kr dm_X7_births 23 .int := ⟨by decide +kernel, rfl⟩
theorem bk_X7_births_24 : mx_blk 7 cX7_births 24 [.inl (.aload 0), .inl (.getfield 449), .inl (.aload 0), .inl (.getfield 449), .inl (.getfield 384), .inl (.iload 1), .inl (.anewarray 13), .inl (.iload 2)] 38 = true := by decide +kernel
theorem kc_X7_births_38 : mx_kV dm_X7_births 38 dm_X6_birthsOf 6 2 := ⟨139, by decide +kernel, md_X6_birthsOf, cv_X7_139, by decide, by decide +kernel⟩
theorem rt_X7_births_41 : mx_kr dm_X7_births 41 .int := ⟨by decide +kernel, rfl⟩
theorem bk_X7_as_0 : mx_blk 7 cX7_as 0 [.inl (.aload 0), .inl (.getfield 449), .inl (.iload 1)] 5 = true := by decide +kernel
theorem kc_X7_as_5 : mx_kV dm_X7_as 5 dm_X6_has 6 1 := ⟨98, by decide +kernel, md_X6_has, cv_X7_98, by decide, by decide +kernel⟩
theorem br_X7_as_8 : mx_brk cX7_as 8 (.ifCond .eq 10) 18 11 = true := by decide +kernel
theorem bk_X7_as_11 : mx_blk 7 cX7_as 11 [.inl (.iload 2)] 12 = true := by decide +kernel
theorem kc_X7_as_12 : mx_kS dm_X7_as 12 dm_X7_isKind 1 := ⟨81, by decide +kernel, md_X7_isKind, cs_X7_81⟩
theorem br_X7_as_15 : mx_brk cX7_as 15 (.ifCond .ne 6) 21 18 = true := by decide +kernel
theorem bk_X7_as_18 : mx_blk 7 cX7_as 18 [.inr (.int (-1000000001))] 20 = true := by decide +kernel
theorem rt_X7_as_20 : mx_kr dm_X7_as 20 .int := ⟨by decide +kernel, rfl⟩
theorem bk_X7_as_21 : mx_blk 7 cX7_as 21 [.inl (.aload 0), .inl (.getfield 449), .inl (.getfield 384), .inl (.iload 1), .inl (.anewarray 13), .inl (.astore 3), .inl (.aload 3), .inl (.iload 2)] 33 = true := by decide +kernel
theorem kc_X7_as_33 : mx_kV dm_X7_as 33 dm_X0_isOf 0 1 := ⟨143, by decide +kernel, md_X0_isOf, cv_X7_143, by decide, by decide +kernel⟩
theorem br_X7_as_36 : mx_brk cX7_as 36 (.ifCond .eq 10) 46 39 = true := by decide +kernel
theorem bk_X7_as_39 : mx_blk 7 cX7_as 39 [.inl (.aload 3), .inl (.getfield 1)] 43 = true := by decide +kernel
theorem gt_X7_as_43 : mx_jmp cX7_as 43 48 = true := by decide +kernel
theorem bk_X7_as_46 : mx_blk 7 cX7_as 46 [.inr (.int (-1000000012))] 48 = true := by decide +kernel
theorem rt_X7_as_48 : mx_kr dm_X7_as 48 .int := ⟨by decide +kernel, rfl⟩
theorem bk_X7_turns_0 : mx_blk 7 cX7_turns 0 [.inl (.aload 0), .inl (.getfield 449), .inl (.iload 1)] 5 = true := by decide +kernel
theorem kc_X7_turns_5 : mx_kV dm_X7_turns 5 dm_X6_has 6 1 := ⟨98, by decide +kernel, md_X6_has, cv_X7_98, by decide, by decide +kernel⟩
theorem br_X7_turns_8 : mx_brk cX7_turns 8 (.ifCond .eq 10) 18 11 = true := by decide +kernel
theorem bk_X7_turns_11 : mx_blk 7 cX7_turns 11 [.inl (.iload 2)] 12 = true := by decide +kernel
theorem kc_X7_turns_12 : mx_kS dm_X7_turns 12 dm_X7_isKind 1 := ⟨81, by decide +kernel, md_X7_isKind, cs_X7_81⟩
theorem br_X7_turns_15 : mx_brk cX7_turns 15 (.ifCond .ne 6) 21 18 = true := by decide +kernel
theorem bk_X7_turns_18 : mx_blk 7 cX7_turns 18 [.inr (.int (-1000000001))] 20 = true := by decide +kernel
theorem rt_X7_turns_20 : mx_kr dm_X7_turns 20 .int := ⟨by decide +kernel, rfl⟩
theorem bk_X7_turns_21 : mx_blk 7 cX7_turns 21 [.inl (.aload 0), .inl (.getfield 449), .inl (.getfield 384), .inl (.iload 1), .inl (.anewarray 13), .inl (.astore 3), .inl (.aload 3), .inl (.getfield 0), .inl (.istore 4), .inl (.aload 3), .inl (.iload 2), .inl (.putfield 0), .inl (.iload 4)] 44 = true := by decide +kernel
theorem rt_X7_turns_44 : mx_kr dm_X7_turns 44 .int := ⟨by decide +kernel, rfl⟩
theorem bk_X7_set_0 : mx_blk 7 cX7_set 0 [.inl (.aload 0), .inl (.getfield 449), .inl (.iload 1)] 5 = true := by decide +kernel
theorem kc_X7_set_5 : mx_kV dm_X7_set 5 dm_X6_has 6 1 := ⟨98, by decide +kernel, md_X6_has, cv_X7_98, by decide, by decide +kernel⟩
theorem br_X7_set_8 : mx_brk cX7_set 8 (.ifCond .ne 6) 14 11 = true := by decide +kernel
theorem bk_X7_set_11 : mx_blk 7 cX7_set 11 [.inr (.int (-1000000001))] 13 = true := by decide +kernel
theorem rt_X7_set_13 : mx_kr dm_X7_set 13 .int := ⟨by decide +kernel, rfl⟩
theorem bk_X7_set_14 : mx_blk 7 cX7_set 14 [.inl (.aload 0), .inl (.getfield 449), .inl (.getfield 384), .inl (.iload 1), .inl (.anewarray 13), .inl (.astore 4), .inr (.int (-1000000001)), .inl (.istore 5), .inl (.iload 2), .inr (.int 1)] 31 = true := by decide +kernel
theorem br_X7_set_31 : mx_brk cX7_set 31 (.if_icmp .ne 29) 60 34 = true := by decide +kernel
theorem bk_X7_set_34 : mx_blk 7 cX7_set 34 [.inl (.iload 3), .inr (.int 0), .inr (.int 9)] 38 = true := by decide +kernel
theorem kc_X7_set_38 : mx_kS dm_X7_set 38 dm_X7_within 3 := ⟨85, by decide +kernel, md_X7_within, cs_X7_85⟩
theorem br_X7_set_41 : mx_brk cX7_set 41 (.ifCond .eq 19) 60 44 = true := by decide +kernel
theorem bk_X7_set_44 : mx_blk 7 cX7_set 44 [.inl (.aload 4), .inl (.getfield 1), .inl (.istore 5), .inl (.aload 4), .inl (.iload 3), .inl (.putfield 1)] 57 = true := by decide +kernel
theorem gt_X7_set_57 : mx_jmp cX7_set 57 126 = true := by decide +kernel
theorem bk_X7_set_60 : mx_blk 7 cX7_set 60 [.inl (.iload 2), .inr (.int 2)] 62 = true := by decide +kernel
theorem br_X7_set_62 : mx_brk cX7_set 62 (.if_icmp .ne 35) 97 65 = true := by decide +kernel
theorem bk_X7_set_65 : mx_blk 7 cX7_set 65 [.inl (.iload 3), .inr (.int 2), .inr (.int 60)] 69 = true := by decide +kernel
theorem kc_X7_set_69 : mx_kS dm_X7_set 69 dm_X7_within 3 := ⟨85, by decide +kernel, md_X7_within, cs_X7_85⟩
theorem br_X7_set_72 : mx_brk cX7_set 72 (.ifCond .eq 25) 97 75 = true := by decide +kernel
theorem bk_X7_set_75 : mx_blk 7 cX7_set 75 [.inl (.aload 4), .inl (.getfield 3), .inl (.istore 5), .inl (.aload 4), .inl (.iload 3), .inl (.putfield 3), .inl (.aload 4), .inr (.int 0), .inl (.putfield 4)] 94 = true := by decide +kernel
theorem gt_X7_set_94 : mx_jmp cX7_set 94 126 = true := by decide +kernel
theorem bk_X7_set_97 : mx_blk 7 cX7_set 97 [.inl (.iload 2), .inr (.int 3)] 99 = true := by decide +kernel
theorem br_X7_set_99 : mx_brk cX7_set 99 (.if_icmp .ne 27) 126 102 = true := by decide +kernel
theorem bk_X7_set_102 : mx_blk 7 cX7_set 102 [.inl (.iload 3), .inr (.int (-99999)), .inr (.int 99999)] 107 = true := by decide +kernel
theorem kc_X7_set_107 : mx_kS dm_X7_set 107 dm_X7_within 3 := ⟨85, by decide +kernel, md_X7_within, cs_X7_85⟩
theorem br_X7_set_110 : mx_brk cX7_set 110 (.ifCond .eq 16) 126 113 = true := by decide +kernel
theorem bk_X7_set_113 : mx_blk 7 cX7_set 113 [.inl (.aload 4), .inl (.getfield 7), .inl (.istore 5), .inl (.aload 4), .inl (.iload 3), .inl (.putfield 7)] 126 = true := by decide +kernel
theorem bk_X7_set_126 : mx_blk 7 cX7_set 126 [.inl (.iload 5)] 128 = true := by decide +kernel
theorem rt_X7_set_128 : mx_kr dm_X7_set 128 .int := ⟨by decide +kernel, rfl⟩
theorem bk_X7_hide_0 : mx_blk 7 cX7_hide 0 [.inl (.aload 0), .inl (.getfield 449), .inl (.iload 1)] 5 = true := by decide +kernel
theorem kc_X7_hide_5 : mx_kV dm_X7_hide 5 dm_X6_has 6 1 := ⟨98, by decide +kernel, md_X6_has, cv_X7_98, by decide, by decide +kernel⟩
theorem br_X7_hide_8 : mx_brk cX7_hide 8 (.ifCond .ne 6) 14 11 = true := by decide +kernel
theorem bk_X7_hide_11 : mx_blk 7 cX7_hide 11 [.inr (.int (-1000000001))] 13 = true := by decide +kernel
theorem rt_X7_hide_13 : mx_kr dm_X7_hide 13 .int := ⟨by decide +kernel, rfl⟩
theorem bk_X7_hide_14 : mx_blk 7 cX7_hide 14 [.inl (.aload 0), .inl (.getfield 449), .inl (.getfield 384), .inl (.iload 1), .inl (.anewarray 13), .inl (.astore 2), .inl (.aload 2), .inl (.getfield 5)] 28 = true := by decide +kernel
theorem br_X7_hide_28 : mx_brk cX7_hide 28 (.ifCond .ne 6) 34 31 = true := by decide +kernel
theorem bk_X7_hide_31 : mx_blk 7 cX7_hide 31 [.inr (.int (-1000000002))] 33 = true := by decide +kernel
theorem rt_X7_hide_33 : mx_kr dm_X7_hide 33 .int := ⟨by decide +kernel, rfl⟩
theorem bk_X7_hide_34 : mx_blk 7 cX7_hide 34 [.inl (.aload 2)] 35 = true := by decide +kernel
theorem kc_X7_hide_35 : mx_kV dm_X7_hide 35 dm_X0_hideOne 0 0 := ⟨150, by decide +kernel, md_X0_hideOne, cv_X7_150, by decide, by decide +kernel⟩
theorem bk_X7_hide_38 : mx_blk 7 cX7_hide 38 [.inl (.aload 2), .inl (.getfield 6)] 42 = true := by decide +kernel
theorem rt_X7_hide_42 : mx_kr dm_X7_hide 42 .int := ⟨by decide +kernel, rfl⟩
theorem bk_X7_rule_0 : mx_blk 7 cX7_rule 0 [.inr (.int (-1000000001)), .inl (.istore 3), .inl (.iload 1)] 4 = true := by decide +kernel
theorem br_X7_rule_4 : mx_brk cX7_rule 4 (.ifCond .ne 33) 37 7 = true := by decide +kernel
theorem bk_X7_rule_7 : mx_blk 7 cX7_rule 7 [.inl (.iload 2), .inr (.int 0), .inr (.int 999)] 12 = true := by decide +kernel
theorem kc_X7_rule_12 : mx_kS dm_X7_rule 12 dm_X7_within 3 := ⟨85, by decide +kernel, md_X7_within, cs_X7_85⟩
theorem br_X7_rule_15 : mx_brk cX7_rule 15 (.ifCond .eq 22) 37 18 = true := by decide +kernel
theorem bk_X7_rule_18 : mx_blk 7 cX7_rule 18 [.inl (.aload 0), .inl (.getfield 449), .inl (.getfield 390), .inl (.istore 3), .inl (.aload 0), .inl (.getfield 449), .inl (.iload 2), .inl (.putfield 390)] 34 = true := by decide +kernel
theorem gt_X7_rule_34 : mx_jmp cX7_rule 34 102 = true := by decide +kernel
theorem bk_X7_rule_37 : mx_blk 7 cX7_rule 37 [.inl (.iload 1), .inr (.int 1)] 39 = true := by decide +kernel
theorem br_X7_rule_39 : mx_brk cX7_rule 39 (.if_icmp .ne 32) 71 42 = true := by decide +kernel
theorem bk_X7_rule_42 : mx_blk 7 cX7_rule 42 [.inl (.iload 2), .inr (.int 0), .inr (.int 99)] 46 = true := by decide +kernel
theorem kc_X7_rule_46 : mx_kS dm_X7_rule 46 dm_X7_within 3 := ⟨85, by decide +kernel, md_X7_within, cs_X7_85⟩
theorem br_X7_rule_49 : mx_brk cX7_rule 49 (.ifCond .eq 22) 71 52 = true := by decide +kernel
theorem bk_X7_rule_52 : mx_blk 7 cX7_rule 52 [.inl (.aload 0), .inl (.getfield 449), .inl (.getfield 391), .inl (.istore 3), .inl (.aload 0), .inl (.getfield 449), .inl (.iload 2), .inl (.putfield 391)] 68 = true := by decide +kernel
theorem gt_X7_rule_68 : mx_jmp cX7_rule 68 102 = true := by decide +kernel
theorem bk_X7_rule_71 : mx_blk 7 cX7_rule 71 [.inl (.iload 1), .inr (.int 2)] 73 = true := by decide +kernel
theorem br_X7_rule_73 : mx_brk cX7_rule 73 (.if_icmp .ne 29) 102 76 = true := by decide +kernel
theorem bk_X7_rule_76 : mx_blk 7 cX7_rule 76 [.inl (.iload 2), .inr (.int 0), .inr (.int 59)] 80 = true := by decide +kernel
theorem kc_X7_rule_80 : mx_kS dm_X7_rule 80 dm_X7_within 3 := ⟨85, by decide +kernel, md_X7_within, cs_X7_85⟩
theorem br_X7_rule_83 : mx_brk cX7_rule 83 (.ifCond .eq 19) 102 86 = true := by decide +kernel
theorem bk_X7_rule_86 : mx_blk 7 cX7_rule 86 [.inl (.aload 0), .inl (.getfield 449), .inl (.getfield 392), .inl (.istore 3), .inl (.aload 0), .inl (.getfield 449), .inl (.iload 2), .inl (.putfield 392)] 102 = true := by decide +kernel
theorem bk_X7_rule_102 : mx_blk 7 cX7_rule 102 [.inl (.iload 3)] 103 = true := by decide +kernel
theorem rt_X7_rule_103 : mx_kr dm_X7_rule 103 .int := ⟨by decide +kernel, rfl⟩
theorem bk_X7_deal_0 : mx_blk 7 cX7_deal 0 [.inl (.iload 1), .inr (.int 1), .inr (.int 6)] 4 = true := by decide +kernel
theorem kc_X7_deal_4 : mx_kS dm_X7_deal 4 dm_X7_within 3 := ⟨85, by decide +kernel, md_X7_within, cs_X7_85⟩
theorem br_X7_deal_7 : mx_brk cX7_deal 7 (.ifCond .ne 6) 13 10 = true := by decide +kernel
theorem bk_X7_deal_10 : mx_blk 7 cX7_deal 10 [.inr (.int (-1000000001))] 12 = true := by decide +kernel
theorem rt_X7_deal_12 : mx_kr dm_X7_deal 12 .int := ⟨by decide +kernel, rfl⟩
theorem bk_X7_deal_13 : mx_blk 7 cX7_deal 13 [.inl (.iload 1), .inr (.int 6), .inl (.aload 0), .inl (.getfield 449), .inl (.getfield 388), .inl .isub] 24 = true := by decide +kernel
theorem kc_X7_deal_24 : mx_km dm_X7_deal 24 Lib.Math.min.name := ⟨162, by decide +kernel, mx_gw (i := 402) (by decide +kernel)⟩
theorem bk_X7_deal_27 : mx_blk 7 cX7_deal 27 [.inl (.istore 2), .inr (.int 0), .inl (.istore 3)] 30 = true := by decide +kernel
theorem bk_X7_deal_30 : mx_blk 7 cX7_deal 30 [.inl (.iload 3), .inl (.iload 2)] 32 = true := by decide +kernel
theorem br_X7_deal_32 : mx_brk cX7_deal 32 (.if_icmp .ge 44) 76 35 = true := by decide +kernel
theorem bk_X7_deal_35 : mx_blk 7 cX7_deal 35 [.inl (.aload 0), .inl (.getfield 449)] 39 = true := by decide +kernel
theorem kc_X7_deal_39 : mx_kV dm_X7_deal 39 dm_X6_draw 6 0 := ⟨168, by decide +kernel, md_X6_draw, cv_X7_168, by decide, by decide +kernel⟩
theorem bk_X7_deal_42 : mx_blk 7 cX7_deal 42 [.inr (.int 6), .inl .irem, .inl (.istore 4), .inl (.aload 0), .inl (.getfield 449)] 51 = true := by decide +kernel
theorem kc_X7_deal_51 : mx_kV dm_X7_deal 51 dm_X6_draw 6 0 := ⟨168, by decide +kernel, md_X6_draw, cv_X7_168, by decide, by decide +kernel⟩
theorem bk_X7_deal_54 : mx_blk 7 cX7_deal 54 [.inr (.int 10), .inl .irem, .inl (.istore 5), .inl (.aload 0), .inl (.getfield 449), .inl (.iload 4), .inl (.iload 5)] 67 = true := by decide +kernel
theorem kc_X7_deal_67 : mx_kV dm_X7_deal 67 dm_X6_addDistrict 6 2 := ⟨94, by decide +kernel, md_X6_addDistrict, cv_X7_94, by decide, by decide +kernel⟩
theorem bk_X7_deal_70 : mx_blk 7 cX7_deal 70 [.inl (.iinc 3 1)] 73 = true := by decide +kernel
theorem gt_X7_deal_73 : mx_jmp cX7_deal 73 30 = true := by decide +kernel
theorem bk_X7_deal_76 : mx_blk 7 cX7_deal 76 [.inl (.iload 2)] 77 = true := by decide +kernel
theorem rt_X7_deal_77 : mx_kr dm_X7_deal 77 .int := ⟨by decide +kernel, rfl⟩
theorem bk_X7_seed_0 : mx_blk 7 cX7_seed 0 [.inl (.aload 0), .inl (.getfield 449), .inl (.getfield 393), .inl (.istore 2), .inl (.aload 0), .inl (.getfield 449), .inl (.iload 1), .inl (.putfield 393), .inl (.iload 2)] 17 = true := by decide +kernel
theorem rt_X7_seed_17 : mx_kr dm_X7_seed 17 .int := ⟨by decide +kernel, rfl⟩
theorem bk_X7_days_0 : mx_blk 7 cX7_days 0 [.inl (.iload 1), .inr (.int 1), .inr (.int 300)] 5 = true := by decide +kernel
theorem kc_X7_days_5 : mx_kS dm_X7_days 5 dm_X7_within 3 := ⟨85, by decide +kernel, md_X7_within, cs_X7_85⟩
theorem br_X7_days_8 : mx_brk cX7_days 8 (.ifCond .ne 6) 14 11 = true := by decide +kernel
theorem bk_X7_days_11 : mx_blk 7 cX7_days 11 [.inr (.int (-1000000001))] 13 = true := by decide +kernel
theorem rt_X7_days_13 : mx_kr dm_X7_days 13 .int := ⟨by decide +kernel, rfl⟩
theorem bk_X7_days_14 : mx_blk 7 cX7_days 14 [.inl (.iload 1), .inr (.int 99999), .inl (.aload 0), .inl (.getfield 449), .inl (.getfield 389), .inl .isub] 25 = true := by decide +kernel
theorem kc_X7_days_25 : mx_km dm_X7_days 25 Lib.Math.min.name := ⟨162, by decide +kernel, mx_gw (i := 402) (by decide +kernel)⟩
theorem bk_X7_days_28 : mx_blk 7 cX7_days 28 [.inl (.istore 2), .inr (.int 0), .inl (.istore 3), .inr (.int 0), .inl (.istore 4)] 34 = true := by decide +kernel
theorem bk_X7_days_34 : mx_blk 7 cX7_days 34 [.inl (.iload 4), .inl (.iload 2)] 37 = true := by decide +kernel
theorem br_X7_days_37 : mx_brk cX7_days 37 (.if_icmp .ge 21) 58 40 = true := by decide +kernel
theorem bk_X7_days_40 : mx_blk 7 cX7_days 40 [.inl (.iload 3), .inl (.aload 0), .inl (.getfield 449), .inr (.int 63)] 47 = true := by decide +kernel
theorem kc_X7_days_47 : mx_kV dm_X7_days 47 dm_X6_liveDay 6 1 := ⟨177, by decide +kernel, md_X6_liveDay, cv_X7_177, by decide, by decide +kernel⟩
theorem bk_X7_days_50 : mx_blk 7 cX7_days 50 [.inl .iadd, .inl (.istore 3), .inl (.iinc 4 1)] 55 = true := by decide +kernel
theorem gt_X7_days_55 : mx_jmp cX7_days 55 34 = true := by decide +kernel
theorem bk_X7_days_58 : mx_blk 7 cX7_days 58 [.inl (.iload 3)] 59 = true := by decide +kernel
theorem rt_X7_days_59 : mx_kr dm_X7_days 59 .int := ⟨by decide +kernel, rfl⟩
theorem bk_X7_behind_0 : mx_blk 7 cX7_behind 0 [.inl (.aload 0), .inl (.getfield 449), .inl (.iload 1)] 5 = true := by decide +kernel
theorem kc_X7_behind_5 : mx_kV dm_X7_behind 5 dm_X6_has 6 1 := ⟨98, by decide +kernel, md_X6_has, cv_X7_98, by decide, by decide +kernel⟩
theorem br_X7_behind_8 : mx_brk cX7_behind 8 (.ifCond .eq 23) 31 11 = true := by decide +kernel
theorem bk_X7_behind_11 : mx_blk 7 cX7_behind 11 [.inl (.iload 2), .inr (.int 0), .inr (.int 300)] 16 = true := by decide +kernel
theorem kc_X7_behind_16 : mx_kS dm_X7_behind 16 dm_X7_within 3 := ⟨85, by decide +kernel, md_X7_within, cs_X7_85⟩
theorem br_X7_behind_19 : mx_brk cX7_behind 19 (.ifCond .eq 12) 31 22 = true := by decide +kernel
theorem bk_X7_behind_22 : mx_blk 7 cX7_behind 22 [.inl (.iload 3), .inr (.int 0), .inr (.int 4)] 25 = true := by decide +kernel
theorem kc_X7_behind_25 : mx_kS dm_X7_behind 25 dm_X7_within 3 := ⟨85, by decide +kernel, md_X7_within, cs_X7_85⟩
theorem br_X7_behind_28 : mx_brk cX7_behind 28 (.ifCond .ne 6) 34 31 = true := by decide +kernel
theorem bk_X7_behind_31 : mx_blk 7 cX7_behind 31 [.inr (.int (-1000000001))] 33 = true := by decide +kernel
theorem rt_X7_behind_33 : mx_kr dm_X7_behind 33 .int := ⟨by decide +kernel, rfl⟩
theorem bk_X7_behind_34 : mx_blk 7 cX7_behind 34 [.inl (.aload 0)] 35 = true := by decide +kernel
theorem kc_X7_behind_35 : mx_kV dm_X7_behind 35 dm_X7_thinkFromNow 7 0 := ⟨180, by decide +kernel, md_X7_thinkFromNow, cv_X7_180, by decide, by decide +kernel⟩
theorem bk_X7_behind_38 : mx_blk 7 cX7_behind 38 [.inl (.aload 0), .inl (.iload 2), .inl (.iload 1)] 41 = true := by decide +kernel
theorem kc_X7_behind_41 : mx_kS dm_X7_behind 41 dm_X7_only 1 := ⟨183, by decide +kernel, md_X7_only, cs_X7_183⟩
theorem kc_X7_behind_44 : mx_kV dm_X7_behind 44 dm_X7_thinkOn 7 2 := ⟨186, by decide +kernel, md_X7_thinkOn, cv_X7_186, by decide, by decide +kernel⟩
theorem bk_X7_behind_47 : mx_blk 7 cX7_behind 47 [.inl (.aload 0), .inl (.getfield 451), .inl (.getfield 384), .inl (.iload 1), .inl (.anewarray 13), .inl (.astore 4), .inl (.iload 3)] 59 = true := by decide +kernel
theorem sw_X7_behind_59 : mx_swk cX7_behind 59 [(0, 88), (1, 94), (2, 100), (3, 106)] 112 = true := by decide +kernel
theorem bk_X7_behind_88 : mx_blk 7 cX7_behind 88 [.inl (.aload 4), .inl (.getfield 2)] 93 = true := by decide +kernel
theorem rt_X7_behind_93 : mx_kr dm_X7_behind 93 .int := ⟨by decide +kernel, rfl⟩
theorem bk_X7_behind_94 : mx_blk 7 cX7_behind 94 [.inl (.aload 4), .inl (.getfield 3)] 99 = true := by decide +kernel
theorem rt_X7_behind_99 : mx_kr dm_X7_behind 99 .int := ⟨by decide +kernel, rfl⟩
theorem bk_X7_behind_100 : mx_blk 7 cX7_behind 100 [.inl (.aload 4), .inl (.getfield 4)] 105 = true := by decide +kernel
theorem rt_X7_behind_105 : mx_kr dm_X7_behind 105 .int := ⟨by decide +kernel, rfl⟩
theorem bk_X7_behind_106 : mx_blk 7 cX7_behind 106 [.inl (.aload 4), .inl (.getfield 5)] 111 = true := by decide +kernel
theorem rt_X7_behind_111 : mx_kr dm_X7_behind 111 .int := ⟨by decide +kernel, rfl⟩
theorem bk_X7_behind_112 : mx_blk 7 cX7_behind 112 [.inl (.aload 4), .inl (.getfield 7)] 117 = true := by decide +kernel
theorem rt_X7_behind_117 : mx_kr dm_X7_behind 117 .int := ⟨by decide +kernel, rfl⟩
theorem bk_X7_meets_0 : mx_blk 7 cX7_meets 0 [.inl (.aload 0), .inl (.getfield 449), .inl (.iload 1)] 5 = true := by decide +kernel
theorem kc_X7_meets_5 : mx_kV dm_X7_meets 5 dm_X6_has 6 1 := ⟨98, by decide +kernel, md_X6_has, cv_X7_98, by decide, by decide +kernel⟩
theorem br_X7_meets_8 : mx_brk cX7_meets 8 (.ifCond .eq 14) 22 11 = true := by decide +kernel
theorem bk_X7_meets_11 : mx_blk 7 cX7_meets 11 [.inl (.aload 0), .inl (.getfield 449), .inl (.iload 2)] 16 = true := by decide +kernel
theorem kc_X7_meets_16 : mx_kV dm_X7_meets 16 dm_X6_has 6 1 := ⟨98, by decide +kernel, md_X6_has, cv_X7_98, by decide, by decide +kernel⟩
theorem br_X7_meets_19 : mx_brk cX7_meets 19 (.ifCond .ne 6) 25 22 = true := by decide +kernel
theorem bk_X7_meets_22 : mx_blk 7 cX7_meets 22 [.inr (.int (-1000000001))] 24 = true := by decide +kernel
theorem rt_X7_meets_24 : mx_kr dm_X7_meets 24 .int := ⟨by decide +kernel, rfl⟩
theorem bk_X7_meets_25 : mx_blk 7 cX7_meets 25 [.inl (.aload 0)] 26 = true := by decide +kernel
theorem kc_X7_meets_26 : mx_kV dm_X7_meets 26 dm_X7_thinkFromNow 7 0 := ⟨180, by decide +kernel, md_X7_thinkFromNow, cv_X7_180, by decide, by decide +kernel⟩
theorem bk_X7_meets_29 : mx_blk 7 cX7_meets 29 [.inr (.int 0), .inl (.istore 3)] 31 = true := by decide +kernel
theorem bk_X7_meets_31 : mx_blk 7 cX7_meets 31 [.inl (.iload 3), .inr (.int 200)] 35 = true := by decide +kernel
theorem br_X7_meets_35 : mx_brk cX7_meets 35 (.if_icmp .gt 52) 87 38 = true := by decide +kernel
theorem bk_X7_meets_38 : mx_blk 7 cX7_meets 38 [.inl (.aload 0), .inl (.getfield 451), .inl (.iload 1)] 43 = true := by decide +kernel
theorem kc_X7_meets_43 : mx_kV dm_X7_meets 43 dm_X6_fairAt 6 1 := ⟨135, by decide +kernel, md_X6_fairAt, cv_X7_135, by decide, by decide +kernel⟩
theorem bk_X7_meets_46 : mx_blk 7 cX7_meets 46 [.inr (.int 1)] 47 = true := by decide +kernel
theorem br_X7_meets_47 : mx_brk cX7_meets 47 (.if_icmp .ne 17) 64 50 = true := by decide +kernel
theorem bk_X7_meets_50 : mx_blk 7 cX7_meets 50 [.inl (.aload 0), .inl (.getfield 451), .inl (.iload 2)] 55 = true := by decide +kernel
theorem kc_X7_meets_55 : mx_kV dm_X7_meets 55 dm_X6_fairAt 6 1 := ⟨135, by decide +kernel, md_X6_fairAt, cv_X7_135, by decide, by decide +kernel⟩
theorem bk_X7_meets_58 : mx_blk 7 cX7_meets 58 [.inr (.int 1)] 59 = true := by decide +kernel
theorem br_X7_meets_59 : mx_brk cX7_meets 59 (.if_icmp .ne 5) 64 62 = true := by decide +kernel
theorem bk_X7_meets_62 : mx_blk 7 cX7_meets 62 [.inl (.iload 3)] 63 = true := by decide +kernel
theorem rt_X7_meets_63 : mx_kr dm_X7_meets 63 .int := ⟨by decide +kernel, rfl⟩
theorem bk_X7_meets_64 : mx_blk 7 cX7_meets 64 [.inl (.aload 0), .inl (.getfield 451), .inl (.iload 1)] 69 = true := by decide +kernel
theorem kc_X7_meets_69 : mx_kS dm_X7_meets 69 dm_X7_only 1 := ⟨183, by decide +kernel, md_X7_only, cs_X7_183⟩
theorem bk_X7_meets_72 : mx_blk 7 cX7_meets 72 [.inl (.iload 2)] 73 = true := by decide +kernel
theorem kc_X7_meets_73 : mx_kS dm_X7_meets 73 dm_X7_only 1 := ⟨183, by decide +kernel, md_X7_only, cs_X7_183⟩
theorem bk_X7_meets_76 : mx_blk 7 cX7_meets 76 [.inl .ior] 77 = true := by decide +kernel
theorem kc_X7_meets_77 : mx_kV dm_X7_meets 77 dm_X6_liveDay 6 1 := ⟨177, by decide +kernel, md_X6_liveDay, cv_X7_177, by decide, by decide +kernel⟩
theorem bk_X7_meets_80 : mx_blk 7 cX7_meets 80 [.inl .pop, .inl (.iinc 3 1)] 84 = true := by decide +kernel
theorem gt_X7_meets_84 : mx_jmp cX7_meets 84 31 = true := by decide +kernel
theorem bk_X7_meets_87 : mx_blk 7 cX7_meets 87 [.inr (.int (-1000000005))] 89 = true := by decide +kernel
theorem rt_X7_meets_89 : mx_kr dm_X7_meets 89 .int := ⟨by decide +kernel, rfl⟩
theorem bk_X7_sundays_0 : mx_blk 7 cX7_sundays 0 [.inl (.aload 0), .inl (.getfield 449), .inl (.iload 1)] 5 = true := by decide +kernel
theorem kc_X7_sundays_5 : mx_kV dm_X7_sundays 5 dm_X6_has 6 1 := ⟨98, by decide +kernel, md_X6_has, cv_X7_98, by decide, by decide +kernel⟩
theorem br_X7_sundays_8 : mx_brk cX7_sundays 8 (.ifCond .eq 14) 22 11 = true := by decide +kernel
theorem bk_X7_sundays_11 : mx_blk 7 cX7_sundays 11 [.inl (.iload 2), .inr (.int 0), .inr (.int 300)] 16 = true := by decide +kernel
theorem kc_X7_sundays_16 : mx_kS dm_X7_sundays 16 dm_X7_within 3 := ⟨85, by decide +kernel, md_X7_within, cs_X7_85⟩
theorem br_X7_sundays_19 : mx_brk cX7_sundays 19 (.ifCond .ne 6) 25 22 = true := by decide +kernel
theorem bk_X7_sundays_22 : mx_blk 7 cX7_sundays 22 [.inr (.int (-1000000001))] 24 = true := by decide +kernel
theorem rt_X7_sundays_24 : mx_kr dm_X7_sundays 24 .int := ⟨by decide +kernel, rfl⟩
theorem bk_X7_sundays_25 : mx_blk 7 cX7_sundays 25 [.inl (.aload 0)] 26 = true := by decide +kernel
theorem kc_X7_sundays_26 : mx_kV dm_X7_sundays 26 dm_X7_thinkFromNow 7 0 := ⟨180, by decide +kernel, md_X7_thinkFromNow, cv_X7_180, by decide, by decide +kernel⟩
theorem bk_X7_sundays_29 : mx_blk 7 cX7_sundays 29 [.inr (.int 0), .inl (.istore 3), .inr (.int 1), .inl (.istore 4)] 34 = true := by decide +kernel
theorem bk_X7_sundays_34 : mx_blk 7 cX7_sundays 34 [.inl (.iload 4), .inl (.iload 2)] 37 = true := by decide +kernel
theorem br_X7_sundays_37 : mx_brk cX7_sundays 37 (.if_icmp .gt 23) 60 40 = true := by decide +kernel
theorem bk_X7_sundays_40 : mx_blk 7 cX7_sundays 40 [.inl (.iload 3), .inl (.aload 0), .inl (.getfield 451), .inl (.iload 1)] 46 = true := by decide +kernel
theorem kc_X7_sundays_46 : mx_kS dm_X7_sundays 46 dm_X7_only 1 := ⟨183, by decide +kernel, md_X7_only, cs_X7_183⟩
theorem kc_X7_sundays_49 : mx_kV dm_X7_sundays 49 dm_X6_liveDay 6 1 := ⟨177, by decide +kernel, md_X6_liveDay, cv_X7_177, by decide, by decide +kernel⟩
theorem bk_X7_sundays_52 : mx_blk 7 cX7_sundays 52 [.inl .iadd, .inl (.istore 3), .inl (.iinc 4 1)] 57 = true := by decide +kernel
theorem gt_X7_sundays_57 : mx_jmp cX7_sundays 57 34 = true := by decide +kernel
theorem bk_X7_sundays_60 : mx_blk 7 cX7_sundays 60 [.inl (.iload 3)] 61 = true := by decide +kernel
theorem rt_X7_sundays_61 : mx_kr dm_X7_sundays 61 .int := ⟨by decide +kernel, rfl⟩
theorem bk_X7_trader_0 : mx_blk 7 cX7_trader 0 [.inl (.aload 0), .inl (.getfield 449), .inl (.iload 1)] 5 = true := by decide +kernel
theorem kc_X7_trader_5 : mx_kV dm_X7_trader 5 dm_X6_has 6 1 := ⟨98, by decide +kernel, md_X6_has, cv_X7_98, by decide, by decide +kernel⟩
theorem br_X7_trader_8 : mx_brk cX7_trader 8 (.ifCond .eq 13) 21 11 = true := by decide +kernel
theorem bk_X7_trader_11 : mx_blk 7 cX7_trader 11 [.inl (.iload 2), .inr (.int 0), .inr (.int 100)] 15 = true := by decide +kernel
theorem kc_X7_trader_15 : mx_kS dm_X7_trader 15 dm_X7_within 3 := ⟨85, by decide +kernel, md_X7_within, cs_X7_85⟩
theorem br_X7_trader_18 : mx_brk cX7_trader 18 (.ifCond .ne 6) 24 21 = true := by decide +kernel
theorem bk_X7_trader_21 : mx_blk 7 cX7_trader 21 [.inr (.int (-1000000001))] 23 = true := by decide +kernel
theorem rt_X7_trader_23 : mx_kr dm_X7_trader 23 .int := ⟨by decide +kernel, rfl⟩
theorem bk_X7_trader_24 : mx_blk 7 cX7_trader 24 [.inl (.aload 0)] 25 = true := by decide +kernel
theorem kc_X7_trader_25 : mx_kV dm_X7_trader 25 dm_X7_thinkFromNow 7 0 := ⟨180, by decide +kernel, md_X7_thinkFromNow, cv_X7_180, by decide, by decide +kernel⟩
theorem bk_X7_trader_28 : mx_blk 7 cX7_trader 28 [.inr (.int 0), .inl (.istore 3)] 30 = true := by decide +kernel
theorem bk_X7_trader_30 : mx_blk 7 cX7_trader 30 [.inl (.iload 3), .inl (.aload 0), .inl (.getfield 461), .inl .arraylength] 36 = true := by decide +kernel
theorem br_X7_trader_36 : mx_brk cX7_trader 36 (.if_icmp .ge 33) 69 39 = true := by decide +kernel
theorem bk_X7_trader_39 : mx_blk 7 cX7_trader 39 [.inl (.aload 0), .inl (.getfield 461), .inl (.iload 3), .inl (.iload 3), .inl (.iload 1)] 46 = true := by decide +kernel
theorem br_X7_trader_46 : mx_brk cX7_trader 46 (.if_icmp .ne 14) 60 49 = true := by decide +kernel
theorem bk_X7_trader_49 : mx_blk 7 cX7_trader 49 [.inl (.aload 0), .inl (.getfield 451), .inl (.iload 3)] 54 = true := by decide +kernel
theorem kc_X7_trader_54 : mx_kV dm_X7_trader 54 dm_X6_fairAt 6 1 := ⟨135, by decide +kernel, md_X6_fairAt, cv_X7_135, by decide, by decide +kernel⟩
theorem gt_X7_trader_57 : mx_jmp cX7_trader 57 62 = true := by decide +kernel
theorem bk_X7_trader_60 : mx_blk 7 cX7_trader 60 [.inr (.int (-1000000005))] 62 = true := by decide +kernel
theorem bk_X7_trader_62 : mx_blk 7 cX7_trader 62 [.inl .iastore, .inl (.iinc 3 1)] 66 = true := by decide +kernel
theorem gt_X7_trader_66 : mx_jmp cX7_trader 66 30 = true := by decide +kernel
theorem bk_X7_trader_69 : mx_blk 7 cX7_trader 69 [.inr (.int 1), .inl (.istore 3)] 71 = true := by decide +kernel
theorem bk_X7_trader_71 : mx_blk 7 cX7_trader 71 [.inl (.iload 3), .inl (.iload 2)] 73 = true := by decide +kernel
theorem br_X7_trader_73 : mx_brk cX7_trader 73 (.if_icmp .gt 23) 96 76 = true := by decide +kernel
theorem bk_X7_trader_76 : mx_blk 7 cX7_trader 76 [.inl (.aload 0), .inl (.getfield 451), .inr (.int 63)] 82 = true := by decide +kernel
theorem kc_X7_trader_82 : mx_kV dm_X7_trader 82 dm_X6_liveDay 6 1 := ⟨177, by decide +kernel, md_X6_liveDay, cv_X7_177, by decide, by decide +kernel⟩
theorem bk_X7_trader_85 : mx_blk 7 cX7_trader 85 [.inl .pop, .inl (.aload 0)] 87 = true := by decide +kernel
theorem kc_X7_trader_87 : mx_kV dm_X7_trader 87 dm_X7_tradeOneDay 7 0 := ⟨190, by decide +kernel, md_X7_tradeOneDay, cv_X7_190, by decide, by decide +kernel⟩
theorem bk_X7_trader_90 : mx_blk 7 cX7_trader 90 [.inl (.iinc 3 1)] 93 = true := by decide +kernel
theorem gt_X7_trader_93 : mx_jmp cX7_trader 93 71 = true := by decide +kernel
theorem bk_X7_trader_96 : mx_blk 7 cX7_trader 96 [.inl (.aload 0), .inl (.getfield 461), .inl (.aload 0)] 101 = true := by decide +kernel
theorem kc_X7_trader_101 : mx_kV dm_X7_trader 101 dm_X7_mostSeenAt 7 0 := ⟨193, by decide +kernel, md_X7_mostSeenAt, cv_X7_193, by decide, by decide +kernel⟩
theorem bk_X7_trader_104 : mx_blk 7 cX7_trader 104 [.inl .iaload] 105 = true := by decide +kernel
theorem rt_X7_trader_105 : mx_kr dm_X7_trader 105 .int := ⟨by decide +kernel, rfl⟩
theorem bk_X7_richest_0 : mx_blk 7 cX7_richest 0 [.inl (.iload 1), .inr (.int 0), .inr (.int 300)] 5 = true := by decide +kernel
theorem kc_X7_richest_5 : mx_kS dm_X7_richest 5 dm_X7_within 3 := ⟨85, by decide +kernel, md_X7_within, cs_X7_85⟩
theorem br_X7_richest_8 : mx_brk cX7_richest 8 (.ifCond .ne 6) 14 11 = true := by decide +kernel
theorem bk_X7_richest_11 : mx_blk 7 cX7_richest 11 [.inr (.int (-1000000001))] 13 = true := by decide +kernel
theorem rt_X7_richest_13 : mx_kr dm_X7_richest 13 .int := ⟨by decide +kernel, rfl⟩
theorem bk_X7_richest_14 : mx_blk 7 cX7_richest 14 [.inl (.aload 0), .inl (.getfield 449), .inl (.getfield 388)] 21 = true := by decide +kernel
theorem br_X7_richest_21 : mx_brk cX7_richest 21 (.ifCond .ne 6) 27 24 = true := by decide +kernel
theorem bk_X7_richest_24 : mx_blk 7 cX7_richest 24 [.inr (.int (-1000000005))] 26 = true := by decide +kernel
theorem rt_X7_richest_26 : mx_kr dm_X7_richest 26 .int := ⟨by decide +kernel, rfl⟩
theorem bk_X7_richest_27 : mx_blk 7 cX7_richest 27 [.inl (.aload 0)] 28 = true := by decide +kernel
theorem kc_X7_richest_28 : mx_kV dm_X7_richest 28 dm_X7_thinkFromNow 7 0 := ⟨180, by decide +kernel, md_X7_thinkFromNow, cv_X7_180, by decide, by decide +kernel⟩
theorem bk_X7_richest_31 : mx_blk 7 cX7_richest 31 [.inl (.aload 0), .inl (.iload 1), .inr (.int 63)] 35 = true := by decide +kernel
theorem kc_X7_richest_35 : mx_kV dm_X7_richest 35 dm_X7_thinkOn 7 2 := ⟨186, by decide +kernel, md_X7_thinkOn, cv_X7_186, by decide, by decide +kernel⟩
theorem bk_X7_richest_38 : mx_blk 7 cX7_richest 38 [.inr (.int 0), .inl (.istore 2), .inr (.int 1), .inl (.istore 3)] 42 = true := by decide +kernel
theorem bk_X7_richest_42 : mx_blk 7 cX7_richest 42 [.inl (.iload 3), .inl (.aload 0), .inl (.getfield 451), .inl (.getfield 388)] 50 = true := by decide +kernel
theorem br_X7_richest_50 : mx_brk cX7_richest 50 (.if_icmp .ge 38) 88 53 = true := by decide +kernel
theorem bk_X7_richest_53 : mx_blk 7 cX7_richest 53 [.inl (.aload 0), .inl (.getfield 451), .inl (.getfield 384), .inl (.iload 3), .inl (.anewarray 13), .inl (.getfield 7), .inl (.aload 0), .inl (.getfield 451), .inl (.getfield 384), .inl (.iload 2), .inl (.anewarray 13), .inl (.getfield 7)] 77 = true := by decide +kernel
theorem br_X7_richest_77 : mx_brk cX7_richest 77 (.if_icmp .le 5) 82 80 = true := by decide +kernel
theorem bk_X7_richest_80 : mx_blk 7 cX7_richest 80 [.inl (.iload 3), .inl (.istore 2)] 82 = true := by decide +kernel
theorem bk_X7_richest_82 : mx_blk 7 cX7_richest 82 [.inl (.iinc 3 1)] 85 = true := by decide +kernel
theorem gt_X7_richest_85 : mx_jmp cX7_richest 85 42 = true := by decide +kernel
theorem bk_X7_richest_88 : mx_blk 7 cX7_richest 88 [.inl (.iload 2)] 89 = true := by decide +kernel
theorem rt_X7_richest_89 : mx_kr dm_X7_richest 89 .int := ⟨by decide +kernel, rfl⟩
theorem bk_X7_brings_0 : mx_blk 7 cX7_brings 0 [.inl (.aload 0), .inl (.getfield 449), .inl (.iload 1)] 5 = true := by decide +kernel
theorem kc_X7_brings_5 : mx_kV dm_X7_brings 5 dm_X6_has 6 1 := ⟨98, by decide +kernel, md_X6_has, cv_X7_98, by decide, by decide +kernel⟩
theorem br_X7_brings_8 : mx_brk cX7_brings 8 (.ifCond .eq 14) 22 11 = true := by decide +kernel
theorem bk_X7_brings_11 : mx_blk 7 cX7_brings 11 [.inl (.iload 2), .inr (.int 0), .inr (.int 300)] 16 = true := by decide +kernel
theorem kc_X7_brings_16 : mx_kS dm_X7_brings 16 dm_X7_within 3 := ⟨85, by decide +kernel, md_X7_within, cs_X7_85⟩
theorem br_X7_brings_19 : mx_brk cX7_brings 19 (.ifCond .ne 6) 25 22 = true := by decide +kernel
theorem bk_X7_brings_22 : mx_blk 7 cX7_brings 22 [.inr (.int (-1000000001))] 24 = true := by decide +kernel
theorem rt_X7_brings_24 : mx_kr dm_X7_brings 24 .int := ⟨by decide +kernel, rfl⟩
theorem bk_X7_brings_25 : mx_blk 7 cX7_brings 25 [.inl (.aload 0), .inl (.getfield 449), .inl (.getfield 384), .inl (.iload 1), .inl (.anewarray 13), .inl (.getfield 5)] 37 = true := by decide +kernel
theorem br_X7_brings_37 : mx_brk cX7_brings 37 (.ifCond .ne 6) 43 40 = true := by decide +kernel
theorem bk_X7_brings_40 : mx_blk 7 cX7_brings 40 [.inr (.int (-1000000002))] 42 = true := by decide +kernel
theorem rt_X7_brings_42 : mx_kr dm_X7_brings 42 .int := ⟨by decide +kernel, rfl⟩
theorem bk_X7_brings_43 : mx_blk 7 cX7_brings 43 [.inl (.aload 0)] 44 = true := by decide +kernel
theorem kc_X7_brings_44 : mx_kV dm_X7_brings 44 dm_X7_thinkFromNow 7 0 := ⟨180, by decide +kernel, md_X7_thinkFromNow, cv_X7_180, by decide, by decide +kernel⟩
theorem bk_X7_brings_47 : mx_blk 7 cX7_brings 47 [.inl (.aload 0), .inl (.iload 2), .inl (.iload 1)] 50 = true := by decide +kernel
theorem kc_X7_brings_50 : mx_kS dm_X7_brings 50 dm_X7_only 1 := ⟨183, by decide +kernel, md_X7_only, cs_X7_183⟩
theorem kc_X7_brings_53 : mx_kV dm_X7_brings 53 dm_X7_thinkOn 7 2 := ⟨186, by decide +kernel, md_X7_thinkOn, cv_X7_186, by decide, by decide +kernel⟩
theorem bk_X7_brings_56 : mx_blk 7 cX7_brings 56 [.inl (.aload 0), .inl (.getfield 451), .inl (.getfield 384), .inl (.iload 1), .inl (.anewarray 13), .inl (.getfield 7), .inl (.istore 3), .inl (.aload 0)] 70 = true := by decide +kernel
theorem kc_X7_brings_70 : mx_kV dm_X7_brings 70 dm_X7_thinkFromNow 7 0 := ⟨180, by decide +kernel, md_X7_thinkFromNow, cv_X7_180, by decide, by decide +kernel⟩
theorem bk_X7_brings_73 : mx_blk 7 cX7_brings 73 [.inl (.aload 0), .inl (.getfield 451), .inl (.getfield 384), .inl (.iload 1), .inl (.anewarray 13)] 82 = true := by decide +kernel
theorem kc_X7_brings_82 : mx_kV dm_X7_brings 82 dm_X0_hideOne 0 0 := ⟨150, by decide +kernel, md_X0_hideOne, cv_X7_150, by decide, by decide +kernel⟩
theorem bk_X7_brings_85 : mx_blk 7 cX7_brings 85 [.inl (.aload 0), .inl (.iload 2), .inl (.iload 1)] 88 = true := by decide +kernel
theorem kc_X7_brings_88 : mx_kS dm_X7_brings 88 dm_X7_only 1 := ⟨183, by decide +kernel, md_X7_only, cs_X7_183⟩
theorem kc_X7_brings_91 : mx_kV dm_X7_brings 91 dm_X7_thinkOn 7 2 := ⟨186, by decide +kernel, md_X7_thinkOn, cv_X7_186, by decide, by decide +kernel⟩
theorem bk_X7_brings_94 : mx_blk 7 cX7_brings 94 [.inl (.aload 0), .inl (.getfield 451), .inl (.getfield 384), .inl (.iload 1), .inl (.anewarray 13), .inl (.getfield 7), .inl (.iload 3), .inl .isub] 108 = true := by decide +kernel
theorem rt_X7_brings_108 : mx_kr dm_X7_brings 108 .int := ⟨by decide +kernel, rfl⟩
theorem bk_X7_rated_0 : mx_blk 7 cX7_rated 0 [.inl (.aload 0), .inl (.iload 1)] 2 = true := by decide +kernel
theorem kc_X7_rated_2 : mx_kV dm_X7_rated 2 dm_X7_isSheet 7 1 := ⟨196, by decide +kernel, md_X7_isSheet, cv_X7_196, by decide, by decide +kernel⟩
theorem br_X7_rated_5 : mx_brk cX7_rated 5 (.ifCond .eq 23) 28 8 = true := by decide +kernel
theorem bk_X7_rated_8 : mx_blk 7 cX7_rated 8 [.inl (.aload 0), .inl (.getfield 449), .inl (.iload 2)] 13 = true := by decide +kernel
theorem kc_X7_rated_13 : mx_kV dm_X7_rated 13 dm_X6_has 6 1 := ⟨98, by decide +kernel, md_X6_has, cv_X7_98, by decide, by decide +kernel⟩
theorem br_X7_rated_16 : mx_brk cX7_rated 16 (.ifCond .eq 12) 28 19 = true := by decide +kernel
theorem bk_X7_rated_19 : mx_blk 7 cX7_rated 19 [.inl (.iload 3), .inr (.int 0), .inr (.int 1)] 22 = true := by decide +kernel
theorem kc_X7_rated_22 : mx_kS dm_X7_rated 22 dm_X7_within 3 := ⟨85, by decide +kernel, md_X7_within, cs_X7_85⟩
theorem br_X7_rated_25 : mx_brk cX7_rated 25 (.ifCond .ne 6) 31 28 = true := by decide +kernel
theorem bk_X7_rated_28 : mx_blk 7 cX7_rated 28 [.inr (.int (-1000000001))] 30 = true := by decide +kernel
theorem rt_X7_rated_30 : mx_kr dm_X7_rated 30 .int := ⟨by decide +kernel, rfl⟩
theorem bk_X7_rated_31 : mx_blk 7 cX7_rated 31 [.inl (.aload 0), .inl (.getfield 457), .inl (.iload 1), .inl (.anewarray 15), .inl (.astore 4), .inl (.aload 4)] 41 = true := by decide +kernel
theorem kc_X7_rated_41 : mx_kV dm_X7_rated 41 dm_X4_isMissing 4 0 := ⟨199, by decide +kernel, md_X4_isMissing, cv_X7_199, by decide, by decide +kernel⟩
theorem br_X7_rated_44 : mx_brk cX7_rated 44 (.ifCond .eq 6) 50 47 = true := by decide +kernel
theorem bk_X7_rated_47 : mx_blk 7 cX7_rated 47 [.inr (.int (-1000000011))] 49 = true := by decide +kernel
theorem rt_X7_rated_49 : mx_kr dm_X7_rated 49 .int := ⟨by decide +kernel, rfl⟩
theorem bk_X7_rated_50 : mx_blk 7 cX7_rated 50 [.inr (.int 0), .inl (.istore 5), .inl (.aload 0), .inl (.aload 4), .inl (.iload 2), .inr (.int 0)] 58 = true := by decide +kernel
theorem kc_X7_rated_58 : mx_kV dm_X7_rated 58 dm_X7_differences 7 3 := ⟨204, by decide +kernel, md_X7_differences, cv_X7_204, by decide, by decide +kernel⟩
theorem bk_X7_rated_61 : mx_blk 7 cX7_rated 61 [.inl (.istore 6), .inr (.int 1), .inl (.istore 7)] 66 = true := by decide +kernel
theorem bk_X7_rated_66 : mx_blk 7 cX7_rated 66 [.inl (.iload 7), .inr (.int 9)] 70 = true := by decide +kernel
theorem br_X7_rated_70 : mx_brk cX7_rated 70 (.if_icmp .gt 35) 105 73 = true := by decide +kernel
theorem bk_X7_rated_73 : mx_blk 7 cX7_rated 73 [.inl (.aload 0), .inl (.aload 4), .inl (.iload 2), .inl (.iload 7)] 79 = true := by decide +kernel
theorem kc_X7_rated_79 : mx_kV dm_X7_rated 79 dm_X7_differences 7 3 := ⟨204, by decide +kernel, md_X7_differences, cv_X7_204, by decide, by decide +kernel⟩
theorem bk_X7_rated_82 : mx_blk 7 cX7_rated 82 [.inl (.istore 8), .inl (.iload 8), .inl (.iload 6)] 88 = true := by decide +kernel
theorem br_X7_rated_88 : mx_brk cX7_rated 88 (.if_icmp .ge 11) 99 91 = true := by decide +kernel
theorem bk_X7_rated_91 : mx_blk 7 cX7_rated 91 [.inl (.iload 8), .inl (.istore 6), .inl (.iload 7), .inl (.istore 5)] 99 = true := by decide +kernel
theorem bk_X7_rated_99 : mx_blk 7 cX7_rated 99 [.inl (.iinc 7 1)] 102 = true := by decide +kernel
theorem gt_X7_rated_102 : mx_jmp cX7_rated 102 66 = true := by decide +kernel
theorem bk_X7_rated_105 : mx_blk 7 cX7_rated 105 [.inl (.iload 3)] 106 = true := by decide +kernel
theorem br_X7_rated_106 : mx_brk cX7_rated 106 (.ifCond .ne 8) 114 109 = true := by decide +kernel
theorem bk_X7_rated_109 : mx_blk 7 cX7_rated 109 [.inl (.iload 5)] 111 = true := by decide +kernel
theorem gt_X7_rated_111 : mx_jmp cX7_rated 111 116 = true := by decide +kernel
theorem bk_X7_rated_114 : mx_blk 7 cX7_rated 114 [.inl (.iload 6)] 116 = true := by decide +kernel
theorem rt_X7_rated_116 : mx_kr dm_X7_rated 116 .int := ⟨by decide +kernel, rfl⟩
theorem bk_X7_fine_0 : mx_blk 7 cX7_fine 0 [.inl (.aload 0), .inl (.getfield 449), .inr (.int 2)] 5 = true := by decide +kernel
theorem kc_X7_fine_5 : mx_kV dm_X7_fine 5 dm_X6_lawFor 6 1 := ⟨208, by decide +kernel, md_X6_lawFor, cv_X7_208, by decide, by decide +kernel⟩
theorem bk_X7_fine_8 : mx_blk 7 cX7_fine 8 [.inl (.astore 1), .inl (.aload 1)] 10 = true := by decide +kernel
theorem br_X7_fine_10 : mx_brk cX7_fine 10 (.ifnonnull 5) 15 13 = true := by decide +kernel
theorem bk_X7_fine_13 : mx_blk 7 cX7_fine 13 [.inr (.int 0)] 14 = true := by decide +kernel
theorem rt_X7_fine_14 : mx_kr dm_X7_fine 14 .int := ⟨by decide +kernel, rfl⟩
theorem bk_X7_fine_15 : mx_blk 7 cX7_fine 15 [.inl (.aload 0), .inl (.getfield 449), .inl (.getfield 387), .inl (.aload 1), .inl (.aload 0), .inl (.getfield 449), .inl (.getfield 389), .inl (.aload 0), .inl (.getfield 449)] 34 = true := by decide +kernel
theorem kc_X7_fine_34 : mx_kV dm_X7_fine 34 dm_X6_bornOfAll 6 0 := ⟨216, by decide +kernel, md_X6_bornOfAll, cv_X7_216, by decide, by decide +kernel⟩
theorem bk_X7_fine_37 : mx_blk 7 cX7_fine 37 [.inr (.int 0)] 38 = true := by decide +kernel
theorem kc_X7_fine_38 : mx_kV dm_X7_fine 38 dm_X3_gives 3 4 := ⟨219, by decide +kernel, md_X3_gives, cv_X7_219, by decide, by decide +kernel⟩
theorem rt_X7_fine_41 : mx_kr dm_X7_fine 41 .int := ⟨by decide +kernel, rfl⟩
theorem bk_X7_feed_0 : mx_blk 7 cX7_feed 0 [.inl (.aload 0), .inl (.getfield 454), .inr (.int 84)] 6 = true := by decide +kernel
theorem br_X7_feed_6 : mx_brk cX7_feed 6 (.if_icmp .le 6) 12 9 = true := by decide +kernel
theorem bk_X7_feed_9 : mx_blk 7 cX7_feed 9 [.inr (.int (-1000000003))] 11 = true := by decide +kernel
theorem rt_X7_feed_11 : mx_kr dm_X7_feed 11 .int := ⟨by decide +kernel, rfl⟩
theorem bk_X7_feed_12 : mx_blk 7 cX7_feed 12 [.inl (.aload 0), .inl (.iload 1)] 14 = true := by decide +kernel
theorem kc_X7_feed_14 : mx_kV dm_X7_feed 14 dm_X7_feedOne 7 1 := ⟨225, by decide +kernel, md_X7_feedOne, cv_X7_225, by decide, by decide +kernel⟩
theorem bk_X7_feed_17 : mx_blk 7 cX7_feed 17 [.inl (.aload 0), .inl (.iload 2)] 19 = true := by decide +kernel
theorem kc_X7_feed_19 : mx_kV dm_X7_feed 19 dm_X7_feedOne 7 1 := ⟨225, by decide +kernel, md_X7_feedOne, cv_X7_225, by decide, by decide +kernel⟩
theorem bk_X7_feed_22 : mx_blk 7 cX7_feed 22 [.inl (.aload 0), .inl (.iload 3)] 24 = true := by decide +kernel
theorem kc_X7_feed_24 : mx_kV dm_X7_feed 24 dm_X7_feedOne 7 1 := ⟨225, by decide +kernel, md_X7_feedOne, cv_X7_225, by decide, by decide +kernel⟩
theorem bk_X7_feed_27 : mx_blk 7 cX7_feed 27 [.inl (.aload 0), .inl (.getfield 454)] 31 = true := by decide +kernel
theorem rt_X7_feed_31 : mx_kr dm_X7_feed 31 .int := ⟨by decide +kernel, rfl⟩
theorem bk_X7_trim_0 : mx_blk 7 cX7_trim 0 [.inl (.iload 1), .inr (.int 0), .inl (.aload 0), .inl (.getfield 454)] 6 = true := by decide +kernel
theorem kc_X7_trim_6 : mx_kS dm_X7_trim 6 dm_X7_within 3 := ⟨85, by decide +kernel, md_X7_within, cs_X7_85⟩
theorem br_X7_trim_9 : mx_brk cX7_trim 9 (.ifCond .ne 6) 15 12 = true := by decide +kernel
theorem bk_X7_trim_12 : mx_blk 7 cX7_trim 12 [.inr (.int (-1000000001))] 14 = true := by decide +kernel
theorem rt_X7_trim_14 : mx_kr dm_X7_trim 14 .int := ⟨by decide +kernel, rfl⟩
theorem bk_X7_trim_15 : mx_blk 7 cX7_trim 15 [.inl (.aload 0), .inl (.iload 1), .inl (.putfield 454), .inl (.iload 1)] 21 = true := by decide +kernel
theorem rt_X7_trim_21 : mx_kr dm_X7_trim 21 .int := ⟨by decide +kernel, rfl⟩
theorem bk_X7_text_0 : mx_blk 7 cX7_text 0 [.inl (.aload 0), .inl (.getfield 455), .inl (.aload 0), .inl (.getfield 453), .inl (.aload 0), .inl (.getfield 454), .inl (.aload 0), .inl (.getfield 456)] 16 = true := by decide +kernel
theorem kc_X7_text_16 : mx_kV dm_X7_text 16 dm_X2_understands 2 3 := ⟨229, by decide +kernel, md_X2_understands, cv_X7_229, by decide, by decide +kernel⟩
theorem bk_X7_text_19 : mx_blk 7 cX7_text 19 [.inl (.istore 1), .inl (.aload 0), .inr (.int 0), .inl (.putfield 454), .inl (.iload 1)] 26 = true := by decide +kernel
theorem br_X7_text_26 : mx_brk cX7_text 26 (.ifCond .ne 14) 40 29 = true := by decide +kernel
theorem bk_X7_text_29 : mx_blk 7 cX7_text 29 [.inr (.int (-100)), .inl (.aload 0), .inl (.getfield 455), .inl (.getfield 132), .inl .isub] 39 = true := by decide +kernel
theorem rt_X7_text_39 : mx_kr dm_X7_text 39 .int := ⟨by decide +kernel, rfl⟩
theorem bk_X7_text_40 : mx_blk 7 cX7_text 40 [.inl (.aload 0), .inl (.getfield 449), .inl (.getfield 394), .inr (.int 14)] 49 = true := by decide +kernel
theorem br_X7_text_49 : mx_brk cX7_text 49 (.if_icmp .lt 6) 55 52 = true := by decide +kernel
theorem bk_X7_text_52 : mx_blk 7 cX7_text 52 [.inr (.int (-1000000003))] 54 = true := by decide +kernel
theorem rt_X7_text_54 : mx_kr dm_X7_text 54 .int := ⟨by decide +kernel, rfl⟩
theorem bk_X7_text_55 : mx_blk 7 cX7_text 55 [.inl (.aload 0), .inl (.getfield 449), .inl (.aload 0), .inl (.getfield 456)] 63 = true := by decide +kernel
theorem kc_X7_text_63 : mx_kV dm_X7_text 63 dm_X6_addLaw 6 1 := ⟨239, by decide +kernel, md_X6_addLaw, cv_X7_239, by decide, by decide +kernel⟩
theorem rt_X7_text_66 : mx_kr dm_X7_text 66 .int := ⟨by decide +kernel, rfl⟩
theorem bk_X7_textTold_0 : mx_blk 7 cX7_textTold 0 [.inl (.iload 1), .inr (.int 0), .inl (.aload 0), .inl (.getfield 449), .inl (.getfield 394), .inr (.int 1), .inl .isub] 11 = true := by decide +kernel
theorem kc_X7_textTold_11 : mx_kS dm_X7_textTold 11 dm_X7_within 3 := ⟨85, by decide +kernel, md_X7_within, cs_X7_85⟩
theorem br_X7_textTold_14 : mx_brk cX7_textTold 14 (.ifCond .eq 12) 26 17 = true := by decide +kernel
theorem bk_X7_textTold_17 : mx_blk 7 cX7_textTold 17 [.inl (.iload 2), .inr (.int 0), .inr (.int 1)] 20 = true := by decide +kernel
theorem kc_X7_textTold_20 : mx_kS dm_X7_textTold 20 dm_X7_within 3 := ⟨85, by decide +kernel, md_X7_within, cs_X7_85⟩
theorem br_X7_textTold_23 : mx_brk cX7_textTold 23 (.ifCond .ne 6) 29 26 = true := by decide +kernel
theorem bk_X7_textTold_26 : mx_blk 7 cX7_textTold 26 [.inr (.int (-1000000001))] 28 = true := by decide +kernel
theorem rt_X7_textTold_28 : mx_kr dm_X7_textTold 28 .int := ⟨by decide +kernel, rfl⟩
theorem bk_X7_textTold_29 : mx_blk 7 cX7_textTold 29 [.inl (.iload 2)] 30 = true := by decide +kernel
theorem br_X7_textTold_30 : mx_brk cX7_textTold 30 (.ifCond .ne 15) 45 33 = true := by decide +kernel
theorem bk_X7_textTold_33 : mx_blk 7 cX7_textTold 33 [.inl (.aload 0), .inl (.getfield 448), .inl (.iload 1), .inl (.anewarray 14), .inl (.getfield 64)] 42 = true := by decide +kernel
theorem gt_X7_textTold_42 : mx_jmp cX7_textTold 42 54 = true := by decide +kernel
theorem bk_X7_textTold_45 : mx_blk 7 cX7_textTold 45 [.inl (.aload 0), .inl (.getfield 448), .inl (.iload 1), .inl (.anewarray 14), .inl (.getfield 65)] 54 = true := by decide +kernel
theorem rt_X7_textTold_54 : mx_kr dm_X7_textTold 54 .int := ⟨by decide +kernel, rfl⟩
theorem bk_X7_why_0 : mx_blk 7 cX7_why 0 [.inl (.iload 1), .inr (.int 0), .inr (.int 2)] 3 = true := by decide +kernel
theorem kc_X7_why_3 : mx_kS dm_X7_why 3 dm_X7_within 3 := ⟨85, by decide +kernel, md_X7_within, cs_X7_85⟩
theorem br_X7_why_6 : mx_brk cX7_why 6 (.ifCond .ne 6) 12 9 = true := by decide +kernel
theorem bk_X7_why_9 : mx_blk 7 cX7_why 9 [.inr (.int (-1000000001))] 11 = true := by decide +kernel
theorem rt_X7_why_11 : mx_kr dm_X7_why 11 .int := ⟨by decide +kernel, rfl⟩
theorem bk_X7_why_12 : mx_blk 7 cX7_why 12 [.inl (.aload 0), .inl (.getfield 449), .inl (.getfield 385), .inl (.iload 1), .inl .iaload, .inl (.istore 2), .inl (.iload 2)] 23 = true := by decide +kernel
theorem br_X7_why_23 : mx_brk cX7_why 23 (.ifCond .ge 8) 31 26 = true := by decide +kernel
theorem bk_X7_why_26 : mx_blk 7 cX7_why 26 [.inr (.int (-1000000005))] 28 = true := by decide +kernel
theorem gt_X7_why_28 : mx_jmp cX7_why 28 32 = true := by decide +kernel
theorem bk_X7_why_31 : mx_blk 7 cX7_why 31 [.inl (.iload 2)] 32 = true := by decide +kernel
theorem rt_X7_why_32 : mx_kr dm_X7_why 32 .int := ⟨by decide +kernel, rfl⟩
theorem bk_X7_sheet_0 : mx_blk 7 cX7_sheet 0 [.inl (.aload 0), .inl (.iload 1)] 2 = true := by decide +kernel
theorem kc_X7_sheet_2 : mx_kV dm_X7_sheet 2 dm_X7_isSheet 7 1 := ⟨196, by decide +kernel, md_X7_isSheet, cv_X7_196, by decide, by decide +kernel⟩
theorem br_X7_sheet_5 : mx_brk cX7_sheet 5 (.ifCond .eq 12) 17 8 = true := by decide +kernel
theorem bk_X7_sheet_8 : mx_blk 7 cX7_sheet 8 [.inl (.iload 2), .inr (.int (-1)), .inr (.int 1)] 11 = true := by decide +kernel
theorem kc_X7_sheet_11 : mx_kS dm_X7_sheet 11 dm_X7_within 3 := ⟨85, by decide +kernel, md_X7_within, cs_X7_85⟩
theorem br_X7_sheet_14 : mx_brk cX7_sheet 14 (.ifCond .ne 6) 20 17 = true := by decide +kernel
theorem bk_X7_sheet_17 : mx_blk 7 cX7_sheet 17 [.inr (.int (-1000000001))] 19 = true := by decide +kernel
theorem rt_X7_sheet_19 : mx_kr dm_X7_sheet 19 .int := ⟨by decide +kernel, rfl⟩
theorem bk_X7_sheet_20 : mx_blk 7 cX7_sheet 20 [.inl (.iload 2), .inr (.int (-1))] 22 = true := by decide +kernel
theorem br_X7_sheet_22 : mx_brk cX7_sheet 22 (.if_icmp .ne 16) 38 25 = true := by decide +kernel
theorem bk_X7_sheet_25 : mx_blk 7 cX7_sheet 25 [.inl (.aload 0), .inl (.getfield 457), .inl (.iload 1), .inl (.anewarray 15), .inr (.int (-1)), .inr (.int 0)] 33 = true := by decide +kernel
theorem kc_X7_sheet_33 : mx_kV dm_X7_sheet 33 dm_X4_become 4 2 := ⟨252, by decide +kernel, md_X4_become, cv_X7_252, by decide, by decide +kernel⟩
theorem bk_X7_sheet_36 : mx_blk 7 cX7_sheet 36 [.inr (.int 0)] 37 = true := by decide +kernel
theorem rt_X7_sheet_37 : mx_kr dm_X7_sheet 37 .int := ⟨by decide +kernel, rfl⟩
theorem bk_X7_sheet_38 : mx_blk 7 cX7_sheet 38 [.inl (.iload 3), .inr (.int 24)] 41 = true := by decide +kernel
theorem br_X7_sheet_41 : mx_brk cX7_sheet 41 (.if_icmp .le 6) 47 44 = true := by decide +kernel
theorem bk_X7_sheet_44 : mx_blk 7 cX7_sheet 44 [.inr (.int (-1000000001))] 46 = true := by decide +kernel
theorem rt_X7_sheet_46 : mx_kr dm_X7_sheet 46 .int := ⟨by decide +kernel, rfl⟩
theorem bk_X7_sheet_47 : mx_blk 7 cX7_sheet 47 [.inl (.iload 3)] 48 = true := by decide +kernel
theorem br_X7_sheet_48 : mx_brk cX7_sheet 48 (.ifCond .ge 6) 54 51 = true := by decide +kernel
theorem bk_X7_sheet_51 : mx_blk 7 cX7_sheet 51 [.inr (.int (-1000000014))] 53 = true := by decide +kernel
theorem rt_X7_sheet_53 : mx_kr dm_X7_sheet 53 .int := ⟨by decide +kernel, rfl⟩
theorem bk_X7_sheet_54 : mx_blk 7 cX7_sheet 54 [.inl (.aload 0), .inl (.getfield 457), .inl (.iload 1), .inl (.anewarray 15), .inl (.iload 2), .inl (.iload 3)] 62 = true := by decide +kernel
theorem kc_X7_sheet_62 : mx_kV dm_X7_sheet 62 dm_X4_become 4 2 := ⟨252, by decide +kernel, md_X4_become, cv_X7_252, by decide, by decide +kernel⟩
theorem bk_X7_sheet_65 : mx_blk 7 cX7_sheet 65 [.inl (.iload 3)] 66 = true := by decide +kernel
theorem rt_X7_sheet_66 : mx_kr dm_X7_sheet 66 .int := ⟨by decide +kernel, rfl⟩
theorem bk_X7_mark_0 : mx_blk 7 cX7_mark 0 [.inl (.aload 0), .inl (.iload 1)] 2 = true := by decide +kernel
theorem kc_X7_mark_2 : mx_kV dm_X7_mark 2 dm_X7_isSheet 7 1 := ⟨196, by decide +kernel, md_X7_isSheet, cv_X7_196, by decide, by decide +kernel⟩
theorem br_X7_mark_5 : mx_brk cX7_mark 5 (.ifCond .ne 6) 11 8 = true := by decide +kernel
theorem bk_X7_mark_8 : mx_blk 7 cX7_mark 8 [.inr (.int (-1000000001))] 10 = true := by decide +kernel
theorem rt_X7_mark_10 : mx_kr dm_X7_mark 10 .int := ⟨by decide +kernel, rfl⟩
theorem bk_X7_mark_11 : mx_blk 7 cX7_mark 11 [.inl (.aload 0), .inl (.getfield 457), .inl (.iload 1), .inl (.anewarray 15), .inl (.astore 4), .inl (.aload 4)] 21 = true := by decide +kernel
theorem kc_X7_mark_21 : mx_kV dm_X7_mark 21 dm_X4_isMissing 4 0 := ⟨199, by decide +kernel, md_X4_isMissing, cv_X7_199, by decide, by decide +kernel⟩
theorem br_X7_mark_24 : mx_brk cX7_mark 24 (.ifCond .eq 6) 30 27 = true := by decide +kernel
theorem bk_X7_mark_27 : mx_blk 7 cX7_mark 27 [.inr (.int (-1000000011))] 29 = true := by decide +kernel
theorem rt_X7_mark_29 : mx_kr dm_X7_mark 29 .int := ⟨by decide +kernel, rfl⟩
theorem bk_X7_mark_30 : mx_blk 7 cX7_mark 30 [.inl (.aload 4), .inl (.iload 2)] 33 = true := by decide +kernel
theorem kc_X7_mark_33 : mx_kV dm_X7_mark 33 dm_X4_has 4 1 := ⟨256, by decide +kernel, md_X4_has, cv_X7_256, by decide, by decide +kernel⟩
theorem br_X7_mark_36 : mx_brk cX7_mark 36 (.ifCond .ne 7) 43 39 = true := by decide +kernel
theorem bk_X7_mark_39 : mx_blk 7 cX7_mark 39 [.inr (.int (-1000000013))] 42 = true := by decide +kernel
theorem rt_X7_mark_42 : mx_kr dm_X7_mark 42 .int := ⟨by decide +kernel, rfl⟩
theorem bk_X7_mark_43 : mx_blk 7 cX7_mark 43 [.inl (.aload 4), .inl (.getfield 256)] 48 = true := by decide +kernel
theorem br_X7_mark_48 : mx_brk cX7_mark 48 (.ifCond .ne 12) 60 51 = true := by decide +kernel
theorem bk_X7_mark_51 : mx_blk 7 cX7_mark 51 [.inl (.iload 3), .inr (.int (-1000000005))] 54 = true := by decide +kernel
theorem br_X7_mark_54 : mx_brk cX7_mark 54 (.if_icmp .ne 6) 60 57 = true := by decide +kernel
theorem bk_X7_mark_57 : mx_blk 7 cX7_mark 57 [.inr (.int (-1000000012))] 59 = true := by decide +kernel
theorem rt_X7_mark_59 : mx_kr dm_X7_mark 59 .int := ⟨by decide +kernel, rfl⟩
theorem bk_X7_mark_60 : mx_blk 7 cX7_mark 60 [.inl (.aload 4), .inl (.getfield 256), .inr (.int 1)] 66 = true := by decide +kernel
theorem br_X7_mark_66 : mx_brk cX7_mark 66 (.if_icmp .ne 23) 89 69 = true := by decide +kernel
theorem bk_X7_mark_69 : mx_blk 7 cX7_mark 69 [.inl (.iload 3), .inr (.int (-1000000005))] 72 = true := by decide +kernel
theorem br_X7_mark_72 : mx_brk cX7_mark 72 (.if_icmp .eq 17) 89 75 = true := by decide +kernel
theorem bk_X7_mark_75 : mx_blk 7 cX7_mark 75 [.inl (.iload 3), .inr (.int (-99999)), .inr (.int 99999)] 80 = true := by decide +kernel
theorem kc_X7_mark_80 : mx_kS dm_X7_mark 80 dm_X7_within 3 := ⟨85, by decide +kernel, md_X7_within, cs_X7_85⟩
theorem br_X7_mark_83 : mx_brk cX7_mark 83 (.ifCond .ne 6) 89 86 = true := by decide +kernel
theorem bk_X7_mark_86 : mx_blk 7 cX7_mark 86 [.inr (.int (-1000000001))] 88 = true := by decide +kernel
theorem rt_X7_mark_88 : mx_kr dm_X7_mark 88 .int := ⟨by decide +kernel, rfl⟩
theorem bk_X7_mark_89 : mx_blk 7 cX7_mark 89 [.inl (.aload 4), .inl (.getfield 258), .inl (.iload 2), .inl (.aload 4), .inl (.getfield 256)] 100 = true := by decide +kernel
theorem br_X7_mark_100 : mx_brk cX7_mark 100 (.ifCond .ne 8) 108 103 = true := by decide +kernel
theorem bk_X7_mark_103 : mx_blk 7 cX7_mark 103 [.inl (.iload 3), .inl .i2s] 105 = true := by decide +kernel
theorem gt_X7_mark_105 : mx_jmp cX7_mark 105 109 = true := by decide +kernel
theorem bk_X7_mark_108 : mx_blk 7 cX7_mark 108 [.inl (.iload 3)] 109 = true := by decide +kernel
theorem bk_X7_mark_109 : mx_blk 7 cX7_mark 109 [.inl .iastore, .inr (.int 1)] 111 = true := by decide +kernel
theorem rt_X7_mark_111 : mx_kr dm_X7_mark 111 .int := ⟨by decide +kernel, rfl⟩
theorem bk_X7_pour_0 : mx_blk 7 cX7_pour 0 [.inl (.aload 0), .inl (.iload 1)] 2 = true := by decide +kernel
theorem kc_X7_pour_2 : mx_kV dm_X7_pour 2 dm_X7_isSheet 7 1 := ⟨196, by decide +kernel, md_X7_isSheet, cv_X7_196, by decide, by decide +kernel⟩
theorem br_X7_pour_5 : mx_brk cX7_pour 5 (.ifCond .ne 6) 11 8 = true := by decide +kernel
theorem bk_X7_pour_8 : mx_blk 7 cX7_pour 8 [.inr (.int (-1000000001))] 10 = true := by decide +kernel
theorem rt_X7_pour_10 : mx_kr dm_X7_pour 10 .int := ⟨by decide +kernel, rfl⟩
theorem bk_X7_pour_11 : mx_blk 7 cX7_pour 11 [.inl (.aload 0), .inl (.getfield 457), .inl (.iload 1), .inl (.anewarray 15), .inl (.astore 2), .inl (.aload 2)] 19 = true := by decide +kernel
theorem kc_X7_pour_19 : mx_kV dm_X7_pour 19 dm_X4_isMissing 4 0 := ⟨199, by decide +kernel, md_X4_isMissing, cv_X7_199, by decide, by decide +kernel⟩
theorem br_X7_pour_22 : mx_brk cX7_pour 22 (.ifCond .eq 6) 28 25 = true := by decide +kernel
theorem bk_X7_pour_25 : mx_blk 7 cX7_pour 25 [.inr (.int (-1000000011))] 27 = true := by decide +kernel
theorem rt_X7_pour_27 : mx_kr dm_X7_pour 27 .int := ⟨by decide +kernel, rfl⟩
theorem bk_X7_pour_28 : mx_blk 7 cX7_pour 28 [.inr (.int 0), .inl (.istore 3), .inr (.int 0), .inl (.istore 4)] 33 = true := by decide +kernel
theorem bk_X7_pour_33 : mx_blk 7 cX7_pour 33 [.inl (.iload 4), .inl (.aload 0), .inl (.getfield 449), .inl (.getfield 388)] 42 = true := by decide +kernel
theorem br_X7_pour_42 : mx_brk cX7_pour 42 (.if_icmp .ge 73) 115 45 = true := by decide +kernel
theorem bk_X7_pour_45 : mx_blk 7 cX7_pour 45 [.inl (.aload 0), .inl (.getfield 449), .inl (.getfield 384), .inl (.iload 4), .inl (.anewarray 13), .inl (.astore 5), .inl (.aload 2), .inl (.iload 4)] 60 = true := by decide +kernel
theorem kc_X7_pour_60 : mx_kV dm_X7_pour 60 dm_X4_isNumberAt 4 1 := ⟨264, by decide +kernel, md_X4_isNumberAt, cv_X7_264, by decide, by decide +kernel⟩
theorem br_X7_pour_63 : mx_brk cX7_pour 63 (.ifCond .eq 19) 82 66 = true := by decide +kernel
theorem bk_X7_pour_66 : mx_blk 7 cX7_pour 66 [.inl (.aload 2), .inl (.getfield 258), .inl (.iload 4), .inl .iaload, .inr (.int 0), .inr (.int 9)] 76 = true := by decide +kernel
theorem kc_X7_pour_76 : mx_kS dm_X7_pour 76 dm_X7_held 3 := ⟨267, by decide +kernel, md_X7_held, cs_X7_267⟩
theorem gt_X7_pour_79 : mx_jmp cX7_pour 79 87 = true := by decide +kernel
theorem bk_X7_pour_82 : mx_blk 7 cX7_pour 82 [.inl (.aload 5), .inl (.getfield 1)] 87 = true := by decide +kernel
theorem bk_X7_pour_87 : mx_blk 7 cX7_pour 87 [.inl (.istore 6), .inl (.iload 6), .inl (.aload 5), .inl (.getfield 1)] 96 = true := by decide +kernel
theorem br_X7_pour_96 : mx_brk cX7_pour 96 (.if_icmp .eq 6) 102 99 = true := by decide +kernel
theorem bk_X7_pour_99 : mx_blk 7 cX7_pour 99 [.inl (.iinc 3 1)] 102 = true := by decide +kernel
theorem bk_X7_pour_102 : mx_blk 7 cX7_pour 102 [.inl (.aload 5), .inl (.iload 6), .inl (.putfield 1), .inl (.iinc 4 1)] 112 = true := by decide +kernel
theorem gt_X7_pour_112 : mx_jmp cX7_pour 112 33 = true := by decide +kernel
theorem bk_X7_pour_115 : mx_blk 7 cX7_pour 115 [.inl (.iload 3)] 116 = true := by decide +kernel
theorem rt_X7_pour_116 : mx_kr dm_X7_pour 116 .int := ⟨by decide +kernel, rfl⟩
theorem bk_X7_reads_0 : mx_blk 7 cX7_reads 0 [.inl (.aload 0), .inl (.iload 1)] 2 = true := by decide +kernel
theorem kc_X7_reads_2 : mx_kV dm_X7_reads 2 dm_X7_isSheet 7 1 := ⟨196, by decide +kernel, md_X7_isSheet, cv_X7_196, by decide, by decide +kernel⟩
theorem br_X7_reads_5 : mx_brk cX7_reads 5 (.ifCond .eq 14) 19 8 = true := by decide +kernel
theorem bk_X7_reads_8 : mx_blk 7 cX7_reads 8 [.inl (.aload 0), .inl (.getfield 449), .inl (.iload 2)] 13 = true := by decide +kernel
theorem kc_X7_reads_13 : mx_kV dm_X7_reads 13 dm_X6_has 6 1 := ⟨98, by decide +kernel, md_X6_has, cv_X7_98, by decide, by decide +kernel⟩
theorem br_X7_reads_16 : mx_brk cX7_reads 16 (.ifCond .ne 6) 22 19 = true := by decide +kernel
theorem bk_X7_reads_19 : mx_blk 7 cX7_reads 19 [.inr (.int (-1000000001))] 21 = true := by decide +kernel
theorem rt_X7_reads_21 : mx_kr dm_X7_reads 21 .int := ⟨by decide +kernel, rfl⟩
theorem bk_X7_reads_22 : mx_blk 7 cX7_reads 22 [.inl (.aload 0), .inl (.getfield 457), .inl (.iload 1), .inl (.anewarray 15), .inl (.astore 3), .inl (.aload 3)] 30 = true := by decide +kernel
theorem kc_X7_reads_30 : mx_kV dm_X7_reads 30 dm_X4_isMissing 4 0 := ⟨199, by decide +kernel, md_X4_isMissing, cv_X7_199, by decide, by decide +kernel⟩
theorem br_X7_reads_33 : mx_brk cX7_reads 33 (.ifCond .eq 6) 39 36 = true := by decide +kernel
theorem bk_X7_reads_36 : mx_blk 7 cX7_reads 36 [.inr (.int (-1000000011))] 38 = true := by decide +kernel
theorem rt_X7_reads_38 : mx_kr dm_X7_reads 38 .int := ⟨by decide +kernel, rfl⟩
theorem bk_X7_reads_39 : mx_blk 7 cX7_reads 39 [.inl (.aload 0)] 40 = true := by decide +kernel
theorem kc_X7_reads_40 : mx_kV dm_X7_reads 40 dm_X7_thinkFromNow 7 0 := ⟨180, by decide +kernel, md_X7_thinkFromNow, cv_X7_180, by decide, by decide +kernel⟩
theorem bk_X7_reads_43 : mx_blk 7 cX7_reads 43 [.inr (.int 0), .inl (.istore 4)] 46 = true := by decide +kernel
theorem bk_X7_reads_46 : mx_blk 7 cX7_reads 46 [.inl (.iload 4), .inl (.aload 3), .inl (.getfield 257)] 52 = true := by decide +kernel
theorem br_X7_reads_52 : mx_brk cX7_reads 52 (.if_icmp .ge 55) 107 55 = true := by decide +kernel
theorem bk_X7_reads_55 : mx_blk 7 cX7_reads 55 [.inl (.aload 3), .inl (.iload 4)] 58 = true := by decide +kernel
theorem kc_X7_reads_58 : mx_kV dm_X7_reads 58 dm_X4_isNumberAt 4 1 := ⟨264, by decide +kernel, md_X4_isNumberAt, cv_X7_264, by decide, by decide +kernel⟩
theorem br_X7_reads_61 : mx_brk cX7_reads 61 (.ifCond .eq 28) 89 64 = true := by decide +kernel
theorem bk_X7_reads_64 : mx_blk 7 cX7_reads 64 [.inl (.aload 3), .inl (.getfield 258), .inl (.iload 4), .inl .iaload, .inl (.aload 0), .inl (.getfield 451), .inl (.getfield 384), .inl (.iload 2), .inl (.anewarray 13), .inl (.getfield 4)] 83 = true := by decide +kernel
theorem br_X7_reads_83 : mx_brk cX7_reads 83 (.if_icmp .eq 6) 89 86 = true := by decide +kernel
theorem bk_X7_reads_86 : mx_blk 7 cX7_reads 86 [.inl (.iload 4)] 88 = true := by decide +kernel
theorem rt_X7_reads_88 : mx_kr dm_X7_reads 88 .int := ⟨by decide +kernel, rfl⟩
theorem bk_X7_reads_89 : mx_blk 7 cX7_reads 89 [.inl (.aload 0), .inl (.getfield 451), .inl (.iload 2)] 94 = true := by decide +kernel
theorem kc_X7_reads_94 : mx_kS dm_X7_reads 94 dm_X7_only 1 := ⟨183, by decide +kernel, md_X7_only, cs_X7_183⟩
theorem kc_X7_reads_97 : mx_kV dm_X7_reads 97 dm_X6_liveDay 6 1 := ⟨177, by decide +kernel, md_X6_liveDay, cv_X7_177, by decide, by decide +kernel⟩
theorem bk_X7_reads_100 : mx_blk 7 cX7_reads 100 [.inl .pop, .inl (.iinc 4 1)] 104 = true := by decide +kernel
theorem gt_X7_reads_104 : mx_jmp cX7_reads 104 46 = true := by decide +kernel
theorem bk_X7_reads_107 : mx_blk 7 cX7_reads 107 [.inr (.int (-1000000005))] 109 = true := by decide +kernel
theorem rt_X7_reads_109 : mx_kr dm_X7_reads 109 .int := ⟨by decide +kernel, rfl⟩
theorem bk_X7_copy_0 : mx_blk 7 cX7_copy 0 [.inl (.aload 0), .inl (.iload 1)] 2 = true := by decide +kernel
theorem kc_X7_copy_2 : mx_kV dm_X7_copy 2 dm_X7_isSheet 7 1 := ⟨196, by decide +kernel, md_X7_isSheet, cv_X7_196, by decide, by decide +kernel⟩
theorem br_X7_copy_5 : mx_brk cX7_copy 5 (.ifCond .eq 11) 16 8 = true := by decide +kernel
theorem bk_X7_copy_8 : mx_blk 7 cX7_copy 8 [.inl (.aload 0), .inl (.iload 3)] 10 = true := by decide +kernel
theorem kc_X7_copy_10 : mx_kV dm_X7_copy 10 dm_X7_isSheet 7 1 := ⟨196, by decide +kernel, md_X7_isSheet, cv_X7_196, by decide, by decide +kernel⟩
theorem br_X7_copy_13 : mx_brk cX7_copy 13 (.ifCond .ne 6) 19 16 = true := by decide +kernel
theorem bk_X7_copy_16 : mx_blk 7 cX7_copy 16 [.inr (.int (-1000000001))] 18 = true := by decide +kernel
theorem rt_X7_copy_18 : mx_kr dm_X7_copy 18 .int := ⟨by decide +kernel, rfl⟩
theorem bk_X7_copy_19 : mx_blk 7 cX7_copy 19 [.inl (.aload 0), .inl (.getfield 457), .inl (.iload 1), .inl (.anewarray 15), .inl (.astore 6), .inl (.aload 0), .inl (.getfield 457), .inl (.iload 3), .inl (.anewarray 15), .inl (.astore 7), .inl (.aload 6)] 37 = true := by decide +kernel
theorem kc_X7_copy_37 : mx_kV dm_X7_copy 37 dm_X4_isMissing 4 0 := ⟨199, by decide +kernel, md_X4_isMissing, cv_X7_199, by decide, by decide +kernel⟩
theorem br_X7_copy_40 : mx_brk cX7_copy 40 (.ifCond .ne 11) 51 43 = true := by decide +kernel
theorem bk_X7_copy_43 : mx_blk 7 cX7_copy 43 [.inl (.aload 7)] 45 = true := by decide +kernel
theorem kc_X7_copy_45 : mx_kV dm_X7_copy 45 dm_X4_isMissing 4 0 := ⟨199, by decide +kernel, md_X4_isMissing, cv_X7_199, by decide, by decide +kernel⟩
theorem br_X7_copy_48 : mx_brk cX7_copy 48 (.ifCond .eq 6) 54 51 = true := by decide +kernel
theorem bk_X7_copy_51 : mx_blk 7 cX7_copy 51 [.inr (.int (-1000000011))] 53 = true := by decide +kernel
theorem rt_X7_copy_53 : mx_kr dm_X7_copy 53 .int := ⟨by decide +kernel, rfl⟩
theorem bk_X7_copy_54 : mx_blk 7 cX7_copy 54 [.inl (.aload 6), .inl (.getfield 256), .inl (.aload 7), .inl (.getfield 256)] 64 = true := by decide +kernel
theorem br_X7_copy_64 : mx_brk cX7_copy 64 (.if_icmp .eq 6) 70 67 = true := by decide +kernel
theorem bk_X7_copy_67 : mx_blk 7 cX7_copy 67 [.inr (.int (-1000000012))] 69 = true := by decide +kernel
theorem rt_X7_copy_69 : mx_kr dm_X7_copy 69 .int := ⟨by decide +kernel, rfl⟩
theorem bk_X7_copy_70 : mx_blk 7 cX7_copy 70 [.inl (.aload 6), .inl (.iload 2), .inl (.iload 5)] 75 = true := by decide +kernel
theorem kc_X7_copy_75 : mx_kV dm_X7_copy 75 dm_X4_hasRun 4 2 := ⟨274, by decide +kernel, md_X4_hasRun, cv_X7_274, by decide, by decide +kernel⟩
theorem br_X7_copy_78 : mx_brk cX7_copy 78 (.ifCond .eq 15) 93 81 = true := by decide +kernel
theorem bk_X7_copy_81 : mx_blk 7 cX7_copy 81 [.inl (.aload 7), .inl (.iload 4), .inl (.iload 5)] 87 = true := by decide +kernel
theorem kc_X7_copy_87 : mx_kV dm_X7_copy 87 dm_X4_hasRun 4 2 := ⟨274, by decide +kernel, md_X4_hasRun, cv_X7_274, by decide, by decide +kernel⟩
theorem br_X7_copy_90 : mx_brk cX7_copy 90 (.ifCond .ne 7) 97 93 = true := by decide +kernel
theorem bk_X7_copy_93 : mx_blk 7 cX7_copy 93 [.inr (.int (-1000000013))] 96 = true := by decide +kernel
theorem rt_X7_copy_96 : mx_kr dm_X7_copy 96 .int := ⟨by decide +kernel, rfl⟩
theorem bk_X7_copy_97 : mx_blk 7 cX7_copy 97 [.inl (.aload 6), .inl (.getfield 258), .inl (.iload 2), .inl (.aload 7), .inl (.getfield 258), .inl (.iload 4), .inl (.iload 5)] 112 = true := by decide +kernel
theorem kc_X7_copy_112 : mx_km dm_X7_copy 112 arraycopyName := ⟨278, by decide +kernel, mx_gw (i := 829) (by decide +kernel)⟩
theorem bk_X7_copy_115 : mx_blk 7 cX7_copy 115 [.inl (.iload 5)] 117 = true := by decide +kernel
theorem rt_X7_copy_117 : mx_kr dm_X7_copy 117 .int := ⟨by decide +kernel, rfl⟩
theorem bk_X7_lay_0 : mx_blk 7 cX7_lay 0 [.inl (.aload 0), .inl (.iload 1)] 2 = true := by decide +kernel
theorem kc_X7_lay_2 : mx_kV dm_X7_lay 2 dm_X7_isSlot 7 1 := ⟨284, by decide +kernel, md_X7_isSlot, cv_X7_284, by decide, by decide +kernel⟩
theorem br_X7_lay_5 : mx_brk cX7_lay 5 (.ifCond .eq 12) 17 8 = true := by decide +kernel
theorem bk_X7_lay_8 : mx_blk 7 cX7_lay 8 [.inl (.iload 2), .inr (.int 0), .inr (.int 3)] 11 = true := by decide +kernel
theorem kc_X7_lay_11 : mx_kS dm_X7_lay 11 dm_X7_within 3 := ⟨85, by decide +kernel, md_X7_within, cs_X7_85⟩
theorem br_X7_lay_14 : mx_brk cX7_lay 14 (.ifCond .ne 6) 20 17 = true := by decide +kernel
theorem bk_X7_lay_17 : mx_blk 7 cX7_lay 17 [.inr (.int (-1000000001))] 19 = true := by decide +kernel
theorem rt_X7_lay_19 : mx_kr dm_X7_lay 19 .int := ⟨by decide +kernel, rfl⟩
theorem bk_X7_lay_20 : mx_blk 7 cX7_lay 20 [.inl (.iload 2), .inr (.int 1)] 22 = true := by decide +kernel
theorem br_X7_lay_22 : mx_brk cX7_lay 22 (.if_icmp .ne 17) 39 25 = true := by decide +kernel
theorem bk_X7_lay_25 : mx_blk 7 cX7_lay 25 [.inl (.aload 0), .inl (.getfield 449), .inl (.iload 3)] 30 = true := by decide +kernel
theorem kc_X7_lay_30 : mx_kV dm_X7_lay 30 dm_X6_has 6 1 := ⟨98, by decide +kernel, md_X6_has, cv_X7_98, by decide, by decide +kernel⟩
theorem br_X7_lay_33 : mx_brk cX7_lay 33 (.ifCond .ne 6) 39 36 = true := by decide +kernel
theorem bk_X7_lay_36 : mx_blk 7 cX7_lay 36 [.inr (.int (-1000000001))] 38 = true := by decide +kernel
theorem rt_X7_lay_38 : mx_kr dm_X7_lay 38 .int := ⟨by decide +kernel, rfl⟩
theorem bk_X7_lay_39 : mx_blk 7 cX7_lay 39 [.inl (.iload 2), .inr (.int 2)] 41 = true := by decide +kernel
theorem br_X7_lay_41 : mx_brk cX7_lay 41 (.if_icmp .ne 14) 55 44 = true := by decide +kernel
theorem bk_X7_lay_44 : mx_blk 7 cX7_lay 44 [.inl (.aload 0), .inl (.iload 3)] 46 = true := by decide +kernel
theorem kc_X7_lay_46 : mx_kV dm_X7_lay 46 dm_X7_isSheet 7 1 := ⟨196, by decide +kernel, md_X7_isSheet, cv_X7_196, by decide, by decide +kernel⟩
theorem br_X7_lay_49 : mx_brk cX7_lay 49 (.ifCond .ne 6) 55 52 = true := by decide +kernel
theorem bk_X7_lay_52 : mx_blk 7 cX7_lay 52 [.inr (.int (-1000000001))] 54 = true := by decide +kernel
theorem rt_X7_lay_54 : mx_kr dm_X7_lay 54 .int := ⟨by decide +kernel, rfl⟩
theorem bk_X7_lay_55 : mx_blk 7 cX7_lay 55 [.inl (.iload 2), .inr (.int 2)] 57 = true := by decide +kernel
theorem br_X7_lay_57 : mx_brk cX7_lay 57 (.if_icmp .ne 18) 75 60 = true := by decide +kernel
theorem bk_X7_lay_60 : mx_blk 7 cX7_lay 60 [.inl (.aload 0), .inl (.getfield 457), .inl (.iload 3), .inl (.anewarray 15)] 66 = true := by decide +kernel
theorem kc_X7_lay_66 : mx_kV dm_X7_lay 66 dm_X4_isMissing 4 0 := ⟨199, by decide +kernel, md_X4_isMissing, cv_X7_199, by decide, by decide +kernel⟩
theorem br_X7_lay_69 : mx_brk cX7_lay 69 (.ifCond .eq 6) 75 72 = true := by decide +kernel
theorem bk_X7_lay_72 : mx_blk 7 cX7_lay 72 [.inr (.int (-1000000011))] 74 = true := by decide +kernel
theorem rt_X7_lay_74 : mx_kr dm_X7_lay 74 .int := ⟨by decide +kernel, rfl⟩
theorem bk_X7_lay_75 : mx_blk 7 cX7_lay 75 [.inl (.aload 0), .inl (.getfield 458), .inl (.iload 1), .inl (.anewarray 16), .inl (.astore 4), .inl (.aload 4), .inl (.getfield 320), .inl (.istore 5), .inl (.aload 4), .inl (.iload 2), .inl (.putfield 320), .inl (.iload 2), .inr (.int 1)] 98 = true := by decide +kernel
theorem br_X7_lay_98 : mx_brk cX7_lay 98 (.if_icmp .ne 23) 121 101 = true := by decide +kernel
theorem bk_X7_lay_101 : mx_blk 7 cX7_lay 101 [.inl (.aload 4), .inl (.getfield 322), .inl (.aload 0), .inl (.getfield 449), .inl (.getfield 384), .inl (.iload 3), .inl (.anewarray 13)] 115 = true := by decide +kernel
theorem kc_X7_lay_115 : mx_kV dm_X7_lay 115 dm_X0_becomeLike 0 1 := ⟨294, by decide +kernel, md_X0_becomeLike, cv_X7_294, by decide, by decide +kernel⟩
theorem gt_X7_lay_118 : mx_jmp cX7_lay 118 149 = true := by decide +kernel
theorem bk_X7_lay_121 : mx_blk 7 cX7_lay 121 [.inl (.iload 2), .inr (.int 2)] 123 = true := by decide +kernel
theorem br_X7_lay_123 : mx_brk cX7_lay 123 (.if_icmp .ne 20) 143 126 = true := by decide +kernel
theorem bk_X7_lay_126 : mx_blk 7 cX7_lay 126 [.inl (.aload 4), .inl (.getfield 323), .inl (.aload 0), .inl (.getfield 457), .inl (.iload 3), .inl (.anewarray 15)] 137 = true := by decide +kernel
theorem kc_X7_lay_137 : mx_kV dm_X7_lay 137 dm_X4_becomeLike 4 1 := ⟨302, by decide +kernel, md_X4_becomeLike, cv_X7_302, by decide, by decide +kernel⟩
theorem gt_X7_lay_140 : mx_jmp cX7_lay 140 149 = true := by decide +kernel
theorem bk_X7_lay_143 : mx_blk 7 cX7_lay 143 [.inl (.aload 4), .inl (.iload 3), .inl (.putfield 321)] 149 = true := by decide +kernel
theorem bk_X7_lay_149 : mx_blk 7 cX7_lay 149 [.inl (.iload 5)] 151 = true := by decide +kernel
theorem rt_X7_lay_151 : mx_kr dm_X7_lay 151 .int := ⟨by decide +kernel, rfl⟩
theorem bk_X7_ask_0 : mx_blk 7 cX7_ask 0 [.inl (.aload 0), .inl (.iload 1)] 2 = true := by decide +kernel
theorem kc_X7_ask_2 : mx_kV dm_X7_ask 2 dm_X7_isSlot 7 1 := ⟨284, by decide +kernel, md_X7_isSlot, cv_X7_284, by decide, by decide +kernel⟩
theorem br_X7_ask_5 : mx_brk cX7_ask 5 (.ifCond .eq 10) 15 8 = true := by decide +kernel
theorem bk_X7_ask_8 : mx_blk 7 cX7_ask 8 [.inl (.iload 2)] 9 = true := by decide +kernel
theorem kc_X7_ask_9 : mx_kS dm_X7_ask 9 dm_X7_isKind 1 := ⟨81, by decide +kernel, md_X7_isKind, cs_X7_81⟩
theorem br_X7_ask_12 : mx_brk cX7_ask 12 (.ifCond .ne 6) 18 15 = true := by decide +kernel
theorem bk_X7_ask_15 : mx_blk 7 cX7_ask 15 [.inr (.int (-1000000001))] 17 = true := by decide +kernel
theorem rt_X7_ask_17 : mx_kr dm_X7_ask 17 .int := ⟨by decide +kernel, rfl⟩
theorem bk_X7_ask_18 : mx_blk 7 cX7_ask 18 [.inl (.aload 0), .inl (.getfield 458), .inl (.iload 1), .inl (.anewarray 16), .inl (.astore 3), .inl (.aload 3), .inl (.getfield 320)] 29 = true := by decide +kernel
theorem br_X7_ask_29 : mx_brk cX7_ask 29 (.ifCond .ne 6) 35 32 = true := by decide +kernel
theorem bk_X7_ask_32 : mx_blk 7 cX7_ask 32 [.inr (.int (-1000000011))] 34 = true := by decide +kernel
theorem rt_X7_ask_34 : mx_kr dm_X7_ask 34 .int := ⟨by decide +kernel, rfl⟩
theorem bk_X7_ask_35 : mx_blk 7 cX7_ask 35 [.inl (.aload 3), .inl (.getfield 320), .inr (.int 1)] 40 = true := by decide +kernel
theorem br_X7_ask_40 : mx_brk cX7_ask 40 (.if_icmp .ne 14) 54 43 = true := by decide +kernel
theorem bk_X7_ask_43 : mx_blk 7 cX7_ask 43 [.inl (.aload 3), .inl (.getfield 322), .inl (.iload 2)] 48 = true := by decide +kernel
theorem kc_X7_ask_48 : mx_kV dm_X7_ask 48 dm_X0_isOf 0 1 := ⟨143, by decide +kernel, md_X0_isOf, cv_X7_143, by decide, by decide +kernel⟩
theorem br_X7_ask_51 : mx_brk cX7_ask 51 (.ifCond .ne 6) 57 54 = true := by decide +kernel
theorem bk_X7_ask_54 : mx_blk 7 cX7_ask 54 [.inr (.int (-1000000012))] 56 = true := by decide +kernel
theorem rt_X7_ask_56 : mx_kr dm_X7_ask 56 .int := ⟨by decide +kernel, rfl⟩
theorem bk_X7_ask_57 : mx_blk 7 cX7_ask 57 [.inl (.aload 3), .inl (.getfield 322)] 61 = true := by decide +kernel
theorem kc_X7_ask_61 : mx_kV dm_X7_ask 61 dm_X0_worth 0 0 := ⟨131, by decide +kernel, md_X0_worth, cv_X7_131, by decide, by decide +kernel⟩
theorem rt_X7_ask_64 : mx_kr dm_X7_ask 64 .int := ⟨by decide +kernel, rfl⟩
theorem bk_X7_item_0 : mx_blk 7 cX7_item 0 [.inl (.aload 0), .inl (.iload 1)] 2 = true := by decide +kernel
theorem kc_X7_item_2 : mx_kV dm_X7_item 2 dm_X7_isSlot 7 1 := ⟨284, by decide +kernel, md_X7_isSlot, cv_X7_284, by decide, by decide +kernel⟩
theorem br_X7_item_5 : mx_brk cX7_item 5 (.ifCond .ne 6) 11 8 = true := by decide +kernel
theorem bk_X7_item_8 : mx_blk 7 cX7_item 8 [.inr (.int (-1000000001))] 10 = true := by decide +kernel
theorem rt_X7_item_10 : mx_kr dm_X7_item 10 .int := ⟨by decide +kernel, rfl⟩
theorem bk_X7_item_11 : mx_blk 7 cX7_item 11 [.inl (.aload 0), .inl (.getfield 458), .inl (.iload 1), .inl (.anewarray 16), .inl (.astore 3), .inl (.aload 3), .inl (.getfield 320)] 22 = true := by decide +kernel
theorem br_X7_item_22 : mx_brk cX7_item 22 (.ifCond .ne 6) 28 25 = true := by decide +kernel
theorem bk_X7_item_25 : mx_blk 7 cX7_item 25 [.inr (.int (-1000000011))] 27 = true := by decide +kernel
theorem rt_X7_item_27 : mx_kr dm_X7_item 27 .int := ⟨by decide +kernel, rfl⟩
theorem bk_X7_item_28 : mx_blk 7 cX7_item 28 [.inl (.aload 3), .inl (.getfield 320), .inr (.int 2)] 33 = true := by decide +kernel
theorem br_X7_item_33 : mx_brk cX7_item 33 (.if_icmp .eq 6) 39 36 = true := by decide +kernel
theorem bk_X7_item_36 : mx_blk 7 cX7_item 36 [.inr (.int (-1000000012))] 38 = true := by decide +kernel
theorem rt_X7_item_38 : mx_kr dm_X7_item 38 .int := ⟨by decide +kernel, rfl⟩
theorem bk_X7_item_39 : mx_blk 7 cX7_item 39 [.inl (.aload 3), .inl (.getfield 323), .inl (.iload 2)] 44 = true := by decide +kernel
theorem kc_X7_item_44 : mx_kV dm_X7_item 44 dm_X4_has 4 1 := ⟨256, by decide +kernel, md_X4_has, cv_X7_256, by decide, by decide +kernel⟩
theorem br_X7_item_47 : mx_brk cX7_item 47 (.ifCond .ne 7) 54 50 = true := by decide +kernel
theorem bk_X7_item_50 : mx_blk 7 cX7_item 50 [.inr (.int (-1000000013))] 53 = true := by decide +kernel
theorem rt_X7_item_53 : mx_kr dm_X7_item 53 .int := ⟨by decide +kernel, rfl⟩
theorem bk_X7_item_54 : mx_blk 7 cX7_item 54 [.inl (.aload 3), .inl (.getfield 323), .inl (.iload 2)] 59 = true := by decide +kernel
theorem kc_X7_item_59 : mx_kV dm_X7_item 59 dm_X4_isNumberAt 4 1 := ⟨264, by decide +kernel, md_X4_isNumberAt, cv_X7_264, by decide, by decide +kernel⟩
theorem br_X7_item_62 : mx_brk cX7_item 62 (.ifCond .eq 15) 77 65 = true := by decide +kernel
theorem bk_X7_item_65 : mx_blk 7 cX7_item 65 [.inl (.aload 3), .inl (.getfield 323), .inl (.getfield 258), .inl (.iload 2), .inl .iaload] 74 = true := by decide +kernel
theorem gt_X7_item_74 : mx_jmp cX7_item 74 79 = true := by decide +kernel
theorem bk_X7_item_77 : mx_blk 7 cX7_item 77 [.inr (.int (-1000000012))] 79 = true := by decide +kernel
theorem rt_X7_item_79 : mx_kr dm_X7_item 79 .int := ⟨by decide +kernel, rfl⟩
theorem bk_X7_rest_0 : mx_blk 7 cX7_rest 0 [.inl (.aload 0), .inl (.iload 1)] 2 = true := by decide +kernel
theorem kc_X7_rest_2 : mx_kV dm_X7_rest 2 dm_X7_isSlot 7 1 := ⟨284, by decide +kernel, md_X7_isSlot, cv_X7_284, by decide, by decide +kernel⟩
theorem br_X7_rest_5 : mx_brk cX7_rest 5 (.ifCond .ne 6) 11 8 = true := by decide +kernel
theorem bk_X7_rest_8 : mx_blk 7 cX7_rest 8 [.inr (.int (-1000000001))] 10 = true := by decide +kernel
theorem rt_X7_rest_10 : mx_kr dm_X7_rest 10 .int := ⟨by decide +kernel, rfl⟩
theorem bk_X7_rest_11 : mx_blk 7 cX7_rest 11 [.inl (.aload 0), .inl (.getfield 458), .inl (.iload 1), .inl (.anewarray 16), .inl (.astore 3), .inl (.aload 3), .inl (.getfield 320)] 22 = true := by decide +kernel
theorem br_X7_rest_22 : mx_brk cX7_rest 22 (.ifCond .ne 6) 28 25 = true := by decide +kernel
theorem bk_X7_rest_25 : mx_blk 7 cX7_rest 25 [.inr (.int (-1000000011))] 27 = true := by decide +kernel
theorem rt_X7_rest_27 : mx_kr dm_X7_rest 27 .int := ⟨by decide +kernel, rfl⟩
theorem bk_X7_rest_28 : mx_blk 7 cX7_rest 28 [.inl (.aload 3), .inl (.getfield 320), .inr (.int 3)] 33 = true := by decide +kernel
theorem br_X7_rest_33 : mx_brk cX7_rest 33 (.if_icmp .eq 6) 39 36 = true := by decide +kernel
theorem bk_X7_rest_36 : mx_blk 7 cX7_rest 36 [.inr (.int (-1000000012))] 38 = true := by decide +kernel
theorem rt_X7_rest_38 : mx_kr dm_X7_rest 38 .int := ⟨by decide +kernel, rfl⟩
theorem bk_X7_rest_39 : mx_blk 7 cX7_rest 39 [.inl (.iload 2)] 40 = true := by decide +kernel
theorem br_X7_rest_40 : mx_brk cX7_rest 40 (.ifCond .ne 8) 48 43 = true := by decide +kernel
theorem bk_X7_rest_43 : mx_blk 7 cX7_rest 43 [.inr (.int (-1000000002))] 45 = true := by decide +kernel
theorem gt_X7_rest_45 : mx_jmp cX7_rest 45 54 = true := by decide +kernel
theorem bk_X7_rest_48 : mx_blk 7 cX7_rest 48 [.inl (.aload 3), .inl (.getfield 321), .inl (.iload 2), .inl .irem] 54 = true := by decide +kernel
theorem rt_X7_rest_54 : mx_kr dm_X7_rest 54 .int := ⟨by decide +kernel, rfl⟩
theorem bk_X7_tell_0 : mx_blk 7 cX7_tell 0 [.inl (.aload 0), .inl (.getfield 460), .inr (.int 60)] 6 = true := by decide +kernel
theorem br_X7_tell_6 : mx_brk cX7_tell 6 (.if_icmp .lt 6) 12 9 = true := by decide +kernel
theorem bk_X7_tell_9 : mx_blk 7 cX7_tell 9 [.inr (.int (-1000000003))] 11 = true := by decide +kernel
theorem rt_X7_tell_11 : mx_kr dm_X7_tell 11 .int := ⟨by decide +kernel, rfl⟩
theorem bk_X7_tell_12 : mx_blk 7 cX7_tell 12 [.inl (.aload 0), .inl (.getfield 459), .inl (.aload 0), .inl (.getfield 460), .inl (.iload 1), .inl .iastore, .inl (.aload 0), .inl .dup, .inl (.getfield 460), .inr (.int 1), .inl .iadd, .inl (.putfield 460), .inl (.aload 0), .inl (.getfield 460)] 36 = true := by decide +kernel
theorem rt_X7_tell_36 : mx_kr dm_X7_tell 36 .int := ⟨by decide +kernel, rfl⟩
theorem bk_X7_check_0 : mx_blk 7 cX7_check 0 [.inl (.aload 0), .inl (.getfield 460), .inl (.istore 2), .inl (.aload 0), .inr (.int 0), .inl (.putfield 460), .inl (.iload 1), .inr (.int 1), .inr (.int 30)] 14 = true := by decide +kernel
theorem kc_X7_check_14 : mx_kS dm_X7_check 14 dm_X7_within 3 := ⟨85, by decide +kernel, md_X7_within, cs_X7_85⟩
theorem br_X7_check_17 : mx_brk cX7_check 17 (.ifCond .ne 6) 23 20 = true := by decide +kernel
theorem bk_X7_check_20 : mx_blk 7 cX7_check 20 [.inr (.int (-1000000001))] 22 = true := by decide +kernel
theorem rt_X7_check_22 : mx_kr dm_X7_check 22 .int := ⟨by decide +kernel, rfl⟩
theorem bk_X7_check_23 : mx_blk 7 cX7_check 23 [.inl (.aload 0), .inl (.getfield 452)] 27 = true := by decide +kernel
theorem br_X7_check_27 : mx_brk cX7_check 27 (.ifCond .ne 6) 33 30 = true := by decide +kernel
theorem bk_X7_check_30 : mx_blk 7 cX7_check 30 [.inr (.int (-1000000002))] 32 = true := by decide +kernel
theorem rt_X7_check_32 : mx_kr dm_X7_check 32 .int := ⟨by decide +kernel, rfl⟩
theorem bk_X7_check_33 : mx_blk 7 cX7_check 33 [.inl (.aload 0), .inl (.getfield 451), .inl (.aload 0), .inl (.getfield 450)] 41 = true := by decide +kernel
theorem kc_X7_check_41 : mx_kV dm_X7_check 41 dm_X6_becomeLike 6 1 := ⟨308, by decide +kernel, md_X6_becomeLike, cv_X7_308, by decide, by decide +kernel⟩
theorem bk_X7_check_44 : mx_blk 7 cX7_check 44 [.inl (.iload 1), .inr (.int 99999), .inl (.aload 0), .inl (.getfield 450), .inl (.getfield 389), .inl .isub] 55 = true := by decide +kernel
theorem kc_X7_check_55 : mx_km dm_X7_check 55 Lib.Math.min.name := ⟨162, by decide +kernel, mx_gw (i := 402) (by decide +kernel)⟩
theorem bk_X7_check_58 : mx_blk 7 cX7_check 58 [.inl (.istore 3), .inr (.int 0), .inl (.istore 4), .inr (.int 1), .inl (.istore 5)] 65 = true := by decide +kernel
theorem bk_X7_check_65 : mx_blk 7 cX7_check 65 [.inl (.iload 5), .inl (.iload 3)] 68 = true := by decide +kernel
theorem br_X7_check_68 : mx_brk cX7_check 68 (.if_icmp .gt 69) 137 71 = true := by decide +kernel
theorem bk_X7_check_71 : mx_blk 7 cX7_check 71 [.inl (.aload 0), .inl (.getfield 451), .inr (.int 63)] 77 = true := by decide +kernel
theorem kc_X7_check_77 : mx_kV dm_X7_check 77 dm_X6_liveDay 6 1 := ⟨177, by decide +kernel, md_X6_liveDay, cv_X7_177, by decide, by decide +kernel⟩
theorem bk_X7_check_80 : mx_blk 7 cX7_check 80 [.inl .pop, .inl (.aload 0), .inl (.iload 4), .inl (.iload 2), .inl (.aload 0), .inl (.getfield 451)] 89 = true := by decide +kernel
theorem kc_X7_check_89 : mx_kV dm_X7_check 89 dm_X6_fairs 6 0 := ⟨311, by decide +kernel, md_X6_fairs, cv_X7_311, by decide, by decide +kernel⟩
theorem kc_X7_check_92 : mx_kV dm_X7_check 92 dm_X7_stands 7 3 := ⟨314, by decide +kernel, md_X7_stands, cv_X7_314, by decide, by decide +kernel⟩
theorem br_X7_check_95 : mx_brk cX7_check 95 (.ifCond .ne 8) 103 98 = true := by decide +kernel
theorem bk_X7_check_98 : mx_blk 7 cX7_check 98 [.inr (.int 1), .inl (.iload 4), .inl .iadd] 102 = true := by decide +kernel
theorem rt_X7_check_102 : mx_kr dm_X7_check 102 .int := ⟨by decide +kernel, rfl⟩
theorem bk_X7_check_103 : mx_blk 7 cX7_check 103 [.inl (.iinc 4 1), .inl (.aload 0), .inl (.iload 4), .inl (.iload 2), .inl (.aload 0), .inl (.getfield 451)] 114 = true := by decide +kernel
theorem kc_X7_check_114 : mx_kV dm_X7_check 114 dm_X6_pursesOfAll 6 0 := ⟨317, by decide +kernel, md_X6_pursesOfAll, cv_X7_317, by decide, by decide +kernel⟩
theorem kc_X7_check_117 : mx_kV dm_X7_check 117 dm_X7_stands 7 3 := ⟨314, by decide +kernel, md_X7_stands, cv_X7_314, by decide, by decide +kernel⟩
theorem br_X7_check_120 : mx_brk cX7_check 120 (.ifCond .ne 8) 128 123 = true := by decide +kernel
theorem bk_X7_check_123 : mx_blk 7 cX7_check 123 [.inr (.int 1), .inl (.iload 4), .inl .iadd] 127 = true := by decide +kernel
theorem rt_X7_check_127 : mx_kr dm_X7_check 127 .int := ⟨by decide +kernel, rfl⟩
theorem bk_X7_check_128 : mx_blk 7 cX7_check 128 [.inl (.iinc 4 1), .inl (.iinc 5 1)] 134 = true := by decide +kernel
theorem gt_X7_check_134 : mx_jmp cX7_check 134 65 = true := by decide +kernel
theorem bk_X7_check_137 : mx_blk 7 cX7_check 137 [.inl (.iload 2), .inl (.iload 4)] 140 = true := by decide +kernel
theorem br_X7_check_140 : mx_brk cX7_check 140 (.if_icmp .le 10) 150 143 = true := by decide +kernel
theorem bk_X7_check_143 : mx_blk 7 cX7_check 143 [.inr (.int 1), .inl (.iload 4), .inl .iadd] 147 = true := by decide +kernel
theorem gt_X7_check_147 : mx_jmp cX7_check 147 151 = true := by decide +kernel
theorem bk_X7_check_150 : mx_blk 7 cX7_check 150 [.inr (.int 0)] 151 = true := by decide +kernel
theorem rt_X7_check_151 : mx_kr dm_X7_check 151 .int := ⟨by decide +kernel, rfl⟩
theorem bk_X7_keep_0 : mx_blk 7 cX7_keep 0 [.inl (.aload 0), .inl (.getfield 450), .inl (.aload 0), .inl (.getfield 449)] 8 = true := by decide +kernel
theorem kc_X7_keep_8 : mx_kV dm_X7_keep 8 dm_X6_becomeLike 6 1 := ⟨308, by decide +kernel, md_X6_becomeLike, cv_X7_308, by decide, by decide +kernel⟩
theorem bk_X7_keep_11 : mx_blk 7 cX7_keep 11 [.inl (.aload 0), .inr (.int 1), .inl (.putfield 452), .inl (.aload 0), .inl (.getfield 449), .inl (.getfield 388)] 23 = true := by decide +kernel
theorem rt_X7_keep_23 : mx_kr dm_X7_keep 23 .int := ⟨by decide +kernel, rfl⟩
theorem bk_X7_back_0 : mx_blk 7 cX7_back 0 [.inl (.aload 0), .inl (.getfield 452)] 4 = true := by decide +kernel
theorem br_X7_back_4 : mx_brk cX7_back 4 (.ifCond .ne 6) 10 7 = true := by decide +kernel
theorem bk_X7_back_7 : mx_blk 7 cX7_back 7 [.inr (.int (-1000000002))] 9 = true := by decide +kernel
theorem rt_X7_back_9 : mx_kr dm_X7_back 9 .int := ⟨by decide +kernel, rfl⟩
theorem bk_X7_back_10 : mx_blk 7 cX7_back 10 [.inl (.aload 0), .inl (.getfield 449), .inl (.aload 0), .inl (.getfield 450)] 18 = true := by decide +kernel
theorem kc_X7_back_18 : mx_kV dm_X7_back 18 dm_X6_becomeLike 6 1 := ⟨308, by decide +kernel, md_X6_becomeLike, cv_X7_308, by decide, by decide +kernel⟩
theorem bk_X7_back_21 : mx_blk 7 cX7_back 21 [.inl (.aload 0), .inl (.getfield 449), .inl (.getfield 388)] 28 = true := by decide +kernel
theorem rt_X7_back_28 : mx_kr dm_X7_back 28 .int := ⟨by decide +kernel, rfl⟩
theorem bk_X7_count_0 : mx_blk 7 cX7_count 0 [.inl (.iload 1)] 1 = true := by decide +kernel
theorem sw_X7_count_1 : mx_swk cX7_count 1 [(0, 56), (1, 64), (2, 72), (3, 80), (4, 88), (5, 96), (6, 104), (7, 112), (8, 117), (9, 122)] 130 = true := by decide +kernel
theorem bk_X7_count_56 : mx_blk 7 cX7_count 56 [.inl (.aload 0), .inl (.getfield 449), .inl (.getfield 388)] 63 = true := by decide +kernel
theorem rt_X7_count_63 : mx_kr dm_X7_count 63 .int := ⟨by decide +kernel, rfl⟩
theorem bk_X7_count_64 : mx_blk 7 cX7_count 64 [.inl (.aload 0), .inl (.getfield 449), .inl (.getfield 389)] 71 = true := by decide +kernel
theorem rt_X7_count_71 : mx_kr dm_X7_count 71 .int := ⟨by decide +kernel, rfl⟩
theorem bk_X7_count_72 : mx_blk 7 cX7_count 72 [.inl (.aload 0), .inl (.getfield 449), .inl (.getfield 390)] 79 = true := by decide +kernel
theorem rt_X7_count_79 : mx_kr dm_X7_count 79 .int := ⟨by decide +kernel, rfl⟩
theorem bk_X7_count_80 : mx_blk 7 cX7_count 80 [.inl (.aload 0), .inl (.getfield 449), .inl (.getfield 391)] 87 = true := by decide +kernel
theorem rt_X7_count_87 : mx_kr dm_X7_count 87 .int := ⟨by decide +kernel, rfl⟩
theorem bk_X7_count_88 : mx_blk 7 cX7_count 88 [.inl (.aload 0), .inl (.getfield 449), .inl (.getfield 392)] 95 = true := by decide +kernel
theorem rt_X7_count_95 : mx_kr dm_X7_count 95 .int := ⟨by decide +kernel, rfl⟩
theorem bk_X7_count_96 : mx_blk 7 cX7_count 96 [.inl (.aload 0), .inl (.getfield 449)] 100 = true := by decide +kernel
theorem kc_X7_count_100 : mx_kV dm_X7_count 100 dm_X6_pursesOfAll 6 0 := ⟨317, by decide +kernel, md_X6_pursesOfAll, cv_X7_317, by decide, by decide +kernel⟩
theorem rt_X7_count_103 : mx_kr dm_X7_count 103 .int := ⟨by decide +kernel, rfl⟩
theorem bk_X7_count_104 : mx_blk 7 cX7_count 104 [.inl (.aload 0), .inl (.getfield 449), .inl (.getfield 394)] 111 = true := by decide +kernel
theorem rt_X7_count_111 : mx_kr dm_X7_count 111 .int := ⟨by decide +kernel, rfl⟩
theorem bk_X7_count_112 : mx_blk 7 cX7_count 112 [.inl (.aload 0), .inl (.getfield 460)] 116 = true := by decide +kernel
theorem rt_X7_count_116 : mx_kr dm_X7_count 116 .int := ⟨by decide +kernel, rfl⟩
theorem bk_X7_count_117 : mx_blk 7 cX7_count 117 [.inl (.aload 0), .inl (.getfield 454)] 121 = true := by decide +kernel
theorem rt_X7_count_121 : mx_kr dm_X7_count 121 .int := ⟨by decide +kernel, rfl⟩
theorem bk_X7_count_122 : mx_blk 7 cX7_count 122 [.inl (.aload 0), .inl (.getfield 449), .inl (.getfield 393)] 129 = true := by decide +kernel
theorem rt_X7_count_129 : mx_kr dm_X7_count 129 .int := ⟨by decide +kernel, rfl⟩
theorem bk_X7_count_130 : mx_blk 7 cX7_count 130 [.inr (.int (-1000000001))] 132 = true := by decide +kernel
theorem rt_X7_count_132 : mx_kr dm_X7_count 132 .int := ⟨by decide +kernel, rfl⟩
theorem bk_X7_within_0 : mx_blk 7 cX7_within 0 [.inl (.iload 0), .inl (.iload 1)] 2 = true := by decide +kernel
theorem br_X7_within_2 : mx_brk cX7_within 2 (.if_icmp .lt 12) 14 5 = true := by decide +kernel
theorem bk_X7_within_5 : mx_blk 7 cX7_within 5 [.inl (.iload 0), .inl (.iload 2)] 7 = true := by decide +kernel
theorem br_X7_within_7 : mx_brk cX7_within 7 (.if_icmp .gt 7) 14 10 = true := by decide +kernel
theorem bk_X7_within_10 : mx_blk 7 cX7_within 10 [.inr (.int 1)] 11 = true := by decide +kernel
theorem gt_X7_within_11 : mx_jmp cX7_within 11 15 = true := by decide +kernel
theorem bk_X7_within_14 : mx_blk 7 cX7_within 14 [.inr (.int 0)] 15 = true := by decide +kernel
theorem rt_X7_within_15 : mx_kr dm_X7_within 15 .boolean := ⟨by decide +kernel, rfl⟩
theorem bk_X7_held_0 : mx_blk 7 cX7_held 0 [.inl (.iload 1), .inl (.iload 2), .inl (.iload 0)] 3 = true := by decide +kernel
theorem kc_X7_held_3 : mx_km dm_X7_held 3 Lib.Math.min.name := ⟨162, by decide +kernel, mx_gw (i := 402) (by decide +kernel)⟩
theorem kc_X7_held_6 : mx_km dm_X7_held 6 Lib.Math.max.name := ⟨320, by decide +kernel, mx_gw (i := 405) (by decide +kernel)⟩
theorem rt_X7_held_9 : mx_kr dm_X7_held 9 .int := ⟨by decide +kernel, rfl⟩
theorem bk_X7_isKind_0 : mx_blk 7 cX7_isKind 0 [.inl (.iload 0)] 1 = true := by decide +kernel
theorem br_X7_isKind_1 : mx_brk cX7_isKind 1 (.ifCond .lt 15) 16 4 = true := by decide +kernel
theorem bk_X7_isKind_4 : mx_blk 7 cX7_isKind 4 [.inl (.iload 0)] 5 = true := by decide +kernel
theorem dd_X7_isKind_5 : decode cX7_isKind 5 = .ok (.getstatic 323, 3) := by decide +kernel
theorem dd_X7_isKind_8 : decode cX7_isKind 8 = .ok (.arraylength, 1) := by decide +kernel
theorem br_X7_isKind_9 : mx_brk cX7_isKind 9 (.if_icmp .ge 7) 16 12 = true := by decide +kernel
theorem bk_X7_isKind_12 : mx_blk 7 cX7_isKind 12 [.inr (.int 1)] 13 = true := by decide +kernel
theorem gt_X7_isKind_13 : mx_jmp cX7_isKind 13 17 = true := by decide +kernel
theorem bk_X7_isKind_16 : mx_blk 7 cX7_isKind 16 [.inr (.int 0)] 17 = true := by decide +kernel
theorem rt_X7_isKind_17 : mx_kr dm_X7_isKind 17 .boolean := ⟨by decide +kernel, rfl⟩
theorem bk_X7_isSheet_0 : mx_blk 7 cX7_isSheet 0 [.inl (.iload 1)] 1 = true := by decide +kernel
theorem br_X7_isSheet_1 : mx_brk cX7_isSheet 1 (.ifCond .lt 16) 17 4 = true := by decide +kernel
theorem bk_X7_isSheet_4 : mx_blk 7 cX7_isSheet 4 [.inl (.iload 1), .inl (.aload 0), .inl (.getfield 457), .inl .arraylength] 10 = true := by decide +kernel
theorem br_X7_isSheet_10 : mx_brk cX7_isSheet 10 (.if_icmp .ge 7) 17 13 = true := by decide +kernel
theorem bk_X7_isSheet_13 : mx_blk 7 cX7_isSheet 13 [.inr (.int 1)] 14 = true := by decide +kernel
theorem gt_X7_isSheet_14 : mx_jmp cX7_isSheet 14 18 = true := by decide +kernel
theorem bk_X7_isSheet_17 : mx_blk 7 cX7_isSheet 17 [.inr (.int 0)] 18 = true := by decide +kernel
theorem rt_X7_isSheet_18 : mx_kr dm_X7_isSheet 18 .boolean := ⟨by decide +kernel, rfl⟩
theorem bk_X7_isSlot_0 : mx_blk 7 cX7_isSlot 0 [.inl (.iload 1)] 1 = true := by decide +kernel
theorem br_X7_isSlot_1 : mx_brk cX7_isSlot 1 (.ifCond .lt 16) 17 4 = true := by decide +kernel
theorem bk_X7_isSlot_4 : mx_blk 7 cX7_isSlot 4 [.inl (.iload 1), .inl (.aload 0), .inl (.getfield 458), .inl .arraylength] 10 = true := by decide +kernel
theorem br_X7_isSlot_10 : mx_brk cX7_isSlot 10 (.if_icmp .ge 7) 17 13 = true := by decide +kernel
theorem bk_X7_isSlot_13 : mx_blk 7 cX7_isSlot 13 [.inr (.int 1)] 14 = true := by decide +kernel
theorem gt_X7_isSlot_14 : mx_jmp cX7_isSlot 14 18 = true := by decide +kernel
theorem bk_X7_isSlot_17 : mx_blk 7 cX7_isSlot 17 [.inr (.int 0)] 18 = true := by decide +kernel
theorem rt_X7_isSlot_18 : mx_kr dm_X7_isSlot 18 .boolean := ⟨by decide +kernel, rfl⟩
theorem bk_X7_only_0 : mx_blk 7 cX7_only 0 [.inr (.int 1), .inl (.iload 0), .inl .ishl] 3 = true := by decide +kernel
theorem rt_X7_only_3 : mx_kr dm_X7_only 3 .int := ⟨by decide +kernel, rfl⟩
theorem bk_X7_thinkFromNow_0 : mx_blk 7 cX7_thinkFromNow 0 [.inl (.aload 0), .inl (.getfield 451), .inl (.aload 0), .inl (.getfield 449)] 8 = true := by decide +kernel
theorem kc_X7_thinkFromNow_8 : mx_kV dm_X7_thinkFromNow 8 dm_X6_becomeLike 6 1 := ⟨308, by decide +kernel, md_X6_becomeLike, cv_X7_308, by decide, by decide +kernel⟩
theorem rt_X7_thinkFromNow_11 : mx_kv dm_X7_thinkFromNow 11 := ⟨by decide +kernel, rfl⟩
theorem bk_X7_thinkOn_0 : mx_blk 7 cX7_thinkOn 0 [.inr (.int 0), .inl (.istore 3)] 2 = true := by decide +kernel
theorem bk_X7_thinkOn_2 : mx_blk 7 cX7_thinkOn 2 [.inl (.iload 3), .inl (.iload 1)] 4 = true := by decide +kernel
theorem br_X7_thinkOn_4 : mx_brk cX7_thinkOn 4 (.if_icmp .ge 18) 22 7 = true := by decide +kernel
theorem bk_X7_thinkOn_7 : mx_blk 7 cX7_thinkOn 7 [.inl (.aload 0), .inl (.getfield 451), .inl (.iload 2)] 12 = true := by decide +kernel
theorem kc_X7_thinkOn_12 : mx_kV dm_X7_thinkOn 12 dm_X6_liveDay 6 1 := ⟨177, by decide +kernel, md_X6_liveDay, cv_X7_177, by decide, by decide +kernel⟩
theorem bk_X7_thinkOn_15 : mx_blk 7 cX7_thinkOn 15 [.inl .pop, .inl (.iinc 3 1)] 19 = true := by decide +kernel
theorem gt_X7_thinkOn_19 : mx_jmp cX7_thinkOn 19 2 = true := by decide +kernel
theorem rt_X7_thinkOn_22 : mx_kv dm_X7_thinkOn 22 := ⟨by decide +kernel, rfl⟩
theorem bk_X7_tradeOneDay_0 : mx_blk 7 cX7_tradeOneDay 0 [.inr (.int 0), .inl (.istore 1)] 2 = true := by decide +kernel
theorem bk_X7_tradeOneDay_2 : mx_blk 7 cX7_tradeOneDay 2 [.inl (.iload 1), .inl (.aload 0), .inl (.getfield 451), .inl (.getfield 388)] 10 = true := by decide +kernel
theorem br_X7_tradeOneDay_10 : mx_brk cX7_tradeOneDay 10 (.if_icmp .ge 84) 94 13 = true := by decide +kernel
theorem bk_X7_tradeOneDay_13 : mx_blk 7 cX7_tradeOneDay 13 [.inl (.aload 0), .inl (.getfield 461), .inl (.iload 1), .inl .iaload, .inl (.istore 2), .inl (.iload 1)] 21 = true := by decide +kernel
theorem br_X7_tradeOneDay_21 : mx_brk cX7_tradeOneDay 21 (.ifCond .le 16) 37 24 = true := by decide +kernel
theorem bk_X7_tradeOneDay_24 : mx_blk 7 cX7_tradeOneDay 24 [.inl (.iload 2), .inl (.aload 0), .inl (.getfield 461), .inl (.iload 1), .inr (.int 1), .inl .isub, .inl .iaload] 33 = true := by decide +kernel
theorem kc_X7_tradeOneDay_33 : mx_km dm_X7_tradeOneDay 33 Lib.Math.max.name := ⟨320, by decide +kernel, mx_gw (i := 405) (by decide +kernel)⟩
theorem bk_X7_tradeOneDay_36 : mx_blk 7 cX7_tradeOneDay 36 [.inl (.istore 2)] 37 = true := by decide +kernel
theorem bk_X7_tradeOneDay_37 : mx_blk 7 cX7_tradeOneDay 37 [.inl (.iload 1), .inr (.int 1), .inl .iadd, .inl (.aload 0), .inl (.getfield 451), .inl (.getfield 388)] 47 = true := by decide +kernel
theorem br_X7_tradeOneDay_47 : mx_brk cX7_tradeOneDay 47 (.if_icmp .ge 16) 63 50 = true := by decide +kernel
theorem bk_X7_tradeOneDay_50 : mx_blk 7 cX7_tradeOneDay 50 [.inl (.iload 2), .inl (.aload 0), .inl (.getfield 461), .inl (.iload 1), .inr (.int 1), .inl .iadd, .inl .iaload] 59 = true := by decide +kernel
theorem kc_X7_tradeOneDay_59 : mx_km dm_X7_tradeOneDay 59 Lib.Math.max.name := ⟨320, by decide +kernel, mx_gw (i := 405) (by decide +kernel)⟩
theorem bk_X7_tradeOneDay_62 : mx_blk 7 cX7_tradeOneDay 62 [.inl (.istore 2)] 63 = true := by decide +kernel
theorem bk_X7_tradeOneDay_63 : mx_blk 7 cX7_tradeOneDay 63 [.inl (.aload 0), .inl (.getfield 462), .inl (.iload 1), .inl (.iload 2)] 69 = true := by decide +kernel
theorem br_X7_tradeOneDay_69 : mx_brk cX7_tradeOneDay 69 (.ifCond .ge 8) 77 72 = true := by decide +kernel
theorem bk_X7_tradeOneDay_72 : mx_blk 7 cX7_tradeOneDay 72 [.inr (.int (-1000000005))] 74 = true := by decide +kernel
theorem gt_X7_tradeOneDay_74 : mx_jmp cX7_tradeOneDay 74 87 = true := by decide +kernel
theorem bk_X7_tradeOneDay_77 : mx_blk 7 cX7_tradeOneDay 77 [.inl (.iload 2), .inl (.aload 0), .inl (.getfield 451), .inl (.iload 1)] 83 = true := by decide +kernel
theorem kc_X7_tradeOneDay_83 : mx_kV dm_X7_tradeOneDay 83 dm_X6_fairAt 6 1 := ⟨135, by decide +kernel, md_X6_fairAt, cv_X7_135, by decide, by decide +kernel⟩
theorem bk_X7_tradeOneDay_86 : mx_blk 7 cX7_tradeOneDay 86 [.inl .iadd] 87 = true := by decide +kernel
theorem bk_X7_tradeOneDay_87 : mx_blk 7 cX7_tradeOneDay 87 [.inl .iastore, .inl (.iinc 1 1)] 91 = true := by decide +kernel
theorem gt_X7_tradeOneDay_91 : mx_jmp cX7_tradeOneDay 91 2 = true := by decide +kernel
theorem bk_X7_tradeOneDay_94 : mx_blk 7 cX7_tradeOneDay 94 [.inl (.aload 0), .inl (.getfield 461), .inl (.astore 1), .inl (.aload 0), .inl (.aload 0), .inl (.getfield 462), .inl (.putfield 461), .inl (.aload 0), .inl (.aload 1), .inl (.putfield 462)] 112 = true := by decide +kernel
theorem rt_X7_tradeOneDay_112 : mx_kv dm_X7_tradeOneDay 112 := ⟨by decide +kernel, rfl⟩
theorem bk_X7_mostSeenAt_0 : mx_blk 7 cX7_mostSeenAt 0 [.inr (.int 0), .inl (.istore 1), .inr (.int 1), .inl (.istore 2)] 4 = true := by decide +kernel
theorem bk_X7_mostSeenAt_4 : mx_blk 7 cX7_mostSeenAt 4 [.inl (.iload 2), .inl (.aload 0), .inl (.getfield 451), .inl (.getfield 388)] 12 = true := by decide +kernel
theorem br_X7_mostSeenAt_12 : mx_brk cX7_mostSeenAt 12 (.if_icmp .ge 26) 38 15 = true := by decide +kernel
theorem bk_X7_mostSeenAt_15 : mx_blk 7 cX7_mostSeenAt 15 [.inl (.aload 0), .inl (.getfield 461), .inl (.iload 2), .inl .iaload, .inl (.aload 0), .inl (.getfield 461), .inl (.iload 1), .inl .iaload] 27 = true := by decide +kernel
theorem br_X7_mostSeenAt_27 : mx_brk cX7_mostSeenAt 27 (.if_icmp .le 5) 32 30 = true := by decide +kernel
theorem bk_X7_mostSeenAt_30 : mx_blk 7 cX7_mostSeenAt 30 [.inl (.iload 2), .inl (.istore 1)] 32 = true := by decide +kernel
theorem bk_X7_mostSeenAt_32 : mx_blk 7 cX7_mostSeenAt 32 [.inl (.iinc 2 1)] 35 = true := by decide +kernel
theorem gt_X7_mostSeenAt_35 : mx_jmp cX7_mostSeenAt 35 4 = true := by decide +kernel
theorem bk_X7_mostSeenAt_38 : mx_blk 7 cX7_mostSeenAt 38 [.inl (.iload 1)] 39 = true := by decide +kernel
theorem rt_X7_mostSeenAt_39 : mx_kr dm_X7_mostSeenAt 39 .int := ⟨by decide +kernel, rfl⟩
theorem bk_X7_differences_0 : mx_blk 7 cX7_differences 0 [.inl (.aload 0)] 1 = true := by decide +kernel
theorem kc_X7_differences_1 : mx_kV dm_X7_differences 1 dm_X7_thinkFromNow 7 0 := ⟨180, by decide +kernel, md_X7_thinkFromNow, cv_X7_180, by decide, by decide +kernel⟩
theorem bk_X7_differences_4 : mx_blk 7 cX7_differences 4 [.inl (.aload 0), .inl (.getfield 451), .inl (.getfield 384), .inl (.iload 2), .inl (.anewarray 13), .inl (.astore 4), .inl (.aload 4), .inl (.iload 3), .inl (.putfield 1), .inr (.int 0), .inl (.istore 5), .inr (.int 0), .inl (.istore 6)] 27 = true := by decide +kernel
theorem bk_X7_differences_27 : mx_blk 7 cX7_differences 27 [.inl (.iload 6), .inr (.int 6)] 31 = true := by decide +kernel
theorem br_X7_differences_31 : mx_brk cX7_differences 31 (.if_icmp .ge 62) 93 34 = true := by decide +kernel
theorem bk_X7_differences_34 : mx_blk 7 cX7_differences 34 [.inl (.iload 6), .inl (.aload 1), .inl (.getfield 257)] 40 = true := by decide +kernel
theorem br_X7_differences_40 : mx_brk cX7_differences 40 (.if_icmp .ge 53) 93 43 = true := by decide +kernel
theorem bk_X7_differences_43 : mx_blk 7 cX7_differences 43 [.inl (.aload 1), .inl (.iload 6)] 46 = true := by decide +kernel
theorem kc_X7_differences_46 : mx_kV dm_X7_differences 46 dm_X4_isNumberAt 4 1 := ⟨264, by decide +kernel, md_X4_isNumberAt, cv_X7_264, by decide, by decide +kernel⟩
theorem br_X7_differences_49 : mx_brk cX7_differences 49 (.ifCond .eq 24) 73 52 = true := by decide +kernel
theorem bk_X7_differences_52 : mx_blk 7 cX7_differences 52 [.inl (.iload 5), .inl (.aload 4), .inl (.getfield 3), .inl (.aload 1), .inl (.getfield 258), .inl (.iload 6), .inl .iaload, .inl .isub] 67 = true := by decide +kernel
theorem kc_X7_differences_67 : mx_km dm_X7_differences 67 Lib.Math.abs.name := ⟨326, by decide +kernel, mx_gw (i := 560) (by decide +kernel)⟩
theorem bk_X7_differences_70 : mx_blk 7 cX7_differences 70 [.inl .iadd, .inl (.istore 5)] 73 = true := by decide +kernel
theorem bk_X7_differences_73 : mx_blk 7 cX7_differences 73 [.inl (.aload 1), .inl (.iload 6)] 76 = true := by decide +kernel
theorem kc_X7_differences_76 : mx_kV dm_X7_differences 76 dm_X4_hasNumberBehind 4 1 := ⟨329, by decide +kernel, md_X4_hasNumberBehind, cv_X7_329, by decide, by decide +kernel⟩
theorem br_X7_differences_79 : mx_brk cX7_differences 79 (.ifCond .eq 8) 87 82 = true := by decide +kernel
theorem bk_X7_differences_82 : mx_blk 7 cX7_differences 82 [.inl (.aload 0), .inl (.iload 2)] 84 = true := by decide +kernel
theorem kc_X7_differences_84 : mx_kV dm_X7_differences 84 dm_X7_thinkTillNextWeek 7 1 := ⟨332, by decide +kernel, md_X7_thinkTillNextWeek, cv_X7_332, by decide, by decide +kernel⟩
theorem bk_X7_differences_87 : mx_blk 7 cX7_differences 87 [.inl (.iinc 6 1)] 90 = true := by decide +kernel
theorem gt_X7_differences_90 : mx_jmp cX7_differences 90 27 = true := by decide +kernel
theorem bk_X7_differences_93 : mx_blk 7 cX7_differences 93 [.inl (.iload 5)] 95 = true := by decide +kernel
theorem rt_X7_differences_95 : mx_kr dm_X7_differences 95 .int := ⟨by decide +kernel, rfl⟩
theorem bk_X7_thinkTillNextWeek_0 : mx_blk 7 cX7_thinkTillNextWeek 0 [.inr (.int 0), .inl (.istore 2), .inr (.int 0), .inl (.istore 3)] 4 = true := by decide +kernel
theorem bk_X7_thinkTillNextWeek_4 : mx_blk 7 cX7_thinkTillNextWeek 4 [.inl (.iload 3), .inr (.int 60)] 7 = true := by decide +kernel
theorem br_X7_thinkTillNextWeek_7 : mx_brk cX7_thinkTillNextWeek 7 (.if_icmp .ge 25) 32 10 = true := by decide +kernel
theorem bk_X7_thinkTillNextWeek_10 : mx_blk 7 cX7_thinkTillNextWeek 10 [.inl (.iload 2)] 11 = true := by decide +kernel
theorem br_X7_thinkTillNextWeek_11 : mx_brk cX7_thinkTillNextWeek 11 (.ifCond .ne 21) 32 14 = true := by decide +kernel
theorem bk_X7_thinkTillNextWeek_14 : mx_blk 7 cX7_thinkTillNextWeek 14 [.inl (.aload 0), .inl (.getfield 451), .inl (.iload 1)] 19 = true := by decide +kernel
theorem kc_X7_thinkTillNextWeek_19 : mx_kS dm_X7_thinkTillNextWeek 19 dm_X7_only 1 := ⟨183, by decide +kernel, md_X7_only, cs_X7_183⟩
theorem kc_X7_thinkTillNextWeek_22 : mx_kV dm_X7_thinkTillNextWeek 22 dm_X6_liveDay 6 1 := ⟨177, by decide +kernel, md_X6_liveDay, cv_X7_177, by decide, by decide +kernel⟩
theorem bk_X7_thinkTillNextWeek_25 : mx_blk 7 cX7_thinkTillNextWeek 25 [.inl (.istore 2), .inl (.iinc 3 1)] 29 = true := by decide +kernel
theorem gt_X7_thinkTillNextWeek_29 : mx_jmp cX7_thinkTillNextWeek 29 4 = true := by decide +kernel
theorem rt_X7_thinkTillNextWeek_32 : mx_kv dm_X7_thinkTillNextWeek 32 := ⟨by decide +kernel, rfl⟩
theorem bk_X7_feedOne_0 : mx_blk 7 cX7_feedOne 0 [.inr (.int 24), .inl (.istore 2)] 3 = true := by decide +kernel
theorem bk_X7_feedOne_3 : mx_blk 7 cX7_feedOne 3 [.inl (.iload 2)] 4 = true := by decide +kernel
theorem br_X7_feedOne_4 : mx_brk cX7_feedOne 4 (.ifCond .lt 41) 45 7 = true := by decide +kernel
theorem bk_X7_feedOne_7 : mx_blk 7 cX7_feedOne 7 [.inl (.aload 0), .inl (.getfield 454), .inr (.int 96)] 13 = true := by decide +kernel
theorem br_X7_feedOne_13 : mx_brk cX7_feedOne 13 (.if_icmp .ge 32) 45 16 = true := by decide +kernel
theorem bk_X7_feedOne_16 : mx_blk 7 cX7_feedOne 16 [.inl (.aload 0), .inl (.getfield 453), .inl (.aload 0), .inl (.getfield 454), .inl (.iload 1), .inl (.iload 2), .inl .iushr, .inl .i2b, .inl .bastore, .inl (.aload 0), .inl .dup, .inl (.getfield 454), .inr (.int 1), .inl .iadd, .inl (.putfield 454), .inl (.iinc 2 (-8))] 42 = true := by decide +kernel
theorem gt_X7_feedOne_42 : mx_jmp cX7_feedOne 42 3 = true := by decide +kernel
theorem rt_X7_feedOne_45 : mx_kv dm_X7_feedOne 45 := ⟨by decide +kernel, rfl⟩
theorem bk_X7_stands_0 : mx_blk 7 cX7_stands 0 [.inl (.iload 1), .inl (.iload 2)] 2 = true := by decide +kernel
theorem br_X7_stands_2 : mx_brk cX7_stands 2 (.if_icmp .ge 26) 28 5 = true := by decide +kernel
theorem bk_X7_stands_5 : mx_blk 7 cX7_stands 5 [.inl (.iload 1), .inl (.aload 0), .inl (.getfield 459), .inl .arraylength] 11 = true := by decide +kernel
theorem br_X7_stands_11 : mx_brk cX7_stands 11 (.if_icmp .ge 17) 28 14 = true := by decide +kernel
theorem bk_X7_stands_14 : mx_blk 7 cX7_stands 14 [.inl (.aload 0), .inl (.getfield 459), .inl (.iload 1), .inl .iaload, .inl (.iload 3)] 21 = true := by decide +kernel
theorem br_X7_stands_21 : mx_brk cX7_stands 21 (.if_icmp .ne 7) 28 24 = true := by decide +kernel
theorem bk_X7_stands_24 : mx_blk 7 cX7_stands 24 [.inr (.int 1)] 25 = true := by decide +kernel
theorem gt_X7_stands_25 : mx_jmp cX7_stands 25 29 = true := by decide +kernel
theorem bk_X7_stands_28 : mx_blk 7 cX7_stands 28 [.inr (.int 0)] 29 = true := by decide +kernel
theorem rt_X7_stands_29 : mx_kr dm_X7_stands 29 .boolean := ⟨by decide +kernel, rfl⟩
end
section
theorem bk_X8_init_0 : mx_blk 8 cX8_init 0 [.inl (.aload 0)] 1 = true := by decide +kernel
theorem kc_X8_init_1 : mx_ko dm_X8_init 1 := ⟨1, by decide +kernel, mx_gw (i := 894) (by decide +kernel)⟩
theorem bk_X8_init_4 : mx_blk 8 cX8_init 4 [.inl (.aload 0), .inr (.int 1427)] 8 = true := by decide +kernel
theorem dd_X8_init_8 : decode cX8_init 8 = .ok (.newarray .int, 2) := by decide +kernel
theorem bk_X8_init_10 : mx_blk 8 cX8_init 10 [.inl (.putfield 512), .inl (.aload 0), .inr (.int 1427)] 17 = true := by decide +kernel
theorem dd_X8_init_17 : decode cX8_init 17 = .ok (.newarray .int, 2) := by decide +kernel
theorem bk_X8_init_19 : mx_blk 8 cX8_init 19 [.inl (.putfield 513), .inl (.aload 0), .inr (.int 1427)] 26 = true := by decide +kernel
theorem dd_X8_init_26 : decode cX8_init 26 = .ok (.newarray .int, 2) := by decide +kernel
theorem bk_X8_init_28 : mx_blk 8 cX8_init 28 [.inl (.putfield 514), .inl (.aload 0), .inr (.int 55)] 34 = true := by decide +kernel
theorem dd_X8_init_34 : decode cX8_init 34 = .ok (.newarray .int, 2) := by decide +kernel
theorem bk_X8_init_36 : mx_blk 8 cX8_init 36 [.inl (.putfield 516), .inl (.aload 0), .inr (.int 6)] 42 = true := by decide +kernel
theorem dd_X8_init_42 : decode cX8_init 42 = .ok (.newarray .int, 2) := by decide +kernel
theorem bk_X8_init_44 : mx_blk 8 cX8_init 44 [.inl (.putfield 517), .inl (.aload 0), .inr (.int 6)] 50 = true := by decide +kernel
theorem dd_X8_init_50 : decode cX8_init 50 = .ok (.newarray .int, 2) := by decide +kernel
theorem bk_X8_init_52 : mx_blk 8 cX8_init 52 [.inl (.putfield 518), .inl (.aload 0), .inr (.int 96)] 58 = true := by decide +kernel
theorem dd_X8_init_58 : decode cX8_init 58 = .ok (.newarray .int, 2) := by decide +kernel
theorem bk_X8_init_60 : mx_blk 8 cX8_init 60 [.inl (.putfield 519), .inl (.aload 0), .inr (.int 13)] 66 = true := by decide +kernel
theorem dd_X8_init_66 : decode cX8_init 66 = .ok (.newarray .char, 2) := by decide +kernel
theorem bk_X8_init_68 : mx_blk 8 cX8_init 68 [.inl .dup, .inr (.int 0), .inr (.int 98), .inl .castore, .inl .dup, .inr (.int 1), .inr (.int 105), .inl .castore, .inl .dup, .inr (.int 2), .inr (.int 114), .inl .castore, .inl .dup, .inr (.int 3), .inr (.int 116), .inl .castore, .inl .dup, .inr (.int 4), .inr (.int 104), .inl .castore, .inl .dup, .inr (.int 5), .inr (.int 119), .inl .castore, .inl .dup, .inr (.int 6), .inr (.int 97), .inl .castore, .inl .dup, .inr (.int 7), .inr (.int 103), .inl .castore, .inl .dup, .inr (.int 8), .inr (.int 101), .inl .castore, .inl .dup, .inr (.int 9), .inr (.int 102), .inl .castore, .inl .dup, .inr (.int 10), .inr (.int 105), .inl .castore, .inl .dup, .inr (.int 11), .inr (.int 110), .inl .castore, .inl .dup, .inr (.int 12), .inr (.int 101), .inl .castore, .inl (.putfield 527), .inl (.aload 0), .inr (.int 4)] 145 = true := by decide +kernel
theorem dd_X8_init_145 : decode cX8_init 145 = .ok (.newarray .int, 2) := by decide +kernel
theorem bk_X8_init_147 : mx_blk 8 cX8_init 147 [.inl .dup, .inr (.int 0), .inr (.int 0), .inl .iastore, .inl .dup, .inr (.int 1), .inr (.int 5), .inl .iastore, .inl .dup, .inr (.int 2), .inr (.int 9), .inl .iastore, .inl .dup, .inr (.int 3), .inr (.int 13), .inl .iastore, .inl (.putfield 528), .inl (.aload 0), .inr (.int 96)] 171 = true := by decide +kernel
theorem dd_X8_init_171 : decode cX8_init 171 = .ok (.newarray .int, 2) := by decide +kernel
theorem bk_X8_init_173 : mx_blk 8 cX8_init 173 [.inl (.putfield 529), .inl (.aload 0), .inr (.int 96)] 179 = true := by decide +kernel
theorem dd_X8_init_179 : decode cX8_init 179 = .ok (.newarray .int, 2) := by decide +kernel
theorem bk_X8_init_181 : mx_blk 8 cX8_init 181 [.inl (.putfield 532), .inl (.aload 0), .inr (.int 10)] 187 = true := by decide +kernel
theorem dd_X8_init_187 : decode cX8_init 187 = .ok (.newarray .boolean, 2) := by decide +kernel
theorem bk_X8_init_189 : mx_blk 8 cX8_init 189 [.inl (.putfield 534), .inl (.aload 0), .inr (.int 96)] 195 = true := by decide +kernel
theorem dd_X8_init_195 : decode cX8_init 195 = .ok (.newarray .int, 2) := by decide +kernel
theorem bk_X8_init_197 : mx_blk 8 cX8_init 197 [.inl (.putfield 535), .inl (.aload 0), .inr (.int 4)] 202 = true := by decide +kernel
theorem dd_X8_init_202 : decode cX8_init 202 = .ok (.newarray .int, 2) := by decide +kernel
theorem bk_X8_init_204 : mx_blk 8 cX8_init 204 [.inl (.putfield 536), .inl (.aload 0), .inr (.int 4)] 209 = true := by decide +kernel
theorem dd_X8_init_209 : decode cX8_init 209 = .ok (.newarray .int, 2) := by decide +kernel
theorem bk_X8_init_211 : mx_blk 8 cX8_init 211 [.inl .dup, .inr (.int 0), .inr (.int (-1)), .inl .iastore, .inl .dup, .inr (.int 1), .inr (.int (-1)), .inl .iastore, .inl .dup, .inr (.int 2), .inr (.int (-1)), .inl .iastore, .inl .dup, .inr (.int 3), .inr (.int (-1)), .inl .iastore, .inl (.putfield 537), .inl (.aload 0), .inr (.int 4)] 232 = true := by decide +kernel
theorem dd_X8_init_232 : decode cX8_init 232 = .ok (.newarray .int, 2) := by decide +kernel
theorem bk_X8_init_234 : mx_blk 8 cX8_init 234 [.inl (.putfield 538), .inl (.aload 0), .inr (.int 96)] 240 = true := by decide +kernel
theorem dd_X8_init_240 : decode cX8_init 240 = .ok (.newarray .int, 2) := by decide +kernel
theorem bk_X8_init_242 : mx_blk 8 cX8_init 242 [.inl (.putfield 539), .inl (.aload 0), .inr (.int 5)] 247 = true := by decide +kernel
theorem dd_X8_init_247 : decode cX8_init 247 = .ok (.newarray .int, 2) := by decide +kernel
theorem bk_X8_init_249 : mx_blk 8 cX8_init 249 [.inl (.putfield 540), .inl (.aload 0), .inr (.int 5)] 254 = true := by decide +kernel
theorem dd_X8_init_254 : decode cX8_init 254 = .ok (.newarray .int, 2) := by decide +kernel
theorem bk_X8_init_256 : mx_blk 8 cX8_init 256 [.inl (.putfield 541), .inl (.aload 0), .inr (.int 5)] 261 = true := by decide +kernel
theorem dd_X8_init_261 : decode cX8_init 261 = .ok (.newarray .int, 2) := by decide +kernel
theorem bk_X8_init_263 : mx_blk 8 cX8_init 263 [.inl (.putfield 542), .inl (.aload 0), .inr (.int 120)] 269 = true := by decide +kernel
theorem dd_X8_init_269 : decode cX8_init 269 = .ok (.newarray .int, 2) := by decide +kernel
theorem bk_X8_init_271 : mx_blk 8 cX8_init 271 [.inl (.putfield 543), .inl (.aload 0), .inr (.int 24)] 277 = true := by decide +kernel
theorem dd_X8_init_277 : decode cX8_init 277 = .ok (.newarray .int, 2) := by decide +kernel
theorem bk_X8_init_279 : mx_blk 8 cX8_init 279 [.inl (.putfield 544), .inl (.aload 0), .inr (.int 60)] 285 = true := by decide +kernel
theorem dd_X8_init_285 : decode cX8_init 285 = .ok (.newarray .int, 2) := by decide +kernel
theorem bk_X8_init_287 : mx_blk 8 cX8_init 287 [.inl (.putfield 545), .inl (.aload 0), .inl (.getfield 512), .inr (.int 0), .inr (.int 1), .inl .iastore, .inl (.aload 0), .inl (.getfield 512), .inr (.int 3), .inr (.int 20), .inl .iastore, .inl (.aload 0), .inl (.getfield 512), .inr (.int 4), .inr (.int 2), .inl .iastore, .inl (.aload 0), .inl (.getfield 512), .inr (.int 5), .inr (.int 2), .inl .iastore] 319 = true := by decide +kernel
theorem rt_X8_init_319 : mx_kv dm_X8_init 319 := ⟨by decide +kernel, rfl⟩
theorem bk_X8_in_0 : mx_blk 8 cX8_in 0 [.inl (.iload 0), .inl (.iload 1)] 2 = true := by decide +kernel
theorem br_X8_in_2 : mx_brk cX8_in 2 (.if_icmp .lt 12) 14 5 = true := by decide +kernel
theorem bk_X8_in_5 : mx_blk 8 cX8_in 5 [.inl (.iload 0), .inl (.iload 2)] 7 = true := by decide +kernel
theorem br_X8_in_7 : mx_brk cX8_in 7 (.if_icmp .gt 7) 14 10 = true := by decide +kernel
theorem bk_X8_in_10 : mx_blk 8 cX8_in 10 [.inr (.int 1)] 11 = true := by decide +kernel
theorem gt_X8_in_11 : mx_jmp cX8_in 11 15 = true := by decide +kernel
theorem bk_X8_in_14 : mx_blk 8 cX8_in 14 [.inr (.int 0)] 15 = true := by decide +kernel
theorem rt_X8_in_15 : mx_kr dm_X8_in 15 .boolean := ⟨by decide +kernel, rfl⟩
theorem bk_X8_within_0 : mx_blk 8 cX8_within 0 [.inl (.iload 0), .inl (.iload 1)] 2 = true := by decide +kernel
theorem br_X8_within_2 : mx_brk cX8_within 2 (.if_icmp .ge 7) 9 5 = true := by decide +kernel
theorem bk_X8_within_5 : mx_blk 8 cX8_within 5 [.inl (.iload 1)] 6 = true := by decide +kernel
theorem gt_X8_within_6 : mx_jmp cX8_within 6 19 = true := by decide +kernel
theorem bk_X8_within_9 : mx_blk 8 cX8_within 9 [.inl (.iload 0), .inl (.iload 2)] 11 = true := by decide +kernel
theorem br_X8_within_11 : mx_brk cX8_within 11 (.if_icmp .le 7) 18 14 = true := by decide +kernel
theorem bk_X8_within_14 : mx_blk 8 cX8_within 14 [.inl (.iload 2)] 15 = true := by decide +kernel
theorem gt_X8_within_15 : mx_jmp cX8_within 15 19 = true := by decide +kernel
theorem bk_X8_within_18 : mx_blk 8 cX8_within 18 [.inl (.iload 0)] 19 = true := by decide +kernel
theorem rt_X8_within_19 : mx_kr dm_X8_within 19 .int := ⟨by decide +kernel, rfl⟩
theorem bk_X8_copyAll_0 : mx_blk 8 cX8_copyAll 0 [.inr (.int 0), .inl (.istore 2)] 2 = true := by decide +kernel
theorem bk_X8_copyAll_2 : mx_blk 8 cX8_copyAll 2 [.inl (.iload 2), .inr (.int 1427)] 6 = true := by decide +kernel
theorem br_X8_copyAll_6 : mx_brk cX8_copyAll 6 (.if_icmp .ge 15) 21 9 = true := by decide +kernel
theorem bk_X8_copyAll_9 : mx_blk 8 cX8_copyAll 9 [.inl (.aload 1), .inl (.iload 2), .inl (.aload 0), .inl (.iload 2), .inl .iaload, .inl .iastore, .inl (.iinc 2 1)] 18 = true := by decide +kernel
theorem gt_X8_copyAll_18 : mx_jmp cX8_copyAll 18 2 = true := by decide +kernel
theorem rt_X8_copyAll_21 : mx_kv dm_X8_copyAll 21 := ⟨by decide +kernel, rfl⟩
theorem bk_X8_isDistrict_0 : mx_blk 8 cX8_isDistrict 0 [.inl (.iload 1), .inr (.int 0), .inl (.aload 0), .inl (.getfield 512), .inr (.int 1), .inl .iaload, .inr (.int 1), .inl .isub] 10 = true := by decide +kernel
theorem kc_X8_isDistrict_10 : mx_kS dm_X8_isDistrict 10 dm_X8_in 3 := ⟨81, by decide +kernel, md_X8_in, cs_X8_81⟩
theorem rt_X8_isDistrict_13 : mx_kr dm_X8_isDistrict 13 .boolean := ⟨by decide +kernel, rfl⟩
theorem bk_X8_of_0 : mx_blk 8 cX8_of 0 [.inl (.aload 0), .inl (.getfield 512), .inr (.int 7), .inr (.int 8), .inl (.iload 1), .inl .imul, .inl .iadd, .inl (.iload 2), .inl .iadd, .inl .iaload] 14 = true := by decide +kernel
theorem rt_X8_of_14 : mx_kr dm_X8_of 14 .int := ⟨by decide +kernel, rfl⟩
theorem bk_X8_put_0 : mx_blk 8 cX8_put 0 [.inl (.aload 0), .inl (.getfield 512), .inr (.int 7), .inr (.int 8), .inl (.iload 1), .inl .imul, .inl .iadd, .inl (.iload 2), .inl .iadd, .inl (.iload 3), .inl .iastore] 15 = true := by decide +kernel
theorem rt_X8_put_15 : mx_kv dm_X8_put 15 := ⟨by decide +kernel, rfl⟩
theorem bk_X8_becomes_0 : mx_blk 8 cX8_becomes 0 [.inl (.aload 0), .inl (.getfield 512), .inl (.iload 1), .inl .iaload, .inl (.istore 3), .inl (.aload 0), .inl (.getfield 512), .inl (.iload 1), .inl (.iload 2), .inl .iastore, .inl (.iload 3)] 15 = true := by decide +kernel
theorem rt_X8_becomes_15 : mx_kr dm_X8_becomes 15 .int := ⟨by decide +kernel, rfl⟩
theorem bk_X8_comes_0 : mx_blk 8 cX8_comes 0 [.inl (.aload 0), .inl (.getfield 512), .inr (.int 1), .inl .iaload, .inl (.istore 3), .inr (.int 0), .inl (.istore 4)] 10 = true := by decide +kernel
theorem bk_X8_comes_10 : mx_blk 8 cX8_comes 10 [.inl (.iload 4), .inr (.int 8)] 14 = true := by decide +kernel
theorem br_X8_comes_14 : mx_brk cX8_comes 14 (.if_icmp .ge 17) 31 17 = true := by decide +kernel
theorem bk_X8_comes_17 : mx_blk 8 cX8_comes 17 [.inl (.aload 0), .inl (.iload 3), .inl (.iload 4), .inr (.int 0)] 22 = true := by decide +kernel
theorem kc_X8_comes_22 : mx_kV dm_X8_comes 22 dm_X8_put 8 3 := ⟨85, by decide +kernel, md_X8_put, cv_X8_85, by decide, by decide +kernel⟩
theorem bk_X8_comes_25 : mx_blk 8 cX8_comes 25 [.inl (.iinc 4 1)] 28 = true := by decide +kernel
theorem gt_X8_comes_28 : mx_jmp cX8_comes 28 10 = true := by decide +kernel
theorem bk_X8_comes_31 : mx_blk 8 cX8_comes 31 [.inl (.aload 0), .inl (.iload 3), .inr (.int 0), .inl (.iload 1)] 35 = true := by decide +kernel
theorem kc_X8_comes_35 : mx_kV dm_X8_comes 35 dm_X8_put 8 3 := ⟨85, by decide +kernel, md_X8_put, cv_X8_85, by decide, by decide +kernel⟩
theorem bk_X8_comes_38 : mx_blk 8 cX8_comes 38 [.inl (.aload 0), .inl (.iload 3), .inr (.int 1), .inl (.iload 2)] 42 = true := by decide +kernel
theorem kc_X8_comes_42 : mx_kV dm_X8_comes 42 dm_X8_put 8 3 := ⟨85, by decide +kernel, md_X8_put, cv_X8_85, by decide, by decide +kernel⟩
theorem bk_X8_comes_45 : mx_blk 8 cX8_comes 45 [.inl (.aload 0), .inl (.iload 3), .inr (.int 3), .inr (.int 7)] 50 = true := by decide +kernel
theorem kc_X8_comes_50 : mx_kV dm_X8_comes 50 dm_X8_put 8 3 := ⟨85, by decide +kernel, md_X8_put, cv_X8_85, by decide, by decide +kernel⟩
theorem bk_X8_comes_53 : mx_blk 8 cX8_comes 53 [.inl (.aload 0), .inl (.getfield 512), .inr (.int 1), .inl .dup2, .inl .iaload, .inr (.int 1), .inl .iadd, .inl .iastore, .inl (.iload 3)] 64 = true := by decide +kernel
theorem rt_X8_comes_64 : mx_kr dm_X8_comes 64 .int := ⟨by decide +kernel, rfl⟩
theorem bk_X8_district_0 : mx_blk 8 cX8_district 0 [.inl (.iload 1), .inr (.int 0), .inr (.int 5)] 3 = true := by decide +kernel
theorem kc_X8_district_3 : mx_kS dm_X8_district 3 dm_X8_in 3 := ⟨81, by decide +kernel, md_X8_in, cs_X8_81⟩
theorem br_X8_district_6 : mx_brk cX8_district 6 (.ifCond .eq 13) 19 9 = true := by decide +kernel
theorem bk_X8_district_9 : mx_blk 8 cX8_district 9 [.inl (.iload 2), .inr (.int 0), .inr (.int 9)] 13 = true := by decide +kernel
theorem kc_X8_district_13 : mx_kS dm_X8_district 13 dm_X8_in 3 := ⟨81, by decide +kernel, md_X8_in, cs_X8_81⟩
theorem br_X8_district_16 : mx_brk cX8_district 16 (.ifCond .ne 6) 22 19 = true := by decide +kernel
theorem bk_X8_district_19 : mx_blk 8 cX8_district 19 [.inr (.int (-1000000001))] 21 = true := by decide +kernel
theorem rt_X8_district_21 : mx_kr dm_X8_district 21 .int := ⟨by decide +kernel, rfl⟩
theorem bk_X8_district_22 : mx_blk 8 cX8_district 22 [.inl (.aload 0), .inl (.getfield 512), .inr (.int 1), .inl .iaload, .inr (.int 6)] 30 = true := by decide +kernel
theorem br_X8_district_30 : mx_brk cX8_district 30 (.if_icmp .ne 8) 38 33 = true := by decide +kernel
theorem bk_X8_district_33 : mx_blk 8 cX8_district 33 [.inr (.int (-1000000003))] 35 = true := by decide +kernel
theorem gt_X8_district_35 : mx_jmp cX8_district 35 44 = true := by decide +kernel
theorem bk_X8_district_38 : mx_blk 8 cX8_district 38 [.inl (.aload 0), .inl (.iload 1), .inl (.iload 2)] 41 = true := by decide +kernel
theorem kc_X8_district_41 : mx_kV dm_X8_district 41 dm_X8_comes 8 2 := ⟨91, by decide +kernel, md_X8_comes, cv_X8_91, by decide, by decide +kernel⟩
theorem rt_X8_district_44 : mx_kr dm_X8_district 44 .int := ⟨by decide +kernel, rfl⟩
theorem bk_X8_worthOf_0 : mx_blk 8 cX8_worthOf 0 [.inl (.aload 0), .inl (.iload 1), .inr (.int 1)] 3 = true := by decide +kernel
theorem kc_X8_worthOf_3 : mx_kV dm_X8_worthOf 3 dm_X8_of 8 2 := ⟨95, by decide +kernel, md_X8_of, cv_X8_95, by decide, by decide +kernel⟩
theorem bk_X8_worthOf_6 : mx_blk 8 cX8_worthOf 6 [.inl (.istore 2), .inl (.aload 0), .inl (.iload 1), .inr (.int 0)] 10 = true := by decide +kernel
theorem kc_X8_worthOf_10 : mx_kV dm_X8_worthOf 10 dm_X8_of 8 2 := ⟨95, by decide +kernel, md_X8_of, cv_X8_95, by decide, by decide +kernel⟩
theorem sw_X8_worthOf_13 : mx_swk cX8_worthOf 13 [(1, 48), (2, 52), (3, 57), (4, 63), (5, 68)] 71 = true := by decide +kernel
theorem bk_X8_worthOf_48 : mx_blk 8 cX8_worthOf 48 [.inl (.iload 2), .inr (.int 2), .inl .iadd] 51 = true := by decide +kernel
theorem rt_X8_worthOf_51 : mx_kr dm_X8_worthOf 51 .int := ⟨by decide +kernel, rfl⟩
theorem bk_X8_worthOf_52 : mx_blk 8 cX8_worthOf 52 [.inr (.int 30), .inl (.iload 2), .inl .isub] 56 = true := by decide +kernel
theorem rt_X8_worthOf_56 : mx_kr dm_X8_worthOf 56 .int := ⟨by decide +kernel, rfl⟩
theorem bk_X8_worthOf_57 : mx_blk 8 cX8_worthOf 57 [.inr (.int 2), .inl (.iload 2), .inr (.int 2), .inl .iadd, .inl .imul] 62 = true := by decide +kernel
theorem rt_X8_worthOf_62 : mx_kr dm_X8_worthOf 62 .int := ⟨by decide +kernel, rfl⟩
theorem bk_X8_worthOf_63 : mx_blk 8 cX8_worthOf 63 [.inr (.int 26), .inl (.iload 2), .inl .isub] 67 = true := by decide +kernel
theorem rt_X8_worthOf_67 : mx_kr dm_X8_worthOf 67 .int := ⟨by decide +kernel, rfl⟩
theorem bk_X8_worthOf_68 : mx_blk 8 cX8_worthOf 68 [.inr (.int 11)] 70 = true := by decide +kernel
theorem rt_X8_worthOf_70 : mx_kr dm_X8_worthOf 70 .int := ⟨by decide +kernel, rfl⟩
theorem bk_X8_worthOf_71 : mx_blk 8 cX8_worthOf 71 [.inl (.iload 2)] 72 = true := by decide +kernel
theorem rt_X8_worthOf_72 : mx_kr dm_X8_worthOf 72 .int := ⟨by decide +kernel, rfl⟩
theorem bk_X8_isFair_0 : mx_blk 8 cX8_isFair 0 [.inl (.aload 0), .inl (.iload 1), .inr (.int 4)] 3 = true := by decide +kernel
theorem kc_X8_isFair_3 : mx_kV dm_X8_isFair 3 dm_X8_of 8 2 := ⟨95, by decide +kernel, md_X8_of, cv_X8_95, by decide, by decide +kernel⟩
theorem bk_X8_isFair_6 : mx_blk 8 cX8_isFair 6 [.inl (.aload 0), .inl (.getfield 512), .inr (.int 5), .inl .iaload] 12 = true := by decide +kernel
theorem br_X8_isFair_12 : mx_brk cX8_isFair 12 (.if_icmp .ne 7) 19 15 = true := by decide +kernel
theorem bk_X8_isFair_15 : mx_blk 8 cX8_isFair 15 [.inr (.int 1)] 16 = true := by decide +kernel
theorem gt_X8_isFair_16 : mx_jmp cX8_isFair 16 20 = true := by decide +kernel
theorem bk_X8_isFair_19 : mx_blk 8 cX8_isFair 19 [.inr (.int 0)] 20 = true := by decide +kernel
theorem rt_X8_isFair_20 : mx_kr dm_X8_isFair 20 .boolean := ⟨by decide +kernel, rfl⟩
theorem bk_X8_told_0 : mx_blk 8 cX8_told 0 [.inl (.aload 0), .inl (.iload 1)] 2 = true := by decide +kernel
theorem kc_X8_told_2 : mx_kV dm_X8_told 2 dm_X8_isDistrict 8 1 := ⟨98, by decide +kernel, md_X8_isDistrict, cv_X8_98, by decide, by decide +kernel⟩
theorem br_X8_told_5 : mx_brk cX8_told 5 (.ifCond .eq 13) 18 8 = true := by decide +kernel
theorem bk_X8_told_8 : mx_blk 8 cX8_told 8 [.inl (.iload 2), .inr (.int 0), .inr (.int 9)] 12 = true := by decide +kernel
theorem kc_X8_told_12 : mx_kS dm_X8_told 12 dm_X8_in 3 := ⟨81, by decide +kernel, md_X8_in, cs_X8_81⟩
theorem br_X8_told_15 : mx_brk cX8_told 15 (.ifCond .ne 6) 21 18 = true := by decide +kernel
theorem bk_X8_told_18 : mx_blk 8 cX8_told 18 [.inr (.int (-1000000001))] 20 = true := by decide +kernel
theorem rt_X8_told_20 : mx_kr dm_X8_told 20 .int := ⟨by decide +kernel, rfl⟩
theorem bk_X8_told_21 : mx_blk 8 cX8_told 21 [.inl (.iload 2), .inr (.int 8)] 24 = true := by decide +kernel
theorem br_X8_told_24 : mx_brk cX8_told 24 (.if_icmp .ge 12) 36 27 = true := by decide +kernel
theorem bk_X8_told_27 : mx_blk 8 cX8_told 27 [.inl (.aload 0), .inl (.iload 1), .inl (.iload 2)] 30 = true := by decide +kernel
theorem kc_X8_told_30 : mx_kV dm_X8_told 30 dm_X8_of 8 2 := ⟨95, by decide +kernel, md_X8_of, cv_X8_95, by decide, by decide +kernel⟩
theorem gt_X8_told_33 : mx_jmp cX8_told 33 63 = true := by decide +kernel
theorem bk_X8_told_36 : mx_blk 8 cX8_told 36 [.inl (.iload 2), .inr (.int 8)] 39 = true := by decide +kernel
theorem br_X8_told_39 : mx_brk cX8_told 39 (.if_icmp .ne 11) 50 42 = true := by decide +kernel
theorem bk_X8_told_42 : mx_blk 8 cX8_told 42 [.inl (.aload 0), .inl (.iload 1)] 44 = true := by decide +kernel
theorem kc_X8_told_44 : mx_kV dm_X8_told 44 dm_X8_worthOf 8 1 := ⟨102, by decide +kernel, md_X8_worthOf, cv_X8_102, by decide, by decide +kernel⟩
theorem gt_X8_told_47 : mx_jmp cX8_told 47 63 = true := by decide +kernel
theorem bk_X8_told_50 : mx_blk 8 cX8_told 50 [.inl (.aload 0), .inl (.iload 1)] 52 = true := by decide +kernel
theorem kc_X8_told_52 : mx_kV dm_X8_told 52 dm_X8_isFair 8 1 := ⟨106, by decide +kernel, md_X8_isFair, cv_X8_106, by decide, by decide +kernel⟩
theorem br_X8_told_55 : mx_brk cX8_told 55 (.ifCond .eq 7) 62 58 = true := by decide +kernel
theorem bk_X8_told_58 : mx_blk 8 cX8_told 58 [.inr (.int 1)] 59 = true := by decide +kernel
theorem gt_X8_told_59 : mx_jmp cX8_told 59 63 = true := by decide +kernel
theorem bk_X8_told_62 : mx_blk 8 cX8_told 62 [.inr (.int 0)] 63 = true := by decide +kernel
theorem rt_X8_told_63 : mx_kr dm_X8_told 63 .int := ⟨by decide +kernel, rfl⟩
theorem bk_X8_birthsOf_0 : mx_blk 8 cX8_birthsOf 0 [.inl (.aload 0), .inr (.int 0)] 2 = true := by decide +kernel
theorem kc_X8_birthsOf_2 : mx_kV dm_X8_birthsOf 2 dm_X8_counts 8 1 := ⟨109, by decide +kernel, md_X8_counts, cv_X8_109, by decide, by decide +kernel⟩
theorem bk_X8_birthsOf_5 : mx_blk 8 cX8_birthsOf 5 [.inl (.istore 3), .inl (.aload 0), .inl (.getfield 536), .inr (.int 0), .inl (.iload 2), .inl .iastore, .inl (.aload 0), .inl (.getfield 536), .inr (.int 1), .inl (.aload 0), .inl (.iload 1), .inr (.int 3)] 21 = true := by decide +kernel
theorem kc_X8_birthsOf_21 : mx_kV dm_X8_birthsOf 21 dm_X8_of 8 2 := ⟨95, by decide +kernel, md_X8_of, cv_X8_95, by decide, by decide +kernel⟩
theorem bk_X8_birthsOf_24 : mx_blk 8 cX8_birthsOf 24 [.inl .iastore, .inl (.aload 0), .inl (.getfield 536), .inr (.int 2), .inl (.aload 0), .inl (.iload 1), .inr (.int 4)] 33 = true := by decide +kernel
theorem kc_X8_birthsOf_33 : mx_kV dm_X8_birthsOf 33 dm_X8_of 8 2 := ⟨95, by decide +kernel, md_X8_of, cv_X8_95, by decide, by decide +kernel⟩
theorem bk_X8_birthsOf_36 : mx_blk 8 cX8_birthsOf 36 [.inl .iastore, .inl (.iload 3)] 38 = true := by decide +kernel
theorem br_X8_birthsOf_38 : mx_brk cX8_birthsOf 38 (.ifCond .ge 7) 45 41 = true := by decide +kernel
theorem bk_X8_birthsOf_41 : mx_blk 8 cX8_birthsOf 41 [.inl (.iload 2)] 42 = true := by decide +kernel
theorem gt_X8_birthsOf_42 : mx_jmp cX8_birthsOf 42 56 = true := by decide +kernel
theorem bk_X8_birthsOf_45 : mx_blk 8 cX8_birthsOf 45 [.inl (.aload 0), .inl (.iload 3)] 47 = true := by decide +kernel
theorem kc_X8_birthsOf_47 : mx_kV dm_X8_birthsOf 47 dm_X8_worksOut 8 1 := ⟨112, by decide +kernel, md_X8_worksOut, cv_X8_112, by decide, by decide +kernel⟩
theorem bk_X8_birthsOf_50 : mx_blk 8 cX8_birthsOf 50 [.inr (.int 0), .inr (.int 30)] 53 = true := by decide +kernel
theorem kc_X8_birthsOf_53 : mx_kS dm_X8_birthsOf 53 dm_X8_within 3 := ⟨115, by decide +kernel, md_X8_within, cs_X8_115⟩
theorem bk_X8_birthsOf_56 : mx_blk 8 cX8_birthsOf 56 [.inl (.istore 4), .inl (.aload 0), .inl (.iload 1), .inr (.int 0)] 61 = true := by decide +kernel
theorem kc_X8_birthsOf_61 : mx_kV dm_X8_birthsOf 61 dm_X8_of 8 2 := ⟨95, by decide +kernel, md_X8_of, cv_X8_95, by decide, by decide +kernel⟩
theorem sw_X8_birthsOf_64 : mx_swk cX8_birthsOf 64 [(1, 100), (2, 105), (3, 110), (4, 128), (5, 159)] 166 = true := by decide +kernel
theorem bk_X8_birthsOf_100 : mx_blk 8 cX8_birthsOf 100 [.inl (.iload 4), .inr (.int 2), .inl .idiv] 104 = true := by decide +kernel
theorem rt_X8_birthsOf_104 : mx_kr dm_X8_birthsOf 104 .int := ⟨by decide +kernel, rfl⟩
theorem bk_X8_birthsOf_105 : mx_blk 8 cX8_birthsOf 105 [.inl (.iload 4), .inr (.int 1), .inl .iadd] 109 = true := by decide +kernel
theorem rt_X8_birthsOf_109 : mx_kr dm_X8_birthsOf 109 .int := ⟨by decide +kernel, rfl⟩
theorem bk_X8_birthsOf_110 : mx_blk 8 cX8_birthsOf 110 [.inl (.aload 0), .inl (.iload 1), .inr (.int 4)] 113 = true := by decide +kernel
theorem kc_X8_birthsOf_113 : mx_kV dm_X8_birthsOf 113 dm_X8_of 8 2 := ⟨95, by decide +kernel, md_X8_of, cv_X8_95, by decide, by decide +kernel⟩
theorem br_X8_birthsOf_116 : mx_brk cX8_birthsOf 116 (.ifCond .ne 7) 123 119 = true := by decide +kernel
theorem bk_X8_birthsOf_119 : mx_blk 8 cX8_birthsOf 119 [.inr (.int 0)] 120 = true := by decide +kernel
theorem gt_X8_birthsOf_120 : mx_jmp cX8_birthsOf 120 127 = true := by decide +kernel
theorem bk_X8_birthsOf_123 : mx_blk 8 cX8_birthsOf 123 [.inl (.iload 4), .inr (.int 2), .inl .idiv] 127 = true := by decide +kernel
theorem rt_X8_birthsOf_127 : mx_kr dm_X8_birthsOf 127 .int := ⟨by decide +kernel, rfl⟩
theorem bk_X8_birthsOf_128 : mx_blk 8 cX8_birthsOf 128 [.inl (.aload 0), .inl (.iload 1), .inr (.int 4)] 131 = true := by decide +kernel
theorem kc_X8_birthsOf_131 : mx_kV dm_X8_birthsOf 131 dm_X8_of 8 2 := ⟨95, by decide +kernel, md_X8_of, cv_X8_95, by decide, by decide +kernel⟩
theorem bk_X8_birthsOf_134 : mx_blk 8 cX8_birthsOf 134 [.inl (.aload 0), .inl (.iload 1), .inr (.int 3)] 137 = true := by decide +kernel
theorem kc_X8_birthsOf_137 : mx_kV dm_X8_birthsOf 137 dm_X8_of 8 2 := ⟨95, by decide +kernel, md_X8_of, cv_X8_95, by decide, by decide +kernel⟩
theorem bk_X8_birthsOf_140 : mx_blk 8 cX8_birthsOf 140 [.inr (.int 1), .inl .isub] 142 = true := by decide +kernel
theorem br_X8_birthsOf_142 : mx_brk cX8_birthsOf 142 (.if_icmp .ne 12) 154 145 = true := by decide +kernel
theorem bk_X8_birthsOf_145 : mx_blk 8 cX8_birthsOf 145 [.inr (.int 2), .inl (.iload 4), .inr (.int 1), .inl .iadd, .inl .imul] 151 = true := by decide +kernel
theorem gt_X8_birthsOf_151 : mx_jmp cX8_birthsOf 151 158 = true := by decide +kernel
theorem bk_X8_birthsOf_154 : mx_blk 8 cX8_birthsOf 154 [.inl (.iload 4), .inr (.int 1), .inl .iadd] 158 = true := by decide +kernel
theorem rt_X8_birthsOf_158 : mx_kr dm_X8_birthsOf 158 .int := ⟨by decide +kernel, rfl⟩
theorem bk_X8_birthsOf_159 : mx_blk 8 cX8_birthsOf 159 [.inl (.aload 0), .inl (.iload 1), .inr (.int 1)] 162 = true := by decide +kernel
theorem kc_X8_birthsOf_162 : mx_kV dm_X8_birthsOf 162 dm_X8_of 8 2 := ⟨95, by decide +kernel, md_X8_of, cv_X8_95, by decide, by decide +kernel⟩
theorem rt_X8_birthsOf_165 : mx_kr dm_X8_birthsOf 165 .int := ⟨by decide +kernel, rfl⟩
theorem bk_X8_birthsOf_166 : mx_blk 8 cX8_birthsOf 166 [.inl (.iload 4)] 168 = true := by decide +kernel
theorem rt_X8_birthsOf_168 : mx_kr dm_X8_birthsOf 168 .int := ⟨by decide +kernel, rfl⟩
theorem bk_X8_births_0 : mx_blk 8 cX8_births 0 [.inl (.aload 0), .inl (.iload 1)] 2 = true := by decide +kernel
theorem kc_X8_births_2 : mx_kV dm_X8_births 2 dm_X8_isDistrict 8 1 := ⟨98, by decide +kernel, md_X8_isDistrict, cv_X8_98, by decide, by decide +kernel⟩
theorem br_X8_births_5 : mx_brk cX8_births 5 (.ifCond .eq 22) 27 8 = true := by decide +kernel
theorem bk_X8_births_8 : mx_blk 8 cX8_births 8 [.inl (.iload 2), .inr (.int 0), .inr (.int 9)] 12 = true := by decide +kernel
theorem kc_X8_births_12 : mx_kS dm_X8_births 12 dm_X8_in 3 := ⟨81, by decide +kernel, md_X8_in, cs_X8_81⟩
theorem br_X8_births_15 : mx_brk cX8_births 15 (.ifCond .eq 12) 27 18 = true := by decide +kernel
theorem bk_X8_births_18 : mx_blk 8 cX8_births 18 [.inl (.aload 0), .inl (.iload 1), .inl (.iload 2)] 21 = true := by decide +kernel
theorem kc_X8_births_21 : mx_kV dm_X8_births 21 dm_X8_birthsOf 8 2 := ⟨119, by decide +kernel, md_X8_birthsOf, cv_X8_119, by decide, by decide +kernel⟩
theorem gt_X8_births_24 : mx_jmp cX8_births 24 29 = true := by decide +kernel
theorem bk_X8_births_27 : mx_blk 8 cX8_births 27 [.inr (.int (-1000000001))] 29 = true := by decide +kernel
theorem rt_X8_births_29 : mx_kr dm_X8_births 29 .int := ⟨by decide +kernel, rfl⟩
theorem bk_X8_isUnder_0 : mx_blk 8 cX8_isUnder 0 [.inl (.iload 1)] 1 = true := by decide +kernel
theorem br_X8_isUnder_1 : mx_brk cX8_isUnder 1 (.ifCond .eq 28) 29 4 = true := by decide +kernel
theorem bk_X8_isUnder_4 : mx_blk 8 cX8_isUnder 4 [.inl (.iload 0), .inl (.iload 1)] 6 = true := by decide +kernel
theorem br_X8_isUnder_6 : mx_brk cX8_isUnder 6 (.if_icmp .eq 23) 29 9 = true := by decide +kernel
theorem bk_X8_isUnder_9 : mx_blk 8 cX8_isUnder 9 [.inl (.iload 1), .inr (.int 1)] 11 = true := by decide +kernel
theorem br_X8_isUnder_11 : mx_brk cX8_isUnder 11 (.if_icmp .ne 8) 19 14 = true := by decide +kernel
theorem bk_X8_isUnder_14 : mx_blk 8 cX8_isUnder 14 [.inl (.iload 0), .inr (.int 3)] 16 = true := by decide +kernel
theorem br_X8_isUnder_16 : mx_brk cX8_isUnder 16 (.if_icmp .eq 13) 29 19 = true := by decide +kernel
theorem bk_X8_isUnder_19 : mx_blk 8 cX8_isUnder 19 [.inl (.iload 1), .inr (.int 2)] 21 = true := by decide +kernel
theorem br_X8_isUnder_21 : mx_brk cX8_isUnder 21 (.if_icmp .ne 12) 33 24 = true := by decide +kernel
theorem bk_X8_isUnder_24 : mx_blk 8 cX8_isUnder 24 [.inl (.iload 0), .inr (.int 4)] 26 = true := by decide +kernel
theorem br_X8_isUnder_26 : mx_brk cX8_isUnder 26 (.if_icmp .ne 7) 33 29 = true := by decide +kernel
theorem bk_X8_isUnder_29 : mx_blk 8 cX8_isUnder 29 [.inr (.int 1)] 30 = true := by decide +kernel
theorem gt_X8_isUnder_30 : mx_jmp cX8_isUnder 30 34 = true := by decide +kernel
theorem bk_X8_isUnder_33 : mx_blk 8 cX8_isUnder 33 [.inr (.int 0)] 34 = true := by decide +kernel
theorem rt_X8_isUnder_34 : mx_kr dm_X8_isUnder 34 .boolean := ⟨by decide +kernel, rfl⟩
theorem bk_X8_as_0 : mx_blk 8 cX8_as 0 [.inl (.aload 0), .inl (.iload 1)] 2 = true := by decide +kernel
theorem kc_X8_as_2 : mx_kV dm_X8_as 2 dm_X8_isDistrict 8 1 := ⟨98, by decide +kernel, md_X8_isDistrict, cv_X8_98, by decide, by decide +kernel⟩
theorem br_X8_as_5 : mx_brk cX8_as 5 (.ifCond .eq 12) 17 8 = true := by decide +kernel
theorem bk_X8_as_8 : mx_blk 8 cX8_as 8 [.inl (.iload 2), .inr (.int 0), .inr (.int 5)] 11 = true := by decide +kernel
theorem kc_X8_as_11 : mx_kS dm_X8_as 11 dm_X8_in 3 := ⟨81, by decide +kernel, md_X8_in, cs_X8_81⟩
theorem br_X8_as_14 : mx_brk cX8_as 14 (.ifCond .ne 6) 20 17 = true := by decide +kernel
theorem bk_X8_as_17 : mx_blk 8 cX8_as 17 [.inr (.int (-1000000001))] 19 = true := by decide +kernel
theorem rt_X8_as_19 : mx_kr dm_X8_as 19 .int := ⟨by decide +kernel, rfl⟩
theorem bk_X8_as_20 : mx_blk 8 cX8_as 20 [.inl (.aload 0), .inl (.iload 1), .inr (.int 0)] 23 = true := by decide +kernel
theorem kc_X8_as_23 : mx_kV dm_X8_as 23 dm_X8_of 8 2 := ⟨95, by decide +kernel, md_X8_of, cv_X8_95, by decide, by decide +kernel⟩
theorem bk_X8_as_26 : mx_blk 8 cX8_as 26 [.inl (.iload 2)] 27 = true := by decide +kernel
theorem kc_X8_as_27 : mx_kS dm_X8_as 27 dm_X8_isUnder 2 := ⟨122, by decide +kernel, md_X8_isUnder, cs_X8_122⟩
theorem br_X8_as_30 : mx_brk cX8_as 30 (.ifCond .eq 12) 42 33 = true := by decide +kernel
theorem bk_X8_as_33 : mx_blk 8 cX8_as 33 [.inl (.aload 0), .inl (.iload 1), .inr (.int 1)] 36 = true := by decide +kernel
theorem kc_X8_as_36 : mx_kV dm_X8_as 36 dm_X8_of 8 2 := ⟨95, by decide +kernel, md_X8_of, cv_X8_95, by decide, by decide +kernel⟩
theorem gt_X8_as_39 : mx_jmp cX8_as 39 44 = true := by decide +kernel
theorem bk_X8_as_42 : mx_blk 8 cX8_as 42 [.inr (.int (-1000000012))] 44 = true := by decide +kernel
theorem rt_X8_as_44 : mx_kr dm_X8_as 44 .int := ⟨by decide +kernel, rfl⟩
theorem bk_X8_turns_0 : mx_blk 8 cX8_turns 0 [.inl (.aload 0), .inl (.iload 1)] 2 = true := by decide +kernel
theorem kc_X8_turns_2 : mx_kV dm_X8_turns 2 dm_X8_isDistrict 8 1 := ⟨98, by decide +kernel, md_X8_isDistrict, cv_X8_98, by decide, by decide +kernel⟩
theorem br_X8_turns_5 : mx_brk cX8_turns 5 (.ifCond .eq 27) 32 8 = true := by decide +kernel
theorem bk_X8_turns_8 : mx_blk 8 cX8_turns 8 [.inl (.iload 2), .inr (.int 0), .inr (.int 5)] 11 = true := by decide +kernel
theorem kc_X8_turns_11 : mx_kS dm_X8_turns 11 dm_X8_in 3 := ⟨81, by decide +kernel, md_X8_in, cs_X8_81⟩
theorem br_X8_turns_14 : mx_brk cX8_turns 14 (.ifCond .eq 18) 32 17 = true := by decide +kernel
theorem bk_X8_turns_17 : mx_blk 8 cX8_turns 17 [.inl (.aload 0), .inr (.int 7), .inr (.int 8), .inl (.iload 1), .inl .imul, .inl .iadd, .inl (.iload 2)] 26 = true := by decide +kernel
theorem kc_X8_turns_26 : mx_kV dm_X8_turns 26 dm_X8_becomes 8 2 := ⟨127, by decide +kernel, md_X8_becomes, cv_X8_127, by decide, by decide +kernel⟩
theorem gt_X8_turns_29 : mx_jmp cX8_turns 29 34 = true := by decide +kernel
theorem bk_X8_turns_32 : mx_blk 8 cX8_turns 32 [.inr (.int (-1000000001))] 34 = true := by decide +kernel
theorem rt_X8_turns_34 : mx_kr dm_X8_turns 34 .int := ⟨by decide +kernel, rfl⟩
theorem bk_X8_set_0 : mx_blk 8 cX8_set 0 [.inl (.aload 0), .inl (.iload 1)] 2 = true := by decide +kernel
theorem kc_X8_set_2 : mx_kV dm_X8_set 2 dm_X8_isDistrict 8 1 := ⟨98, by decide +kernel, md_X8_isDistrict, cv_X8_98, by decide, by decide +kernel⟩
theorem br_X8_set_5 : mx_brk cX8_set 5 (.ifCond .eq 12) 17 8 = true := by decide +kernel
theorem bk_X8_set_8 : mx_blk 8 cX8_set 8 [.inl (.iload 2), .inr (.int 1), .inr (.int 3)] 11 = true := by decide +kernel
theorem kc_X8_set_11 : mx_kS dm_X8_set 11 dm_X8_in 3 := ⟨81, by decide +kernel, md_X8_in, cs_X8_81⟩
theorem br_X8_set_14 : mx_brk cX8_set 14 (.ifCond .ne 6) 20 17 = true := by decide +kernel
theorem bk_X8_set_17 : mx_blk 8 cX8_set 17 [.inr (.int (-1000000001))] 19 = true := by decide +kernel
theorem rt_X8_set_19 : mx_kr dm_X8_set 19 .int := ⟨by decide +kernel, rfl⟩
theorem bk_X8_set_20 : mx_blk 8 cX8_set 20 [.inl (.iload 3), .inl (.iload 2), .inr (.int 1)] 23 = true := by decide +kernel
theorem br_X8_set_23 : mx_brk cX8_set 23 (.if_icmp .ne 7) 30 26 = true := by decide +kernel
theorem bk_X8_set_26 : mx_blk 8 cX8_set 26 [.inr (.int 0)] 27 = true := by decide +kernel
theorem gt_X8_set_27 : mx_jmp cX8_set 27 41 = true := by decide +kernel
theorem bk_X8_set_30 : mx_blk 8 cX8_set 30 [.inl (.iload 2), .inr (.int 2)] 32 = true := by decide +kernel
theorem br_X8_set_32 : mx_brk cX8_set 32 (.if_icmp .ne 7) 39 35 = true := by decide +kernel
theorem bk_X8_set_35 : mx_blk 8 cX8_set 35 [.inr (.int 2)] 36 = true := by decide +kernel
theorem gt_X8_set_36 : mx_jmp cX8_set 36 41 = true := by decide +kernel
theorem bk_X8_set_39 : mx_blk 8 cX8_set 39 [.inr (.int (-99999))] 41 = true := by decide +kernel
theorem bk_X8_set_41 : mx_blk 8 cX8_set 41 [.inl (.iload 2), .inr (.int 1)] 43 = true := by decide +kernel
theorem br_X8_set_43 : mx_brk cX8_set 43 (.if_icmp .ne 8) 51 46 = true := by decide +kernel
theorem bk_X8_set_46 : mx_blk 8 cX8_set 46 [.inr (.int 9)] 48 = true := by decide +kernel
theorem gt_X8_set_48 : mx_jmp cX8_set 48 63 = true := by decide +kernel
theorem bk_X8_set_51 : mx_blk 8 cX8_set 51 [.inl (.iload 2), .inr (.int 2)] 53 = true := by decide +kernel
theorem br_X8_set_53 : mx_brk cX8_set 53 (.if_icmp .ne 8) 61 56 = true := by decide +kernel
theorem bk_X8_set_56 : mx_blk 8 cX8_set 56 [.inr (.int 60)] 58 = true := by decide +kernel
theorem gt_X8_set_58 : mx_jmp cX8_set 58 63 = true := by decide +kernel
theorem bk_X8_set_61 : mx_blk 8 cX8_set 61 [.inr (.int 99999)] 63 = true := by decide +kernel
theorem kc_X8_set_63 : mx_kS dm_X8_set 63 dm_X8_in 3 := ⟨81, by decide +kernel, md_X8_in, cs_X8_81⟩
theorem br_X8_set_66 : mx_brk cX8_set 66 (.ifCond .ne 6) 72 69 = true := by decide +kernel
theorem bk_X8_set_69 : mx_blk 8 cX8_set 69 [.inr (.int (-1000000001))] 71 = true := by decide +kernel
theorem rt_X8_set_71 : mx_kr dm_X8_set 71 .int := ⟨by decide +kernel, rfl⟩
theorem bk_X8_set_72 : mx_blk 8 cX8_set 72 [.inl (.aload 0), .inl (.iload 1), .inr (.int 4), .inl (.iload 2), .inr (.int 2)] 77 = true := by decide +kernel
theorem br_X8_set_77 : mx_brk cX8_set 77 (.if_icmp .ne 7) 84 80 = true := by decide +kernel
theorem bk_X8_set_80 : mx_blk 8 cX8_set 80 [.inr (.int 0)] 81 = true := by decide +kernel
theorem gt_X8_set_81 : mx_jmp cX8_set 81 90 = true := by decide +kernel
theorem bk_X8_set_84 : mx_blk 8 cX8_set 84 [.inl (.aload 0), .inl (.iload 1), .inr (.int 4)] 87 = true := by decide +kernel
theorem kc_X8_set_87 : mx_kV dm_X8_set 87 dm_X8_of 8 2 := ⟨95, by decide +kernel, md_X8_of, cv_X8_95, by decide, by decide +kernel⟩
theorem kc_X8_set_90 : mx_kV dm_X8_set 90 dm_X8_put 8 3 := ⟨85, by decide +kernel, md_X8_put, cv_X8_85, by decide, by decide +kernel⟩
theorem bk_X8_set_93 : mx_blk 8 cX8_set 93 [.inl (.aload 0), .inr (.int 7), .inr (.int 8), .inl (.iload 1), .inl .imul, .inl .iadd, .inl (.iload 2), .inr (.int 1)] 103 = true := by decide +kernel
theorem br_X8_set_103 : mx_brk cX8_set 103 (.if_icmp .ne 7) 110 106 = true := by decide +kernel
theorem bk_X8_set_106 : mx_blk 8 cX8_set 106 [.inr (.int 1)] 107 = true := by decide +kernel
theorem gt_X8_set_107 : mx_jmp cX8_set 107 121 = true := by decide +kernel
theorem bk_X8_set_110 : mx_blk 8 cX8_set 110 [.inl (.iload 2), .inr (.int 2)] 112 = true := by decide +kernel
theorem br_X8_set_112 : mx_brk cX8_set 112 (.if_icmp .ne 7) 119 115 = true := by decide +kernel
theorem bk_X8_set_115 : mx_blk 8 cX8_set 115 [.inr (.int 3)] 116 = true := by decide +kernel
theorem gt_X8_set_116 : mx_jmp cX8_set 116 121 = true := by decide +kernel
theorem bk_X8_set_119 : mx_blk 8 cX8_set 119 [.inr (.int 7)] 121 = true := by decide +kernel
theorem bk_X8_set_121 : mx_blk 8 cX8_set 121 [.inl .iadd, .inl (.iload 3)] 123 = true := by decide +kernel
theorem kc_X8_set_123 : mx_kV dm_X8_set 123 dm_X8_becomes 8 2 := ⟨127, by decide +kernel, md_X8_becomes, cv_X8_127, by decide, by decide +kernel⟩
theorem rt_X8_set_126 : mx_kr dm_X8_set 126 .int := ⟨by decide +kernel, rfl⟩
theorem bk_X8_hides_0 : mx_blk 8 cX8_hides 0 [.inl (.aload 0), .inl (.iload 1), .inr (.int 5), .inl (.aload 0), .inl (.iload 1), .inr (.int 5)] 6 = true := by decide +kernel
theorem kc_X8_hides_6 : mx_kV dm_X8_hides 6 dm_X8_of 8 2 := ⟨95, by decide +kernel, md_X8_of, cv_X8_95, by decide, by decide +kernel⟩
theorem bk_X8_hides_9 : mx_blk 8 cX8_hides 9 [.inr (.int 1), .inl .isub] 11 = true := by decide +kernel
theorem kc_X8_hides_11 : mx_kV dm_X8_hides 11 dm_X8_put 8 3 := ⟨85, by decide +kernel, md_X8_put, cv_X8_85, by decide, by decide +kernel⟩
theorem bk_X8_hides_14 : mx_blk 8 cX8_hides 14 [.inl (.aload 0), .inl (.iload 1), .inr (.int 6), .inl (.aload 0), .inl (.iload 1), .inr (.int 6)] 22 = true := by decide +kernel
theorem kc_X8_hides_22 : mx_kV dm_X8_hides 22 dm_X8_of 8 2 := ⟨95, by decide +kernel, md_X8_of, cv_X8_95, by decide, by decide +kernel⟩
theorem bk_X8_hides_25 : mx_blk 8 cX8_hides 25 [.inr (.int 1), .inl .iadd] 27 = true := by decide +kernel
theorem kc_X8_hides_27 : mx_kV dm_X8_hides 27 dm_X8_put 8 3 := ⟨85, by decide +kernel, md_X8_put, cv_X8_85, by decide, by decide +kernel⟩
theorem rt_X8_hides_30 : mx_kv dm_X8_hides 30 := ⟨by decide +kernel, rfl⟩
theorem bk_X8_hide_0 : mx_blk 8 cX8_hide 0 [.inl (.aload 0), .inl (.iload 1)] 2 = true := by decide +kernel
theorem kc_X8_hide_2 : mx_kV dm_X8_hide 2 dm_X8_isDistrict 8 1 := ⟨98, by decide +kernel, md_X8_isDistrict, cv_X8_98, by decide, by decide +kernel⟩
theorem br_X8_hide_5 : mx_brk cX8_hide 5 (.ifCond .ne 6) 11 8 = true := by decide +kernel
theorem bk_X8_hide_8 : mx_blk 8 cX8_hide 8 [.inr (.int (-1000000001))] 10 = true := by decide +kernel
theorem rt_X8_hide_10 : mx_kr dm_X8_hide 10 .int := ⟨by decide +kernel, rfl⟩
theorem bk_X8_hide_11 : mx_blk 8 cX8_hide 11 [.inl (.aload 0), .inl (.iload 1), .inr (.int 5)] 14 = true := by decide +kernel
theorem kc_X8_hide_14 : mx_kV dm_X8_hide 14 dm_X8_of 8 2 := ⟨95, by decide +kernel, md_X8_of, cv_X8_95, by decide, by decide +kernel⟩
theorem br_X8_hide_17 : mx_brk cX8_hide 17 (.ifCond .ne 6) 23 20 = true := by decide +kernel
theorem bk_X8_hide_20 : mx_blk 8 cX8_hide 20 [.inr (.int (-1000000002))] 22 = true := by decide +kernel
theorem rt_X8_hide_22 : mx_kr dm_X8_hide 22 .int := ⟨by decide +kernel, rfl⟩
theorem bk_X8_hide_23 : mx_blk 8 cX8_hide 23 [.inl (.aload 0), .inl (.iload 1)] 25 = true := by decide +kernel
theorem kc_X8_hide_25 : mx_kV dm_X8_hide 25 dm_X8_hides 8 1 := ⟨133, by decide +kernel, md_X8_hides, cv_X8_133, by decide, by decide +kernel⟩
theorem bk_X8_hide_28 : mx_blk 8 cX8_hide 28 [.inl (.aload 0), .inl (.iload 1), .inr (.int 6)] 32 = true := by decide +kernel
theorem kc_X8_hide_32 : mx_kV dm_X8_hide 32 dm_X8_of 8 2 := ⟨95, by decide +kernel, md_X8_of, cv_X8_95, by decide, by decide +kernel⟩
theorem rt_X8_hide_35 : mx_kr dm_X8_hide 35 .int := ⟨by decide +kernel, rfl⟩
theorem bk_X8_rule_0 : mx_blk 8 cX8_rule 0 [.inl (.iload 1), .inr (.int 0), .inr (.int 2)] 3 = true := by decide +kernel
theorem kc_X8_rule_3 : mx_kS dm_X8_rule 3 dm_X8_in 3 := ⟨81, by decide +kernel, md_X8_in, cs_X8_81⟩
theorem br_X8_rule_6 : mx_brk cX8_rule 6 (.ifCond .eq 44) 50 9 = true := by decide +kernel
theorem bk_X8_rule_9 : mx_blk 8 cX8_rule 9 [.inl (.iload 2), .inr (.int 0), .inl (.iload 1)] 12 = true := by decide +kernel
theorem br_X8_rule_12 : mx_brk cX8_rule 12 (.ifCond .ne 9) 21 15 = true := by decide +kernel
theorem bk_X8_rule_15 : mx_blk 8 cX8_rule 15 [.inr (.int 999)] 18 = true := by decide +kernel
theorem gt_X8_rule_18 : mx_jmp cX8_rule 18 33 = true := by decide +kernel
theorem bk_X8_rule_21 : mx_blk 8 cX8_rule 21 [.inl (.iload 1), .inr (.int 1)] 23 = true := by decide +kernel
theorem br_X8_rule_23 : mx_brk cX8_rule 23 (.if_icmp .ne 8) 31 26 = true := by decide +kernel
theorem bk_X8_rule_26 : mx_blk 8 cX8_rule 26 [.inr (.int 99)] 28 = true := by decide +kernel
theorem gt_X8_rule_28 : mx_jmp cX8_rule 28 33 = true := by decide +kernel
theorem bk_X8_rule_31 : mx_blk 8 cX8_rule 31 [.inr (.int 59)] 33 = true := by decide +kernel
theorem kc_X8_rule_33 : mx_kS dm_X8_rule 33 dm_X8_in 3 := ⟨81, by decide +kernel, md_X8_in, cs_X8_81⟩
theorem br_X8_rule_36 : mx_brk cX8_rule 36 (.ifCond .eq 14) 50 39 = true := by decide +kernel
theorem bk_X8_rule_39 : mx_blk 8 cX8_rule 39 [.inl (.aload 0), .inr (.int 3), .inl (.iload 1), .inl .iadd, .inl (.iload 2)] 44 = true := by decide +kernel
theorem kc_X8_rule_44 : mx_kV dm_X8_rule 44 dm_X8_becomes 8 2 := ⟨127, by decide +kernel, md_X8_becomes, cv_X8_127, by decide, by decide +kernel⟩
theorem gt_X8_rule_47 : mx_jmp cX8_rule 47 52 = true := by decide +kernel
theorem bk_X8_rule_50 : mx_blk 8 cX8_rule 50 [.inr (.int (-1000000001))] 52 = true := by decide +kernel
theorem rt_X8_rule_52 : mx_kr dm_X8_rule 52 .int := ⟨by decide +kernel, rfl⟩
theorem bk_X8_draw_0 : mx_blk 8 cX8_draw 0 [.inl (.aload 0), .inl (.getfield 512), .inr (.int 0), .inl (.aload 0), .inl (.getfield 512), .inr (.int 0), .inl .iaload, .inr (.int 1103515245), .inl .imul, .inr (.int 12345), .inl .iadd, .inl .iastore, .inl (.aload 0), .inl (.getfield 512), .inr (.int 0), .inl .iaload, .inr (.int 8), .inl .iushr] 28 = true := by decide +kernel
theorem rt_X8_draw_28 : mx_kr dm_X8_draw 28 .int := ⟨by decide +kernel, rfl⟩
theorem bk_X8_deal_0 : mx_blk 8 cX8_deal 0 [.inl (.iload 1), .inr (.int 1), .inr (.int 6)] 4 = true := by decide +kernel
theorem kc_X8_deal_4 : mx_kS dm_X8_deal 4 dm_X8_in 3 := ⟨81, by decide +kernel, md_X8_in, cs_X8_81⟩
theorem br_X8_deal_7 : mx_brk cX8_deal 7 (.ifCond .ne 6) 13 10 = true := by decide +kernel
theorem bk_X8_deal_10 : mx_blk 8 cX8_deal 10 [.inr (.int (-1000000001))] 12 = true := by decide +kernel
theorem rt_X8_deal_12 : mx_kr dm_X8_deal 12 .int := ⟨by decide +kernel, rfl⟩
theorem bk_X8_deal_13 : mx_blk 8 cX8_deal 13 [.inr (.int 0), .inl (.istore 2)] 15 = true := by decide +kernel
theorem bk_X8_deal_15 : mx_blk 8 cX8_deal 15 [.inl (.iload 2), .inl (.iload 1)] 17 = true := by decide +kernel
theorem br_X8_deal_17 : mx_brk cX8_deal 17 (.if_icmp .ge 42) 59 20 = true := by decide +kernel
theorem bk_X8_deal_20 : mx_blk 8 cX8_deal 20 [.inl (.aload 0), .inl (.getfield 512), .inr (.int 1), .inl .iaload, .inr (.int 6)] 28 = true := by decide +kernel
theorem br_X8_deal_28 : mx_brk cX8_deal 28 (.if_icmp .ge 31) 59 31 = true := by decide +kernel
theorem bk_X8_deal_31 : mx_blk 8 cX8_deal 31 [.inl (.aload 0)] 32 = true := by decide +kernel
theorem kc_X8_deal_32 : mx_kV dm_X8_deal 32 dm_X8_draw 8 0 := ⟨138, by decide +kernel, md_X8_draw, cv_X8_138, by decide, by decide +kernel⟩
theorem bk_X8_deal_35 : mx_blk 8 cX8_deal 35 [.inr (.int 6), .inl .irem, .inl (.istore 3), .inl (.aload 0), .inl (.iload 3), .inl (.aload 0)] 42 = true := by decide +kernel
theorem kc_X8_deal_42 : mx_kV dm_X8_deal 42 dm_X8_draw 8 0 := ⟨138, by decide +kernel, md_X8_draw, cv_X8_138, by decide, by decide +kernel⟩
theorem bk_X8_deal_45 : mx_blk 8 cX8_deal 45 [.inr (.int 10), .inl .irem] 48 = true := by decide +kernel
theorem kc_X8_deal_48 : mx_kV dm_X8_deal 48 dm_X8_comes 8 2 := ⟨91, by decide +kernel, md_X8_comes, cv_X8_91, by decide, by decide +kernel⟩
theorem bk_X8_deal_51 : mx_blk 8 cX8_deal 51 [.inl (.istore 4), .inl (.iinc 2 1)] 56 = true := by decide +kernel
theorem gt_X8_deal_56 : mx_jmp cX8_deal 56 15 = true := by decide +kernel
theorem bk_X8_deal_59 : mx_blk 8 cX8_deal 59 [.inl (.iload 2)] 60 = true := by decide +kernel
theorem rt_X8_deal_60 : mx_kr dm_X8_deal 60 .int := ⟨by decide +kernel, rfl⟩
theorem bk_X8_seed_0 : mx_blk 8 cX8_seed 0 [.inl (.aload 0), .inr (.int 0), .inl (.iload 1)] 3 = true := by decide +kernel
theorem kc_X8_seed_3 : mx_kV dm_X8_seed 3 dm_X8_becomes 8 2 := ⟨127, by decide +kernel, md_X8_becomes, cv_X8_127, by decide, by decide +kernel⟩
theorem rt_X8_seed_6 : mx_kr dm_X8_seed 6 .int := ⟨by decide +kernel, rfl⟩
theorem bk_X8_wageOf_0 : mx_blk 8 cX8_wageOf 0 [.inl (.aload 0), .inr (.int 1)] 2 = true := by decide +kernel
theorem kc_X8_wageOf_2 : mx_kV dm_X8_wageOf 2 dm_X8_counts 8 1 := ⟨109, by decide +kernel, md_X8_counts, cv_X8_109, by decide, by decide +kernel⟩
theorem bk_X8_wageOf_5 : mx_blk 8 cX8_wageOf 5 [.inl (.istore 2), .inl (.aload 0), .inl (.getfield 536), .inr (.int 0), .inl (.aload 0), .inl (.iload 1), .inr (.int 3)] 14 = true := by decide +kernel
theorem kc_X8_wageOf_14 : mx_kV dm_X8_wageOf 14 dm_X8_of 8 2 := ⟨95, by decide +kernel, md_X8_of, cv_X8_95, by decide, by decide +kernel⟩
theorem bk_X8_wageOf_17 : mx_blk 8 cX8_wageOf 17 [.inl .iastore, .inl (.aload 0), .inl (.getfield 536), .inr (.int 1), .inl (.aload 0), .inl (.iload 1), .inr (.int 2)] 26 = true := by decide +kernel
theorem kc_X8_wageOf_26 : mx_kV dm_X8_wageOf 26 dm_X8_of 8 2 := ⟨95, by decide +kernel, md_X8_of, cv_X8_95, by decide, by decide +kernel⟩
theorem bk_X8_wageOf_29 : mx_blk 8 cX8_wageOf 29 [.inl .iastore, .inl (.iload 2)] 31 = true := by decide +kernel
theorem br_X8_wageOf_31 : mx_brk cX8_wageOf 31 (.ifCond .ge 12) 43 34 = true := by decide +kernel
theorem bk_X8_wageOf_34 : mx_blk 8 cX8_wageOf 34 [.inl (.aload 0), .inl (.getfield 512), .inr (.int 3), .inl .iaload] 40 = true := by decide +kernel
theorem gt_X8_wageOf_40 : mx_jmp cX8_wageOf 40 55 = true := by decide +kernel
theorem bk_X8_wageOf_43 : mx_blk 8 cX8_wageOf 43 [.inl (.aload 0), .inl (.iload 2)] 45 = true := by decide +kernel
theorem kc_X8_wageOf_45 : mx_kV dm_X8_wageOf 45 dm_X8_worksOut 8 1 := ⟨112, by decide +kernel, md_X8_worksOut, cv_X8_112, by decide, by decide +kernel⟩
theorem bk_X8_wageOf_48 : mx_blk 8 cX8_wageOf 48 [.inr (.int 0), .inr (.int 9999)] 52 = true := by decide +kernel
theorem kc_X8_wageOf_52 : mx_kS dm_X8_wageOf 52 dm_X8_within 3 := ⟨115, by decide +kernel, md_X8_within, cs_X8_115⟩
theorem rt_X8_wageOf_55 : mx_kr dm_X8_wageOf 55 .int := ⟨by decide +kernel, rfl⟩
theorem bk_X8_weekEnds_0 : mx_blk 8 cX8_weekEnds 0 [.inl (.aload 0), .inl (.iload 1), .inr (.int 7), .inl (.aload 0), .inl (.iload 1), .inr (.int 7)] 8 = true := by decide +kernel
theorem kc_X8_weekEnds_8 : mx_kV dm_X8_weekEnds 8 dm_X8_of 8 2 := ⟨95, by decide +kernel, md_X8_of, cv_X8_95, by decide, by decide +kernel⟩
theorem bk_X8_weekEnds_11 : mx_blk 8 cX8_weekEnds 11 [.inl (.aload 0), .inl (.iload 1)] 13 = true := by decide +kernel
theorem kc_X8_weekEnds_13 : mx_kV dm_X8_weekEnds 13 dm_X8_wageOf 8 1 := ⟨142, by decide +kernel, md_X8_wageOf, cv_X8_142, by decide, by decide +kernel⟩
theorem bk_X8_weekEnds_16 : mx_blk 8 cX8_weekEnds 16 [.inl .iadd] 17 = true := by decide +kernel
theorem kc_X8_weekEnds_17 : mx_kV dm_X8_weekEnds 17 dm_X8_put 8 3 := ⟨85, by decide +kernel, md_X8_put, cv_X8_85, by decide, by decide +kernel⟩
theorem bk_X8_weekEnds_20 : mx_blk 8 cX8_weekEnds 20 [.inl (.aload 0), .inl (.iload 1), .inr (.int 2), .inl (.aload 0), .inl (.iload 1), .inr (.int 2)] 26 = true := by decide +kernel
theorem kc_X8_weekEnds_26 : mx_kV dm_X8_weekEnds 26 dm_X8_of 8 2 := ⟨95, by decide +kernel, md_X8_of, cv_X8_95, by decide, by decide +kernel⟩
theorem bk_X8_weekEnds_29 : mx_blk 8 cX8_weekEnds 29 [.inr (.int 1), .inl .iadd] 31 = true := by decide +kernel
theorem kc_X8_weekEnds_31 : mx_kV dm_X8_weekEnds 31 dm_X8_put 8 3 := ⟨85, by decide +kernel, md_X8_put, cv_X8_85, by decide, by decide +kernel⟩
theorem bk_X8_weekEnds_34 : mx_blk 8 cX8_weekEnds 34 [.inl (.aload 0), .inl (.iload 1), .inr (.int 3), .inl (.aload 0), .inl (.iload 1), .inr (.int 5)] 40 = true := by decide +kernel
theorem kc_X8_weekEnds_40 : mx_kV dm_X8_weekEnds 40 dm_X8_of 8 2 := ⟨95, by decide +kernel, md_X8_of, cv_X8_95, by decide, by decide +kernel⟩
theorem bk_X8_weekEnds_43 : mx_blk 8 cX8_weekEnds 43 [.inr (.int 2), .inr (.int 60)] 46 = true := by decide +kernel
theorem kc_X8_weekEnds_46 : mx_kS dm_X8_weekEnds 46 dm_X8_within 3 := ⟨115, by decide +kernel, md_X8_within, cs_X8_115⟩
theorem kc_X8_weekEnds_49 : mx_kV dm_X8_weekEnds 49 dm_X8_put 8 3 := ⟨85, by decide +kernel, md_X8_put, cv_X8_85, by decide, by decide +kernel⟩
theorem bk_X8_weekEnds_52 : mx_blk 8 cX8_weekEnds 52 [.inl (.aload 0), .inl (.iload 1), .inr (.int 5), .inl (.aload 0), .inl (.iload 1), .inr (.int 6)] 59 = true := by decide +kernel
theorem kc_X8_weekEnds_59 : mx_kV dm_X8_weekEnds 59 dm_X8_of 8 2 := ⟨95, by decide +kernel, md_X8_of, cv_X8_95, by decide, by decide +kernel⟩
theorem kc_X8_weekEnds_62 : mx_kV dm_X8_weekEnds 62 dm_X8_put 8 3 := ⟨85, by decide +kernel, md_X8_put, cv_X8_85, by decide, by decide +kernel⟩
theorem bk_X8_weekEnds_65 : mx_blk 8 cX8_weekEnds 65 [.inl (.aload 0), .inl (.iload 1), .inr (.int 6), .inr (.int 0)] 70 = true := by decide +kernel
theorem kc_X8_weekEnds_70 : mx_kV dm_X8_weekEnds 70 dm_X8_put 8 3 := ⟨85, by decide +kernel, md_X8_put, cv_X8_85, by decide, by decide +kernel⟩
theorem bk_X8_weekEnds_73 : mx_blk 8 cX8_weekEnds 73 [.inl (.aload 0), .inl (.iload 1), .inr (.int 4), .inr (.int 0)] 77 = true := by decide +kernel
theorem kc_X8_weekEnds_77 : mx_kV dm_X8_weekEnds 77 dm_X8_put 8 3 := ⟨85, by decide +kernel, md_X8_put, cv_X8_85, by decide, by decide +kernel⟩
theorem rt_X8_weekEnds_80 : mx_kv dm_X8_weekEnds 80 := ⟨by decide +kernel, rfl⟩
theorem bk_X8_day_0 : mx_blk 8 cX8_day 0 [.inr (.int 0), .inl (.istore 1), .inr (.int 0), .inl (.istore 2)] 4 = true := by decide +kernel
theorem bk_X8_day_4 : mx_blk 8 cX8_day 4 [.inl (.iload 2), .inl (.aload 0), .inl (.getfield 512), .inr (.int 1), .inl .iaload] 11 = true := by decide +kernel
theorem br_X8_day_11 : mx_brk cX8_day 11 (.if_icmp .ge 100) 111 14 = true := by decide +kernel
theorem bk_X8_day_14 : mx_blk 8 cX8_day 14 [.inl (.aload 0)] 15 = true := by decide +kernel
theorem kc_X8_day_15 : mx_kV dm_X8_day 15 dm_X8_draw 8 0 := ⟨138, by decide +kernel, md_X8_draw, cv_X8_138, by decide, by decide +kernel⟩
theorem bk_X8_day_18 : mx_blk 8 cX8_day 18 [.inl (.aload 0), .inl (.iload 2), .inr (.int 1)] 21 = true := by decide +kernel
theorem kc_X8_day_21 : mx_kV dm_X8_day 21 dm_X8_of 8 2 := ⟨95, by decide +kernel, md_X8_of, cv_X8_95, by decide, by decide +kernel⟩
theorem bk_X8_day_24 : mx_blk 8 cX8_day 24 [.inr (.int 1), .inl .iadd, .inl .irem, .inl (.istore 3), .inl (.aload 0), .inl (.iload 2), .inr (.int 5), .inl (.aload 0), .inl (.iload 2), .inr (.int 5)] 34 = true := by decide +kernel
theorem kc_X8_day_34 : mx_kV dm_X8_day 34 dm_X8_of 8 2 := ⟨95, by decide +kernel, md_X8_of, cv_X8_95, by decide, by decide +kernel⟩
theorem bk_X8_day_37 : mx_blk 8 cX8_day 37 [.inl (.aload 0), .inl (.iload 2), .inl (.iload 3)] 40 = true := by decide +kernel
theorem kc_X8_day_40 : mx_kV dm_X8_day 40 dm_X8_birthsOf 8 2 := ⟨119, by decide +kernel, md_X8_birthsOf, cv_X8_119, by decide, by decide +kernel⟩
theorem bk_X8_day_43 : mx_blk 8 cX8_day 43 [.inl .iadd] 44 = true := by decide +kernel
theorem kc_X8_day_44 : mx_kV dm_X8_day 44 dm_X8_put 8 3 := ⟨85, by decide +kernel, md_X8_put, cv_X8_85, by decide, by decide +kernel⟩
theorem bk_X8_day_47 : mx_blk 8 cX8_day 47 [.inl (.aload 0), .inl (.iload 2), .inr (.int 7), .inl (.aload 0), .inl (.iload 2), .inr (.int 7)] 55 = true := by decide +kernel
theorem kc_X8_day_55 : mx_kV dm_X8_day 55 dm_X8_of 8 2 := ⟨95, by decide +kernel, md_X8_of, cv_X8_95, by decide, by decide +kernel⟩
theorem bk_X8_day_58 : mx_blk 8 cX8_day 58 [.inl (.aload 0), .inl (.getfield 512), .inr (.int 4), .inl .iaload, .inl .isub] 65 = true := by decide +kernel
theorem kc_X8_day_65 : mx_kV dm_X8_day 65 dm_X8_put 8 3 := ⟨85, by decide +kernel, md_X8_put, cv_X8_85, by decide, by decide +kernel⟩
theorem bk_X8_day_68 : mx_blk 8 cX8_day 68 [.inl (.aload 0), .inl (.iload 2), .inr (.int 4), .inl (.aload 0), .inl (.iload 2), .inr (.int 4)] 74 = true := by decide +kernel
theorem kc_X8_day_74 : mx_kV dm_X8_day 74 dm_X8_of 8 2 := ⟨95, by decide +kernel, md_X8_of, cv_X8_95, by decide, by decide +kernel⟩
theorem bk_X8_day_77 : mx_blk 8 cX8_day 77 [.inr (.int 1), .inl .iadd] 79 = true := by decide +kernel
theorem kc_X8_day_79 : mx_kV dm_X8_day 79 dm_X8_put 8 3 := ⟨85, by decide +kernel, md_X8_put, cv_X8_85, by decide, by decide +kernel⟩
theorem bk_X8_day_82 : mx_blk 8 cX8_day 82 [.inl (.aload 0), .inl (.iload 2), .inr (.int 4)] 85 = true := by decide +kernel
theorem kc_X8_day_85 : mx_kV dm_X8_day 85 dm_X8_of 8 2 := ⟨95, by decide +kernel, md_X8_of, cv_X8_95, by decide, by decide +kernel⟩
theorem bk_X8_day_88 : mx_blk 8 cX8_day 88 [.inl (.aload 0), .inl (.iload 2), .inr (.int 3)] 91 = true := by decide +kernel
theorem kc_X8_day_91 : mx_kV dm_X8_day 91 dm_X8_of 8 2 := ⟨95, by decide +kernel, md_X8_of, cv_X8_95, by decide, by decide +kernel⟩
theorem br_X8_day_94 : mx_brk cX8_day 94 (.if_icmp .ne 11) 105 97 = true := by decide +kernel
theorem bk_X8_day_97 : mx_blk 8 cX8_day 97 [.inl (.aload 0), .inl (.iload 2)] 99 = true := by decide +kernel
theorem kc_X8_day_99 : mx_kV dm_X8_day 99 dm_X8_weekEnds 8 1 := ⟨145, by decide +kernel, md_X8_weekEnds, cv_X8_145, by decide, by decide +kernel⟩
theorem bk_X8_day_102 : mx_blk 8 cX8_day 102 [.inl (.iinc 1 1)] 105 = true := by decide +kernel
theorem bk_X8_day_105 : mx_blk 8 cX8_day 105 [.inl (.iinc 2 1)] 108 = true := by decide +kernel
theorem gt_X8_day_108 : mx_jmp cX8_day 108 4 = true := by decide +kernel
theorem bk_X8_day_111 : mx_blk 8 cX8_day 111 [.inl (.aload 0), .inl (.getfield 512), .inr (.int 2), .inl .dup2, .inl .iaload, .inr (.int 1), .inl .iadd, .inl .iastore, .inl (.iload 1)] 122 = true := by decide +kernel
theorem rt_X8_day_122 : mx_kr dm_X8_day 122 .int := ⟨by decide +kernel, rfl⟩
theorem bk_X8_goesOn_0 : mx_blk 8 cX8_goesOn 0 [.inr (.int 0), .inl (.istore 2), .inr (.int 0), .inl (.istore 3)] 4 = true := by decide +kernel
theorem bk_X8_goesOn_4 : mx_blk 8 cX8_goesOn 4 [.inl (.iload 3), .inl (.iload 1)] 6 = true := by decide +kernel
theorem br_X8_goesOn_6 : mx_brk cX8_goesOn 6 (.if_icmp .ge 16) 22 9 = true := by decide +kernel
theorem bk_X8_goesOn_9 : mx_blk 8 cX8_goesOn 9 [.inl (.iload 2), .inl (.aload 0)] 11 = true := by decide +kernel
theorem kc_X8_goesOn_11 : mx_kV dm_X8_goesOn 11 dm_X8_day 8 0 := ⟨148, by decide +kernel, md_X8_day, cv_X8_148, by decide, by decide +kernel⟩
theorem bk_X8_goesOn_14 : mx_blk 8 cX8_goesOn 14 [.inl .iadd, .inl (.istore 2), .inl (.iinc 3 1)] 19 = true := by decide +kernel
theorem gt_X8_goesOn_19 : mx_jmp cX8_goesOn 19 4 = true := by decide +kernel
theorem bk_X8_goesOn_22 : mx_blk 8 cX8_goesOn 22 [.inl (.iload 2)] 23 = true := by decide +kernel
theorem rt_X8_goesOn_23 : mx_kr dm_X8_goesOn 23 .int := ⟨by decide +kernel, rfl⟩
theorem bk_X8_days_0 : mx_blk 8 cX8_days 0 [.inl (.iload 1), .inr (.int 1), .inr (.int 300)] 5 = true := by decide +kernel
theorem kc_X8_days_5 : mx_kS dm_X8_days 5 dm_X8_in 3 := ⟨81, by decide +kernel, md_X8_in, cs_X8_81⟩
theorem br_X8_days_8 : mx_brk cX8_days 8 (.ifCond .eq 24) 32 11 = true := by decide +kernel
theorem bk_X8_days_11 : mx_blk 8 cX8_days 11 [.inl (.aload 0), .inr (.int 99999), .inl (.aload 0), .inl (.getfield 512), .inr (.int 2), .inl .iaload, .inl .isub, .inr (.int 0), .inl (.iload 1)] 23 = true := by decide +kernel
theorem kc_X8_days_23 : mx_kS dm_X8_days 23 dm_X8_within 3 := ⟨115, by decide +kernel, md_X8_within, cs_X8_115⟩
theorem kc_X8_days_26 : mx_kV dm_X8_days 26 dm_X8_goesOn 8 1 := ⟨151, by decide +kernel, md_X8_goesOn, cv_X8_151, by decide, by decide +kernel⟩
theorem gt_X8_days_29 : mx_jmp cX8_days 29 34 = true := by decide +kernel
theorem bk_X8_days_32 : mx_blk 8 cX8_days 32 [.inr (.int (-1000000001))] 34 = true := by decide +kernel
theorem rt_X8_days_34 : mx_kr dm_X8_days 34 .int := ⟨by decide +kernel, rfl⟩
theorem bk_X8_thinks_0 : mx_blk 8 cX8_thinks 0 [.inr (.int 0), .inl (.istore 1)] 2 = true := by decide +kernel
theorem bk_X8_thinks_2 : mx_blk 8 cX8_thinks 2 [.inl (.iload 1), .inr (.int 55)] 5 = true := by decide +kernel
theorem br_X8_thinks_5 : mx_brk cX8_thinks 5 (.if_icmp .ge 21) 26 8 = true := by decide +kernel
theorem bk_X8_thinks_8 : mx_blk 8 cX8_thinks 8 [.inl (.aload 0), .inl (.getfield 516), .inl (.iload 1), .inl (.aload 0), .inl (.getfield 512), .inl (.iload 1), .inl .iaload, .inl .iastore, .inl (.iinc 1 1)] 23 = true := by decide +kernel
theorem gt_X8_thinks_23 : mx_jmp cX8_thinks 23 2 = true := by decide +kernel
theorem rt_X8_thinks_26 : mx_kv dm_X8_thinks 26 := ⟨by decide +kernel, rfl⟩
theorem bk_X8_putsBack_0 : mx_blk 8 cX8_putsBack 0 [.inr (.int 0), .inl (.istore 1)] 2 = true := by decide +kernel
theorem bk_X8_putsBack_2 : mx_blk 8 cX8_putsBack 2 [.inl (.iload 1), .inr (.int 55)] 5 = true := by decide +kernel
theorem br_X8_putsBack_5 : mx_brk cX8_putsBack 5 (.if_icmp .ge 21) 26 8 = true := by decide +kernel
theorem bk_X8_putsBack_8 : mx_blk 8 cX8_putsBack 8 [.inl (.aload 0), .inl (.getfield 512), .inl (.iload 1), .inl (.aload 0), .inl (.getfield 516), .inl (.iload 1), .inl .iaload, .inl .iastore, .inl (.iinc 1 1)] 23 = true := by decide +kernel
theorem gt_X8_putsBack_23 : mx_jmp cX8_putsBack 23 2 = true := by decide +kernel
theorem rt_X8_putsBack_26 : mx_kv dm_X8_putsBack 26 := ⟨by decide +kernel, rfl⟩
theorem bk_X8_behind_0 : mx_blk 8 cX8_behind 0 [.inl (.aload 0), .inl (.iload 1)] 2 = true := by decide +kernel
theorem kc_X8_behind_2 : mx_kV dm_X8_behind 2 dm_X8_isDistrict 8 1 := ⟨98, by decide +kernel, md_X8_isDistrict, cv_X8_98, by decide, by decide +kernel⟩
theorem br_X8_behind_5 : mx_brk cX8_behind 5 (.ifCond .eq 23) 28 8 = true := by decide +kernel
theorem bk_X8_behind_8 : mx_blk 8 cX8_behind 8 [.inl (.iload 2), .inr (.int 0), .inr (.int 300)] 13 = true := by decide +kernel
theorem kc_X8_behind_13 : mx_kS dm_X8_behind 13 dm_X8_in 3 := ⟨81, by decide +kernel, md_X8_in, cs_X8_81⟩
theorem br_X8_behind_16 : mx_brk cX8_behind 16 (.ifCond .eq 12) 28 19 = true := by decide +kernel
theorem bk_X8_behind_19 : mx_blk 8 cX8_behind 19 [.inl (.iload 3), .inr (.int 0), .inr (.int 4)] 22 = true := by decide +kernel
theorem kc_X8_behind_22 : mx_kS dm_X8_behind 22 dm_X8_in 3 := ⟨81, by decide +kernel, md_X8_in, cs_X8_81⟩
theorem br_X8_behind_25 : mx_brk cX8_behind 25 (.ifCond .ne 6) 31 28 = true := by decide +kernel
theorem bk_X8_behind_28 : mx_blk 8 cX8_behind 28 [.inr (.int (-1000000001))] 30 = true := by decide +kernel
theorem rt_X8_behind_30 : mx_kr dm_X8_behind 30 .int := ⟨by decide +kernel, rfl⟩
theorem bk_X8_behind_31 : mx_blk 8 cX8_behind 31 [.inl (.aload 0)] 32 = true := by decide +kernel
theorem kc_X8_behind_32 : mx_kV dm_X8_behind 32 dm_X8_thinks 8 0 := ⟨154, by decide +kernel, md_X8_thinks, cv_X8_154, by decide, by decide +kernel⟩
theorem bk_X8_behind_35 : mx_blk 8 cX8_behind 35 [.inl (.aload 0), .inl (.iload 2)] 37 = true := by decide +kernel
theorem kc_X8_behind_37 : mx_kV dm_X8_behind 37 dm_X8_goesOn 8 1 := ⟨151, by decide +kernel, md_X8_goesOn, cv_X8_151, by decide, by decide +kernel⟩
theorem bk_X8_behind_40 : mx_blk 8 cX8_behind 40 [.inl (.istore 4), .inl (.aload 0), .inl (.iload 1), .inl (.iload 3), .inr (.int 4)] 46 = true := by decide +kernel
theorem br_X8_behind_46 : mx_brk cX8_behind 46 (.if_icmp .ge 9) 55 49 = true := by decide +kernel
theorem bk_X8_behind_49 : mx_blk 8 cX8_behind 49 [.inr (.int 2), .inl (.iload 3), .inl .iadd] 52 = true := by decide +kernel
theorem gt_X8_behind_52 : mx_jmp cX8_behind 52 57 = true := by decide +kernel
theorem bk_X8_behind_55 : mx_blk 8 cX8_behind 55 [.inr (.int 7)] 57 = true := by decide +kernel
theorem kc_X8_behind_57 : mx_kV dm_X8_behind 57 dm_X8_of 8 2 := ⟨95, by decide +kernel, md_X8_of, cv_X8_95, by decide, by decide +kernel⟩
theorem bk_X8_behind_60 : mx_blk 8 cX8_behind 60 [.inl (.istore 5), .inl (.aload 0)] 63 = true := by decide +kernel
theorem kc_X8_behind_63 : mx_kV dm_X8_behind 63 dm_X8_putsBack 8 0 := ⟨157, by decide +kernel, md_X8_putsBack, cv_X8_157, by decide, by decide +kernel⟩
theorem bk_X8_behind_66 : mx_blk 8 cX8_behind 66 [.inl (.iload 5)] 68 = true := by decide +kernel
theorem rt_X8_behind_68 : mx_kr dm_X8_behind 68 .int := ⟨by decide +kernel, rfl⟩
theorem bk_X8_meets_0 : mx_blk 8 cX8_meets 0 [.inl (.aload 0), .inl (.iload 1)] 2 = true := by decide +kernel
theorem kc_X8_meets_2 : mx_kV dm_X8_meets 2 dm_X8_isDistrict 8 1 := ⟨98, by decide +kernel, md_X8_isDistrict, cv_X8_98, by decide, by decide +kernel⟩
theorem br_X8_meets_5 : mx_brk cX8_meets 5 (.ifCond .eq 11) 16 8 = true := by decide +kernel
theorem bk_X8_meets_8 : mx_blk 8 cX8_meets 8 [.inl (.aload 0), .inl (.iload 2)] 10 = true := by decide +kernel
theorem kc_X8_meets_10 : mx_kV dm_X8_meets 10 dm_X8_isDistrict 8 1 := ⟨98, by decide +kernel, md_X8_isDistrict, cv_X8_98, by decide, by decide +kernel⟩
theorem br_X8_meets_13 : mx_brk cX8_meets 13 (.ifCond .ne 6) 19 16 = true := by decide +kernel
theorem bk_X8_meets_16 : mx_blk 8 cX8_meets 16 [.inr (.int (-1000000001))] 18 = true := by decide +kernel
theorem rt_X8_meets_18 : mx_kr dm_X8_meets 18 .int := ⟨by decide +kernel, rfl⟩
theorem bk_X8_meets_19 : mx_blk 8 cX8_meets 19 [.inl (.aload 0)] 20 = true := by decide +kernel
theorem kc_X8_meets_20 : mx_kV dm_X8_meets 20 dm_X8_thinks 8 0 := ⟨154, by decide +kernel, md_X8_thinks, cv_X8_154, by decide, by decide +kernel⟩
theorem bk_X8_meets_23 : mx_blk 8 cX8_meets 23 [.inr (.int 0), .inl (.istore 3)] 25 = true := by decide +kernel
theorem bk_X8_meets_25 : mx_blk 8 cX8_meets 25 [.inl (.iload 3), .inr (.int 200)] 29 = true := by decide +kernel
theorem br_X8_meets_29 : mx_brk cX8_meets 29 (.if_icmp .gt 31) 60 32 = true := by decide +kernel
theorem bk_X8_meets_32 : mx_blk 8 cX8_meets 32 [.inl (.aload 0), .inl (.iload 1)] 34 = true := by decide +kernel
theorem kc_X8_meets_34 : mx_kV dm_X8_meets 34 dm_X8_isFair 8 1 := ⟨106, by decide +kernel, md_X8_isFair, cv_X8_106, by decide, by decide +kernel⟩
theorem br_X8_meets_37 : mx_brk cX8_meets 37 (.ifCond .eq 11) 48 40 = true := by decide +kernel
theorem bk_X8_meets_40 : mx_blk 8 cX8_meets 40 [.inl (.aload 0), .inl (.iload 2)] 42 = true := by decide +kernel
theorem kc_X8_meets_42 : mx_kV dm_X8_meets 42 dm_X8_isFair 8 1 := ⟨106, by decide +kernel, md_X8_isFair, cv_X8_106, by decide, by decide +kernel⟩
theorem br_X8_meets_45 : mx_brk cX8_meets 45 (.ifCond .ne 15) 60 48 = true := by decide +kernel
theorem bk_X8_meets_48 : mx_blk 8 cX8_meets 48 [.inl (.aload 0)] 49 = true := by decide +kernel
theorem kc_X8_meets_49 : mx_kV dm_X8_meets 49 dm_X8_day 8 0 := ⟨148, by decide +kernel, md_X8_day, cv_X8_148, by decide, by decide +kernel⟩
theorem bk_X8_meets_52 : mx_blk 8 cX8_meets 52 [.inl (.istore 4), .inl (.iinc 3 1)] 57 = true := by decide +kernel
theorem gt_X8_meets_57 : mx_jmp cX8_meets 57 25 = true := by decide +kernel
theorem bk_X8_meets_60 : mx_blk 8 cX8_meets 60 [.inl (.aload 0)] 61 = true := by decide +kernel
theorem kc_X8_meets_61 : mx_kV dm_X8_meets 61 dm_X8_putsBack 8 0 := ⟨157, by decide +kernel, md_X8_putsBack, cv_X8_157, by decide, by decide +kernel⟩
theorem bk_X8_meets_64 : mx_blk 8 cX8_meets 64 [.inl (.iload 3), .inr (.int 200)] 68 = true := by decide +kernel
theorem br_X8_meets_68 : mx_brk cX8_meets 68 (.if_icmp .gt 7) 75 71 = true := by decide +kernel
theorem bk_X8_meets_71 : mx_blk 8 cX8_meets 71 [.inl (.iload 3)] 72 = true := by decide +kernel
theorem gt_X8_meets_72 : mx_jmp cX8_meets 72 77 = true := by decide +kernel
theorem bk_X8_meets_75 : mx_blk 8 cX8_meets 75 [.inr (.int (-1000000005))] 77 = true := by decide +kernel
theorem rt_X8_meets_77 : mx_kr dm_X8_meets 77 .int := ⟨by decide +kernel, rfl⟩
theorem bk_X8_sundays_0 : mx_blk 8 cX8_sundays 0 [.inl (.aload 0), .inl (.iload 1)] 2 = true := by decide +kernel
theorem kc_X8_sundays_2 : mx_kV dm_X8_sundays 2 dm_X8_isDistrict 8 1 := ⟨98, by decide +kernel, md_X8_isDistrict, cv_X8_98, by decide, by decide +kernel⟩
theorem br_X8_sundays_5 : mx_brk cX8_sundays 5 (.ifCond .eq 14) 19 8 = true := by decide +kernel
theorem bk_X8_sundays_8 : mx_blk 8 cX8_sundays 8 [.inl (.iload 2), .inr (.int 0), .inr (.int 300)] 13 = true := by decide +kernel
theorem kc_X8_sundays_13 : mx_kS dm_X8_sundays 13 dm_X8_in 3 := ⟨81, by decide +kernel, md_X8_in, cs_X8_81⟩
theorem br_X8_sundays_16 : mx_brk cX8_sundays 16 (.ifCond .ne 6) 22 19 = true := by decide +kernel
theorem bk_X8_sundays_19 : mx_blk 8 cX8_sundays 19 [.inr (.int (-1000000001))] 21 = true := by decide +kernel
theorem rt_X8_sundays_21 : mx_kr dm_X8_sundays 21 .int := ⟨by decide +kernel, rfl⟩
theorem bk_X8_sundays_22 : mx_blk 8 cX8_sundays 22 [.inl (.aload 0)] 23 = true := by decide +kernel
theorem kc_X8_sundays_23 : mx_kV dm_X8_sundays 23 dm_X8_thinks 8 0 := ⟨154, by decide +kernel, md_X8_thinks, cv_X8_154, by decide, by decide +kernel⟩
theorem bk_X8_sundays_26 : mx_blk 8 cX8_sundays 26 [.inr (.int 0), .inl (.istore 3), .inr (.int 0), .inl (.istore 4)] 31 = true := by decide +kernel
theorem bk_X8_sundays_31 : mx_blk 8 cX8_sundays 31 [.inl (.iload 4), .inl (.iload 2)] 34 = true := by decide +kernel
theorem br_X8_sundays_34 : mx_brk cX8_sundays 34 (.if_icmp .ge 32) 66 37 = true := by decide +kernel
theorem bk_X8_sundays_37 : mx_blk 8 cX8_sundays 37 [.inl (.aload 0)] 38 = true := by decide +kernel
theorem kc_X8_sundays_38 : mx_kV dm_X8_sundays 38 dm_X8_day 8 0 := ⟨148, by decide +kernel, md_X8_day, cv_X8_148, by decide, by decide +kernel⟩
theorem bk_X8_sundays_41 : mx_blk 8 cX8_sundays 41 [.inl (.istore 5), .inl (.iload 3), .inl (.aload 0), .inl (.iload 1), .inr (.int 4)] 47 = true := by decide +kernel
theorem kc_X8_sundays_47 : mx_kV dm_X8_sundays 47 dm_X8_of 8 2 := ⟨95, by decide +kernel, md_X8_of, cv_X8_95, by decide, by decide +kernel⟩
theorem br_X8_sundays_50 : mx_brk cX8_sundays 50 (.ifCond .ne 7) 57 53 = true := by decide +kernel
theorem bk_X8_sundays_53 : mx_blk 8 cX8_sundays 53 [.inr (.int 1)] 54 = true := by decide +kernel
theorem gt_X8_sundays_54 : mx_jmp cX8_sundays 54 58 = true := by decide +kernel
theorem bk_X8_sundays_57 : mx_blk 8 cX8_sundays 57 [.inr (.int 0)] 58 = true := by decide +kernel
theorem bk_X8_sundays_58 : mx_blk 8 cX8_sundays 58 [.inl .iadd, .inl (.istore 3), .inl (.iinc 4 1)] 63 = true := by decide +kernel
theorem gt_X8_sundays_63 : mx_jmp cX8_sundays 63 31 = true := by decide +kernel
theorem bk_X8_sundays_66 : mx_blk 8 cX8_sundays 66 [.inl (.aload 0)] 67 = true := by decide +kernel
theorem kc_X8_sundays_67 : mx_kV dm_X8_sundays 67 dm_X8_putsBack 8 0 := ⟨157, by decide +kernel, md_X8_putsBack, cv_X8_157, by decide, by decide +kernel⟩
theorem bk_X8_sundays_70 : mx_blk 8 cX8_sundays 70 [.inl (.iload 3)] 71 = true := by decide +kernel
theorem rt_X8_sundays_71 : mx_kr dm_X8_sundays 71 .int := ⟨by decide +kernel, rfl⟩
theorem bk_X8_trades_0 : mx_blk 8 cX8_trades 0 [.inr (.int 0), .inl (.istore 1)] 2 = true := by decide +kernel
theorem bk_X8_trades_2 : mx_blk 8 cX8_trades 2 [.inl (.iload 1), .inl (.aload 0), .inl (.getfield 512), .inr (.int 1), .inl .iaload] 9 = true := by decide +kernel
theorem br_X8_trades_9 : mx_brk cX8_trades 9 (.if_icmp .ge 111) 120 12 = true := by decide +kernel
theorem bk_X8_trades_12 : mx_blk 8 cX8_trades 12 [.inl (.aload 0), .inl (.getfield 517), .inl (.iload 1), .inl .iaload, .inl (.istore 2), .inl (.iload 1)] 20 = true := by decide +kernel
theorem br_X8_trades_20 : mx_brk cX8_trades 20 (.ifCond .le 26) 46 23 = true := by decide +kernel
theorem bk_X8_trades_23 : mx_blk 8 cX8_trades 23 [.inl (.aload 0), .inl (.getfield 517), .inl (.iload 1), .inr (.int 1), .inl .isub, .inl .iaload, .inl (.iload 2)] 32 = true := by decide +kernel
theorem br_X8_trades_32 : mx_brk cX8_trades 32 (.if_icmp .le 14) 46 35 = true := by decide +kernel
theorem bk_X8_trades_35 : mx_blk 8 cX8_trades 35 [.inl (.aload 0), .inl (.getfield 517), .inl (.iload 1), .inr (.int 1), .inl .isub, .inl .iaload] 43 = true := by decide +kernel
theorem gt_X8_trades_43 : mx_jmp cX8_trades 43 47 = true := by decide +kernel
theorem bk_X8_trades_46 : mx_blk 8 cX8_trades 46 [.inl (.iload 2)] 47 = true := by decide +kernel
theorem bk_X8_trades_47 : mx_blk 8 cX8_trades 47 [.inl (.istore 2), .inl (.iload 1), .inr (.int 1), .inl .iadd, .inl (.aload 0), .inl (.getfield 512), .inr (.int 1), .inl .iaload] 57 = true := by decide +kernel
theorem br_X8_trades_57 : mx_brk cX8_trades 57 (.if_icmp .ge 26) 83 60 = true := by decide +kernel
theorem bk_X8_trades_60 : mx_blk 8 cX8_trades 60 [.inl (.aload 0), .inl (.getfield 517), .inl (.iload 1), .inr (.int 1), .inl .iadd, .inl .iaload, .inl (.iload 2)] 69 = true := by decide +kernel
theorem br_X8_trades_69 : mx_brk cX8_trades 69 (.if_icmp .le 14) 83 72 = true := by decide +kernel
theorem bk_X8_trades_72 : mx_blk 8 cX8_trades 72 [.inl (.aload 0), .inl (.getfield 517), .inl (.iload 1), .inr (.int 1), .inl .iadd, .inl .iaload] 80 = true := by decide +kernel
theorem gt_X8_trades_80 : mx_jmp cX8_trades 80 84 = true := by decide +kernel
theorem bk_X8_trades_83 : mx_blk 8 cX8_trades 83 [.inl (.iload 2)] 84 = true := by decide +kernel
theorem bk_X8_trades_84 : mx_blk 8 cX8_trades 84 [.inl (.istore 2), .inl (.aload 0), .inl (.getfield 518), .inl (.iload 1), .inl (.iload 2)] 91 = true := by decide +kernel
theorem br_X8_trades_91 : mx_brk cX8_trades 91 (.ifCond .ge 7) 98 94 = true := by decide +kernel
theorem bk_X8_trades_94 : mx_blk 8 cX8_trades 94 [.inr (.int (-1))] 95 = true := by decide +kernel
theorem gt_X8_trades_95 : mx_jmp cX8_trades 95 113 = true := by decide +kernel
theorem bk_X8_trades_98 : mx_blk 8 cX8_trades 98 [.inl (.iload 2), .inl (.aload 0), .inl (.iload 1)] 101 = true := by decide +kernel
theorem kc_X8_trades_101 : mx_kV dm_X8_trades 101 dm_X8_isFair 8 1 := ⟨106, by decide +kernel, md_X8_isFair, cv_X8_106, by decide, by decide +kernel⟩
theorem br_X8_trades_104 : mx_brk cX8_trades 104 (.ifCond .eq 7) 111 107 = true := by decide +kernel
theorem bk_X8_trades_107 : mx_blk 8 cX8_trades 107 [.inr (.int 1)] 108 = true := by decide +kernel
theorem gt_X8_trades_108 : mx_jmp cX8_trades 108 112 = true := by decide +kernel
theorem bk_X8_trades_111 : mx_blk 8 cX8_trades 111 [.inr (.int 0)] 112 = true := by decide +kernel
theorem bk_X8_trades_112 : mx_blk 8 cX8_trades 112 [.inl .iadd] 113 = true := by decide +kernel
theorem bk_X8_trades_113 : mx_blk 8 cX8_trades 113 [.inl .iastore, .inl (.iinc 1 1)] 117 = true := by decide +kernel
theorem gt_X8_trades_117 : mx_jmp cX8_trades 117 2 = true := by decide +kernel
theorem bk_X8_trades_120 : mx_blk 8 cX8_trades 120 [.inr (.int 0), .inl (.istore 1)] 122 = true := by decide +kernel
theorem bk_X8_trades_122 : mx_blk 8 cX8_trades 122 [.inl (.iload 1), .inl (.aload 0), .inl (.getfield 512), .inr (.int 1), .inl .iaload] 129 = true := by decide +kernel
theorem br_X8_trades_129 : mx_brk cX8_trades 129 (.if_icmp .ge 21) 150 132 = true := by decide +kernel
theorem bk_X8_trades_132 : mx_blk 8 cX8_trades 132 [.inl (.aload 0), .inl (.getfield 517), .inl (.iload 1), .inl (.aload 0), .inl (.getfield 518), .inl (.iload 1), .inl .iaload, .inl .iastore, .inl (.iinc 1 1)] 147 = true := by decide +kernel
theorem gt_X8_trades_147 : mx_jmp cX8_trades 147 122 = true := by decide +kernel
theorem rt_X8_trades_150 : mx_kv dm_X8_trades 150 := ⟨by decide +kernel, rfl⟩
theorem bk_X8_trader_0 : mx_blk 8 cX8_trader 0 [.inl (.aload 0), .inl (.iload 1)] 2 = true := by decide +kernel
theorem kc_X8_trader_2 : mx_kV dm_X8_trader 2 dm_X8_isDistrict 8 1 := ⟨98, by decide +kernel, md_X8_isDistrict, cv_X8_98, by decide, by decide +kernel⟩
theorem br_X8_trader_5 : mx_brk cX8_trader 5 (.ifCond .eq 13) 18 8 = true := by decide +kernel
theorem bk_X8_trader_8 : mx_blk 8 cX8_trader 8 [.inl (.iload 2), .inr (.int 0), .inr (.int 100)] 12 = true := by decide +kernel
theorem kc_X8_trader_12 : mx_kS dm_X8_trader 12 dm_X8_in 3 := ⟨81, by decide +kernel, md_X8_in, cs_X8_81⟩
theorem br_X8_trader_15 : mx_brk cX8_trader 15 (.ifCond .ne 6) 21 18 = true := by decide +kernel
theorem bk_X8_trader_18 : mx_blk 8 cX8_trader 18 [.inr (.int (-1000000001))] 20 = true := by decide +kernel
theorem rt_X8_trader_20 : mx_kr dm_X8_trader 20 .int := ⟨by decide +kernel, rfl⟩
theorem bk_X8_trader_21 : mx_blk 8 cX8_trader 21 [.inl (.aload 0)] 22 = true := by decide +kernel
theorem kc_X8_trader_22 : mx_kV dm_X8_trader 22 dm_X8_thinks 8 0 := ⟨154, by decide +kernel, md_X8_thinks, cv_X8_154, by decide, by decide +kernel⟩
theorem bk_X8_trader_25 : mx_blk 8 cX8_trader 25 [.inr (.int 0), .inl (.istore 3)] 27 = true := by decide +kernel
theorem bk_X8_trader_27 : mx_blk 8 cX8_trader 27 [.inl (.iload 3), .inr (.int 6)] 30 = true := by decide +kernel
theorem br_X8_trader_30 : mx_brk cX8_trader 30 (.if_icmp .ge 37) 67 33 = true := by decide +kernel
theorem bk_X8_trader_33 : mx_blk 8 cX8_trader 33 [.inl (.aload 0), .inl (.getfield 517), .inl (.iload 3), .inl (.iload 3), .inl (.iload 1)] 40 = true := by decide +kernel
theorem br_X8_trader_40 : mx_brk cX8_trader 40 (.if_icmp .ne 19) 59 43 = true := by decide +kernel
theorem bk_X8_trader_43 : mx_blk 8 cX8_trader 43 [.inl (.aload 0), .inl (.iload 3)] 45 = true := by decide +kernel
theorem kc_X8_trader_45 : mx_kV dm_X8_trader 45 dm_X8_isFair 8 1 := ⟨106, by decide +kernel, md_X8_isFair, cv_X8_106, by decide, by decide +kernel⟩
theorem br_X8_trader_48 : mx_brk cX8_trader 48 (.ifCond .eq 7) 55 51 = true := by decide +kernel
theorem bk_X8_trader_51 : mx_blk 8 cX8_trader 51 [.inr (.int 1)] 52 = true := by decide +kernel
theorem gt_X8_trader_52 : mx_jmp cX8_trader 52 60 = true := by decide +kernel
theorem bk_X8_trader_55 : mx_blk 8 cX8_trader 55 [.inr (.int 0)] 56 = true := by decide +kernel
theorem gt_X8_trader_56 : mx_jmp cX8_trader 56 60 = true := by decide +kernel
theorem bk_X8_trader_59 : mx_blk 8 cX8_trader 59 [.inr (.int (-1))] 60 = true := by decide +kernel
theorem bk_X8_trader_60 : mx_blk 8 cX8_trader 60 [.inl .iastore, .inl (.iinc 3 1)] 64 = true := by decide +kernel
theorem gt_X8_trader_64 : mx_jmp cX8_trader 64 27 = true := by decide +kernel
theorem bk_X8_trader_67 : mx_blk 8 cX8_trader 67 [.inr (.int 0), .inl (.istore 3)] 69 = true := by decide +kernel
theorem bk_X8_trader_69 : mx_blk 8 cX8_trader 69 [.inl (.iload 3), .inl (.iload 2)] 71 = true := by decide +kernel
theorem br_X8_trader_71 : mx_brk cX8_trader 71 (.if_icmp .ge 19) 90 74 = true := by decide +kernel
theorem bk_X8_trader_74 : mx_blk 8 cX8_trader 74 [.inl (.aload 0)] 75 = true := by decide +kernel
theorem kc_X8_trader_75 : mx_kV dm_X8_trader 75 dm_X8_day 8 0 := ⟨148, by decide +kernel, md_X8_day, cv_X8_148, by decide, by decide +kernel⟩
theorem bk_X8_trader_78 : mx_blk 8 cX8_trader 78 [.inl (.istore 4), .inl (.aload 0)] 81 = true := by decide +kernel
theorem kc_X8_trader_81 : mx_kV dm_X8_trader 81 dm_X8_trades 8 0 := ⟨161, by decide +kernel, md_X8_trades, cv_X8_161, by decide, by decide +kernel⟩
theorem bk_X8_trader_84 : mx_blk 8 cX8_trader 84 [.inl (.iinc 3 1)] 87 = true := by decide +kernel
theorem gt_X8_trader_87 : mx_jmp cX8_trader 87 69 = true := by decide +kernel
theorem bk_X8_trader_90 : mx_blk 8 cX8_trader 90 [.inl (.aload 0)] 91 = true := by decide +kernel
theorem kc_X8_trader_91 : mx_kV dm_X8_trader 91 dm_X8_putsBack 8 0 := ⟨157, by decide +kernel, md_X8_putsBack, cv_X8_157, by decide, by decide +kernel⟩
theorem bk_X8_trader_94 : mx_blk 8 cX8_trader 94 [.inr (.int 0), .inl (.istore 3), .inr (.int 0), .inl (.istore 4)] 99 = true := by decide +kernel
theorem bk_X8_trader_99 : mx_blk 8 cX8_trader 99 [.inl (.iload 4), .inl (.aload 0), .inl (.getfield 512), .inr (.int 1), .inl .iaload] 107 = true := by decide +kernel
theorem br_X8_trader_107 : mx_brk cX8_trader 107 (.if_icmp .ge 32) 139 110 = true := by decide +kernel
theorem bk_X8_trader_110 : mx_blk 8 cX8_trader 110 [.inl (.aload 0), .inl (.getfield 517), .inl (.iload 4), .inl .iaload, .inl (.iload 3)] 118 = true := by decide +kernel
theorem br_X8_trader_118 : mx_brk cX8_trader 118 (.if_icmp .le 13) 131 121 = true := by decide +kernel
theorem bk_X8_trader_121 : mx_blk 8 cX8_trader 121 [.inl (.aload 0), .inl (.getfield 517), .inl (.iload 4), .inl .iaload] 128 = true := by decide +kernel
theorem gt_X8_trader_128 : mx_jmp cX8_trader 128 132 = true := by decide +kernel
theorem bk_X8_trader_131 : mx_blk 8 cX8_trader 131 [.inl (.iload 3)] 132 = true := by decide +kernel
theorem bk_X8_trader_132 : mx_blk 8 cX8_trader 132 [.inl (.istore 3), .inl (.iinc 4 1)] 136 = true := by decide +kernel
theorem gt_X8_trader_136 : mx_jmp cX8_trader 136 99 = true := by decide +kernel
theorem bk_X8_trader_139 : mx_blk 8 cX8_trader 139 [.inl (.iload 3)] 140 = true := by decide +kernel
theorem rt_X8_trader_140 : mx_kr dm_X8_trader 140 .int := ⟨by decide +kernel, rfl⟩
theorem bk_X8_richest_0 : mx_blk 8 cX8_richest 0 [.inl (.iload 1), .inr (.int 0), .inr (.int 300)] 5 = true := by decide +kernel
theorem kc_X8_richest_5 : mx_kS dm_X8_richest 5 dm_X8_in 3 := ⟨81, by decide +kernel, md_X8_in, cs_X8_81⟩
theorem br_X8_richest_8 : mx_brk cX8_richest 8 (.ifCond .ne 6) 14 11 = true := by decide +kernel
theorem bk_X8_richest_11 : mx_blk 8 cX8_richest 11 [.inr (.int (-1000000001))] 13 = true := by decide +kernel
theorem rt_X8_richest_13 : mx_kr dm_X8_richest 13 .int := ⟨by decide +kernel, rfl⟩
theorem bk_X8_richest_14 : mx_blk 8 cX8_richest 14 [.inl (.aload 0)] 15 = true := by decide +kernel
theorem kc_X8_richest_15 : mx_kV dm_X8_richest 15 dm_X8_thinks 8 0 := ⟨154, by decide +kernel, md_X8_thinks, cv_X8_154, by decide, by decide +kernel⟩
theorem bk_X8_richest_18 : mx_blk 8 cX8_richest 18 [.inl (.aload 0), .inl (.iload 1)] 20 = true := by decide +kernel
theorem kc_X8_richest_20 : mx_kV dm_X8_richest 20 dm_X8_goesOn 8 1 := ⟨151, by decide +kernel, md_X8_goesOn, cv_X8_151, by decide, by decide +kernel⟩
theorem bk_X8_richest_23 : mx_blk 8 cX8_richest 23 [.inl (.istore 2), .inr (.int (-1000000005)), .inl (.istore 3), .inr (.int 0), .inl (.istore 4)] 30 = true := by decide +kernel
theorem bk_X8_richest_30 : mx_blk 8 cX8_richest 30 [.inl (.iload 4), .inl (.aload 0), .inl (.getfield 512), .inr (.int 1), .inl .iaload] 38 = true := by decide +kernel
theorem br_X8_richest_38 : mx_brk cX8_richest 38 (.if_icmp .ge 40) 78 41 = true := by decide +kernel
theorem bk_X8_richest_41 : mx_blk 8 cX8_richest 41 [.inl (.iload 3), .inr (.int (-1000000005))] 44 = true := by decide +kernel
theorem br_X8_richest_44 : mx_brk cX8_richest 44 (.if_icmp .eq 21) 65 47 = true := by decide +kernel
theorem bk_X8_richest_47 : mx_blk 8 cX8_richest 47 [.inl (.aload 0), .inl (.iload 4), .inr (.int 7)] 52 = true := by decide +kernel
theorem kc_X8_richest_52 : mx_kV dm_X8_richest 52 dm_X8_of 8 2 := ⟨95, by decide +kernel, md_X8_of, cv_X8_95, by decide, by decide +kernel⟩
theorem bk_X8_richest_55 : mx_blk 8 cX8_richest 55 [.inl (.aload 0), .inl (.iload 3), .inr (.int 7)] 59 = true := by decide +kernel
theorem kc_X8_richest_59 : mx_kV dm_X8_richest 59 dm_X8_of 8 2 := ⟨95, by decide +kernel, md_X8_of, cv_X8_95, by decide, by decide +kernel⟩
theorem br_X8_richest_62 : mx_brk cX8_richest 62 (.if_icmp .le 8) 70 65 = true := by decide +kernel
theorem bk_X8_richest_65 : mx_blk 8 cX8_richest 65 [.inl (.iload 4)] 67 = true := by decide +kernel
theorem gt_X8_richest_67 : mx_jmp cX8_richest 67 71 = true := by decide +kernel
theorem bk_X8_richest_70 : mx_blk 8 cX8_richest 70 [.inl (.iload 3)] 71 = true := by decide +kernel
theorem bk_X8_richest_71 : mx_blk 8 cX8_richest 71 [.inl (.istore 3), .inl (.iinc 4 1)] 75 = true := by decide +kernel
theorem gt_X8_richest_75 : mx_jmp cX8_richest 75 30 = true := by decide +kernel
theorem bk_X8_richest_78 : mx_blk 8 cX8_richest 78 [.inl (.aload 0)] 79 = true := by decide +kernel
theorem kc_X8_richest_79 : mx_kV dm_X8_richest 79 dm_X8_putsBack 8 0 := ⟨157, by decide +kernel, md_X8_putsBack, cv_X8_157, by decide, by decide +kernel⟩
theorem bk_X8_richest_82 : mx_blk 8 cX8_richest 82 [.inl (.iload 3)] 83 = true := by decide +kernel
theorem rt_X8_richest_83 : mx_kr dm_X8_richest 83 .int := ⟨by decide +kernel, rfl⟩
theorem bk_X8_brings_0 : mx_blk 8 cX8_brings 0 [.inl (.aload 0), .inl (.iload 1)] 2 = true := by decide +kernel
theorem kc_X8_brings_2 : mx_kV dm_X8_brings 2 dm_X8_isDistrict 8 1 := ⟨98, by decide +kernel, md_X8_isDistrict, cv_X8_98, by decide, by decide +kernel⟩
theorem br_X8_brings_5 : mx_brk cX8_brings 5 (.ifCond .eq 14) 19 8 = true := by decide +kernel
theorem bk_X8_brings_8 : mx_blk 8 cX8_brings 8 [.inl (.iload 2), .inr (.int 0), .inr (.int 300)] 13 = true := by decide +kernel
theorem kc_X8_brings_13 : mx_kS dm_X8_brings 13 dm_X8_in 3 := ⟨81, by decide +kernel, md_X8_in, cs_X8_81⟩
theorem br_X8_brings_16 : mx_brk cX8_brings 16 (.ifCond .ne 6) 22 19 = true := by decide +kernel
theorem bk_X8_brings_19 : mx_blk 8 cX8_brings 19 [.inr (.int (-1000000001))] 21 = true := by decide +kernel
theorem rt_X8_brings_21 : mx_kr dm_X8_brings 21 .int := ⟨by decide +kernel, rfl⟩
theorem bk_X8_brings_22 : mx_blk 8 cX8_brings 22 [.inl (.aload 0), .inl (.iload 1), .inr (.int 5)] 25 = true := by decide +kernel
theorem kc_X8_brings_25 : mx_kV dm_X8_brings 25 dm_X8_of 8 2 := ⟨95, by decide +kernel, md_X8_of, cv_X8_95, by decide, by decide +kernel⟩
theorem br_X8_brings_28 : mx_brk cX8_brings 28 (.ifCond .ne 6) 34 31 = true := by decide +kernel
theorem bk_X8_brings_31 : mx_blk 8 cX8_brings 31 [.inr (.int (-1000000002))] 33 = true := by decide +kernel
theorem rt_X8_brings_33 : mx_kr dm_X8_brings 33 .int := ⟨by decide +kernel, rfl⟩
theorem bk_X8_brings_34 : mx_blk 8 cX8_brings 34 [.inl (.aload 0)] 35 = true := by decide +kernel
theorem kc_X8_brings_35 : mx_kV dm_X8_brings 35 dm_X8_thinks 8 0 := ⟨154, by decide +kernel, md_X8_thinks, cv_X8_154, by decide, by decide +kernel⟩
theorem bk_X8_brings_38 : mx_blk 8 cX8_brings 38 [.inl (.aload 0), .inl (.iload 2)] 40 = true := by decide +kernel
theorem kc_X8_brings_40 : mx_kV dm_X8_brings 40 dm_X8_goesOn 8 1 := ⟨151, by decide +kernel, md_X8_goesOn, cv_X8_151, by decide, by decide +kernel⟩
theorem bk_X8_brings_43 : mx_blk 8 cX8_brings 43 [.inl (.istore 3), .inl (.aload 0), .inl (.iload 1), .inr (.int 7)] 48 = true := by decide +kernel
theorem kc_X8_brings_48 : mx_kV dm_X8_brings 48 dm_X8_of 8 2 := ⟨95, by decide +kernel, md_X8_of, cv_X8_95, by decide, by decide +kernel⟩
theorem bk_X8_brings_51 : mx_blk 8 cX8_brings 51 [.inl (.istore 4), .inl (.aload 0)] 54 = true := by decide +kernel
theorem kc_X8_brings_54 : mx_kV dm_X8_brings 54 dm_X8_putsBack 8 0 := ⟨157, by decide +kernel, md_X8_putsBack, cv_X8_157, by decide, by decide +kernel⟩
theorem bk_X8_brings_57 : mx_blk 8 cX8_brings 57 [.inl (.aload 0), .inl (.iload 1)] 59 = true := by decide +kernel
theorem kc_X8_brings_59 : mx_kV dm_X8_brings 59 dm_X8_hides 8 1 := ⟨133, by decide +kernel, md_X8_hides, cv_X8_133, by decide, by decide +kernel⟩
theorem bk_X8_brings_62 : mx_blk 8 cX8_brings 62 [.inl (.aload 0), .inl (.iload 2)] 64 = true := by decide +kernel
theorem kc_X8_brings_64 : mx_kV dm_X8_brings 64 dm_X8_goesOn 8 1 := ⟨151, by decide +kernel, md_X8_goesOn, cv_X8_151, by decide, by decide +kernel⟩
theorem bk_X8_brings_67 : mx_blk 8 cX8_brings 67 [.inl (.istore 3), .inl (.aload 0), .inl (.iload 1), .inr (.int 7)] 72 = true := by decide +kernel
theorem kc_X8_brings_72 : mx_kV dm_X8_brings 72 dm_X8_of 8 2 := ⟨95, by decide +kernel, md_X8_of, cv_X8_95, by decide, by decide +kernel⟩
theorem bk_X8_brings_75 : mx_blk 8 cX8_brings 75 [.inl (.istore 5), .inl (.aload 0)] 78 = true := by decide +kernel
theorem kc_X8_brings_78 : mx_kV dm_X8_brings 78 dm_X8_putsBack 8 0 := ⟨157, by decide +kernel, md_X8_putsBack, cv_X8_157, by decide, by decide +kernel⟩
theorem bk_X8_brings_81 : mx_blk 8 cX8_brings 81 [.inl (.iload 5), .inl (.iload 4), .inl .isub] 86 = true := by decide +kernel
theorem rt_X8_brings_86 : mx_kr dm_X8_brings 86 .int := ⟨by decide +kernel, rfl⟩
theorem bk_X8_offBy_0 : mx_blk 8 cX8_offBy 0 [.inl (.aload 0), .inl (.iload 2), .inr (.int 1), .inl (.iload 3)] 4 = true := by decide +kernel
theorem kc_X8_offBy_4 : mx_kV dm_X8_offBy 4 dm_X8_put 8 3 := ⟨85, by decide +kernel, md_X8_put, cv_X8_85, by decide, by decide +kernel⟩
theorem bk_X8_offBy_7 : mx_blk 8 cX8_offBy 7 [.inl (.aload 0), .inl (.iload 2), .inr (.int 2)] 10 = true := by decide +kernel
theorem kc_X8_offBy_10 : mx_kV dm_X8_offBy 10 dm_X8_of 8 2 := ⟨95, by decide +kernel, md_X8_of, cv_X8_95, by decide, by decide +kernel⟩
theorem bk_X8_offBy_13 : mx_blk 8 cX8_offBy 13 [.inl (.istore 4), .inr (.long 0), .inl (.lstore 5), .inr (.int 0), .inl (.istore 7)] 21 = true := by decide +kernel
theorem bk_X8_offBy_21 : mx_blk 8 cX8_offBy 21 [.inl (.iload 7), .inr (.int 6)] 25 = true := by decide +kernel
theorem br_X8_offBy_25 : mx_brk cX8_offBy 25 (.if_icmp .ge 101) 126 28 = true := by decide +kernel
theorem bk_X8_offBy_28 : mx_blk 8 cX8_offBy 28 [.inl (.iload 7), .inl (.aload 0), .inl (.getfield 538), .inl (.iload 1), .inl .iaload] 36 = true := by decide +kernel
theorem br_X8_offBy_36 : mx_brk cX8_offBy 36 (.if_icmp .ge 90) 126 39 = true := by decide +kernel
theorem bk_X8_offBy_39 : mx_blk 8 cX8_offBy 39 [.inl (.aload 0), .inl (.iload 2), .inr (.int 2)] 42 = true := by decide +kernel
theorem kc_X8_offBy_42 : mx_kV dm_X8_offBy 42 dm_X8_of 8 2 := ⟨95, by decide +kernel, md_X8_of, cv_X8_95, by decide, by decide +kernel⟩
theorem bk_X8_offBy_45 : mx_blk 8 cX8_offBy 45 [.inl (.iload 4), .inl .isub, .inl (.iload 7)] 50 = true := by decide +kernel
theorem br_X8_offBy_50 : mx_brk cX8_offBy 50 (.if_icmp .ge 12) 62 53 = true := by decide +kernel
theorem bk_X8_offBy_53 : mx_blk 8 cX8_offBy 53 [.inl (.aload 0)] 54 = true := by decide +kernel
theorem kc_X8_offBy_54 : mx_kV dm_X8_offBy 54 dm_X8_day 8 0 := ⟨148, by decide +kernel, md_X8_day, cv_X8_148, by decide, by decide +kernel⟩
theorem bk_X8_offBy_57 : mx_blk 8 cX8_offBy 57 [.inl (.istore 8)] 59 = true := by decide +kernel
theorem gt_X8_offBy_59 : mx_jmp cX8_offBy 59 39 = true := by decide +kernel
theorem bk_X8_offBy_62 : mx_blk 8 cX8_offBy 62 [.inl (.aload 0), .inl (.getfield 539), .inr (.int 24), .inl (.iload 1), .inl .imul, .inl (.iload 7), .inl .iadd, .inl .iaload, .inl (.istore 8), .inl (.iload 8), .inl .i2l, .inl (.aload 0), .inl (.iload 2), .inr (.int 3)] 82 = true := by decide +kernel
theorem kc_X8_offBy_82 : mx_kV dm_X8_offBy 82 dm_X8_of 8 2 := ⟨95, by decide +kernel, md_X8_of, cv_X8_95, by decide, by decide +kernel⟩
theorem bk_X8_offBy_85 : mx_blk 8 cX8_offBy 85 [.inl .i2l, .inl .lsub, .inl (.lstore 9), .inl (.lload 5), .inl (.iload 8), .inr (.int (-1000000005))] 95 = true := by decide +kernel
theorem br_X8_offBy_95 : mx_brk cX8_offBy 95 (.if_icmp .ne 7) 102 98 = true := by decide +kernel
theorem bk_X8_offBy_98 : mx_blk 8 cX8_offBy 98 [.inr (.long 0)] 99 = true := by decide +kernel
theorem gt_X8_offBy_99 : mx_jmp cX8_offBy 99 117 = true := by decide +kernel
theorem bk_X8_offBy_102 : mx_blk 8 cX8_offBy 102 [.inl (.lload 9), .inr (.long 0), .inl .lcmp] 106 = true := by decide +kernel
theorem br_X8_offBy_106 : mx_brk cX8_offBy 106 (.ifCond .ge 9) 115 109 = true := by decide +kernel
theorem bk_X8_offBy_109 : mx_blk 8 cX8_offBy 109 [.inl (.lload 9), .inl .lneg] 112 = true := by decide +kernel
theorem gt_X8_offBy_112 : mx_jmp cX8_offBy 112 117 = true := by decide +kernel
theorem bk_X8_offBy_115 : mx_blk 8 cX8_offBy 115 [.inl (.lload 9)] 117 = true := by decide +kernel
theorem bk_X8_offBy_117 : mx_blk 8 cX8_offBy 117 [.inl .ladd, .inl (.lstore 5), .inl (.iinc 7 1)] 123 = true := by decide +kernel
theorem gt_X8_offBy_123 : mx_jmp cX8_offBy 123 21 = true := by decide +kernel
theorem bk_X8_offBy_126 : mx_blk 8 cX8_offBy 126 [.inl (.aload 0)] 127 = true := by decide +kernel
theorem kc_X8_offBy_127 : mx_kV dm_X8_offBy 127 dm_X8_putsBack 8 0 := ⟨157, by decide +kernel, md_X8_putsBack, cv_X8_157, by decide, by decide +kernel⟩
theorem bk_X8_offBy_130 : mx_blk 8 cX8_offBy 130 [.inl (.lload 5)] 132 = true := by decide +kernel
theorem rt_X8_offBy_132 : mx_kl dm_X8_offBy 132 := ⟨by decide +kernel, rfl⟩
theorem bk_X8_rated_0 : mx_blk 8 cX8_rated 0 [.inl (.iload 1)] 1 = true := by decide +kernel
theorem kc_X8_rated_1 : mx_kS dm_X8_rated 1 dm_X8_isSheet 1 := ⟨164, by decide +kernel, md_X8_isSheet, cs_X8_164⟩
theorem br_X8_rated_4 : mx_brk cX8_rated 4 (.ifCond .eq 20) 24 7 = true := by decide +kernel
theorem bk_X8_rated_7 : mx_blk 8 cX8_rated 7 [.inl (.aload 0), .inl (.iload 2)] 9 = true := by decide +kernel
theorem kc_X8_rated_9 : mx_kV dm_X8_rated 9 dm_X8_isDistrict 8 1 := ⟨98, by decide +kernel, md_X8_isDistrict, cv_X8_98, by decide, by decide +kernel⟩
theorem br_X8_rated_12 : mx_brk cX8_rated 12 (.ifCond .eq 12) 24 15 = true := by decide +kernel
theorem bk_X8_rated_15 : mx_blk 8 cX8_rated 15 [.inl (.iload 3), .inr (.int 0), .inr (.int 1)] 18 = true := by decide +kernel
theorem kc_X8_rated_18 : mx_kS dm_X8_rated 18 dm_X8_in 3 := ⟨81, by decide +kernel, md_X8_in, cs_X8_81⟩
theorem br_X8_rated_21 : mx_brk cX8_rated 21 (.ifCond .ne 6) 27 24 = true := by decide +kernel
theorem bk_X8_rated_24 : mx_blk 8 cX8_rated 24 [.inr (.int (-1000000001))] 26 = true := by decide +kernel
theorem rt_X8_rated_26 : mx_kr dm_X8_rated 26 .int := ⟨by decide +kernel, rfl⟩
theorem bk_X8_rated_27 : mx_blk 8 cX8_rated 27 [.inl (.aload 0), .inl (.getfield 537), .inl (.iload 1), .inl .iaload] 33 = true := by decide +kernel
theorem br_X8_rated_33 : mx_brk cX8_rated 33 (.ifCond .ge 6) 39 36 = true := by decide +kernel
theorem bk_X8_rated_36 : mx_blk 8 cX8_rated 36 [.inr (.int (-1000000011))] 38 = true := by decide +kernel
theorem rt_X8_rated_38 : mx_kr dm_X8_rated 38 .int := ⟨by decide +kernel, rfl⟩
theorem bk_X8_rated_39 : mx_blk 8 cX8_rated 39 [.inl (.aload 0)] 40 = true := by decide +kernel
theorem kc_X8_rated_40 : mx_kV dm_X8_rated 40 dm_X8_thinks 8 0 := ⟨154, by decide +kernel, md_X8_thinks, cv_X8_154, by decide, by decide +kernel⟩
theorem bk_X8_rated_43 : mx_blk 8 cX8_rated 43 [.inr (.int 0), .inl (.istore 4), .inl (.aload 0), .inl (.iload 1), .inl (.iload 2), .inr (.int 0)] 50 = true := by decide +kernel
theorem kc_X8_rated_50 : mx_kV dm_X8_rated 50 dm_X8_offBy 8 3 := ⟨168, by decide +kernel, md_X8_offBy, cv_X8_168, by decide, by decide +kernel⟩
theorem bk_X8_rated_53 : mx_blk 8 cX8_rated 53 [.inl (.lstore 5), .inr (.int 1), .inl (.istore 7)] 58 = true := by decide +kernel
theorem bk_X8_rated_58 : mx_blk 8 cX8_rated 58 [.inl (.iload 7), .inr (.int 10)] 62 = true := by decide +kernel
theorem br_X8_rated_62 : mx_brk cX8_rated 62 (.if_icmp .ge 53) 115 65 = true := by decide +kernel
theorem bk_X8_rated_65 : mx_blk 8 cX8_rated 65 [.inl (.aload 0), .inl (.iload 1), .inl (.iload 2), .inl (.iload 7)] 70 = true := by decide +kernel
theorem kc_X8_rated_70 : mx_kV dm_X8_rated 70 dm_X8_offBy 8 3 := ⟨168, by decide +kernel, md_X8_offBy, cv_X8_168, by decide, by decide +kernel⟩
theorem bk_X8_rated_73 : mx_blk 8 cX8_rated 73 [.inl (.lstore 8), .inl (.lload 8), .inl (.lload 5), .inl .lcmp] 80 = true := by decide +kernel
theorem br_X8_rated_80 : mx_brk cX8_rated 80 (.ifCond .ge 8) 88 83 = true := by decide +kernel
theorem bk_X8_rated_83 : mx_blk 8 cX8_rated 83 [.inl (.iload 7)] 85 = true := by decide +kernel
theorem gt_X8_rated_85 : mx_jmp cX8_rated 85 90 = true := by decide +kernel
theorem bk_X8_rated_88 : mx_blk 8 cX8_rated 88 [.inl (.iload 4)] 90 = true := by decide +kernel
theorem bk_X8_rated_90 : mx_blk 8 cX8_rated 90 [.inl (.istore 4), .inl (.lload 8), .inl (.lload 5), .inl .lcmp] 97 = true := by decide +kernel
theorem br_X8_rated_97 : mx_brk cX8_rated 97 (.ifCond .ge 8) 105 100 = true := by decide +kernel
theorem bk_X8_rated_100 : mx_blk 8 cX8_rated 100 [.inl (.lload 8)] 102 = true := by decide +kernel
theorem gt_X8_rated_102 : mx_jmp cX8_rated 102 107 = true := by decide +kernel
theorem bk_X8_rated_105 : mx_blk 8 cX8_rated 105 [.inl (.lload 5)] 107 = true := by decide +kernel
theorem bk_X8_rated_107 : mx_blk 8 cX8_rated 107 [.inl (.lstore 5), .inl (.iinc 7 1)] 112 = true := by decide +kernel
theorem gt_X8_rated_112 : mx_jmp cX8_rated 112 58 = true := by decide +kernel
theorem bk_X8_rated_115 : mx_blk 8 cX8_rated 115 [.inl (.iload 3)] 116 = true := by decide +kernel
theorem br_X8_rated_116 : mx_brk cX8_rated 116 (.ifCond .ne 8) 124 119 = true := by decide +kernel
theorem bk_X8_rated_119 : mx_blk 8 cX8_rated 119 [.inl (.iload 4)] 121 = true := by decide +kernel
theorem gt_X8_rated_121 : mx_jmp cX8_rated 121 127 = true := by decide +kernel
theorem bk_X8_rated_124 : mx_blk 8 cX8_rated 124 [.inl (.lload 5), .inl .l2i] 127 = true := by decide +kernel
theorem rt_X8_rated_127 : mx_kr dm_X8_rated 127 .int := ⟨by decide +kernel, rfl⟩
theorem bk_X8_sumOf_0 : mx_blk 8 cX8_sumOf 0 [.inr (.int 0), .inl (.istore 2), .inr (.int 0), .inl (.istore 3)] 4 = true := by decide +kernel
theorem bk_X8_sumOf_4 : mx_blk 8 cX8_sumOf 4 [.inl (.iload 3), .inl (.aload 0), .inl (.getfield 512), .inr (.int 1), .inl .iaload] 11 = true := by decide +kernel
theorem br_X8_sumOf_11 : mx_brk cX8_sumOf 11 (.if_icmp .ge 18) 29 14 = true := by decide +kernel
theorem bk_X8_sumOf_14 : mx_blk 8 cX8_sumOf 14 [.inl (.iload 2), .inl (.aload 0), .inl (.iload 3), .inl (.iload 1)] 18 = true := by decide +kernel
theorem kc_X8_sumOf_18 : mx_kV dm_X8_sumOf 18 dm_X8_of 8 2 := ⟨95, by decide +kernel, md_X8_of, cv_X8_95, by decide, by decide +kernel⟩
theorem bk_X8_sumOf_21 : mx_blk 8 cX8_sumOf 21 [.inl .iadd, .inl (.istore 2), .inl (.iinc 3 1)] 26 = true := by decide +kernel
theorem gt_X8_sumOf_26 : mx_jmp cX8_sumOf 26 4 = true := by decide +kernel
theorem bk_X8_sumOf_29 : mx_blk 8 cX8_sumOf 29 [.inl (.iload 2)] 30 = true := by decide +kernel
theorem rt_X8_sumOf_30 : mx_kr dm_X8_sumOf 30 .int := ⟨by decide +kernel, rfl⟩
theorem bk_X8_fine_0 : mx_blk 8 cX8_fine 0 [.inl (.aload 0), .inr (.int 2)] 2 = true := by decide +kernel
theorem kc_X8_fine_2 : mx_kV dm_X8_fine 2 dm_X8_counts 8 1 := ⟨109, by decide +kernel, md_X8_counts, cv_X8_109, by decide, by decide +kernel⟩
theorem bk_X8_fine_5 : mx_blk 8 cX8_fine 5 [.inl (.istore 1), .inl (.aload 0), .inl (.getfield 536), .inr (.int 0), .inl (.aload 0), .inl (.getfield 512), .inr (.int 2), .inl .iaload, .inl .iastore, .inl (.aload 0), .inl (.getfield 536), .inr (.int 1), .inl (.aload 0), .inr (.int 5)] 25 = true := by decide +kernel
theorem kc_X8_fine_25 : mx_kV dm_X8_fine 25 dm_X8_sumOf 8 1 := ⟨172, by decide +kernel, md_X8_sumOf, cv_X8_172, by decide, by decide +kernel⟩
theorem bk_X8_fine_28 : mx_blk 8 cX8_fine 28 [.inl .iastore, .inl (.iload 1)] 30 = true := by decide +kernel
theorem br_X8_fine_30 : mx_brk cX8_fine 30 (.ifCond .ge 7) 37 33 = true := by decide +kernel
theorem bk_X8_fine_33 : mx_blk 8 cX8_fine 33 [.inr (.int 0)] 34 = true := by decide +kernel
theorem gt_X8_fine_34 : mx_jmp cX8_fine 34 42 = true := by decide +kernel
theorem bk_X8_fine_37 : mx_blk 8 cX8_fine 37 [.inl (.aload 0), .inl (.iload 1)] 39 = true := by decide +kernel
theorem kc_X8_fine_39 : mx_kV dm_X8_fine 39 dm_X8_worksOut 8 1 := ⟨112, by decide +kernel, md_X8_worksOut, cv_X8_112, by decide, by decide +kernel⟩
theorem rt_X8_fine_42 : mx_kr dm_X8_fine 42 .int := ⟨by decide +kernel, rfl⟩
theorem bk_X8_feed_0 : mx_blk 8 cX8_feed 0 [.inl (.aload 0), .inl (.getfield 520), .inr (.int 12), .inl .iadd, .inr (.int 96)] 9 = true := by decide +kernel
theorem br_X8_feed_9 : mx_brk cX8_feed 9 (.if_icmp .le 6) 15 12 = true := by decide +kernel
theorem bk_X8_feed_12 : mx_blk 8 cX8_feed 12 [.inr (.int (-1000000003))] 14 = true := by decide +kernel
theorem rt_X8_feed_14 : mx_kr dm_X8_feed 14 .int := ⟨by decide +kernel, rfl⟩
theorem bk_X8_feed_15 : mx_blk 8 cX8_feed 15 [.inr (.int 0), .inl (.istore 4)] 18 = true := by decide +kernel
theorem bk_X8_feed_18 : mx_blk 8 cX8_feed 18 [.inl (.iload 4), .inr (.int 12)] 22 = true := by decide +kernel
theorem br_X8_feed_22 : mx_brk cX8_feed 22 (.if_icmp .ge 62) 84 25 = true := by decide +kernel
theorem bk_X8_feed_25 : mx_blk 8 cX8_feed 25 [.inl (.iload 4), .inr (.int 4)] 28 = true := by decide +kernel
theorem br_X8_feed_28 : mx_brk cX8_feed 28 (.if_icmp .ge 7) 35 31 = true := by decide +kernel
theorem bk_X8_feed_31 : mx_blk 8 cX8_feed 31 [.inl (.iload 1)] 32 = true := by decide +kernel
theorem gt_X8_feed_32 : mx_jmp cX8_feed 32 47 = true := by decide +kernel
theorem bk_X8_feed_35 : mx_blk 8 cX8_feed 35 [.inl (.iload 4), .inr (.int 8)] 39 = true := by decide +kernel
theorem br_X8_feed_39 : mx_brk cX8_feed 39 (.if_icmp .ge 7) 46 42 = true := by decide +kernel
theorem bk_X8_feed_42 : mx_blk 8 cX8_feed 42 [.inl (.iload 2)] 43 = true := by decide +kernel
theorem gt_X8_feed_43 : mx_jmp cX8_feed 43 47 = true := by decide +kernel
theorem bk_X8_feed_46 : mx_blk 8 cX8_feed 46 [.inl (.iload 3)] 47 = true := by decide +kernel
theorem bk_X8_feed_47 : mx_blk 8 cX8_feed 47 [.inl (.istore 5), .inl (.aload 0), .inl (.getfield 519), .inl (.aload 0), .inl (.getfield 520), .inl (.iload 4), .inl .iadd, .inl (.iload 5), .inr (.int 24), .inr (.int 8), .inl (.iload 4), .inr (.int 4), .inl .irem, .inl .imul, .inl .isub, .inl .ishr, .inr (.int 255), .inl .iand, .inl .iastore, .inl (.iinc 4 1)] 81 = true := by decide +kernel
theorem gt_X8_feed_81 : mx_jmp cX8_feed 81 18 = true := by decide +kernel
theorem bk_X8_feed_84 : mx_blk 8 cX8_feed 84 [.inl (.aload 0), .inl .dup, .inl (.getfield 520), .inr (.int 12), .inl .iadd, .inl (.putfield 520), .inl (.aload 0), .inl (.getfield 520)] 99 = true := by decide +kernel
theorem rt_X8_feed_99 : mx_kr dm_X8_feed 99 .int := ⟨by decide +kernel, rfl⟩
theorem bk_X8_trim_0 : mx_blk 8 cX8_trim 0 [.inl (.iload 1), .inr (.int 0), .inl (.aload 0), .inl (.getfield 520)] 6 = true := by decide +kernel
theorem kc_X8_trim_6 : mx_kS dm_X8_trim 6 dm_X8_in 3 := ⟨81, by decide +kernel, md_X8_in, cs_X8_81⟩
theorem br_X8_trim_9 : mx_brk cX8_trim 9 (.ifCond .ne 6) 15 12 = true := by decide +kernel
theorem bk_X8_trim_12 : mx_blk 8 cX8_trim 12 [.inr (.int (-1000000001))] 14 = true := by decide +kernel
theorem rt_X8_trim_14 : mx_kr dm_X8_trim 14 .int := ⟨by decide +kernel, rfl⟩
theorem bk_X8_trim_15 : mx_blk 8 cX8_trim 15 [.inl (.aload 0), .inl (.iload 1), .inl (.putfield 520), .inl (.iload 1)] 21 = true := by decide +kernel
theorem rt_X8_trim_21 : mx_kr dm_X8_trim 21 .int := ⟨by decide +kernel, rfl⟩
theorem bk_X8_isLetter_0 : mx_blk 8 cX8_isLetter 0 [.inl (.iload 1), .inl (.aload 0), .inl (.getfield 520)] 5 = true := by decide +kernel
theorem br_X8_isLetter_5 : mx_brk cX8_isLetter 5 (.if_icmp .ge 29) 34 8 = true := by decide +kernel
theorem bk_X8_isLetter_8 : mx_blk 8 cX8_isLetter 8 [.inl (.aload 0), .inl (.getfield 519), .inl (.iload 1), .inl .iaload, .inr (.int 97)] 16 = true := by decide +kernel
theorem br_X8_isLetter_16 : mx_brk cX8_isLetter 16 (.if_icmp .lt 18) 34 19 = true := by decide +kernel
theorem bk_X8_isLetter_19 : mx_blk 8 cX8_isLetter 19 [.inl (.aload 0), .inl (.getfield 519), .inl (.iload 1), .inl .iaload, .inr (.int 122)] 27 = true := by decide +kernel
theorem br_X8_isLetter_27 : mx_brk cX8_isLetter 27 (.if_icmp .gt 7) 34 30 = true := by decide +kernel
theorem bk_X8_isLetter_30 : mx_blk 8 cX8_isLetter 30 [.inr (.int 1)] 31 = true := by decide +kernel
theorem gt_X8_isLetter_31 : mx_jmp cX8_isLetter 31 35 = true := by decide +kernel
theorem bk_X8_isLetter_34 : mx_blk 8 cX8_isLetter 34 [.inr (.int 0)] 35 = true := by decide +kernel
theorem rt_X8_isLetter_35 : mx_kr dm_X8_isLetter 35 .boolean := ⟨by decide +kernel, rfl⟩
theorem bk_X8_isFigure_0 : mx_blk 8 cX8_isFigure 0 [.inl (.iload 1), .inl (.aload 0), .inl (.getfield 520)] 5 = true := by decide +kernel
theorem br_X8_isFigure_5 : mx_brk cX8_isFigure 5 (.if_icmp .ge 29) 34 8 = true := by decide +kernel
theorem bk_X8_isFigure_8 : mx_blk 8 cX8_isFigure 8 [.inl (.aload 0), .inl (.getfield 519), .inl (.iload 1), .inl .iaload, .inr (.int 48)] 16 = true := by decide +kernel
theorem br_X8_isFigure_16 : mx_brk cX8_isFigure 16 (.if_icmp .lt 18) 34 19 = true := by decide +kernel
theorem bk_X8_isFigure_19 : mx_blk 8 cX8_isFigure 19 [.inl (.aload 0), .inl (.getfield 519), .inl (.iload 1), .inl .iaload, .inr (.int 57)] 27 = true := by decide +kernel
theorem br_X8_isFigure_27 : mx_brk cX8_isFigure 27 (.if_icmp .gt 7) 34 30 = true := by decide +kernel
theorem bk_X8_isFigure_30 : mx_blk 8 cX8_isFigure 30 [.inr (.int 1)] 31 = true := by decide +kernel
theorem gt_X8_isFigure_31 : mx_jmp cX8_isFigure 31 35 = true := by decide +kernel
theorem bk_X8_isFigure_34 : mx_blk 8 cX8_isFigure 34 [.inr (.int 0)] 35 = true := by decide +kernel
theorem rt_X8_isFigure_35 : mx_kr dm_X8_isFigure 35 .boolean := ⟨by decide +kernel, rfl⟩
theorem bk_X8_go_0 : mx_blk 8 cX8_go 0 [.inl (.aload 0), .inl (.getfield 521), .inl (.aload 0), .inl (.getfield 520)] 8 = true := by decide +kernel
theorem br_X8_go_8 : mx_brk cX8_go 8 (.if_icmp .ge 30) 38 11 = true := by decide +kernel
theorem bk_X8_go_11 : mx_blk 8 cX8_go 11 [.inl (.aload 0), .inl (.getfield 519), .inl (.aload 0), .inl (.getfield 521), .inl .iaload, .inr (.int 32)] 22 = true := by decide +kernel
theorem br_X8_go_22 : mx_brk cX8_go 22 (.if_icmp .ne 16) 38 25 = true := by decide +kernel
theorem bk_X8_go_25 : mx_blk 8 cX8_go 25 [.inl (.aload 0), .inl .dup, .inl (.getfield 521), .inr (.int 1), .inl .iadd, .inl (.putfield 521)] 35 = true := by decide +kernel
theorem gt_X8_go_35 : mx_jmp cX8_go 35 0 = true := by decide +kernel
theorem bk_X8_go_38 : mx_blk 8 cX8_go 38 [.inl (.aload 0), .inl (.aload 0), .inl (.getfield 521), .inl (.putfield 522), .inl (.aload 0), .inl (.getfield 522), .inl (.aload 0), .inl (.getfield 525)] 54 = true := by decide +kernel
theorem br_X8_go_54 : mx_brk cX8_go 54 (.if_icmp .ne 7) 61 57 = true := by decide +kernel
theorem bk_X8_go_57 : mx_blk 8 cX8_go 57 [.inr (.int 1)] 58 = true := by decide +kernel
theorem gt_X8_go_58 : mx_jmp cX8_go 58 62 = true := by decide +kernel
theorem bk_X8_go_61 : mx_blk 8 cX8_go 61 [.inr (.int 0)] 62 = true := by decide +kernel
theorem bk_X8_go_62 : mx_blk 8 cX8_go 62 [.inl (.istore 1), .inl (.aload 0), .inl (.getfield 522), .inl (.aload 0), .inl (.getfield 520)] 71 = true := by decide +kernel
theorem br_X8_go_71 : mx_brk cX8_go 71 (.if_icmp .ne 11) 82 74 = true := by decide +kernel
theorem bk_X8_go_74 : mx_blk 8 cX8_go 74 [.inl (.aload 0), .inr (.int 0), .inl (.putfield 523)] 79 = true := by decide +kernel
theorem gt_X8_go_79 : mx_jmp cX8_go 79 303 = true := by decide +kernel
theorem bk_X8_go_82 : mx_blk 8 cX8_go 82 [.inl (.aload 0), .inl (.aload 0), .inl (.getfield 522)] 87 = true := by decide +kernel
theorem kc_X8_go_87 : mx_kV dm_X8_go 87 dm_X8_isLetter 8 1 := ⟨191, by decide +kernel, md_X8_isLetter, cv_X8_191, by decide, by decide +kernel⟩
theorem br_X8_go_90 : mx_brk cX8_go 90 (.ifCond .eq 64) 154 93 = true := by decide +kernel
theorem bk_X8_go_93 : mx_blk 8 cX8_go 93 [.inl (.aload 0), .inl (.aload 0), .inl (.getfield 521)] 98 = true := by decide +kernel
theorem kc_X8_go_98 : mx_kV dm_X8_go 98 dm_X8_isLetter 8 1 := ⟨191, by decide +kernel, md_X8_isLetter, cv_X8_191, by decide, by decide +kernel⟩
theorem br_X8_go_101 : mx_brk cX8_go 101 (.ifCond .eq 16) 117 104 = true := by decide +kernel
theorem bk_X8_go_104 : mx_blk 8 cX8_go 104 [.inl (.aload 0), .inl .dup, .inl (.getfield 521), .inr (.int 1), .inl .iadd, .inl (.putfield 521)] 114 = true := by decide +kernel
theorem gt_X8_go_114 : mx_jmp cX8_go 114 93 = true := by decide +kernel
theorem bk_X8_go_117 : mx_blk 8 cX8_go 117 [.inl (.aload 0), .inl (.iload 1)] 119 = true := by decide +kernel
theorem br_X8_go_119 : mx_brk cX8_go 119 (.ifCond .eq 7) 126 122 = true := by decide +kernel
theorem bk_X8_go_122 : mx_blk 8 cX8_go 122 [.inr (.int 4)] 123 = true := by decide +kernel
theorem gt_X8_go_123 : mx_jmp cX8_go 123 127 = true := by decide +kernel
theorem bk_X8_go_126 : mx_blk 8 cX8_go 126 [.inr (.int 1)] 127 = true := by decide +kernel
theorem bk_X8_go_127 : mx_blk 8 cX8_go 127 [.inl (.putfield 523), .inl (.aload 0), .inl (.aload 0), .inl (.getfield 519), .inl (.aload 0), .inl (.getfield 522), .inl .iaload, .inl (.putfield 524), .inl (.aload 0), .inl (.aload 0), .inl (.getfield 521), .inl (.putfield 525)] 151 = true := by decide +kernel
theorem gt_X8_go_151 : mx_jmp cX8_go 151 303 = true := by decide +kernel
theorem bk_X8_go_154 : mx_blk 8 cX8_go 154 [.inl (.aload 0), .inl (.aload 0), .inl (.getfield 522)] 159 = true := by decide +kernel
theorem kc_X8_go_159 : mx_kV dm_X8_go 159 dm_X8_isFigure 8 1 := ⟨197, by decide +kernel, md_X8_isFigure, cv_X8_197, by decide, by decide +kernel⟩
theorem br_X8_go_162 : mx_brk cX8_go 162 (.ifCond .eq 113) 275 165 = true := by decide +kernel
theorem bk_X8_go_165 : mx_blk 8 cX8_go 165 [.inl (.aload 0), .inr (.int 0), .inl (.putfield 524)] 170 = true := by decide +kernel
theorem bk_X8_go_170 : mx_blk 8 cX8_go 170 [.inl (.aload 0), .inl (.aload 0), .inl (.getfield 521)] 175 = true := by decide +kernel
theorem kc_X8_go_175 : mx_kV dm_X8_go 175 dm_X8_isFigure 8 1 := ⟨197, by decide +kernel, md_X8_isFigure, cv_X8_197, by decide, by decide +kernel⟩
theorem br_X8_go_178 : mx_brk cX8_go 178 (.ifCond .eq 60) 238 181 = true := by decide +kernel
theorem bk_X8_go_181 : mx_blk 8 cX8_go 181 [.inl (.aload 0), .inl (.aload 0), .inl (.getfield 521), .inl (.aload 0), .inl (.getfield 522), .inl .isub, .inr (.int 4)] 192 = true := by decide +kernel
theorem br_X8_go_192 : mx_brk cX8_go 192 (.if_icmp .ge 26) 218 195 = true := by decide +kernel
theorem bk_X8_go_195 : mx_blk 8 cX8_go 195 [.inr (.int 10), .inl (.aload 0), .inl (.getfield 524), .inl .imul, .inl (.aload 0), .inl (.getfield 519), .inl (.aload 0), .inl (.getfield 521), .inl .iaload, .inl .iadd, .inr (.int 48), .inl .isub] 215 = true := by decide +kernel
theorem gt_X8_go_215 : mx_jmp cX8_go 215 222 = true := by decide +kernel
theorem bk_X8_go_218 : mx_blk 8 cX8_go 218 [.inl (.aload 0), .inl (.getfield 524)] 222 = true := by decide +kernel
theorem bk_X8_go_222 : mx_blk 8 cX8_go 222 [.inl (.putfield 524), .inl (.aload 0), .inl .dup, .inl (.getfield 521), .inr (.int 1), .inl .iadd, .inl (.putfield 521)] 235 = true := by decide +kernel
theorem gt_X8_go_235 : mx_jmp cX8_go 235 170 = true := by decide +kernel
theorem bk_X8_go_238 : mx_blk 8 cX8_go 238 [.inl (.aload 0), .inl (.iload 1)] 240 = true := by decide +kernel
theorem br_X8_go_240 : mx_brk cX8_go 240 (.ifCond .ne 16) 256 243 = true := by decide +kernel
theorem bk_X8_go_243 : mx_blk 8 cX8_go 243 [.inl (.aload 0), .inl (.getfield 521), .inl (.aload 0), .inl (.getfield 522), .inl .isub, .inr (.int 4)] 253 = true := by decide +kernel
theorem br_X8_go_253 : mx_brk cX8_go 253 (.if_icmp .le 7) 260 256 = true := by decide +kernel
theorem bk_X8_go_256 : mx_blk 8 cX8_go 256 [.inr (.int 4)] 257 = true := by decide +kernel
theorem gt_X8_go_257 : mx_jmp cX8_go 257 261 = true := by decide +kernel
theorem bk_X8_go_260 : mx_blk 8 cX8_go 260 [.inr (.int 2)] 261 = true := by decide +kernel
theorem bk_X8_go_261 : mx_blk 8 cX8_go 261 [.inl (.putfield 523), .inl (.aload 0), .inl (.aload 0), .inl (.getfield 521), .inl (.putfield 525)] 272 = true := by decide +kernel
theorem gt_X8_go_272 : mx_jmp cX8_go 272 303 = true := by decide +kernel
theorem bk_X8_go_275 : mx_blk 8 cX8_go 275 [.inl (.aload 0), .inr (.int 3), .inl (.putfield 523), .inl (.aload 0), .inl (.aload 0), .inl (.getfield 519), .inl (.aload 0), .inl (.getfield 522), .inl .iaload, .inl (.putfield 524), .inl (.aload 0), .inl .dup, .inl (.getfield 521), .inr (.int 1), .inl .iadd, .inl (.putfield 521)] 303 = true := by decide +kernel
theorem rt_X8_go_303 : mx_kv dm_X8_go 303 := ⟨by decide +kernel, rfl⟩
theorem bk_X8_takesKey_0 : mx_blk 8 cX8_takesKey 0 [.inl (.aload 0), .inl (.getfield 523), .inr (.int 1)] 5 = true := by decide +kernel
theorem br_X8_takesKey_5 : mx_brk cX8_takesKey 5 (.if_icmp .eq 5) 10 8 = true := by decide +kernel
theorem bk_X8_takesKey_8 : mx_blk 8 cX8_takesKey 8 [.inr (.int 0)] 9 = true := by decide +kernel
theorem rt_X8_takesKey_9 : mx_kr dm_X8_takesKey 9 .boolean := ⟨by decide +kernel, rfl⟩
theorem bk_X8_takesKey_10 : mx_blk 8 cX8_takesKey 10 [.inr (.int 0), .inl (.istore 1)] 12 = true := by decide +kernel
theorem bk_X8_takesKey_12 : mx_blk 8 cX8_takesKey 12 [.inl (.iload 1), .inr (.int 3)] 14 = true := by decide +kernel
theorem br_X8_takesKey_14 : mx_brk cX8_takesKey 14 (.if_icmp .ge 113) 127 17 = true := by decide +kernel
theorem bk_X8_takesKey_17 : mx_blk 8 cX8_takesKey 17 [.inl (.aload 0), .inl (.getfield 528), .inl (.iload 1), .inr (.int 1), .inl .iadd, .inl .iaload, .inl (.aload 0), .inl (.getfield 528), .inl (.iload 1), .inl .iaload, .inl .isub, .inl (.istore 2), .inl (.iload 2), .inl (.aload 0), .inl (.getfield 521), .inl (.aload 0), .inl (.getfield 522), .inl .isub] 43 = true := by decide +kernel
theorem br_X8_takesKey_43 : mx_brk cX8_takesKey 43 (.if_icmp .ne 7) 50 46 = true := by decide +kernel
theorem bk_X8_takesKey_46 : mx_blk 8 cX8_takesKey 46 [.inr (.int 1)] 47 = true := by decide +kernel
theorem gt_X8_takesKey_47 : mx_jmp cX8_takesKey 47 51 = true := by decide +kernel
theorem bk_X8_takesKey_50 : mx_blk 8 cX8_takesKey 50 [.inr (.int 0)] 51 = true := by decide +kernel
theorem bk_X8_takesKey_51 : mx_blk 8 cX8_takesKey 51 [.inl (.istore 3), .inr (.int 0), .inl (.istore 4)] 55 = true := by decide +kernel
theorem bk_X8_takesKey_55 : mx_blk 8 cX8_takesKey 55 [.inl (.iload 4), .inl (.iload 2)] 58 = true := by decide +kernel
theorem br_X8_takesKey_58 : mx_brk cX8_takesKey 58 (.if_icmp .ge 48) 106 61 = true := by decide +kernel
theorem bk_X8_takesKey_61 : mx_blk 8 cX8_takesKey 61 [.inl (.iload 3)] 62 = true := by decide +kernel
theorem br_X8_takesKey_62 : mx_brk cX8_takesKey 62 (.ifCond .eq 44) 106 65 = true := by decide +kernel
theorem bk_X8_takesKey_65 : mx_blk 8 cX8_takesKey 65 [.inl (.aload 0), .inl (.getfield 519), .inl (.aload 0), .inl (.getfield 522), .inl (.iload 4), .inl .iadd, .inl .iaload, .inl (.aload 0), .inl (.getfield 527), .inl (.aload 0), .inl (.getfield 528), .inl (.iload 1), .inl .iaload, .inl (.iload 4), .inl .iadd, .inl .caload] 91 = true := by decide +kernel
theorem br_X8_takesKey_91 : mx_brk cX8_takesKey 91 (.if_icmp .ne 7) 98 94 = true := by decide +kernel
theorem bk_X8_takesKey_94 : mx_blk 8 cX8_takesKey 94 [.inr (.int 1)] 95 = true := by decide +kernel
theorem gt_X8_takesKey_95 : mx_jmp cX8_takesKey 95 99 = true := by decide +kernel
theorem bk_X8_takesKey_98 : mx_blk 8 cX8_takesKey 98 [.inr (.int 0)] 99 = true := by decide +kernel
theorem bk_X8_takesKey_99 : mx_blk 8 cX8_takesKey 99 [.inl (.istore 3), .inl (.iinc 4 1)] 103 = true := by decide +kernel
theorem gt_X8_takesKey_103 : mx_jmp cX8_takesKey 103 55 = true := by decide +kernel
theorem bk_X8_takesKey_106 : mx_blk 8 cX8_takesKey 106 [.inl (.iload 3)] 107 = true := by decide +kernel
theorem br_X8_takesKey_107 : mx_brk cX8_takesKey 107 (.ifCond .eq 14) 121 110 = true := by decide +kernel
theorem bk_X8_takesKey_110 : mx_blk 8 cX8_takesKey 110 [.inl (.aload 0), .inl (.iload 1), .inl (.putfield 526), .inl (.aload 0)] 116 = true := by decide +kernel
theorem kc_X8_takesKey_116 : mx_kV dm_X8_takesKey 116 dm_X8_go 8 0 := ⟨203, by decide +kernel, md_X8_go, cv_X8_203, by decide, by decide +kernel⟩
theorem bk_X8_takesKey_119 : mx_blk 8 cX8_takesKey 119 [.inr (.int 1)] 120 = true := by decide +kernel
theorem rt_X8_takesKey_120 : mx_kr dm_X8_takesKey 120 .boolean := ⟨by decide +kernel, rfl⟩
theorem bk_X8_takesKey_121 : mx_blk 8 cX8_takesKey 121 [.inl (.iinc 1 1)] 124 = true := by decide +kernel
theorem gt_X8_takesKey_124 : mx_jmp cX8_takesKey 124 12 = true := by decide +kernel
theorem bk_X8_takesKey_127 : mx_blk 8 cX8_takesKey 127 [.inr (.int 0)] 128 = true := by decide +kernel
theorem rt_X8_takesKey_128 : mx_kr dm_X8_takesKey 128 .boolean := ⟨by decide +kernel, rfl⟩
theorem bk_X8_nameOf_0 : mx_blk 8 cX8_nameOf 0 [.inl (.aload 0), .inl (.getfield 526)] 4 = true := by decide +kernel
theorem sw_X8_nameOf_4 : mx_swk cX8_nameOf 4 [(0, 32), (1, 64)] 86 = true := by decide +kernel
theorem bk_X8_nameOf_32 : mx_blk 8 cX8_nameOf 32 [.inl (.iload 1), .inr (.int 120)] 35 = true := by decide +kernel
theorem br_X8_nameOf_35 : mx_brk cX8_nameOf 35 (.if_icmp .ne 7) 42 38 = true := by decide +kernel
theorem bk_X8_nameOf_38 : mx_blk 8 cX8_nameOf 38 [.inr (.int 0)] 39 = true := by decide +kernel
theorem gt_X8_nameOf_39 : mx_jmp cX8_nameOf 39 63 = true := by decide +kernel
theorem bk_X8_nameOf_42 : mx_blk 8 cX8_nameOf 42 [.inl (.iload 1), .inr (.int 108)] 45 = true := by decide +kernel
theorem br_X8_nameOf_45 : mx_brk cX8_nameOf 45 (.if_icmp .ne 7) 52 48 = true := by decide +kernel
theorem bk_X8_nameOf_48 : mx_blk 8 cX8_nameOf 48 [.inr (.int 1)] 49 = true := by decide +kernel
theorem gt_X8_nameOf_49 : mx_jmp cX8_nameOf 49 63 = true := by decide +kernel
theorem bk_X8_nameOf_52 : mx_blk 8 cX8_nameOf 52 [.inl (.iload 1), .inr (.int 112)] 55 = true := by decide +kernel
theorem br_X8_nameOf_55 : mx_brk cX8_nameOf 55 (.if_icmp .ne 7) 62 58 = true := by decide +kernel
theorem bk_X8_nameOf_58 : mx_blk 8 cX8_nameOf 58 [.inr (.int 2)] 59 = true := by decide +kernel
theorem gt_X8_nameOf_59 : mx_jmp cX8_nameOf 59 63 = true := by decide +kernel
theorem bk_X8_nameOf_62 : mx_blk 8 cX8_nameOf 62 [.inr (.int (-1))] 63 = true := by decide +kernel
theorem rt_X8_nameOf_63 : mx_kr dm_X8_nameOf 63 .int := ⟨by decide +kernel, rfl⟩
theorem bk_X8_nameOf_64 : mx_blk 8 cX8_nameOf 64 [.inl (.iload 1), .inr (.int 108)] 67 = true := by decide +kernel
theorem br_X8_nameOf_67 : mx_brk cX8_nameOf 67 (.if_icmp .ne 7) 74 70 = true := by decide +kernel
theorem bk_X8_nameOf_70 : mx_blk 8 cX8_nameOf 70 [.inr (.int 0)] 71 = true := by decide +kernel
theorem gt_X8_nameOf_71 : mx_jmp cX8_nameOf 71 85 = true := by decide +kernel
theorem bk_X8_nameOf_74 : mx_blk 8 cX8_nameOf 74 [.inl (.iload 1), .inr (.int 119)] 77 = true := by decide +kernel
theorem br_X8_nameOf_77 : mx_brk cX8_nameOf 77 (.if_icmp .ne 7) 84 80 = true := by decide +kernel
theorem bk_X8_nameOf_80 : mx_blk 8 cX8_nameOf 80 [.inr (.int 1)] 81 = true := by decide +kernel
theorem gt_X8_nameOf_81 : mx_jmp cX8_nameOf 81 85 = true := by decide +kernel
theorem bk_X8_nameOf_84 : mx_blk 8 cX8_nameOf 84 [.inr (.int (-1))] 85 = true := by decide +kernel
theorem rt_X8_nameOf_85 : mx_kr dm_X8_nameOf 85 .int := ⟨by decide +kernel, rfl⟩
theorem bk_X8_nameOf_86 : mx_blk 8 cX8_nameOf 86 [.inl (.iload 1), .inr (.int 100)] 89 = true := by decide +kernel
theorem br_X8_nameOf_89 : mx_brk cX8_nameOf 89 (.if_icmp .ne 7) 96 92 = true := by decide +kernel
theorem bk_X8_nameOf_92 : mx_blk 8 cX8_nameOf 92 [.inr (.int 0)] 93 = true := by decide +kernel
theorem gt_X8_nameOf_93 : mx_jmp cX8_nameOf 93 107 = true := by decide +kernel
theorem bk_X8_nameOf_96 : mx_blk 8 cX8_nameOf 96 [.inl (.iload 1), .inr (.int 98)] 99 = true := by decide +kernel
theorem br_X8_nameOf_99 : mx_brk cX8_nameOf 99 (.if_icmp .ne 7) 106 102 = true := by decide +kernel
theorem bk_X8_nameOf_102 : mx_blk 8 cX8_nameOf 102 [.inr (.int 1)] 103 = true := by decide +kernel
theorem gt_X8_nameOf_103 : mx_jmp cX8_nameOf 103 107 = true := by decide +kernel
theorem bk_X8_nameOf_106 : mx_blk 8 cX8_nameOf 106 [.inr (.int (-1))] 107 = true := by decide +kernel
theorem rt_X8_nameOf_107 : mx_kr dm_X8_nameOf 107 .int := ⟨by decide +kernel, rfl⟩
theorem bk_X8_rank_0 : mx_blk 8 cX8_rank 0 [.inl (.iload 0), .inr (.int (-1))] 2 = true := by decide +kernel
theorem br_X8_rank_2 : mx_brk cX8_rank 2 (.if_icmp .ne 7) 9 5 = true := by decide +kernel
theorem bk_X8_rank_5 : mx_blk 8 cX8_rank 5 [.inr (.int 1)] 6 = true := by decide +kernel
theorem gt_X8_rank_6 : mx_jmp cX8_rank 6 51 = true := by decide +kernel
theorem bk_X8_rank_9 : mx_blk 8 cX8_rank 9 [.inl (.iload 0), .inr (.int (-2))] 12 = true := by decide +kernel
theorem br_X8_rank_12 : mx_brk cX8_rank 12 (.if_icmp .ne 7) 19 15 = true := by decide +kernel
theorem bk_X8_rank_15 : mx_blk 8 cX8_rank 15 [.inr (.int 2)] 16 = true := by decide +kernel
theorem gt_X8_rank_16 : mx_jmp cX8_rank 16 51 = true := by decide +kernel
theorem bk_X8_rank_19 : mx_blk 8 cX8_rank 19 [.inl (.iload 0), .inr (.int (-5))] 22 = true := by decide +kernel
theorem br_X8_rank_22 : mx_brk cX8_rank 22 (.if_icmp .lt 7) 29 25 = true := by decide +kernel
theorem bk_X8_rank_25 : mx_blk 8 cX8_rank 25 [.inr (.int 3)] 26 = true := by decide +kernel
theorem gt_X8_rank_26 : mx_jmp cX8_rank 26 51 = true := by decide +kernel
theorem bk_X8_rank_29 : mx_blk 8 cX8_rank 29 [.inl (.iload 0), .inr (.int (-7))] 32 = true := by decide +kernel
theorem br_X8_rank_32 : mx_brk cX8_rank 32 (.if_icmp .lt 7) 39 35 = true := by decide +kernel
theorem bk_X8_rank_35 : mx_blk 8 cX8_rank 35 [.inr (.int 4)] 36 = true := by decide +kernel
theorem gt_X8_rank_36 : mx_jmp cX8_rank 36 51 = true := by decide +kernel
theorem bk_X8_rank_39 : mx_blk 8 cX8_rank 39 [.inl (.iload 0), .inr (.int (-9))] 42 = true := by decide +kernel
theorem br_X8_rank_42 : mx_brk cX8_rank 42 (.if_icmp .lt 7) 49 45 = true := by decide +kernel
theorem bk_X8_rank_45 : mx_blk 8 cX8_rank 45 [.inr (.int 5)] 46 = true := by decide +kernel
theorem gt_X8_rank_46 : mx_jmp cX8_rank 46 51 = true := by decide +kernel
theorem bk_X8_rank_49 : mx_blk 8 cX8_rank 49 [.inr (.int 6)] 51 = true := by decide +kernel
theorem rt_X8_rank_51 : mx_kr dm_X8_rank 51 .int := ⟨by decide +kernel, rfl⟩
theorem bk_X8_settle_0 : mx_blk 8 cX8_settle 0 [.inl (.aload 0), .inl (.getfield 533)] 4 = true := by decide +kernel
theorem br_X8_settle_4 : mx_brk cX8_settle 4 (.ifCond .le 78) 82 7 = true := by decide +kernel
theorem bk_X8_settle_7 : mx_blk 8 cX8_settle 7 [.inl (.aload 0), .inl (.getfield 532), .inl (.aload 0), .inl (.getfield 533), .inr (.int 1), .inl .isub, .inl .iaload, .inr (.int (-11))] 20 = true := by decide +kernel
theorem br_X8_settle_20 : mx_brk cX8_settle 20 (.if_icmp .eq 62) 82 23 = true := by decide +kernel
theorem bk_X8_settle_23 : mx_blk 8 cX8_settle 23 [.inl (.aload 0), .inl (.getfield 532), .inl (.aload 0), .inl (.getfield 533), .inr (.int 1), .inl .isub, .inl .iaload] 34 = true := by decide +kernel
theorem kc_X8_settle_34 : mx_kS dm_X8_settle 34 dm_X8_rank 1 := ⟨209, by decide +kernel, md_X8_rank, cs_X8_209⟩
theorem bk_X8_settle_37 : mx_blk 8 cX8_settle 37 [.inl (.iload 1)] 38 = true := by decide +kernel
theorem br_X8_settle_38 : mx_brk cX8_settle 38 (.if_icmp .lt 44) 82 41 = true := by decide +kernel
theorem bk_X8_settle_41 : mx_blk 8 cX8_settle 41 [.inl (.aload 0), .inl .dup, .inl (.getfield 533), .inr (.int 1), .inl .isub, .inl (.putfield 533), .inl (.aload 0), .inl (.getfield 529), .inl (.aload 0), .inl (.getfield 530), .inl (.aload 0), .inl (.getfield 532), .inl (.aload 0), .inl (.getfield 533), .inl .iaload, .inl .iastore, .inl (.aload 0), .inl .dup, .inl (.getfield 530), .inr (.int 1), .inl .iadd, .inl (.putfield 530)] 79 = true := by decide +kernel
theorem gt_X8_settle_79 : mx_jmp cX8_settle 79 0 = true := by decide +kernel
theorem rt_X8_settle_82 : mx_kv dm_X8_settle 82 := ⟨by decide +kernel, rfl⟩
theorem bk_X8_signHere_0 : mx_blk 8 cX8_signHere 0 [.inl (.aload 0), .inl (.getfield 523), .inr (.int 3)] 5 = true := by decide +kernel
theorem br_X8_signHere_5 : mx_brk cX8_signHere 5 (.if_icmp .eq 5) 10 8 = true := by decide +kernel
theorem bk_X8_signHere_8 : mx_blk 8 cX8_signHere 8 [.inr (.int 0)] 9 = true := by decide +kernel
theorem rt_X8_signHere_9 : mx_kr dm_X8_signHere 9 .int := ⟨by decide +kernel, rfl⟩
theorem bk_X8_signHere_10 : mx_blk 8 cX8_signHere 10 [.inl (.aload 0), .inl (.getfield 524)] 14 = true := by decide +kernel
theorem sw_X8_signHere_14 : mx_swk cX8_signHere 14 [(38, 98), (42, 116), (43, 110), (45, 113), (47, 119), (60, 101), (61, 104), (62, 107), (124, 96)] 122 = true := by decide +kernel
theorem bk_X8_signHere_96 : mx_blk 8 cX8_signHere 96 [.inr (.int (-1))] 97 = true := by decide +kernel
theorem rt_X8_signHere_97 : mx_kr dm_X8_signHere 97 .int := ⟨by decide +kernel, rfl⟩
theorem bk_X8_signHere_98 : mx_blk 8 cX8_signHere 98 [.inr (.int (-2))] 100 = true := by decide +kernel
theorem rt_X8_signHere_100 : mx_kr dm_X8_signHere 100 .int := ⟨by decide +kernel, rfl⟩
theorem bk_X8_signHere_101 : mx_blk 8 cX8_signHere 101 [.inr (.int (-3))] 103 = true := by decide +kernel
theorem rt_X8_signHere_103 : mx_kr dm_X8_signHere 103 .int := ⟨by decide +kernel, rfl⟩
theorem bk_X8_signHere_104 : mx_blk 8 cX8_signHere 104 [.inr (.int (-4))] 106 = true := by decide +kernel
theorem rt_X8_signHere_106 : mx_kr dm_X8_signHere 106 .int := ⟨by decide +kernel, rfl⟩
theorem bk_X8_signHere_107 : mx_blk 8 cX8_signHere 107 [.inr (.int (-5))] 109 = true := by decide +kernel
theorem rt_X8_signHere_109 : mx_kr dm_X8_signHere 109 .int := ⟨by decide +kernel, rfl⟩
theorem bk_X8_signHere_110 : mx_blk 8 cX8_signHere 110 [.inr (.int (-6))] 112 = true := by decide +kernel
theorem rt_X8_signHere_112 : mx_kr dm_X8_signHere 112 .int := ⟨by decide +kernel, rfl⟩
theorem bk_X8_signHere_113 : mx_blk 8 cX8_signHere 113 [.inr (.int (-7))] 115 = true := by decide +kernel
theorem rt_X8_signHere_115 : mx_kr dm_X8_signHere 115 .int := ⟨by decide +kernel, rfl⟩
theorem bk_X8_signHere_116 : mx_blk 8 cX8_signHere 116 [.inr (.int (-8))] 118 = true := by decide +kernel
theorem rt_X8_signHere_118 : mx_kr dm_X8_signHere 118 .int := ⟨by decide +kernel, rfl⟩
theorem bk_X8_signHere_119 : mx_blk 8 cX8_signHere 119 [.inr (.int (-9))] 121 = true := by decide +kernel
theorem rt_X8_signHere_121 : mx_kr dm_X8_signHere 121 .int := ⟨by decide +kernel, rfl⟩
theorem bk_X8_signHere_122 : mx_blk 8 cX8_signHere 122 [.inr (.int 0)] 123 = true := by decide +kernel
theorem rt_X8_signHere_123 : mx_kr dm_X8_signHere 123 .int := ⟨by decide +kernel, rfl⟩
theorem bk_X8_takesPart_0 : mx_blk 8 cX8_takesPart 0 [.inl (.aload 0), .inl (.getfield 523), .inr (.int 1)] 5 = true := by decide +kernel
theorem br_X8_takesPart_5 : mx_brk cX8_takesPart 5 (.if_icmp .ne 31) 36 8 = true := by decide +kernel
theorem bk_X8_takesPart_8 : mx_blk 8 cX8_takesPart 8 [.inl (.aload 0), .inl (.getfield 521), .inl (.aload 0), .inl (.getfield 522), .inl .isub, .inr (.int 1)] 18 = true := by decide +kernel
theorem br_X8_takesPart_18 : mx_brk cX8_takesPart 18 (.if_icmp .ne 18) 36 21 = true := by decide +kernel
theorem bk_X8_takesPart_21 : mx_blk 8 cX8_takesPart 21 [.inl (.aload 0), .inl (.aload 0), .inl (.getfield 524)] 26 = true := by decide +kernel
theorem kc_X8_takesPart_26 : mx_kV dm_X8_takesPart 26 dm_X8_nameOf 8 1 := ⟨215, by decide +kernel, md_X8_nameOf, cv_X8_215, by decide, by decide +kernel⟩
theorem br_X8_takesPart_29 : mx_brk cX8_takesPart 29 (.ifCond .lt 7) 36 32 = true := by decide +kernel
theorem bk_X8_takesPart_32 : mx_blk 8 cX8_takesPart 32 [.inr (.int 1)] 33 = true := by decide +kernel
theorem gt_X8_takesPart_33 : mx_jmp cX8_takesPart 33 37 = true := by decide +kernel
theorem bk_X8_takesPart_36 : mx_blk 8 cX8_takesPart 36 [.inr (.int 0)] 37 = true := by decide +kernel
theorem bk_X8_takesPart_37 : mx_blk 8 cX8_takesPart 37 [.inl (.istore 1), .inl (.aload 0), .inl (.getfield 523), .inr (.int 2)] 43 = true := by decide +kernel
theorem br_X8_takesPart_43 : mx_brk cX8_takesPart 43 (.if_icmp .eq 9) 52 46 = true := by decide +kernel
theorem bk_X8_takesPart_46 : mx_blk 8 cX8_takesPart 46 [.inl (.iload 1)] 47 = true := by decide +kernel
theorem br_X8_takesPart_47 : mx_brk cX8_takesPart 47 (.ifCond .ne 5) 52 50 = true := by decide +kernel
theorem bk_X8_takesPart_50 : mx_blk 8 cX8_takesPart 50 [.inr (.int 0)] 51 = true := by decide +kernel
theorem rt_X8_takesPart_51 : mx_kr dm_X8_takesPart 51 .boolean := ⟨by decide +kernel, rfl⟩
theorem bk_X8_takesPart_52 : mx_blk 8 cX8_takesPart 52 [.inl (.aload 0), .inl (.getfield 529), .inl (.aload 0), .inl (.getfield 530), .inl (.aload 0), .inl (.getfield 523), .inr (.int 2)] 65 = true := by decide +kernel
theorem br_X8_takesPart_65 : mx_brk cX8_takesPart 65 (.if_icmp .ne 10) 75 68 = true := by decide +kernel
theorem bk_X8_takesPart_68 : mx_blk 8 cX8_takesPart 68 [.inl (.aload 0), .inl (.getfield 524)] 72 = true := by decide +kernel
theorem gt_X8_takesPart_72 : mx_jmp cX8_takesPart 72 87 = true := by decide +kernel
theorem bk_X8_takesPart_75 : mx_blk 8 cX8_takesPart 75 [.inr (.int 10000), .inl (.aload 0), .inl (.aload 0), .inl (.getfield 524)] 83 = true := by decide +kernel
theorem kc_X8_takesPart_83 : mx_kV dm_X8_takesPart 83 dm_X8_nameOf 8 1 := ⟨215, by decide +kernel, md_X8_nameOf, cv_X8_215, by decide, by decide +kernel⟩
theorem bk_X8_takesPart_86 : mx_blk 8 cX8_takesPart 86 [.inl .iadd] 87 = true := by decide +kernel
theorem bk_X8_takesPart_87 : mx_blk 8 cX8_takesPart 87 [.inl .iastore, .inl (.aload 0), .inl .dup, .inl (.getfield 530), .inr (.int 1), .inl .iadd, .inl (.putfield 530), .inl (.aload 0), .inl .dup, .inl (.getfield 531), .inr (.int 1), .inl .iadd, .inl (.putfield 531), .inl (.aload 0), .inr (.int 6)] 111 = true := by decide +kernel
theorem kc_X8_takesPart_111 : mx_kV dm_X8_takesPart 111 dm_X8_settle 8 1 := ⟨221, by decide +kernel, md_X8_settle, cv_X8_221, by decide, by decide +kernel⟩
theorem bk_X8_takesPart_114 : mx_blk 8 cX8_takesPart 114 [.inl (.aload 0)] 115 = true := by decide +kernel
theorem kc_X8_takesPart_115 : mx_kV dm_X8_takesPart 115 dm_X8_go 8 0 := ⟨203, by decide +kernel, md_X8_go, cv_X8_203, by decide, by decide +kernel⟩
theorem bk_X8_takesPart_118 : mx_blk 8 cX8_takesPart 118 [.inr (.int 1)] 119 = true := by decide +kernel
theorem rt_X8_takesPart_119 : mx_kr dm_X8_takesPart 119 .boolean := ⟨by decide +kernel, rfl⟩
theorem bk_X8_takesE_0 : mx_blk 8 cX8_takesE 0 [.inr (.int 0), .inl (.istore 1), .inr (.int 0), .inl (.istore 2), .inr (.int 1), .inl (.istore 3), .inl (.aload 0), .inr (.int 0), .inl (.putfield 530), .inl (.aload 0), .inr (.int 0), .inl (.putfield 531), .inl (.aload 0), .inr (.int 0), .inl (.putfield 533), .inl (.aload 0), .inl (.getfield 534), .inr (.int 0), .inr (.int 0), .inl .dastore] 28 = true := by decide +kernel
theorem bk_X8_takesE_28 : mx_blk 8 cX8_takesE 28 [.inl (.iload 3)] 29 = true := by decide +kernel
theorem br_X8_takesE_29 : mx_brk cX8_takesE 29 (.ifCond .ne 10) 39 32 = true := by decide +kernel
theorem bk_X8_takesE_32 : mx_blk 8 cX8_takesE 32 [.inl (.aload 0), .inl (.getfield 523)] 36 = true := by decide +kernel
theorem br_X8_takesE_36 : mx_brk cX8_takesE 36 (.ifCond .eq 309) 345 39 = true := by decide +kernel
theorem bk_X8_takesE_39 : mx_blk 8 cX8_takesE 39 [.inl (.iload 3)] 40 = true := by decide +kernel
theorem br_X8_takesE_40 : mx_brk cX8_takesE 40 (.ifCond .eq 140) 180 43 = true := by decide +kernel
theorem bk_X8_takesE_43 : mx_blk 8 cX8_takesE 43 [.inl (.aload 0), .inl (.getfield 523), .inr (.int 3)] 48 = true := by decide +kernel
theorem br_X8_takesE_48 : mx_brk cX8_takesE 48 (.if_icmp .ne 49) 97 51 = true := by decide +kernel
theorem bk_X8_takesE_51 : mx_blk 8 cX8_takesE 51 [.inl (.aload 0), .inl (.getfield 524), .inr (.int 33)] 57 = true := by decide +kernel
theorem br_X8_takesE_57 : mx_brk cX8_takesE 57 (.if_icmp .ne 40) 97 60 = true := by decide +kernel
theorem bk_X8_takesE_60 : mx_blk 8 cX8_takesE 60 [.inl (.iload 2), .inr (.int 8)] 63 = true := by decide +kernel
theorem br_X8_takesE_63 : mx_brk cX8_takesE 63 (.if_icmp .ge 34) 97 66 = true := by decide +kernel
theorem bk_X8_takesE_66 : mx_blk 8 cX8_takesE 66 [.inl (.aload 0), .inl (.getfield 532), .inl (.aload 0), .inl (.getfield 533), .inr (.int (-10)), .inl .iastore, .inl (.aload 0), .inl .dup, .inl (.getfield 533), .inr (.int 1), .inl .iadd, .inl (.putfield 533), .inl (.iinc 2 1), .inl (.aload 0)] 91 = true := by decide +kernel
theorem kc_X8_takesE_91 : mx_kV dm_X8_takesE 91 dm_X8_go 8 0 := ⟨203, by decide +kernel, md_X8_go, cv_X8_203, by decide, by decide +kernel⟩
theorem gt_X8_takesE_94 : mx_jmp cX8_takesE 94 172 = true := by decide +kernel
theorem bk_X8_takesE_97 : mx_blk 8 cX8_takesE 97 [.inl (.aload 0), .inl (.getfield 523), .inr (.int 3)] 102 = true := by decide +kernel
theorem br_X8_takesE_102 : mx_brk cX8_takesE 102 (.if_icmp .ne 56) 158 105 = true := by decide +kernel
theorem bk_X8_takesE_105 : mx_blk 8 cX8_takesE 105 [.inl (.aload 0), .inl (.getfield 524), .inr (.int 40)] 111 = true := by decide +kernel
theorem br_X8_takesE_111 : mx_brk cX8_takesE 111 (.if_icmp .ne 47) 158 114 = true := by decide +kernel
theorem bk_X8_takesE_114 : mx_blk 8 cX8_takesE 114 [.inl (.iload 1), .inr (.int 8)] 117 = true := by decide +kernel
theorem br_X8_takesE_117 : mx_brk cX8_takesE 117 (.if_icmp .ge 41) 158 120 = true := by decide +kernel
theorem bk_X8_takesE_120 : mx_blk 8 cX8_takesE 120 [.inl (.aload 0), .inl (.getfield 532), .inl (.aload 0), .inl (.getfield 533), .inr (.int (-11)), .inl .iastore, .inl (.aload 0), .inl .dup, .inl (.getfield 533), .inr (.int 1), .inl .iadd, .inl (.putfield 533), .inl (.iinc 1 1), .inl (.aload 0), .inl (.getfield 534), .inl (.iload 1), .inr (.int 0), .inl .dastore, .inl (.aload 0)] 152 = true := by decide +kernel
theorem kc_X8_takesE_152 : mx_kV dm_X8_takesE 152 dm_X8_go 8 0 := ⟨203, by decide +kernel, md_X8_go, cv_X8_203, by decide, by decide +kernel⟩
theorem gt_X8_takesE_155 : mx_jmp cX8_takesE 155 172 = true := by decide +kernel
theorem bk_X8_takesE_158 : mx_blk 8 cX8_takesE 158 [.inl (.aload 0)] 159 = true := by decide +kernel
theorem kc_X8_takesE_159 : mx_kV dm_X8_takesE 159 dm_X8_takesPart 8 0 := ⟨224, by decide +kernel, md_X8_takesPart, cv_X8_224, by decide, by decide +kernel⟩
theorem br_X8_takesE_162 : mx_brk cX8_takesE 162 (.ifCond .eq 8) 170 165 = true := by decide +kernel
theorem bk_X8_takesE_165 : mx_blk 8 cX8_takesE 165 [.inr (.int 0), .inl (.istore 3)] 167 = true := by decide +kernel
theorem gt_X8_takesE_167 : mx_jmp cX8_takesE 167 172 = true := by decide +kernel
theorem bk_X8_takesE_170 : mx_blk 8 cX8_takesE 170 [.inr (.int 0)] 171 = true := by decide +kernel
theorem rt_X8_takesE_171 : mx_kr dm_X8_takesE 171 .boolean := ⟨by decide +kernel, rfl⟩
theorem bk_X8_takesE_172 : mx_blk 8 cX8_takesE 172 [.inl (.aload 0)] 173 = true := by decide +kernel
theorem kc_X8_takesE_173 : mx_kV dm_X8_takesE 173 dm_X8_notsOpen 8 0 := ⟨228, by decide +kernel, md_X8_notsOpen, cv_X8_228, by decide, by decide +kernel⟩
theorem bk_X8_takesE_176 : mx_blk 8 cX8_takesE 176 [.inl (.istore 2)] 177 = true := by decide +kernel
theorem gt_X8_takesE_177 : mx_jmp cX8_takesE 177 28 = true := by decide +kernel
theorem bk_X8_takesE_180 : mx_blk 8 cX8_takesE 180 [.inl (.aload 0), .inl (.getfield 523), .inr (.int 3)] 185 = true := by decide +kernel
theorem br_X8_takesE_185 : mx_brk cX8_takesE 185 (.if_icmp .ne 52) 237 188 = true := by decide +kernel
theorem bk_X8_takesE_188 : mx_blk 8 cX8_takesE 188 [.inl (.aload 0), .inl (.getfield 524), .inr (.int 41)] 194 = true := by decide +kernel
theorem br_X8_takesE_194 : mx_brk cX8_takesE 194 (.if_icmp .ne 43) 237 197 = true := by decide +kernel
theorem bk_X8_takesE_197 : mx_blk 8 cX8_takesE 197 [.inl (.iload 1)] 198 = true := by decide +kernel
theorem br_X8_takesE_198 : mx_brk cX8_takesE 198 (.ifCond .le 39) 237 201 = true := by decide +kernel
theorem bk_X8_takesE_201 : mx_blk 8 cX8_takesE 201 [.inl (.aload 0), .inr (.int 0)] 203 = true := by decide +kernel
theorem kc_X8_takesE_203 : mx_kV dm_X8_takesE 203 dm_X8_settle 8 1 := ⟨221, by decide +kernel, md_X8_settle, cv_X8_221, by decide, by decide +kernel⟩
theorem bk_X8_takesE_206 : mx_blk 8 cX8_takesE 206 [.inl (.aload 0), .inl .dup, .inl (.getfield 533), .inr (.int 1), .inl .isub, .inl (.putfield 533), .inl (.iinc 1 (-1)), .inl (.aload 0), .inr (.int 6)] 222 = true := by decide +kernel
theorem kc_X8_takesE_222 : mx_kV dm_X8_takesE 222 dm_X8_settle 8 1 := ⟨221, by decide +kernel, md_X8_settle, cv_X8_221, by decide, by decide +kernel⟩
theorem bk_X8_takesE_225 : mx_blk 8 cX8_takesE 225 [.inl (.aload 0)] 226 = true := by decide +kernel
theorem kc_X8_takesE_226 : mx_kV dm_X8_takesE 226 dm_X8_notsOpen 8 0 := ⟨228, by decide +kernel, md_X8_notsOpen, cv_X8_228, by decide, by decide +kernel⟩
theorem bk_X8_takesE_229 : mx_blk 8 cX8_takesE 229 [.inl (.istore 2), .inl (.aload 0)] 231 = true := by decide +kernel
theorem kc_X8_takesE_231 : mx_kV dm_X8_takesE 231 dm_X8_go 8 0 := ⟨203, by decide +kernel, md_X8_go, cv_X8_203, by decide, by decide +kernel⟩
theorem gt_X8_takesE_234 : mx_jmp cX8_takesE 234 28 = true := by decide +kernel
theorem bk_X8_takesE_237 : mx_blk 8 cX8_takesE 237 [.inl (.aload 0)] 238 = true := by decide +kernel
theorem kc_X8_takesE_238 : mx_kV dm_X8_takesE 238 dm_X8_signHere 8 0 := ⟨231, by decide +kernel, md_X8_signHere, cv_X8_231, by decide, by decide +kernel⟩
theorem bk_X8_takesE_241 : mx_blk 8 cX8_takesE 241 [.inl (.istore 4), .inl (.iload 4)] 245 = true := by decide +kernel
theorem br_X8_takesE_245 : mx_brk cX8_takesE 245 (.ifCond .eq 21) 266 248 = true := by decide +kernel
theorem bk_X8_takesE_248 : mx_blk 8 cX8_takesE 248 [.inl (.iload 4)] 250 = true := by decide +kernel
theorem kc_X8_takesE_250 : mx_kS dm_X8_takesE 250 dm_X8_rank 1 := ⟨209, by decide +kernel, md_X8_rank, cs_X8_209⟩
theorem bk_X8_takesE_253 : mx_blk 8 cX8_takesE 253 [.inr (.int 3)] 254 = true := by decide +kernel
theorem br_X8_takesE_254 : mx_brk cX8_takesE 254 (.if_icmp .ne 14) 268 257 = true := by decide +kernel
theorem bk_X8_takesE_257 : mx_blk 8 cX8_takesE 257 [.inl (.aload 0), .inl (.getfield 534), .inl (.iload 1), .inl .daload] 263 = true := by decide +kernel
theorem br_X8_takesE_263 : mx_brk cX8_takesE 263 (.ifCond .eq 5) 268 266 = true := by decide +kernel
theorem bk_X8_takesE_266 : mx_blk 8 cX8_takesE 266 [.inr (.int 0)] 267 = true := by decide +kernel
theorem rt_X8_takesE_267 : mx_kr dm_X8_takesE 267 .boolean := ⟨by decide +kernel, rfl⟩
theorem bk_X8_takesE_268 : mx_blk 8 cX8_takesE 268 [.inl (.aload 0), .inl (.getfield 534), .inl (.iload 1), .inl (.iload 4)] 275 = true := by decide +kernel
theorem kc_X8_takesE_275 : mx_kS dm_X8_takesE 275 dm_X8_rank 1 := ⟨209, by decide +kernel, md_X8_rank, cs_X8_209⟩
theorem bk_X8_takesE_278 : mx_blk 8 cX8_takesE 278 [.inr (.int 3)] 279 = true := by decide +kernel
theorem br_X8_takesE_279 : mx_brk cX8_takesE 279 (.if_icmp .eq 21) 300 282 = true := by decide +kernel
theorem bk_X8_takesE_282 : mx_blk 8 cX8_takesE 282 [.inl (.iload 4)] 284 = true := by decide +kernel
theorem kc_X8_takesE_284 : mx_kS dm_X8_takesE 284 dm_X8_rank 1 := ⟨209, by decide +kernel, md_X8_rank, cs_X8_209⟩
theorem bk_X8_takesE_287 : mx_blk 8 cX8_takesE 287 [.inr (.int 3)] 288 = true := by decide +kernel
theorem br_X8_takesE_288 : mx_brk cX8_takesE 288 (.if_icmp .le 16) 304 291 = true := by decide +kernel
theorem bk_X8_takesE_291 : mx_blk 8 cX8_takesE 291 [.inl (.aload 0), .inl (.getfield 534), .inl (.iload 1), .inl .daload] 297 = true := by decide +kernel
theorem br_X8_takesE_297 : mx_brk cX8_takesE 297 (.ifCond .eq 7) 304 300 = true := by decide +kernel
theorem bk_X8_takesE_300 : mx_blk 8 cX8_takesE 300 [.inr (.int 1)] 301 = true := by decide +kernel
theorem gt_X8_takesE_301 : mx_jmp cX8_takesE 301 305 = true := by decide +kernel
theorem bk_X8_takesE_304 : mx_blk 8 cX8_takesE 304 [.inr (.int 0)] 305 = true := by decide +kernel
theorem bk_X8_takesE_305 : mx_blk 8 cX8_takesE 305 [.inl .dastore, .inl (.aload 0), .inl (.iload 4)] 309 = true := by decide +kernel
theorem kc_X8_takesE_309 : mx_kS dm_X8_takesE 309 dm_X8_rank 1 := ⟨209, by decide +kernel, md_X8_rank, cs_X8_209⟩
theorem kc_X8_takesE_312 : mx_kV dm_X8_takesE 312 dm_X8_settle 8 1 := ⟨221, by decide +kernel, md_X8_settle, cv_X8_221, by decide, by decide +kernel⟩
theorem bk_X8_takesE_315 : mx_blk 8 cX8_takesE 315 [.inl (.aload 0), .inl (.getfield 532), .inl (.aload 0), .inl (.getfield 533), .inl (.iload 4), .inl .iastore, .inl (.aload 0), .inl .dup, .inl (.getfield 533), .inr (.int 1), .inl .iadd, .inl (.putfield 533), .inr (.int 1), .inl (.istore 3), .inl (.aload 0)] 339 = true := by decide +kernel
theorem kc_X8_takesE_339 : mx_kV dm_X8_takesE 339 dm_X8_go 8 0 := ⟨203, by decide +kernel, md_X8_go, cv_X8_203, by decide, by decide +kernel⟩
theorem gt_X8_takesE_342 : mx_jmp cX8_takesE 342 28 = true := by decide +kernel
theorem bk_X8_takesE_345 : mx_blk 8 cX8_takesE 345 [.inl (.aload 0), .inr (.int 0)] 347 = true := by decide +kernel
theorem kc_X8_takesE_347 : mx_kV dm_X8_takesE 347 dm_X8_settle 8 1 := ⟨221, by decide +kernel, md_X8_settle, cv_X8_221, by decide, by decide +kernel⟩
theorem bk_X8_takesE_350 : mx_blk 8 cX8_takesE 350 [.inl (.iload 1)] 351 = true := by decide +kernel
theorem br_X8_takesE_351 : mx_brk cX8_takesE 351 (.ifCond .ne 7) 358 354 = true := by decide +kernel
theorem bk_X8_takesE_354 : mx_blk 8 cX8_takesE 354 [.inr (.int 1)] 355 = true := by decide +kernel
theorem gt_X8_takesE_355 : mx_jmp cX8_takesE 355 359 = true := by decide +kernel
theorem bk_X8_takesE_358 : mx_blk 8 cX8_takesE 358 [.inr (.int 0)] 359 = true := by decide +kernel
theorem rt_X8_takesE_359 : mx_kr dm_X8_takesE 359 .boolean := ⟨by decide +kernel, rfl⟩
theorem bk_X8_notsOpen_0 : mx_blk 8 cX8_notsOpen 0 [.inr (.int 0), .inl (.istore 1), .inr (.int 0), .inl (.istore 2)] 4 = true := by decide +kernel
theorem bk_X8_notsOpen_4 : mx_blk 8 cX8_notsOpen 4 [.inl (.iload 2), .inl (.aload 0), .inl (.getfield 533)] 9 = true := by decide +kernel
theorem br_X8_notsOpen_9 : mx_brk cX8_notsOpen 9 (.if_icmp .ge 28) 37 12 = true := by decide +kernel
theorem bk_X8_notsOpen_12 : mx_blk 8 cX8_notsOpen 12 [.inl (.iload 1), .inl (.aload 0), .inl (.getfield 532), .inl (.iload 2), .inl .iaload, .inr (.int (-10))] 21 = true := by decide +kernel
theorem br_X8_notsOpen_21 : mx_brk cX8_notsOpen 21 (.if_icmp .ne 7) 28 24 = true := by decide +kernel
theorem bk_X8_notsOpen_24 : mx_blk 8 cX8_notsOpen 24 [.inr (.int 1)] 25 = true := by decide +kernel
theorem gt_X8_notsOpen_25 : mx_jmp cX8_notsOpen 25 29 = true := by decide +kernel
theorem bk_X8_notsOpen_28 : mx_blk 8 cX8_notsOpen 28 [.inr (.int 0)] 29 = true := by decide +kernel
theorem bk_X8_notsOpen_29 : mx_blk 8 cX8_notsOpen 29 [.inl .iadd, .inl (.istore 1), .inl (.iinc 2 1)] 34 = true := by decide +kernel
theorem gt_X8_notsOpen_34 : mx_jmp cX8_notsOpen 34 4 = true := by decide +kernel
theorem bk_X8_notsOpen_37 : mx_blk 8 cX8_notsOpen 37 [.inl (.iload 1)] 38 = true := by decide +kernel
theorem rt_X8_notsOpen_38 : mx_kr dm_X8_notsOpen 38 .int := ⟨by decide +kernel, rfl⟩
theorem bk_X8_text_0 : mx_blk 8 cX8_text 0 [.inl (.aload 0), .inr (.int 0), .inl (.putfield 521), .inl (.aload 0), .inr (.int (-1)), .inl (.putfield 525), .inl (.aload 0)] 11 = true := by decide +kernel
theorem kc_X8_text_11 : mx_kV dm_X8_text 11 dm_X8_go 8 0 := ⟨203, by decide +kernel, md_X8_go, cv_X8_203, by decide, by decide +kernel⟩
theorem bk_X8_text_14 : mx_blk 8 cX8_text 14 [.inl (.aload 0)] 15 = true := by decide +kernel
theorem kc_X8_text_15 : mx_kV dm_X8_text 15 dm_X8_takesKey 8 0 := ⟨234, by decide +kernel, md_X8_takesKey, cv_X8_234, by decide, by decide +kernel⟩
theorem br_X8_text_18 : mx_brk cX8_text 18 (.ifCond .eq 14) 32 21 = true := by decide +kernel
theorem bk_X8_text_21 : mx_blk 8 cX8_text 21 [.inl (.aload 0)] 22 = true := by decide +kernel
theorem kc_X8_text_22 : mx_kV dm_X8_text 22 dm_X8_takesE 8 0 := ⟨237, by decide +kernel, md_X8_takesE, cv_X8_237, by decide, by decide +kernel⟩
theorem br_X8_text_25 : mx_brk cX8_text 25 (.ifCond .eq 7) 32 28 = true := by decide +kernel
theorem bk_X8_text_28 : mx_blk 8 cX8_text 28 [.inr (.int 1)] 29 = true := by decide +kernel
theorem gt_X8_text_29 : mx_jmp cX8_text 29 33 = true := by decide +kernel
theorem bk_X8_text_32 : mx_blk 8 cX8_text 32 [.inr (.int 0)] 33 = true := by decide +kernel
theorem bk_X8_text_33 : mx_blk 8 cX8_text 33 [.inl (.istore 1), .inl (.aload 0), .inr (.int 0), .inl (.putfield 520), .inl (.iload 1)] 40 = true := by decide +kernel
theorem br_X8_text_40 : mx_brk cX8_text 40 (.ifCond .ne 11) 51 43 = true := by decide +kernel
theorem bk_X8_text_43 : mx_blk 8 cX8_text 43 [.inr (.int (-100)), .inl (.aload 0), .inl (.getfield 522), .inl .isub] 50 = true := by decide +kernel
theorem rt_X8_text_50 : mx_kr dm_X8_text 50 .int := ⟨by decide +kernel, rfl⟩
theorem bk_X8_text_51 : mx_blk 8 cX8_text 51 [.inl (.aload 0), .inl (.getfield 512), .inr (.int 6), .inl .iaload, .inr (.int 14)] 60 = true := by decide +kernel
theorem br_X8_text_60 : mx_brk cX8_text 60 (.if_icmp .ne 6) 66 63 = true := by decide +kernel
theorem bk_X8_text_63 : mx_blk 8 cX8_text 63 [.inr (.int (-1000000003))] 65 = true := by decide +kernel
theorem rt_X8_text_65 : mx_kr dm_X8_text 65 .int := ⟨by decide +kernel, rfl⟩
theorem bk_X8_text_66 : mx_blk 8 cX8_text 66 [.inl (.aload 0), .inl (.getfield 512), .inr (.int 6), .inl .iaload, .inl (.istore 2), .inl (.aload 0), .inl (.getfield 512), .inr (.int 55), .inr (.int 2), .inl (.iload 2), .inl .imul, .inl .iadd, .inr (.int 1000), .inl (.aload 0), .inl (.getfield 526), .inl .imul, .inl (.aload 0), .inl (.getfield 530), .inl .iadd, .inl .iastore, .inl (.aload 0), .inl (.getfield 512), .inr (.int 55), .inr (.int 2), .inl (.iload 2), .inl .imul, .inl .iadd, .inr (.int 1), .inl .iadd, .inl (.aload 0), .inl (.getfield 531), .inl .iastore, .inr (.int 0), .inl (.istore 3)] 117 = true := by decide +kernel
theorem bk_X8_text_117 : mx_blk 8 cX8_text 117 [.inl (.iload 3), .inl (.aload 0), .inl (.getfield 530)] 122 = true := by decide +kernel
theorem br_X8_text_122 : mx_brk cX8_text 122 (.if_icmp .ge 29) 151 125 = true := by decide +kernel
theorem bk_X8_text_125 : mx_blk 8 cX8_text 125 [.inl (.aload 0), .inl (.getfield 512), .inr (.int 83), .inr (.int 96), .inl (.iload 2), .inl .imul, .inl .iadd, .inl (.iload 3), .inl .iadd, .inl (.aload 0), .inl (.getfield 529), .inl (.iload 3), .inl .iaload, .inl .iastore, .inl (.iinc 3 1)] 148 = true := by decide +kernel
theorem gt_X8_text_148 : mx_jmp cX8_text 148 117 = true := by decide +kernel
theorem bk_X8_text_151 : mx_blk 8 cX8_text 151 [.inl (.aload 0), .inl (.getfield 512), .inr (.int 6), .inl .dup2, .inl .iaload, .inr (.int 1), .inl .iadd, .inl .iastore, .inl (.iload 2)] 163 = true := by decide +kernel
theorem rt_X8_text_163 : mx_kr dm_X8_text 163 .int := ⟨by decide +kernel, rfl⟩
theorem bk_X8_textTold_0 : mx_blk 8 cX8_textTold 0 [.inl (.iload 1), .inr (.int 0), .inl (.aload 0), .inl (.getfield 512), .inr (.int 6), .inl .iaload, .inr (.int 1), .inl .isub] 11 = true := by decide +kernel
theorem kc_X8_textTold_11 : mx_kS dm_X8_textTold 11 dm_X8_in 3 := ⟨81, by decide +kernel, md_X8_in, cs_X8_81⟩
theorem br_X8_textTold_14 : mx_brk cX8_textTold 14 (.ifCond .eq 12) 26 17 = true := by decide +kernel
theorem bk_X8_textTold_17 : mx_blk 8 cX8_textTold 17 [.inl (.iload 2), .inr (.int 0), .inr (.int 1)] 20 = true := by decide +kernel
theorem kc_X8_textTold_20 : mx_kS dm_X8_textTold 20 dm_X8_in 3 := ⟨81, by decide +kernel, md_X8_in, cs_X8_81⟩
theorem br_X8_textTold_23 : mx_brk cX8_textTold 23 (.ifCond .ne 6) 29 26 = true := by decide +kernel
theorem bk_X8_textTold_26 : mx_blk 8 cX8_textTold 26 [.inr (.int (-1000000001))] 28 = true := by decide +kernel
theorem rt_X8_textTold_28 : mx_kr dm_X8_textTold 28 .int := ⟨by decide +kernel, rfl⟩
theorem bk_X8_textTold_29 : mx_blk 8 cX8_textTold 29 [.inl (.iload 2)] 30 = true := by decide +kernel
theorem br_X8_textTold_30 : mx_brk cX8_textTold 30 (.ifCond .ne 21) 51 33 = true := by decide +kernel
theorem bk_X8_textTold_33 : mx_blk 8 cX8_textTold 33 [.inl (.aload 0), .inl (.getfield 512), .inr (.int 55), .inr (.int 2), .inl (.iload 1), .inl .imul, .inl .iadd, .inl .iaload, .inr (.int 1000), .inl .idiv] 48 = true := by decide +kernel
theorem gt_X8_textTold_48 : mx_jmp cX8_textTold 48 64 = true := by decide +kernel
theorem bk_X8_textTold_51 : mx_blk 8 cX8_textTold 51 [.inl (.aload 0), .inl (.getfield 512), .inr (.int 55), .inr (.int 2), .inl (.iload 1), .inl .imul, .inl .iadd, .inr (.int 1), .inl .iadd, .inl .iaload] 64 = true := by decide +kernel
theorem rt_X8_textTold_64 : mx_kr dm_X8_textTold 64 .int := ⟨by decide +kernel, rfl⟩
theorem bk_X8_counts_0 : mx_blk 8 cX8_counts 0 [.inl (.aload 0), .inl (.getfield 512), .inr (.int 6), .inl .iaload, .inr (.int 1), .inl .isub, .inl (.istore 2)] 10 = true := by decide +kernel
theorem bk_X8_counts_10 : mx_blk 8 cX8_counts 10 [.inl (.iload 2)] 11 = true := by decide +kernel
theorem br_X8_counts_11 : mx_brk cX8_counts 11 (.ifCond .lt 30) 41 14 = true := by decide +kernel
theorem bk_X8_counts_14 : mx_blk 8 cX8_counts 14 [.inl (.aload 0), .inl (.getfield 512), .inr (.int 55), .inr (.int 2), .inl (.iload 2), .inl .imul, .inl .iadd, .inl .iaload, .inr (.int 1000), .inl .idiv, .inl (.iload 1)] 30 = true := by decide +kernel
theorem br_X8_counts_30 : mx_brk cX8_counts 30 (.if_icmp .ne 5) 35 33 = true := by decide +kernel
theorem bk_X8_counts_33 : mx_blk 8 cX8_counts 33 [.inl (.iload 2)] 34 = true := by decide +kernel
theorem rt_X8_counts_34 : mx_kr dm_X8_counts 34 .int := ⟨by decide +kernel, rfl⟩
theorem bk_X8_counts_35 : mx_blk 8 cX8_counts 35 [.inl (.iinc 2 (-1))] 38 = true := by decide +kernel
theorem gt_X8_counts_38 : mx_jmp cX8_counts 38 10 = true := by decide +kernel
theorem bk_X8_counts_41 : mx_blk 8 cX8_counts 41 [.inr (.int (-1))] 42 = true := by decide +kernel
theorem rt_X8_counts_42 : mx_kr dm_X8_counts 42 .int := ⟨by decide +kernel, rfl⟩
theorem bk_X8_why_0 : mx_blk 8 cX8_why 0 [.inl (.iload 1), .inr (.int 0), .inr (.int 2)] 3 = true := by decide +kernel
theorem kc_X8_why_3 : mx_kS dm_X8_why 3 dm_X8_in 3 := ⟨81, by decide +kernel, md_X8_in, cs_X8_81⟩
theorem br_X8_why_6 : mx_brk cX8_why 6 (.ifCond .ne 6) 12 9 = true := by decide +kernel
theorem bk_X8_why_9 : mx_blk 8 cX8_why 9 [.inr (.int (-1000000001))] 11 = true := by decide +kernel
theorem rt_X8_why_11 : mx_kr dm_X8_why 11 .int := ⟨by decide +kernel, rfl⟩
theorem bk_X8_why_12 : mx_blk 8 cX8_why 12 [.inl (.aload 0), .inl (.iload 1)] 14 = true := by decide +kernel
theorem kc_X8_why_14 : mx_kV dm_X8_why 14 dm_X8_counts 8 1 := ⟨109, by decide +kernel, md_X8_counts, cv_X8_109, by decide, by decide +kernel⟩
theorem bk_X8_why_17 : mx_blk 8 cX8_why 17 [.inl (.istore 2), .inl (.iload 2)] 19 = true := by decide +kernel
theorem br_X8_why_19 : mx_brk cX8_why 19 (.ifCond .ge 8) 27 22 = true := by decide +kernel
theorem bk_X8_why_22 : mx_blk 8 cX8_why 22 [.inr (.int (-1000000005))] 24 = true := by decide +kernel
theorem gt_X8_why_24 : mx_jmp cX8_why 24 28 = true := by decide +kernel
theorem bk_X8_why_27 : mx_blk 8 cX8_why 27 [.inl (.iload 2)] 28 = true := by decide +kernel
theorem rt_X8_why_28 : mx_kr dm_X8_why 28 .int := ⟨by decide +kernel, rfl⟩
theorem bk_X8_two_0 : mx_blk 8 cX8_two 0 [.inl (.iload 0)] 1 = true := by decide +kernel
theorem sw_X8_two_1 : mx_swk cX8_two 1 [(-8, 117), (-7, 113), (-6, 109), (-5, 98), (-4, 87), (-3, 76), (-2, 62), (-1, 48)] 121 = true := by decide +kernel
theorem bk_X8_two_48 : mx_blk 8 cX8_two 48 [.inl (.iload 1)] 49 = true := by decide +kernel
theorem br_X8_two_49 : mx_brk cX8_two 49 (.ifCond .ne 7) 56 52 = true := by decide +kernel
theorem bk_X8_two_52 : mx_blk 8 cX8_two 52 [.inl (.iload 2)] 53 = true := by decide +kernel
theorem br_X8_two_53 : mx_brk cX8_two 53 (.ifCond .eq 7) 60 56 = true := by decide +kernel
theorem bk_X8_two_56 : mx_blk 8 cX8_two 56 [.inr (.int 1)] 57 = true := by decide +kernel
theorem gt_X8_two_57 : mx_jmp cX8_two 57 61 = true := by decide +kernel
theorem bk_X8_two_60 : mx_blk 8 cX8_two 60 [.inr (.int 0)] 61 = true := by decide +kernel
theorem rt_X8_two_61 : mx_kr dm_X8_two 61 .int := ⟨by decide +kernel, rfl⟩
theorem bk_X8_two_62 : mx_blk 8 cX8_two 62 [.inl (.iload 1)] 63 = true := by decide +kernel
theorem br_X8_two_63 : mx_brk cX8_two 63 (.ifCond .eq 11) 74 66 = true := by decide +kernel
theorem bk_X8_two_66 : mx_blk 8 cX8_two 66 [.inl (.iload 2)] 67 = true := by decide +kernel
theorem br_X8_two_67 : mx_brk cX8_two 67 (.ifCond .eq 7) 74 70 = true := by decide +kernel
theorem bk_X8_two_70 : mx_blk 8 cX8_two 70 [.inr (.int 1)] 71 = true := by decide +kernel
theorem gt_X8_two_71 : mx_jmp cX8_two 71 75 = true := by decide +kernel
theorem bk_X8_two_74 : mx_blk 8 cX8_two 74 [.inr (.int 0)] 75 = true := by decide +kernel
theorem rt_X8_two_75 : mx_kr dm_X8_two 75 .int := ⟨by decide +kernel, rfl⟩
theorem bk_X8_two_76 : mx_blk 8 cX8_two 76 [.inl (.iload 1), .inl (.iload 2)] 78 = true := by decide +kernel
theorem br_X8_two_78 : mx_brk cX8_two 78 (.if_icmp .ge 7) 85 81 = true := by decide +kernel
theorem bk_X8_two_81 : mx_blk 8 cX8_two 81 [.inr (.int 1)] 82 = true := by decide +kernel
theorem gt_X8_two_82 : mx_jmp cX8_two 82 86 = true := by decide +kernel
theorem bk_X8_two_85 : mx_blk 8 cX8_two 85 [.inr (.int 0)] 86 = true := by decide +kernel
theorem rt_X8_two_86 : mx_kr dm_X8_two 86 .int := ⟨by decide +kernel, rfl⟩
theorem bk_X8_two_87 : mx_blk 8 cX8_two 87 [.inl (.iload 1), .inl (.iload 2)] 89 = true := by decide +kernel
theorem br_X8_two_89 : mx_brk cX8_two 89 (.if_icmp .ne 7) 96 92 = true := by decide +kernel
theorem bk_X8_two_92 : mx_blk 8 cX8_two 92 [.inr (.int 1)] 93 = true := by decide +kernel
theorem gt_X8_two_93 : mx_jmp cX8_two 93 97 = true := by decide +kernel
theorem bk_X8_two_96 : mx_blk 8 cX8_two 96 [.inr (.int 0)] 97 = true := by decide +kernel
theorem rt_X8_two_97 : mx_kr dm_X8_two 97 .int := ⟨by decide +kernel, rfl⟩
theorem bk_X8_two_98 : mx_blk 8 cX8_two 98 [.inl (.iload 1), .inl (.iload 2)] 100 = true := by decide +kernel
theorem br_X8_two_100 : mx_brk cX8_two 100 (.if_icmp .le 7) 107 103 = true := by decide +kernel
theorem bk_X8_two_103 : mx_blk 8 cX8_two 103 [.inr (.int 1)] 104 = true := by decide +kernel
theorem gt_X8_two_104 : mx_jmp cX8_two 104 108 = true := by decide +kernel
theorem bk_X8_two_107 : mx_blk 8 cX8_two 107 [.inr (.int 0)] 108 = true := by decide +kernel
theorem rt_X8_two_108 : mx_kr dm_X8_two 108 .int := ⟨by decide +kernel, rfl⟩
theorem bk_X8_two_109 : mx_blk 8 cX8_two 109 [.inl (.iload 1), .inl (.iload 2), .inl .iadd] 112 = true := by decide +kernel
theorem rt_X8_two_112 : mx_kr dm_X8_two 112 .int := ⟨by decide +kernel, rfl⟩
theorem bk_X8_two_113 : mx_blk 8 cX8_two 113 [.inl (.iload 1), .inl (.iload 2), .inl .isub] 116 = true := by decide +kernel
theorem rt_X8_two_116 : mx_kr dm_X8_two 116 .int := ⟨by decide +kernel, rfl⟩
theorem bk_X8_two_117 : mx_blk 8 cX8_two 117 [.inl (.iload 1), .inl (.iload 2), .inl .imul] 120 = true := by decide +kernel
theorem rt_X8_two_120 : mx_kr dm_X8_two 120 .int := ⟨by decide +kernel, rfl⟩
theorem bk_X8_two_121 : mx_blk 8 cX8_two 121 [.inl (.iload 2)] 122 = true := by decide +kernel
theorem br_X8_two_122 : mx_brk cX8_two 122 (.ifCond .ne 7) 129 125 = true := by decide +kernel
theorem bk_X8_two_125 : mx_blk 8 cX8_two 125 [.inr (.int 0)] 126 = true := by decide +kernel
theorem gt_X8_two_126 : mx_jmp cX8_two 126 132 = true := by decide +kernel
theorem bk_X8_two_129 : mx_blk 8 cX8_two 129 [.inl (.iload 1), .inl (.iload 2), .inl .idiv] 132 = true := by decide +kernel
theorem rt_X8_two_132 : mx_kr dm_X8_two 132 .int := ⟨by decide +kernel, rfl⟩
theorem bk_X8_worksOut_0 : mx_blk 8 cX8_worksOut 0 [.inr (.int 0), .inl (.istore 2), .inl (.aload 0), .inl (.getfield 512), .inr (.int 55), .inr (.int 2), .inl (.iload 1), .inl .imul, .inl .iadd, .inl .iaload, .inr (.int 1000), .inl .irem, .inl (.istore 3), .inr (.int 0), .inl (.istore 4)] 21 = true := by decide +kernel
theorem bk_X8_worksOut_21 : mx_blk 8 cX8_worksOut 21 [.inl (.iload 4), .inl (.iload 3)] 24 = true := by decide +kernel
theorem br_X8_worksOut_24 : mx_brk cX8_worksOut 24 (.if_icmp .ge 131) 155 27 = true := by decide +kernel
theorem bk_X8_worksOut_27 : mx_blk 8 cX8_worksOut 27 [.inl (.aload 0), .inl (.getfield 512), .inr (.int 83), .inr (.int 96), .inl (.iload 1), .inl .imul, .inl .iadd, .inl (.iload 4), .inl .iadd, .inl .iaload, .inl (.istore 5), .inl (.iload 5)] 46 = true := by decide +kernel
theorem br_X8_worksOut_46 : mx_brk cX8_worksOut 46 (.ifCond .lt 39) 85 49 = true := by decide +kernel
theorem bk_X8_worksOut_49 : mx_blk 8 cX8_worksOut 49 [.inl (.aload 0), .inl (.getfield 535), .inl (.iload 2), .inl (.iload 5), .inr (.int 10000)] 59 = true := by decide +kernel
theorem br_X8_worksOut_59 : mx_brk cX8_worksOut 59 (.if_icmp .ge 8) 67 62 = true := by decide +kernel
theorem bk_X8_worksOut_62 : mx_blk 8 cX8_worksOut 62 [.inl (.iload 5)] 64 = true := by decide +kernel
theorem gt_X8_worksOut_64 : mx_jmp cX8_worksOut 64 78 = true := by decide +kernel
theorem bk_X8_worksOut_67 : mx_blk 8 cX8_worksOut 67 [.inl (.aload 0), .inl (.getfield 536), .inl (.iload 5), .inr (.int 10000), .inl .isub, .inl .iaload] 78 = true := by decide +kernel
theorem bk_X8_worksOut_78 : mx_blk 8 cX8_worksOut 78 [.inl .iastore, .inl (.iinc 2 1)] 82 = true := by decide +kernel
theorem gt_X8_worksOut_82 : mx_jmp cX8_worksOut 82 149 = true := by decide +kernel
theorem bk_X8_worksOut_85 : mx_blk 8 cX8_worksOut 85 [.inl (.iload 5), .inr (.int (-10))] 89 = true := by decide +kernel
theorem br_X8_worksOut_89 : mx_brk cX8_worksOut 89 (.if_icmp .ne 30) 119 92 = true := by decide +kernel
theorem bk_X8_worksOut_92 : mx_blk 8 cX8_worksOut 92 [.inl (.aload 0), .inl (.getfield 535), .inl (.iload 2), .inr (.int 1), .inl .isub, .inl (.aload 0), .inl (.getfield 535), .inl (.iload 2), .inr (.int 1), .inl .isub, .inl .iaload] 107 = true := by decide +kernel
theorem br_X8_worksOut_107 : mx_brk cX8_worksOut 107 (.ifCond .ne 7) 114 110 = true := by decide +kernel
theorem bk_X8_worksOut_110 : mx_blk 8 cX8_worksOut 110 [.inr (.int 1)] 111 = true := by decide +kernel
theorem gt_X8_worksOut_111 : mx_jmp cX8_worksOut 111 115 = true := by decide +kernel
theorem bk_X8_worksOut_114 : mx_blk 8 cX8_worksOut 114 [.inr (.int 0)] 115 = true := by decide +kernel
theorem bk_X8_worksOut_115 : mx_blk 8 cX8_worksOut 115 [.inl .iastore] 116 = true := by decide +kernel
theorem gt_X8_worksOut_116 : mx_jmp cX8_worksOut 116 149 = true := by decide +kernel
theorem bk_X8_worksOut_119 : mx_blk 8 cX8_worksOut 119 [.inl (.iinc 2 (-1)), .inl (.aload 0), .inl (.getfield 535), .inl (.iload 2), .inr (.int 1), .inl .isub, .inl (.iload 5), .inl (.aload 0), .inl (.getfield 535), .inl (.iload 2), .inr (.int 1), .inl .isub, .inl .iaload, .inl (.aload 0), .inl (.getfield 535), .inl (.iload 2), .inl .iaload] 145 = true := by decide +kernel
theorem kc_X8_worksOut_145 : mx_kS dm_X8_worksOut 145 dm_X8_two 3 := ⟨240, by decide +kernel, md_X8_two, cs_X8_240⟩
theorem bk_X8_worksOut_148 : mx_blk 8 cX8_worksOut 148 [.inl .iastore] 149 = true := by decide +kernel
theorem bk_X8_worksOut_149 : mx_blk 8 cX8_worksOut 149 [.inl (.iinc 4 1)] 152 = true := by decide +kernel
theorem gt_X8_worksOut_152 : mx_jmp cX8_worksOut 152 21 = true := by decide +kernel
theorem bk_X8_worksOut_155 : mx_blk 8 cX8_worksOut 155 [.inl (.aload 0), .inl (.getfield 535), .inr (.int 0), .inl .iaload] 161 = true := by decide +kernel
theorem rt_X8_worksOut_161 : mx_kr dm_X8_worksOut 161 .int := ⟨by decide +kernel, rfl⟩
theorem bk_X8_isSheet_0 : mx_blk 8 cX8_isSheet 0 [.inl (.iload 0), .inr (.int 0), .inr (.int 3)] 3 = true := by decide +kernel
theorem kc_X8_isSheet_3 : mx_kS dm_X8_isSheet 3 dm_X8_in 3 := ⟨81, by decide +kernel, md_X8_in, cs_X8_81⟩
theorem rt_X8_isSheet_6 : mx_kr dm_X8_isSheet 6 .boolean := ⟨by decide +kernel, rfl⟩
theorem bk_X8_isSlot_0 : mx_blk 8 cX8_isSlot 0 [.inl (.iload 0), .inr (.int 0), .inr (.int 4)] 3 = true := by decide +kernel
theorem kc_X8_isSlot_3 : mx_kS dm_X8_isSlot 3 dm_X8_in 3 := ⟨81, by decide +kernel, md_X8_in, cs_X8_81⟩
theorem rt_X8_isSlot_6 : mx_kr dm_X8_isSlot 6 .boolean := ⟨by decide +kernel, rfl⟩
theorem bk_X8_sheet_0 : mx_blk 8 cX8_sheet 0 [.inl (.iload 1)] 1 = true := by decide +kernel
theorem kc_X8_sheet_1 : mx_kS dm_X8_sheet 1 dm_X8_isSheet 1 := ⟨164, by decide +kernel, md_X8_isSheet, cs_X8_164⟩
theorem br_X8_sheet_4 : mx_brk cX8_sheet 4 (.ifCond .eq 22) 26 7 = true := by decide +kernel
theorem bk_X8_sheet_7 : mx_blk 8 cX8_sheet 7 [.inl (.iload 2), .inr (.int (-1)), .inr (.int 1)] 10 = true := by decide +kernel
theorem kc_X8_sheet_10 : mx_kS dm_X8_sheet 10 dm_X8_in 3 := ⟨81, by decide +kernel, md_X8_in, cs_X8_81⟩
theorem br_X8_sheet_13 : mx_brk cX8_sheet 13 (.ifCond .eq 13) 26 16 = true := by decide +kernel
theorem bk_X8_sheet_16 : mx_blk 8 cX8_sheet 16 [.inl (.iload 2)] 17 = true := by decide +kernel
theorem br_X8_sheet_17 : mx_brk cX8_sheet 17 (.ifCond .lt 12) 29 20 = true := by decide +kernel
theorem bk_X8_sheet_20 : mx_blk 8 cX8_sheet 20 [.inl (.iload 3), .inr (.int 24)] 23 = true := by decide +kernel
theorem br_X8_sheet_23 : mx_brk cX8_sheet 23 (.if_icmp .le 6) 29 26 = true := by decide +kernel
theorem bk_X8_sheet_26 : mx_blk 8 cX8_sheet 26 [.inr (.int (-1000000001))] 28 = true := by decide +kernel
theorem rt_X8_sheet_28 : mx_kr dm_X8_sheet 28 .int := ⟨by decide +kernel, rfl⟩
theorem bk_X8_sheet_29 : mx_blk 8 cX8_sheet 29 [.inl (.iload 2)] 30 = true := by decide +kernel
theorem br_X8_sheet_30 : mx_brk cX8_sheet 30 (.ifCond .lt 10) 40 33 = true := by decide +kernel
theorem bk_X8_sheet_33 : mx_blk 8 cX8_sheet 33 [.inl (.iload 3)] 34 = true := by decide +kernel
theorem br_X8_sheet_34 : mx_brk cX8_sheet 34 (.ifCond .ge 6) 40 37 = true := by decide +kernel
theorem bk_X8_sheet_37 : mx_blk 8 cX8_sheet 37 [.inr (.int (-1000000014))] 39 = true := by decide +kernel
theorem rt_X8_sheet_39 : mx_kr dm_X8_sheet 39 .int := ⟨by decide +kernel, rfl⟩
theorem bk_X8_sheet_40 : mx_blk 8 cX8_sheet 40 [.inl (.aload 0), .inl (.getfield 537), .inl (.iload 1), .inl (.iload 2), .inl .iastore, .inl (.aload 0), .inl (.getfield 538), .inl (.iload 1), .inl (.iload 2)] 53 = true := by decide +kernel
theorem br_X8_sheet_53 : mx_brk cX8_sheet 53 (.ifCond .ge 7) 60 56 = true := by decide +kernel
theorem bk_X8_sheet_56 : mx_blk 8 cX8_sheet 56 [.inr (.int 0)] 57 = true := by decide +kernel
theorem gt_X8_sheet_57 : mx_jmp cX8_sheet 57 61 = true := by decide +kernel
theorem bk_X8_sheet_60 : mx_blk 8 cX8_sheet 60 [.inl (.iload 3)] 61 = true := by decide +kernel
theorem bk_X8_sheet_61 : mx_blk 8 cX8_sheet 61 [.inl .iastore, .inr (.int 0), .inl (.istore 4)] 65 = true := by decide +kernel
theorem bk_X8_sheet_65 : mx_blk 8 cX8_sheet 65 [.inl (.iload 4), .inr (.int 24)] 69 = true := by decide +kernel
theorem br_X8_sheet_69 : mx_brk cX8_sheet 69 (.if_icmp .ge 22) 91 72 = true := by decide +kernel
theorem bk_X8_sheet_72 : mx_blk 8 cX8_sheet 72 [.inl (.aload 0), .inl (.getfield 539), .inr (.int 24), .inl (.iload 1), .inl .imul, .inl (.iload 4), .inl .iadd, .inr (.int 0), .inl .iastore, .inl (.iinc 4 1)] 88 = true := by decide +kernel
theorem gt_X8_sheet_88 : mx_jmp cX8_sheet 88 65 = true := by decide +kernel
theorem bk_X8_sheet_91 : mx_blk 8 cX8_sheet 91 [.inl (.aload 0), .inl (.getfield 538), .inl (.iload 1), .inl .iaload] 97 = true := by decide +kernel
theorem rt_X8_sheet_97 : mx_kr dm_X8_sheet 97 .int := ⟨by decide +kernel, rfl⟩
theorem bk_X8_mark_0 : mx_blk 8 cX8_mark 0 [.inl (.iload 1)] 1 = true := by decide +kernel
theorem kc_X8_mark_1 : mx_kS dm_X8_mark 1 dm_X8_isSheet 1 := ⟨164, by decide +kernel, md_X8_isSheet, cs_X8_164⟩
theorem br_X8_mark_4 : mx_brk cX8_mark 4 (.ifCond .ne 6) 10 7 = true := by decide +kernel
theorem bk_X8_mark_7 : mx_blk 8 cX8_mark 7 [.inr (.int (-1000000001))] 9 = true := by decide +kernel
theorem rt_X8_mark_9 : mx_kr dm_X8_mark 9 .int := ⟨by decide +kernel, rfl⟩
theorem bk_X8_mark_10 : mx_blk 8 cX8_mark 10 [.inl (.aload 0), .inl (.getfield 537), .inl (.iload 1), .inl .iaload] 16 = true := by decide +kernel
theorem br_X8_mark_16 : mx_brk cX8_mark 16 (.ifCond .ge 6) 22 19 = true := by decide +kernel
theorem bk_X8_mark_19 : mx_blk 8 cX8_mark 19 [.inr (.int (-1000000011))] 21 = true := by decide +kernel
theorem rt_X8_mark_21 : mx_kr dm_X8_mark 21 .int := ⟨by decide +kernel, rfl⟩
theorem bk_X8_mark_22 : mx_blk 8 cX8_mark 22 [.inl (.iload 2), .inr (.int 0), .inl (.aload 0), .inl (.getfield 538), .inl (.iload 1), .inl .iaload, .inr (.int 1), .inl .isub] 32 = true := by decide +kernel
theorem kc_X8_mark_32 : mx_kS dm_X8_mark 32 dm_X8_in 3 := ⟨81, by decide +kernel, md_X8_in, cs_X8_81⟩
theorem br_X8_mark_35 : mx_brk cX8_mark 35 (.ifCond .ne 6) 41 38 = true := by decide +kernel
theorem bk_X8_mark_38 : mx_blk 8 cX8_mark 38 [.inr (.int (-1000000013))] 40 = true := by decide +kernel
theorem rt_X8_mark_40 : mx_kr dm_X8_mark 40 .int := ⟨by decide +kernel, rfl⟩
theorem bk_X8_mark_41 : mx_blk 8 cX8_mark 41 [.inl (.aload 0), .inl (.getfield 537), .inl (.iload 1), .inl .iaload] 47 = true := by decide +kernel
theorem br_X8_mark_47 : mx_brk cX8_mark 47 (.ifCond .ne 12) 59 50 = true := by decide +kernel
theorem bk_X8_mark_50 : mx_blk 8 cX8_mark 50 [.inl (.iload 3), .inr (.int (-1000000005))] 53 = true := by decide +kernel
theorem br_X8_mark_53 : mx_brk cX8_mark 53 (.if_icmp .ne 6) 59 56 = true := by decide +kernel
theorem bk_X8_mark_56 : mx_blk 8 cX8_mark 56 [.inr (.int (-1000000012))] 58 = true := by decide +kernel
theorem rt_X8_mark_58 : mx_kr dm_X8_mark 58 .int := ⟨by decide +kernel, rfl⟩
theorem bk_X8_mark_59 : mx_blk 8 cX8_mark 59 [.inl (.aload 0), .inl (.getfield 537), .inl (.iload 1), .inl .iaload, .inr (.int 1)] 66 = true := by decide +kernel
theorem br_X8_mark_66 : mx_brk cX8_mark 66 (.if_icmp .ne 23) 89 69 = true := by decide +kernel
theorem bk_X8_mark_69 : mx_blk 8 cX8_mark 69 [.inl (.iload 3), .inr (.int (-1000000005))] 72 = true := by decide +kernel
theorem br_X8_mark_72 : mx_brk cX8_mark 72 (.if_icmp .eq 17) 89 75 = true := by decide +kernel
theorem bk_X8_mark_75 : mx_blk 8 cX8_mark 75 [.inl (.iload 3), .inr (.int (-99999)), .inr (.int 99999)] 80 = true := by decide +kernel
theorem kc_X8_mark_80 : mx_kS dm_X8_mark 80 dm_X8_in 3 := ⟨81, by decide +kernel, md_X8_in, cs_X8_81⟩
theorem br_X8_mark_83 : mx_brk cX8_mark 83 (.ifCond .ne 6) 89 86 = true := by decide +kernel
theorem bk_X8_mark_86 : mx_blk 8 cX8_mark 86 [.inr (.int (-1000000001))] 88 = true := by decide +kernel
theorem rt_X8_mark_88 : mx_kr dm_X8_mark 88 .int := ⟨by decide +kernel, rfl⟩
theorem bk_X8_mark_89 : mx_blk 8 cX8_mark 89 [.inl (.aload 0), .inl (.getfield 539), .inr (.int 24), .inl (.iload 1), .inl .imul, .inl (.iload 2), .inl .iadd, .inl (.aload 0), .inl (.getfield 537), .inl (.iload 1), .inl .iaload] 105 = true := by decide +kernel
theorem br_X8_mark_105 : mx_brk cX8_mark 105 (.ifCond .ne 8) 113 108 = true := by decide +kernel
theorem bk_X8_mark_108 : mx_blk 8 cX8_mark 108 [.inl (.iload 3), .inl .i2s] 110 = true := by decide +kernel
theorem gt_X8_mark_110 : mx_jmp cX8_mark 110 114 = true := by decide +kernel
theorem bk_X8_mark_113 : mx_blk 8 cX8_mark 113 [.inl (.iload 3)] 114 = true := by decide +kernel
theorem bk_X8_mark_114 : mx_blk 8 cX8_mark 114 [.inl .iastore, .inr (.int 1)] 116 = true := by decide +kernel
theorem rt_X8_mark_116 : mx_kr dm_X8_mark 116 .int := ⟨by decide +kernel, rfl⟩
theorem bk_X8_pour_0 : mx_blk 8 cX8_pour 0 [.inl (.iload 1)] 1 = true := by decide +kernel
theorem kc_X8_pour_1 : mx_kS dm_X8_pour 1 dm_X8_isSheet 1 := ⟨164, by decide +kernel, md_X8_isSheet, cs_X8_164⟩
theorem br_X8_pour_4 : mx_brk cX8_pour 4 (.ifCond .ne 6) 10 7 = true := by decide +kernel
theorem bk_X8_pour_7 : mx_blk 8 cX8_pour 7 [.inr (.int (-1000000001))] 9 = true := by decide +kernel
theorem rt_X8_pour_9 : mx_kr dm_X8_pour 9 .int := ⟨by decide +kernel, rfl⟩
theorem bk_X8_pour_10 : mx_blk 8 cX8_pour 10 [.inl (.aload 0), .inl (.getfield 537), .inl (.iload 1), .inl .iaload] 16 = true := by decide +kernel
theorem br_X8_pour_16 : mx_brk cX8_pour 16 (.ifCond .ge 6) 22 19 = true := by decide +kernel
theorem bk_X8_pour_19 : mx_blk 8 cX8_pour 19 [.inr (.int (-1000000011))] 21 = true := by decide +kernel
theorem rt_X8_pour_21 : mx_kr dm_X8_pour 21 .int := ⟨by decide +kernel, rfl⟩
theorem bk_X8_pour_22 : mx_blk 8 cX8_pour 22 [.inr (.int 0), .inl (.istore 2), .inr (.int 0), .inl (.istore 3)] 26 = true := by decide +kernel
theorem bk_X8_pour_26 : mx_blk 8 cX8_pour 26 [.inl (.iload 3), .inl (.aload 0), .inl (.getfield 538), .inl (.iload 1), .inl .iaload] 33 = true := by decide +kernel
theorem br_X8_pour_33 : mx_brk cX8_pour 33 (.if_icmp .ge 86) 119 36 = true := by decide +kernel
theorem bk_X8_pour_36 : mx_blk 8 cX8_pour 36 [.inl (.iload 3), .inl (.aload 0), .inl (.getfield 512), .inr (.int 1), .inl .iaload] 43 = true := by decide +kernel
theorem br_X8_pour_43 : mx_brk cX8_pour 43 (.if_icmp .ge 76) 119 46 = true := by decide +kernel
theorem bk_X8_pour_46 : mx_blk 8 cX8_pour 46 [.inl (.aload 0), .inl (.getfield 539), .inr (.int 24), .inl (.iload 1), .inl .imul, .inl (.iload 3), .inl .iadd, .inl .iaload, .inl (.istore 4), .inl (.iload 4), .inr (.int (-1000000005))] 63 = true := by decide +kernel
theorem br_X8_pour_63 : mx_brk cX8_pour 63 (.if_icmp .ne 12) 75 66 = true := by decide +kernel
theorem bk_X8_pour_66 : mx_blk 8 cX8_pour 66 [.inl (.aload 0), .inl (.iload 3), .inr (.int 1)] 69 = true := by decide +kernel
theorem kc_X8_pour_69 : mx_kV dm_X8_pour 69 dm_X8_of 8 2 := ⟨95, by decide +kernel, md_X8_of, cv_X8_95, by decide, by decide +kernel⟩
theorem gt_X8_pour_72 : mx_jmp cX8_pour 72 83 = true := by decide +kernel
theorem bk_X8_pour_75 : mx_blk 8 cX8_pour 75 [.inl (.iload 4), .inr (.int 0), .inr (.int 9)] 80 = true := by decide +kernel
theorem kc_X8_pour_80 : mx_kS dm_X8_pour 80 dm_X8_within 3 := ⟨115, by decide +kernel, md_X8_within, cs_X8_115⟩
theorem bk_X8_pour_83 : mx_blk 8 cX8_pour 83 [.inl (.istore 5), .inl (.iload 2), .inl (.aload 0), .inr (.int 7), .inr (.int 8), .inl (.iload 3), .inl .imul, .inl .iadd, .inr (.int 1), .inl .iadd, .inl (.iload 5)] 98 = true := by decide +kernel
theorem kc_X8_pour_98 : mx_kV dm_X8_pour 98 dm_X8_becomes 8 2 := ⟨127, by decide +kernel, md_X8_becomes, cv_X8_127, by decide, by decide +kernel⟩
theorem bk_X8_pour_101 : mx_blk 8 cX8_pour 101 [.inl (.iload 5)] 103 = true := by decide +kernel
theorem br_X8_pour_103 : mx_brk cX8_pour 103 (.if_icmp .ne 7) 110 106 = true := by decide +kernel
theorem bk_X8_pour_106 : mx_blk 8 cX8_pour 106 [.inr (.int 0)] 107 = true := by decide +kernel
theorem gt_X8_pour_107 : mx_jmp cX8_pour 107 111 = true := by decide +kernel
theorem bk_X8_pour_110 : mx_blk 8 cX8_pour 110 [.inr (.int 1)] 111 = true := by decide +kernel
theorem bk_X8_pour_111 : mx_blk 8 cX8_pour 111 [.inl .iadd, .inl (.istore 2), .inl (.iinc 3 1)] 116 = true := by decide +kernel
theorem gt_X8_pour_116 : mx_jmp cX8_pour 116 26 = true := by decide +kernel
theorem bk_X8_pour_119 : mx_blk 8 cX8_pour 119 [.inl (.iload 2)] 120 = true := by decide +kernel
theorem rt_X8_pour_120 : mx_kr dm_X8_pour 120 .int := ⟨by decide +kernel, rfl⟩
theorem bk_X8_reads_0 : mx_blk 8 cX8_reads 0 [.inl (.iload 1)] 1 = true := by decide +kernel
theorem kc_X8_reads_1 : mx_kS dm_X8_reads 1 dm_X8_isSheet 1 := ⟨164, by decide +kernel, md_X8_isSheet, cs_X8_164⟩
theorem br_X8_reads_4 : mx_brk cX8_reads 4 (.ifCond .eq 11) 15 7 = true := by decide +kernel
theorem bk_X8_reads_7 : mx_blk 8 cX8_reads 7 [.inl (.aload 0), .inl (.iload 2)] 9 = true := by decide +kernel
theorem kc_X8_reads_9 : mx_kV dm_X8_reads 9 dm_X8_isDistrict 8 1 := ⟨98, by decide +kernel, md_X8_isDistrict, cv_X8_98, by decide, by decide +kernel⟩
theorem br_X8_reads_12 : mx_brk cX8_reads 12 (.ifCond .ne 6) 18 15 = true := by decide +kernel
theorem bk_X8_reads_15 : mx_blk 8 cX8_reads 15 [.inr (.int (-1000000001))] 17 = true := by decide +kernel
theorem rt_X8_reads_17 : mx_kr dm_X8_reads 17 .int := ⟨by decide +kernel, rfl⟩
theorem bk_X8_reads_18 : mx_blk 8 cX8_reads 18 [.inl (.aload 0), .inl (.getfield 537), .inl (.iload 1), .inl .iaload] 24 = true := by decide +kernel
theorem br_X8_reads_24 : mx_brk cX8_reads 24 (.ifCond .ge 6) 30 27 = true := by decide +kernel
theorem bk_X8_reads_27 : mx_blk 8 cX8_reads 27 [.inr (.int (-1000000011))] 29 = true := by decide +kernel
theorem rt_X8_reads_29 : mx_kr dm_X8_reads 29 .int := ⟨by decide +kernel, rfl⟩
theorem bk_X8_reads_30 : mx_blk 8 cX8_reads 30 [.inl (.aload 0)] 31 = true := by decide +kernel
theorem kc_X8_reads_31 : mx_kV dm_X8_reads 31 dm_X8_thinks 8 0 := ⟨154, by decide +kernel, md_X8_thinks, cv_X8_154, by decide, by decide +kernel⟩
theorem bk_X8_reads_34 : mx_blk 8 cX8_reads 34 [.inr (.int (-1000000005)), .inl (.istore 3), .inr (.int 0), .inl (.istore 4)] 40 = true := by decide +kernel
theorem bk_X8_reads_40 : mx_blk 8 cX8_reads 40 [.inl (.iload 4), .inl (.aload 0), .inl (.getfield 538), .inl (.iload 1), .inl .iaload] 48 = true := by decide +kernel
theorem br_X8_reads_48 : mx_brk cX8_reads 48 (.if_icmp .ge 61) 109 51 = true := by decide +kernel
theorem bk_X8_reads_51 : mx_blk 8 cX8_reads 51 [.inl (.iload 3), .inr (.int (-1000000005))] 54 = true := by decide +kernel
theorem br_X8_reads_54 : mx_brk cX8_reads 54 (.if_icmp .ne 55) 109 57 = true := by decide +kernel
theorem bk_X8_reads_57 : mx_blk 8 cX8_reads 57 [.inl (.aload 0), .inl (.getfield 539), .inr (.int 24), .inl (.iload 1), .inl .imul, .inl (.iload 4), .inl .iadd, .inl .iaload, .inl (.istore 5), .inl (.iload 5), .inr (.int (-1000000005))] 75 = true := by decide +kernel
theorem br_X8_reads_75 : mx_brk cX8_reads 75 (.if_icmp .eq 19) 94 78 = true := by decide +kernel
theorem bk_X8_reads_78 : mx_blk 8 cX8_reads 78 [.inl (.iload 5), .inl (.aload 0), .inl (.iload 2), .inr (.int 4)] 83 = true := by decide +kernel
theorem kc_X8_reads_83 : mx_kV dm_X8_reads 83 dm_X8_of 8 2 := ⟨95, by decide +kernel, md_X8_of, cv_X8_95, by decide, by decide +kernel⟩
theorem br_X8_reads_86 : mx_brk cX8_reads 86 (.if_icmp .eq 8) 94 89 = true := by decide +kernel
theorem bk_X8_reads_89 : mx_blk 8 cX8_reads 89 [.inl (.iload 4)] 91 = true := by decide +kernel
theorem gt_X8_reads_91 : mx_jmp cX8_reads 91 96 = true := by decide +kernel
theorem bk_X8_reads_94 : mx_blk 8 cX8_reads 94 [.inr (.int (-1000000005))] 96 = true := by decide +kernel
theorem bk_X8_reads_96 : mx_blk 8 cX8_reads 96 [.inl (.istore 3), .inl (.aload 0)] 98 = true := by decide +kernel
theorem kc_X8_reads_98 : mx_kV dm_X8_reads 98 dm_X8_day 8 0 := ⟨148, by decide +kernel, md_X8_day, cv_X8_148, by decide, by decide +kernel⟩
theorem bk_X8_reads_101 : mx_blk 8 cX8_reads 101 [.inl (.istore 6), .inl (.iinc 4 1)] 106 = true := by decide +kernel
theorem gt_X8_reads_106 : mx_jmp cX8_reads 106 40 = true := by decide +kernel
theorem bk_X8_reads_109 : mx_blk 8 cX8_reads 109 [.inl (.aload 0)] 110 = true := by decide +kernel
theorem kc_X8_reads_110 : mx_kV dm_X8_reads 110 dm_X8_putsBack 8 0 := ⟨157, by decide +kernel, md_X8_putsBack, cv_X8_157, by decide, by decide +kernel⟩
theorem bk_X8_reads_113 : mx_blk 8 cX8_reads 113 [.inl (.iload 3)] 114 = true := by decide +kernel
theorem rt_X8_reads_114 : mx_kr dm_X8_reads 114 .int := ⟨by decide +kernel, rfl⟩
theorem bk_X8_copy_0 : mx_blk 8 cX8_copy 0 [.inl (.iload 1)] 1 = true := by decide +kernel
theorem kc_X8_copy_1 : mx_kS dm_X8_copy 1 dm_X8_isSheet 1 := ⟨164, by decide +kernel, md_X8_isSheet, cs_X8_164⟩
theorem br_X8_copy_4 : mx_brk cX8_copy 4 (.ifCond .eq 10) 14 7 = true := by decide +kernel
theorem bk_X8_copy_7 : mx_blk 8 cX8_copy 7 [.inl (.iload 3)] 8 = true := by decide +kernel
theorem kc_X8_copy_8 : mx_kS dm_X8_copy 8 dm_X8_isSheet 1 := ⟨164, by decide +kernel, md_X8_isSheet, cs_X8_164⟩
theorem br_X8_copy_11 : mx_brk cX8_copy 11 (.ifCond .ne 6) 17 14 = true := by decide +kernel
theorem bk_X8_copy_14 : mx_blk 8 cX8_copy 14 [.inr (.int (-1000000001))] 16 = true := by decide +kernel
theorem rt_X8_copy_16 : mx_kr dm_X8_copy 16 .int := ⟨by decide +kernel, rfl⟩
theorem bk_X8_copy_17 : mx_blk 8 cX8_copy 17 [.inl (.aload 0), .inl (.getfield 537), .inl (.iload 1), .inl .iaload] 23 = true := by decide +kernel
theorem br_X8_copy_23 : mx_brk cX8_copy 23 (.ifCond .lt 12) 35 26 = true := by decide +kernel
theorem bk_X8_copy_26 : mx_blk 8 cX8_copy 26 [.inl (.aload 0), .inl (.getfield 537), .inl (.iload 3), .inl .iaload] 32 = true := by decide +kernel
theorem br_X8_copy_32 : mx_brk cX8_copy 32 (.ifCond .ge 6) 38 35 = true := by decide +kernel
theorem bk_X8_copy_35 : mx_blk 8 cX8_copy 35 [.inr (.int (-1000000011))] 37 = true := by decide +kernel
theorem rt_X8_copy_37 : mx_kr dm_X8_copy 37 .int := ⟨by decide +kernel, rfl⟩
theorem bk_X8_copy_38 : mx_blk 8 cX8_copy 38 [.inl (.aload 0), .inl (.getfield 537), .inl (.iload 1), .inl .iaload, .inl (.aload 0), .inl (.getfield 537), .inl (.iload 3), .inl .iaload] 50 = true := by decide +kernel
theorem br_X8_copy_50 : mx_brk cX8_copy 50 (.if_icmp .eq 6) 56 53 = true := by decide +kernel
theorem bk_X8_copy_53 : mx_blk 8 cX8_copy 53 [.inr (.int (-1000000012))] 55 = true := by decide +kernel
theorem rt_X8_copy_55 : mx_kr dm_X8_copy 55 .int := ⟨by decide +kernel, rfl⟩
theorem bk_X8_copy_56 : mx_blk 8 cX8_copy 56 [.inl (.iload 2)] 57 = true := by decide +kernel
theorem br_X8_copy_57 : mx_brk cX8_copy 57 (.ifCond .lt 40) 97 60 = true := by decide +kernel
theorem bk_X8_copy_60 : mx_blk 8 cX8_copy 60 [.inl (.iload 4)] 62 = true := by decide +kernel
theorem br_X8_copy_62 : mx_brk cX8_copy 62 (.ifCond .lt 35) 97 65 = true := by decide +kernel
theorem bk_X8_copy_65 : mx_blk 8 cX8_copy 65 [.inl (.iload 5)] 67 = true := by decide +kernel
theorem br_X8_copy_67 : mx_brk cX8_copy 67 (.ifCond .lt 30) 97 70 = true := by decide +kernel
theorem bk_X8_copy_70 : mx_blk 8 cX8_copy 70 [.inl (.iload 2), .inl (.aload 0), .inl (.getfield 538), .inl (.iload 1), .inl .iaload, .inl (.iload 5), .inl .isub] 80 = true := by decide +kernel
theorem br_X8_copy_80 : mx_brk cX8_copy 80 (.if_icmp .gt 17) 97 83 = true := by decide +kernel
theorem bk_X8_copy_83 : mx_blk 8 cX8_copy 83 [.inl (.iload 4), .inl (.aload 0), .inl (.getfield 538), .inl (.iload 3), .inl .iaload, .inl (.iload 5), .inl .isub] 94 = true := by decide +kernel
theorem br_X8_copy_94 : mx_brk cX8_copy 94 (.if_icmp .le 6) 100 97 = true := by decide +kernel
theorem bk_X8_copy_97 : mx_blk 8 cX8_copy 97 [.inr (.int (-1000000013))] 99 = true := by decide +kernel
theorem rt_X8_copy_99 : mx_kr dm_X8_copy 99 .int := ⟨by decide +kernel, rfl⟩
theorem bk_X8_copy_100 : mx_blk 8 cX8_copy 100 [.inr (.int 0), .inl (.istore 6)] 103 = true := by decide +kernel
theorem bk_X8_copy_103 : mx_blk 8 cX8_copy 103 [.inl (.iload 6), .inl (.iload 5)] 107 = true := by decide +kernel
theorem br_X8_copy_107 : mx_brk cX8_copy 107 (.if_icmp .ge 30) 137 110 = true := by decide +kernel
theorem bk_X8_copy_110 : mx_blk 8 cX8_copy 110 [.inl (.aload 0), .inl (.getfield 544), .inl (.iload 6), .inl (.aload 0), .inl (.getfield 539), .inr (.int 24), .inl (.iload 1), .inl .imul, .inl (.iload 2), .inl .iadd, .inl (.iload 6), .inl .iadd, .inl .iaload, .inl .iastore, .inl (.iinc 6 1)] 134 = true := by decide +kernel
theorem gt_X8_copy_134 : mx_jmp cX8_copy 134 103 = true := by decide +kernel
theorem bk_X8_copy_137 : mx_blk 8 cX8_copy 137 [.inr (.int 0), .inl (.istore 6)] 140 = true := by decide +kernel
theorem bk_X8_copy_140 : mx_blk 8 cX8_copy 140 [.inl (.iload 6), .inl (.iload 5)] 144 = true := by decide +kernel
theorem br_X8_copy_144 : mx_brk cX8_copy 144 (.if_icmp .ge 31) 175 147 = true := by decide +kernel
theorem bk_X8_copy_147 : mx_blk 8 cX8_copy 147 [.inl (.aload 0), .inl (.getfield 539), .inr (.int 24), .inl (.iload 3), .inl .imul, .inl (.iload 4), .inl .iadd, .inl (.iload 6), .inl .iadd, .inl (.aload 0), .inl (.getfield 544), .inl (.iload 6), .inl .iaload, .inl .iastore, .inl (.iinc 6 1)] 172 = true := by decide +kernel
theorem gt_X8_copy_172 : mx_jmp cX8_copy 172 140 = true := by decide +kernel
theorem bk_X8_copy_175 : mx_blk 8 cX8_copy 175 [.inl (.iload 5)] 177 = true := by decide +kernel
theorem rt_X8_copy_177 : mx_kr dm_X8_copy 177 .int := ⟨by decide +kernel, rfl⟩
theorem bk_X8_lay_0 : mx_blk 8 cX8_lay 0 [.inl (.iload 1)] 1 = true := by decide +kernel
theorem kc_X8_lay_1 : mx_kS dm_X8_lay 1 dm_X8_isSlot 1 := ⟨245, by decide +kernel, md_X8_isSlot, cs_X8_245⟩
theorem br_X8_lay_4 : mx_brk cX8_lay 4 (.ifCond .eq 37) 41 7 = true := by decide +kernel
theorem bk_X8_lay_7 : mx_blk 8 cX8_lay 7 [.inl (.iload 2), .inr (.int 0), .inr (.int 3)] 10 = true := by decide +kernel
theorem kc_X8_lay_10 : mx_kS dm_X8_lay 10 dm_X8_in 3 := ⟨81, by decide +kernel, md_X8_in, cs_X8_81⟩
theorem br_X8_lay_13 : mx_brk cX8_lay 13 (.ifCond .eq 28) 41 16 = true := by decide +kernel
theorem bk_X8_lay_16 : mx_blk 8 cX8_lay 16 [.inl (.iload 2), .inr (.int 1)] 18 = true := by decide +kernel
theorem br_X8_lay_18 : mx_brk cX8_lay 18 (.if_icmp .ne 11) 29 21 = true := by decide +kernel
theorem bk_X8_lay_21 : mx_blk 8 cX8_lay 21 [.inl (.aload 0), .inl (.iload 3)] 23 = true := by decide +kernel
theorem kc_X8_lay_23 : mx_kV dm_X8_lay 23 dm_X8_isDistrict 8 1 := ⟨98, by decide +kernel, md_X8_isDistrict, cv_X8_98, by decide, by decide +kernel⟩
theorem br_X8_lay_26 : mx_brk cX8_lay 26 (.ifCond .eq 15) 41 29 = true := by decide +kernel
theorem bk_X8_lay_29 : mx_blk 8 cX8_lay 29 [.inl (.iload 2), .inr (.int 2)] 31 = true := by decide +kernel
theorem br_X8_lay_31 : mx_brk cX8_lay 31 (.if_icmp .ne 13) 44 34 = true := by decide +kernel
theorem bk_X8_lay_34 : mx_blk 8 cX8_lay 34 [.inl (.iload 3)] 35 = true := by decide +kernel
theorem kc_X8_lay_35 : mx_kS dm_X8_lay 35 dm_X8_isSheet 1 := ⟨164, by decide +kernel, md_X8_isSheet, cs_X8_164⟩
theorem br_X8_lay_38 : mx_brk cX8_lay 38 (.ifCond .ne 6) 44 41 = true := by decide +kernel
theorem bk_X8_lay_41 : mx_blk 8 cX8_lay 41 [.inr (.int (-1000000001))] 43 = true := by decide +kernel
theorem rt_X8_lay_43 : mx_kr dm_X8_lay 43 .int := ⟨by decide +kernel, rfl⟩
theorem bk_X8_lay_44 : mx_blk 8 cX8_lay 44 [.inl (.iload 2), .inr (.int 2)] 46 = true := by decide +kernel
theorem br_X8_lay_46 : mx_brk cX8_lay 46 (.if_icmp .ne 15) 61 49 = true := by decide +kernel
theorem bk_X8_lay_49 : mx_blk 8 cX8_lay 49 [.inl (.aload 0), .inl (.getfield 537), .inl (.iload 3), .inl .iaload] 55 = true := by decide +kernel
theorem br_X8_lay_55 : mx_brk cX8_lay 55 (.ifCond .ge 6) 61 58 = true := by decide +kernel
theorem bk_X8_lay_58 : mx_blk 8 cX8_lay 58 [.inr (.int (-1000000011))] 60 = true := by decide +kernel
theorem rt_X8_lay_60 : mx_kr dm_X8_lay 60 .int := ⟨by decide +kernel, rfl⟩
theorem bk_X8_lay_61 : mx_blk 8 cX8_lay 61 [.inl (.aload 0), .inl (.getfield 540), .inl (.iload 1), .inl .iaload, .inl (.istore 4), .inl (.aload 0), .inl (.getfield 540), .inl (.iload 1), .inl (.iload 2), .inl .iastore, .inl (.aload 0), .inl (.getfield 541), .inl (.iload 1), .inl (.iload 2), .inr (.int 1)] 83 = true := by decide +kernel
theorem br_X8_lay_83 : mx_brk cX8_lay 83 (.if_icmp .ne 12) 95 86 = true := by decide +kernel
theorem bk_X8_lay_86 : mx_blk 8 cX8_lay 86 [.inl (.aload 0), .inl (.iload 3), .inr (.int 0)] 89 = true := by decide +kernel
theorem kc_X8_lay_89 : mx_kV dm_X8_lay 89 dm_X8_of 8 2 := ⟨95, by decide +kernel, md_X8_of, cv_X8_95, by decide, by decide +kernel⟩
theorem gt_X8_lay_92 : mx_jmp cX8_lay 92 110 = true := by decide +kernel
theorem bk_X8_lay_95 : mx_blk 8 cX8_lay 95 [.inl (.iload 2), .inr (.int 2)] 97 = true := by decide +kernel
theorem br_X8_lay_97 : mx_brk cX8_lay 97 (.if_icmp .ne 12) 109 100 = true := by decide +kernel
theorem bk_X8_lay_100 : mx_blk 8 cX8_lay 100 [.inl (.aload 0), .inl (.getfield 538), .inl (.iload 3), .inl .iaload] 106 = true := by decide +kernel
theorem gt_X8_lay_106 : mx_jmp cX8_lay 106 110 = true := by decide +kernel
theorem bk_X8_lay_109 : mx_blk 8 cX8_lay 109 [.inl (.iload 3)] 110 = true := by decide +kernel
theorem bk_X8_lay_110 : mx_blk 8 cX8_lay 110 [.inl .iastore, .inl (.aload 0), .inl (.getfield 542), .inl (.iload 1), .inl (.iload 2), .inr (.int 1)] 118 = true := by decide +kernel
theorem br_X8_lay_118 : mx_brk cX8_lay 118 (.if_icmp .ne 11) 129 121 = true := by decide +kernel
theorem bk_X8_lay_121 : mx_blk 8 cX8_lay 121 [.inl (.aload 0), .inl (.iload 3)] 123 = true := by decide +kernel
theorem kc_X8_lay_123 : mx_kV dm_X8_lay 123 dm_X8_worthOf 8 1 := ⟨102, by decide +kernel, md_X8_worthOf, cv_X8_102, by decide, by decide +kernel⟩
theorem gt_X8_lay_126 : mx_jmp cX8_lay 126 130 = true := by decide +kernel
theorem bk_X8_lay_129 : mx_blk 8 cX8_lay 129 [.inr (.int 0)] 130 = true := by decide +kernel
theorem bk_X8_lay_130 : mx_blk 8 cX8_lay 130 [.inl .iastore, .inr (.int 0), .inl (.istore 5)] 134 = true := by decide +kernel
theorem bk_X8_lay_134 : mx_blk 8 cX8_lay 134 [.inl (.iload 5), .inr (.int 24)] 138 = true := by decide +kernel
theorem br_X8_lay_138 : mx_brk cX8_lay 138 (.if_icmp .ge 38) 176 141 = true := by decide +kernel
theorem bk_X8_lay_141 : mx_blk 8 cX8_lay 141 [.inl (.iload 2), .inr (.int 2)] 143 = true := by decide +kernel
theorem br_X8_lay_143 : mx_brk cX8_lay 143 (.if_icmp .ne 33) 176 146 = true := by decide +kernel
theorem bk_X8_lay_146 : mx_blk 8 cX8_lay 146 [.inl (.aload 0), .inl (.getfield 543), .inr (.int 24), .inl (.iload 1), .inl .imul, .inl (.iload 5), .inl .iadd, .inl (.aload 0), .inl (.getfield 539), .inr (.int 24), .inl (.iload 3), .inl .imul, .inl (.iload 5), .inl .iadd, .inl .iaload, .inl .iastore, .inl (.iinc 5 1)] 173 = true := by decide +kernel
theorem gt_X8_lay_173 : mx_jmp cX8_lay 173 134 = true := by decide +kernel
theorem bk_X8_lay_176 : mx_blk 8 cX8_lay 176 [.inl (.iload 4)] 178 = true := by decide +kernel
theorem rt_X8_lay_178 : mx_kr dm_X8_lay 178 .int := ⟨by decide +kernel, rfl⟩
theorem bk_X8_ask_0 : mx_blk 8 cX8_ask 0 [.inl (.iload 1)] 1 = true := by decide +kernel
theorem kc_X8_ask_1 : mx_kS dm_X8_ask 1 dm_X8_isSlot 1 := ⟨245, by decide +kernel, md_X8_isSlot, cs_X8_245⟩
theorem br_X8_ask_4 : mx_brk cX8_ask 4 (.ifCond .eq 12) 16 7 = true := by decide +kernel
theorem bk_X8_ask_7 : mx_blk 8 cX8_ask 7 [.inl (.iload 2), .inr (.int 0), .inr (.int 5)] 10 = true := by decide +kernel
theorem kc_X8_ask_10 : mx_kS dm_X8_ask 10 dm_X8_in 3 := ⟨81, by decide +kernel, md_X8_in, cs_X8_81⟩
theorem br_X8_ask_13 : mx_brk cX8_ask 13 (.ifCond .ne 6) 19 16 = true := by decide +kernel
theorem bk_X8_ask_16 : mx_blk 8 cX8_ask 16 [.inr (.int (-1000000001))] 18 = true := by decide +kernel
theorem rt_X8_ask_18 : mx_kr dm_X8_ask 18 .int := ⟨by decide +kernel, rfl⟩
theorem bk_X8_ask_19 : mx_blk 8 cX8_ask 19 [.inl (.aload 0), .inl (.getfield 540), .inl (.iload 1), .inl .iaload] 25 = true := by decide +kernel
theorem br_X8_ask_25 : mx_brk cX8_ask 25 (.ifCond .ne 6) 31 28 = true := by decide +kernel
theorem bk_X8_ask_28 : mx_blk 8 cX8_ask 28 [.inr (.int (-1000000011))] 30 = true := by decide +kernel
theorem rt_X8_ask_30 : mx_kr dm_X8_ask 30 .int := ⟨by decide +kernel, rfl⟩
theorem bk_X8_ask_31 : mx_blk 8 cX8_ask 31 [.inl (.aload 0), .inl (.getfield 540), .inl (.iload 1), .inl .iaload, .inr (.int 1)] 38 = true := by decide +kernel
theorem br_X8_ask_38 : mx_brk cX8_ask 38 (.if_icmp .ne 25) 63 41 = true := by decide +kernel
theorem bk_X8_ask_41 : mx_blk 8 cX8_ask 41 [.inl (.aload 0), .inl (.getfield 541), .inl (.iload 1), .inl .iaload, .inl (.iload 2)] 48 = true := by decide +kernel
theorem kc_X8_ask_48 : mx_kS dm_X8_ask 48 dm_X8_isUnder 2 := ⟨122, by decide +kernel, md_X8_isUnder, cs_X8_122⟩
theorem br_X8_ask_51 : mx_brk cX8_ask 51 (.ifCond .eq 12) 63 54 = true := by decide +kernel
theorem bk_X8_ask_54 : mx_blk 8 cX8_ask 54 [.inl (.aload 0), .inl (.getfield 542), .inl (.iload 1), .inl .iaload] 60 = true := by decide +kernel
theorem gt_X8_ask_60 : mx_jmp cX8_ask 60 65 = true := by decide +kernel
theorem bk_X8_ask_63 : mx_blk 8 cX8_ask 63 [.inr (.int (-1000000012))] 65 = true := by decide +kernel
theorem rt_X8_ask_65 : mx_kr dm_X8_ask 65 .int := ⟨by decide +kernel, rfl⟩
theorem bk_X8_item_0 : mx_blk 8 cX8_item 0 [.inl (.iload 1)] 1 = true := by decide +kernel
theorem kc_X8_item_1 : mx_kS dm_X8_item 1 dm_X8_isSlot 1 := ⟨245, by decide +kernel, md_X8_isSlot, cs_X8_245⟩
theorem br_X8_item_4 : mx_brk cX8_item 4 (.ifCond .ne 6) 10 7 = true := by decide +kernel
theorem bk_X8_item_7 : mx_blk 8 cX8_item 7 [.inr (.int (-1000000001))] 9 = true := by decide +kernel
theorem rt_X8_item_9 : mx_kr dm_X8_item 9 .int := ⟨by decide +kernel, rfl⟩
theorem bk_X8_item_10 : mx_blk 8 cX8_item 10 [.inl (.aload 0), .inl (.getfield 540), .inl (.iload 1), .inl .iaload] 16 = true := by decide +kernel
theorem br_X8_item_16 : mx_brk cX8_item 16 (.ifCond .ne 6) 22 19 = true := by decide +kernel
theorem bk_X8_item_19 : mx_blk 8 cX8_item 19 [.inr (.int (-1000000011))] 21 = true := by decide +kernel
theorem rt_X8_item_21 : mx_kr dm_X8_item 21 .int := ⟨by decide +kernel, rfl⟩
theorem bk_X8_item_22 : mx_blk 8 cX8_item 22 [.inl (.aload 0), .inl (.getfield 540), .inl (.iload 1), .inl .iaload, .inr (.int 2)] 29 = true := by decide +kernel
theorem br_X8_item_29 : mx_brk cX8_item 29 (.if_icmp .eq 6) 35 32 = true := by decide +kernel
theorem bk_X8_item_32 : mx_blk 8 cX8_item 32 [.inr (.int (-1000000012))] 34 = true := by decide +kernel
theorem rt_X8_item_34 : mx_kr dm_X8_item 34 .int := ⟨by decide +kernel, rfl⟩
theorem bk_X8_item_35 : mx_blk 8 cX8_item 35 [.inl (.iload 2), .inr (.int 0), .inl (.aload 0), .inl (.getfield 541), .inl (.iload 1), .inl .iaload, .inr (.int 1), .inl .isub] 45 = true := by decide +kernel
theorem kc_X8_item_45 : mx_kS dm_X8_item 45 dm_X8_in 3 := ⟨81, by decide +kernel, md_X8_in, cs_X8_81⟩
theorem br_X8_item_48 : mx_brk cX8_item 48 (.ifCond .ne 6) 54 51 = true := by decide +kernel
theorem bk_X8_item_51 : mx_blk 8 cX8_item 51 [.inr (.int (-1000000013))] 53 = true := by decide +kernel
theorem rt_X8_item_53 : mx_kr dm_X8_item 53 .int := ⟨by decide +kernel, rfl⟩
theorem bk_X8_item_54 : mx_blk 8 cX8_item 54 [.inl (.aload 0), .inl (.getfield 543), .inr (.int 24), .inl (.iload 1), .inl .imul, .inl (.iload 2), .inl .iadd, .inl .iaload, .inl (.istore 3), .inl (.iload 3), .inr (.int (-1000000005))] 69 = true := by decide +kernel
theorem br_X8_item_69 : mx_brk cX8_item 69 (.if_icmp .ne 8) 77 72 = true := by decide +kernel
theorem bk_X8_item_72 : mx_blk 8 cX8_item 72 [.inr (.int (-1000000012))] 74 = true := by decide +kernel
theorem gt_X8_item_74 : mx_jmp cX8_item 74 78 = true := by decide +kernel
theorem bk_X8_item_77 : mx_blk 8 cX8_item 77 [.inl (.iload 3)] 78 = true := by decide +kernel
theorem rt_X8_item_78 : mx_kr dm_X8_item 78 .int := ⟨by decide +kernel, rfl⟩
theorem bk_X8_rest_0 : mx_blk 8 cX8_rest 0 [.inl (.iload 1)] 1 = true := by decide +kernel
theorem kc_X8_rest_1 : mx_kS dm_X8_rest 1 dm_X8_isSlot 1 := ⟨245, by decide +kernel, md_X8_isSlot, cs_X8_245⟩
theorem br_X8_rest_4 : mx_brk cX8_rest 4 (.ifCond .ne 6) 10 7 = true := by decide +kernel
theorem bk_X8_rest_7 : mx_blk 8 cX8_rest 7 [.inr (.int (-1000000001))] 9 = true := by decide +kernel
theorem rt_X8_rest_9 : mx_kr dm_X8_rest 9 .int := ⟨by decide +kernel, rfl⟩
theorem bk_X8_rest_10 : mx_blk 8 cX8_rest 10 [.inl (.aload 0), .inl (.getfield 540), .inl (.iload 1), .inl .iaload] 16 = true := by decide +kernel
theorem br_X8_rest_16 : mx_brk cX8_rest 16 (.ifCond .ne 6) 22 19 = true := by decide +kernel
theorem bk_X8_rest_19 : mx_blk 8 cX8_rest 19 [.inr (.int (-1000000011))] 21 = true := by decide +kernel
theorem rt_X8_rest_21 : mx_kr dm_X8_rest 21 .int := ⟨by decide +kernel, rfl⟩
theorem bk_X8_rest_22 : mx_blk 8 cX8_rest 22 [.inl (.aload 0), .inl (.getfield 540), .inl (.iload 1), .inl .iaload, .inr (.int 3)] 29 = true := by decide +kernel
theorem br_X8_rest_29 : mx_brk cX8_rest 29 (.if_icmp .eq 6) 35 32 = true := by decide +kernel
theorem bk_X8_rest_32 : mx_blk 8 cX8_rest 32 [.inr (.int (-1000000012))] 34 = true := by decide +kernel
theorem rt_X8_rest_34 : mx_kr dm_X8_rest 34 .int := ⟨by decide +kernel, rfl⟩
theorem bk_X8_rest_35 : mx_blk 8 cX8_rest 35 [.inl (.iload 2)] 36 = true := by decide +kernel
theorem br_X8_rest_36 : mx_brk cX8_rest 36 (.ifCond .ne 8) 44 39 = true := by decide +kernel
theorem bk_X8_rest_39 : mx_blk 8 cX8_rest 39 [.inr (.int (-1000000002))] 41 = true := by decide +kernel
theorem gt_X8_rest_41 : mx_jmp cX8_rest 41 61 = true := by decide +kernel
theorem bk_X8_rest_44 : mx_blk 8 cX8_rest 44 [.inl (.iload 2), .inr (.int (-1))] 46 = true := by decide +kernel
theorem br_X8_rest_46 : mx_brk cX8_rest 46 (.if_icmp .ne 7) 53 49 = true := by decide +kernel
theorem bk_X8_rest_49 : mx_blk 8 cX8_rest 49 [.inr (.int 0)] 50 = true := by decide +kernel
theorem gt_X8_rest_50 : mx_jmp cX8_rest 50 61 = true := by decide +kernel
theorem bk_X8_rest_53 : mx_blk 8 cX8_rest 53 [.inl (.aload 0), .inl (.getfield 541), .inl (.iload 1), .inl .iaload, .inl (.iload 2), .inl .irem] 61 = true := by decide +kernel
theorem rt_X8_rest_61 : mx_kr dm_X8_rest 61 .int := ⟨by decide +kernel, rfl⟩
theorem bk_X8_tell_0 : mx_blk 8 cX8_tell 0 [.inl (.aload 0), .inl (.getfield 546), .inr (.int 60)] 6 = true := by decide +kernel
theorem br_X8_tell_6 : mx_brk cX8_tell 6 (.if_icmp .ne 6) 12 9 = true := by decide +kernel
theorem bk_X8_tell_9 : mx_blk 8 cX8_tell 9 [.inr (.int (-1000000003))] 11 = true := by decide +kernel
theorem rt_X8_tell_11 : mx_kr dm_X8_tell 11 .int := ⟨by decide +kernel, rfl⟩
theorem bk_X8_tell_12 : mx_blk 8 cX8_tell 12 [.inl (.aload 0), .inl (.getfield 545), .inl (.aload 0), .inl (.getfield 546), .inl (.iload 1), .inl .iastore, .inl (.aload 0), .inl .dup, .inl (.getfield 546), .inr (.int 1), .inl .iadd, .inl (.putfield 546), .inl (.aload 0), .inl (.getfield 546)] 36 = true := by decide +kernel
theorem rt_X8_tell_36 : mx_kr dm_X8_tell 36 .int := ⟨by decide +kernel, rfl⟩
theorem bk_X8_fairs_0 : mx_blk 8 cX8_fairs 0 [.inr (.int 0), .inl (.istore 1), .inr (.int 0), .inl (.istore 2)] 4 = true := by decide +kernel
theorem bk_X8_fairs_4 : mx_blk 8 cX8_fairs 4 [.inl (.iload 2), .inl (.aload 0), .inl (.getfield 512), .inr (.int 1), .inl .iaload] 11 = true := by decide +kernel
theorem br_X8_fairs_11 : mx_brk cX8_fairs 11 (.if_icmp .ge 25) 36 14 = true := by decide +kernel
theorem bk_X8_fairs_14 : mx_blk 8 cX8_fairs 14 [.inl (.iload 1), .inl (.aload 0), .inl (.iload 2)] 17 = true := by decide +kernel
theorem kc_X8_fairs_17 : mx_kV dm_X8_fairs 17 dm_X8_isFair 8 1 := ⟨106, by decide +kernel, md_X8_isFair, cv_X8_106, by decide, by decide +kernel⟩
theorem br_X8_fairs_20 : mx_brk cX8_fairs 20 (.ifCond .eq 7) 27 23 = true := by decide +kernel
theorem bk_X8_fairs_23 : mx_blk 8 cX8_fairs 23 [.inr (.int 1)] 24 = true := by decide +kernel
theorem gt_X8_fairs_24 : mx_jmp cX8_fairs 24 28 = true := by decide +kernel
theorem bk_X8_fairs_27 : mx_blk 8 cX8_fairs 27 [.inr (.int 0)] 28 = true := by decide +kernel
theorem bk_X8_fairs_28 : mx_blk 8 cX8_fairs 28 [.inl .iadd, .inl (.istore 1), .inl (.iinc 2 1)] 33 = true := by decide +kernel
theorem gt_X8_fairs_33 : mx_jmp cX8_fairs 33 4 = true := by decide +kernel
theorem bk_X8_fairs_36 : mx_blk 8 cX8_fairs 36 [.inl (.iload 1)] 37 = true := by decide +kernel
theorem rt_X8_fairs_37 : mx_kr dm_X8_fairs 37 .int := ⟨by decide +kernel, rfl⟩
theorem bk_X8_check_0 : mx_blk 8 cX8_check 0 [.inl (.aload 0), .inl (.getfield 546), .inl (.istore 2), .inl (.aload 0), .inr (.int 0), .inl (.putfield 546), .inl (.iload 1), .inr (.int 1), .inr (.int 30)] 14 = true := by decide +kernel
theorem kc_X8_check_14 : mx_kS dm_X8_check 14 dm_X8_in 3 := ⟨81, by decide +kernel, md_X8_in, cs_X8_81⟩
theorem br_X8_check_17 : mx_brk cX8_check 17 (.ifCond .ne 6) 23 20 = true := by decide +kernel
theorem bk_X8_check_20 : mx_blk 8 cX8_check 20 [.inr (.int (-1000000001))] 22 = true := by decide +kernel
theorem rt_X8_check_22 : mx_kr dm_X8_check 22 .int := ⟨by decide +kernel, rfl⟩
theorem bk_X8_check_23 : mx_blk 8 cX8_check 23 [.inl (.aload 0), .inl (.getfield 515)] 27 = true := by decide +kernel
theorem br_X8_check_27 : mx_brk cX8_check 27 (.ifCond .ne 6) 33 30 = true := by decide +kernel
theorem bk_X8_check_30 : mx_blk 8 cX8_check 30 [.inr (.int (-1000000002))] 32 = true := by decide +kernel
theorem rt_X8_check_32 : mx_kr dm_X8_check 32 .int := ⟨by decide +kernel, rfl⟩
theorem bk_X8_check_33 : mx_blk 8 cX8_check 33 [.inl (.aload 0), .inl (.getfield 512), .inl (.aload 0), .inl (.getfield 514)] 41 = true := by decide +kernel
theorem kc_X8_check_41 : mx_kS dm_X8_check 41 dm_X8_copyAll 2 := ⟨255, by decide +kernel, md_X8_copyAll, cs_X8_255⟩
theorem bk_X8_check_44 : mx_blk 8 cX8_check 44 [.inl (.aload 0), .inl (.getfield 513), .inl (.aload 0), .inl (.getfield 512)] 52 = true := by decide +kernel
theorem kc_X8_check_52 : mx_kS dm_X8_check 52 dm_X8_copyAll 2 := ⟨255, by decide +kernel, md_X8_copyAll, cs_X8_255⟩
theorem bk_X8_check_55 : mx_blk 8 cX8_check 55 [.inr (.int 2), .inr (.int 99999), .inl (.aload 0), .inl (.getfield 512), .inr (.int 2), .inl .iaload, .inl .isub, .inr (.int 0), .inl (.iload 1)] 67 = true := by decide +kernel
theorem kc_X8_check_67 : mx_kS dm_X8_check 67 dm_X8_within 3 := ⟨115, by decide +kernel, md_X8_within, cs_X8_115⟩
theorem bk_X8_check_70 : mx_blk 8 cX8_check 70 [.inl .imul, .inl (.istore 3), .inr (.int 0), .inl (.istore 4), .inr (.int 0), .inl (.istore 5)] 78 = true := by decide +kernel
theorem bk_X8_check_78 : mx_blk 8 cX8_check 78 [.inr (.int 2), .inl (.iload 5), .inl .imul, .inl (.iload 3)] 83 = true := by decide +kernel
theorem br_X8_check_83 : mx_brk cX8_check 83 (.if_icmp .ge 97) 180 86 = true := by decide +kernel
theorem bk_X8_check_86 : mx_blk 8 cX8_check 86 [.inl (.iload 4), .inr (.int 2), .inl (.iload 5), .inl .imul] 92 = true := by decide +kernel
theorem br_X8_check_92 : mx_brk cX8_check 92 (.if_icmp .ne 88) 180 95 = true := by decide +kernel
theorem bk_X8_check_95 : mx_blk 8 cX8_check 95 [.inl (.aload 0)] 96 = true := by decide +kernel
theorem kc_X8_check_96 : mx_kV dm_X8_check 96 dm_X8_day 8 0 := ⟨148, by decide +kernel, md_X8_day, cv_X8_148, by decide, by decide +kernel⟩
theorem bk_X8_check_99 : mx_blk 8 cX8_check 99 [.inl (.istore 6), .inl (.iload 4), .inl (.iload 4), .inl (.iload 2)] 106 = true := by decide +kernel
theorem br_X8_check_106 : mx_brk cX8_check 106 (.if_icmp .ge 21) 127 109 = true := by decide +kernel
theorem bk_X8_check_109 : mx_blk 8 cX8_check 109 [.inl (.aload 0), .inl (.getfield 545), .inl (.iload 4), .inl .iaload, .inl (.aload 0)] 117 = true := by decide +kernel
theorem kc_X8_check_117 : mx_kV dm_X8_check 117 dm_X8_fairs 8 0 := ⟨259, by decide +kernel, md_X8_fairs, cv_X8_259, by decide, by decide +kernel⟩
theorem br_X8_check_120 : mx_brk cX8_check 120 (.if_icmp .ne 7) 127 123 = true := by decide +kernel
theorem bk_X8_check_123 : mx_blk 8 cX8_check 123 [.inr (.int 1)] 124 = true := by decide +kernel
theorem gt_X8_check_124 : mx_jmp cX8_check 124 128 = true := by decide +kernel
theorem bk_X8_check_127 : mx_blk 8 cX8_check 127 [.inr (.int 0)] 128 = true := by decide +kernel
theorem bk_X8_check_128 : mx_blk 8 cX8_check 128 [.inl .iadd, .inl (.istore 4), .inl (.iload 4), .inl (.iload 4), .inr (.int 2), .inl (.iload 5), .inl .imul, .inr (.int 1), .inl .iadd] 141 = true := by decide +kernel
theorem br_X8_check_141 : mx_brk cX8_check 141 (.if_icmp .ne 29) 170 144 = true := by decide +kernel
theorem bk_X8_check_144 : mx_blk 8 cX8_check 144 [.inl (.iload 4), .inl (.iload 2)] 147 = true := by decide +kernel
theorem br_X8_check_147 : mx_brk cX8_check 147 (.if_icmp .ge 23) 170 150 = true := by decide +kernel
theorem bk_X8_check_150 : mx_blk 8 cX8_check 150 [.inl (.aload 0), .inl (.getfield 545), .inl (.iload 4), .inl .iaload, .inl (.aload 0), .inr (.int 7)] 160 = true := by decide +kernel
theorem kc_X8_check_160 : mx_kV dm_X8_check 160 dm_X8_sumOf 8 1 := ⟨172, by decide +kernel, md_X8_sumOf, cv_X8_172, by decide, by decide +kernel⟩
theorem br_X8_check_163 : mx_brk cX8_check 163 (.if_icmp .ne 7) 170 166 = true := by decide +kernel
theorem bk_X8_check_166 : mx_blk 8 cX8_check 166 [.inr (.int 1)] 167 = true := by decide +kernel
theorem gt_X8_check_167 : mx_jmp cX8_check 167 171 = true := by decide +kernel
theorem bk_X8_check_170 : mx_blk 8 cX8_check 170 [.inr (.int 0)] 171 = true := by decide +kernel
theorem bk_X8_check_171 : mx_blk 8 cX8_check 171 [.inl .iadd, .inl (.istore 4), .inl (.iinc 5 1)] 177 = true := by decide +kernel
theorem gt_X8_check_177 : mx_jmp cX8_check 177 78 = true := by decide +kernel
theorem bk_X8_check_180 : mx_blk 8 cX8_check 180 [.inl (.aload 0), .inl (.getfield 514), .inl (.aload 0), .inl (.getfield 512)] 188 = true := by decide +kernel
theorem kc_X8_check_188 : mx_kS dm_X8_check 188 dm_X8_copyAll 2 := ⟨255, by decide +kernel, md_X8_copyAll, cs_X8_255⟩
theorem bk_X8_check_191 : mx_blk 8 cX8_check 191 [.inl (.iload 4), .inl (.iload 2)] 194 = true := by decide +kernel
theorem br_X8_check_194 : mx_brk cX8_check 194 (.if_icmp .ne 13) 207 197 = true := by decide +kernel
theorem bk_X8_check_197 : mx_blk 8 cX8_check 197 [.inl (.iload 4), .inl (.iload 3)] 200 = true := by decide +kernel
theorem br_X8_check_200 : mx_brk cX8_check 200 (.if_icmp .ne 7) 207 203 = true := by decide +kernel
theorem bk_X8_check_203 : mx_blk 8 cX8_check 203 [.inr (.int 0)] 204 = true := by decide +kernel
theorem gt_X8_check_204 : mx_jmp cX8_check 204 211 = true := by decide +kernel
theorem bk_X8_check_207 : mx_blk 8 cX8_check 207 [.inr (.int 1), .inl (.iload 4), .inl .iadd] 211 = true := by decide +kernel
theorem rt_X8_check_211 : mx_kr dm_X8_check 211 .int := ⟨by decide +kernel, rfl⟩
theorem bk_X8_keep_0 : mx_blk 8 cX8_keep 0 [.inl (.aload 0), .inl (.getfield 512), .inl (.aload 0), .inl (.getfield 513)] 8 = true := by decide +kernel
theorem kc_X8_keep_8 : mx_kS dm_X8_keep 8 dm_X8_copyAll 2 := ⟨255, by decide +kernel, md_X8_copyAll, cs_X8_255⟩
theorem bk_X8_keep_11 : mx_blk 8 cX8_keep 11 [.inl (.aload 0), .inr (.int 1), .inl (.putfield 515), .inl (.aload 0), .inl (.getfield 512), .inr (.int 1), .inl .iaload] 22 = true := by decide +kernel
theorem rt_X8_keep_22 : mx_kr dm_X8_keep 22 .int := ⟨by decide +kernel, rfl⟩
theorem bk_X8_back_0 : mx_blk 8 cX8_back 0 [.inl (.aload 0), .inl (.getfield 515)] 4 = true := by decide +kernel
theorem br_X8_back_4 : mx_brk cX8_back 4 (.ifCond .ne 6) 10 7 = true := by decide +kernel
theorem bk_X8_back_7 : mx_blk 8 cX8_back 7 [.inr (.int (-1000000002))] 9 = true := by decide +kernel
theorem rt_X8_back_9 : mx_kr dm_X8_back 9 .int := ⟨by decide +kernel, rfl⟩
theorem bk_X8_back_10 : mx_blk 8 cX8_back 10 [.inl (.aload 0), .inl (.getfield 513), .inl (.aload 0), .inl (.getfield 512)] 18 = true := by decide +kernel
theorem kc_X8_back_18 : mx_kS dm_X8_back 18 dm_X8_copyAll 2 := ⟨255, by decide +kernel, md_X8_copyAll, cs_X8_255⟩
theorem bk_X8_back_21 : mx_blk 8 cX8_back 21 [.inl (.aload 0), .inl (.getfield 512), .inr (.int 1), .inl .iaload] 27 = true := by decide +kernel
theorem rt_X8_back_27 : mx_kr dm_X8_back 27 .int := ⟨by decide +kernel, rfl⟩
theorem bk_X8_count_0 : mx_blk 8 cX8_count 0 [.inl (.iload 1)] 1 = true := by decide +kernel
theorem sw_X8_count_1 : mx_swk cX8_count 1 [(0, 56), (1, 63), (2, 70), (3, 77), (4, 84), (5, 91), (6, 98), (7, 106), (8, 111), (9, 116)] 123 = true := by decide +kernel
theorem bk_X8_count_56 : mx_blk 8 cX8_count 56 [.inl (.aload 0), .inl (.getfield 512), .inr (.int 1), .inl .iaload] 62 = true := by decide +kernel
theorem rt_X8_count_62 : mx_kr dm_X8_count 62 .int := ⟨by decide +kernel, rfl⟩
theorem bk_X8_count_63 : mx_blk 8 cX8_count 63 [.inl (.aload 0), .inl (.getfield 512), .inr (.int 2), .inl .iaload] 69 = true := by decide +kernel
theorem rt_X8_count_69 : mx_kr dm_X8_count 69 .int := ⟨by decide +kernel, rfl⟩
theorem bk_X8_count_70 : mx_blk 8 cX8_count 70 [.inl (.aload 0), .inl (.getfield 512), .inr (.int 3), .inl .iaload] 76 = true := by decide +kernel
theorem rt_X8_count_76 : mx_kr dm_X8_count 76 .int := ⟨by decide +kernel, rfl⟩
theorem bk_X8_count_77 : mx_blk 8 cX8_count 77 [.inl (.aload 0), .inl (.getfield 512), .inr (.int 4), .inl .iaload] 83 = true := by decide +kernel
theorem rt_X8_count_83 : mx_kr dm_X8_count 83 .int := ⟨by decide +kernel, rfl⟩
theorem bk_X8_count_84 : mx_blk 8 cX8_count 84 [.inl (.aload 0), .inl (.getfield 512), .inr (.int 5), .inl .iaload] 90 = true := by decide +kernel
theorem rt_X8_count_90 : mx_kr dm_X8_count 90 .int := ⟨by decide +kernel, rfl⟩
theorem bk_X8_count_91 : mx_blk 8 cX8_count 91 [.inl (.aload 0), .inr (.int 7)] 94 = true := by decide +kernel
theorem kc_X8_count_94 : mx_kV dm_X8_count 94 dm_X8_sumOf 8 1 := ⟨172, by decide +kernel, md_X8_sumOf, cv_X8_172, by decide, by decide +kernel⟩
theorem rt_X8_count_97 : mx_kr dm_X8_count 97 .int := ⟨by decide +kernel, rfl⟩
theorem bk_X8_count_98 : mx_blk 8 cX8_count 98 [.inl (.aload 0), .inl (.getfield 512), .inr (.int 6), .inl .iaload] 105 = true := by decide +kernel
theorem rt_X8_count_105 : mx_kr dm_X8_count 105 .int := ⟨by decide +kernel, rfl⟩
theorem bk_X8_count_106 : mx_blk 8 cX8_count 106 [.inl (.aload 0), .inl (.getfield 546)] 110 = true := by decide +kernel
theorem rt_X8_count_110 : mx_kr dm_X8_count 110 .int := ⟨by decide +kernel, rfl⟩
theorem bk_X8_count_111 : mx_blk 8 cX8_count 111 [.inl (.aload 0), .inl (.getfield 520)] 115 = true := by decide +kernel
theorem rt_X8_count_115 : mx_kr dm_X8_count 115 .int := ⟨by decide +kernel, rfl⟩
theorem bk_X8_count_116 : mx_blk 8 cX8_count 116 [.inl (.aload 0), .inl (.getfield 512), .inr (.int 0), .inl .iaload] 122 = true := by decide +kernel
theorem rt_X8_count_122 : mx_kr dm_X8_count 122 .int := ⟨by decide +kernel, rfl⟩
theorem bk_X8_count_123 : mx_blk 8 cX8_count 123 [.inr (.int (-1000000001))] 125 = true := by decide +kernel
theorem rt_X8_count_125 : mx_kr dm_X8_count 125 .int := ⟨by decide +kernel, rfl⟩
end
section
/-! small things of both sides -/
def f_in (v a b : Int32) : Int32 := if a ≤ v ∧ v ≤ b then 1 else 0
theorem f_in_t {v a b : Int32} (h1 : a ≤ v) (h2 : v ≤ b) : f_in v a b = 1 := by rw [f_in, if_pos ⟨h1, h2⟩]
theorem f_in_l {v a b : Int32} (h : v < a) : f_in v a b = 0 := by rw [f_in, if_neg (fun q => absurd h (Int32.not_lt.mpr q.1))]
theorem f_in_g {v a b : Int32} (h : b < v) : f_in v a b = 0 := by rw [f_in, if_neg (fun q => absurd h (Int32.not_lt.mpr q.2))]
def f_held (v a b : Int32) : Int32 := if v < a then a else if b < v then b else v
theorem c_X7_within {l : Launch} {G : Gt} {M : Mm} {v a b : Int32} : Runs l G true dm_X7_within 0 127 [.int v, .int a, .int b] M 127 (Pi (fun x M1 => x = f_in v a b ∧ M1 = M)) := by
  refine mx_run ow_X7_within rfl rfl (fun dp X hdp R => ?_)
  refine R.b bk_X7_within_0 ?_
  refine R.c br_X7_within_2 (And.intro (fun h2 => ?_) (fun h2 => ?_))
  · refine R.b bk_X7_within_14 ?_
    refine R.ri rt_X7_within_15 rfl ⟨_, rfl, ?_⟩
    exact ⟨by first | exact (f_in_l h2).symm | exact (f_in_g h7).symm | exact (f_in_t (Int32.not_lt.mp h2) (Int32.not_lt.mp h7)).symm, rfl⟩
  · refine R.b bk_X7_within_5 ?_
    refine R.c br_X7_within_7 (And.intro (fun h7 => ?_) (fun h7 => ?_))
    · refine R.b bk_X7_within_14 ?_
      refine R.ri rt_X7_within_15 rfl ⟨_, rfl, ?_⟩
      exact ⟨by first | exact (f_in_l h2).symm | exact (f_in_g h7).symm | exact (f_in_t (Int32.not_lt.mp h2) (Int32.not_lt.mp h7)).symm, rfl⟩
    · refine R.b bk_X7_within_10 ?_
      refine R.j gt_X7_within_11 ?_
      refine R.ri rt_X7_within_15 rfl ⟨_, rfl, ?_⟩
      exact ⟨by first | exact (f_in_l h2).symm | exact (f_in_g h7).symm | exact (f_in_t (Int32.not_lt.mp h2) (Int32.not_lt.mp h7)).symm, rfl⟩
theorem c_X8_in {l : Launch} {G : Gt} {M : Mm} {v a b : Int32} : Runs l G true dm_X8_in 0 127 [.int v, .int a, .int b] M 127 (Pi (fun x M1 => x = f_in v a b ∧ M1 = M)) := by
  refine mx_run ow_X8_in rfl rfl (fun dp X hdp R => ?_)
  refine R.b bk_X8_in_0 ?_
  refine R.c br_X8_in_2 (And.intro (fun h2 => ?_) (fun h2 => ?_))
  · refine R.b bk_X8_in_14 ?_
    refine R.ri rt_X8_in_15 rfl ⟨_, rfl, ?_⟩
    exact ⟨by first | exact (f_in_l h2).symm | exact (f_in_g h7).symm | exact (f_in_t (Int32.not_lt.mp h2) (Int32.not_lt.mp h7)).symm, rfl⟩
  · refine R.b bk_X8_in_5 ?_
    refine R.c br_X8_in_7 (And.intro (fun h7 => ?_) (fun h7 => ?_))
    · refine R.b bk_X8_in_14 ?_
      refine R.ri rt_X8_in_15 rfl ⟨_, rfl, ?_⟩
      exact ⟨by first | exact (f_in_l h2).symm | exact (f_in_g h7).symm | exact (f_in_t (Int32.not_lt.mp h2) (Int32.not_lt.mp h7)).symm, rfl⟩
    · refine R.b bk_X8_in_10 ?_
      refine R.j gt_X8_in_11 ?_
      refine R.ri rt_X8_in_15 rfl ⟨_, rfl, ?_⟩
      exact ⟨by first | exact (f_in_l h2).symm | exact (f_in_g h7).symm | exact (f_in_t (Int32.not_lt.mp h2) (Int32.not_lt.mp h7)).symm, rfl⟩
theorem c_X8_within {l : Launch} {G : Gt} {M : Mm} {v a b : Int32} : Runs l G true dm_X8_within 0 127 [.int v, .int a, .int b] M 127 (Pi (fun x M1 => x = f_held v a b ∧ M1 = M)) := by
  refine mx_run ow_X8_within rfl rfl (fun dp X hdp R => ?_)
  refine R.b bk_X8_within_0 ?_
  refine R.c br_X8_within_2 (And.intro (fun h2 => ?_) (fun h2 => ?_))
  · refine R.b bk_X8_within_9 ?_
    refine R.c br_X8_within_11 (And.intro (fun h11 => ?_) (fun h11 => ?_))
    · refine R.b bk_X8_within_18 ?_
      refine R.ri rt_X8_within_19 rfl ⟨_, rfl, ?_⟩
      exact ⟨by rw [f_held]; split <;> (try split) <;> first | rfl | (exfalso; simp only [Int32.lt_iff_toInt_lt, Int32.le_iff_toInt_le] at *; omega), rfl⟩
    · refine R.b bk_X8_within_14 ?_
      refine R.j gt_X8_within_15 ?_
      refine R.ri rt_X8_within_19 rfl ⟨_, rfl, ?_⟩
      exact ⟨by rw [f_held]; split <;> (try split) <;> first | rfl | (exfalso; simp only [Int32.lt_iff_toInt_lt, Int32.le_iff_toInt_le] at *; omega), rfl⟩
  · refine R.b bk_X8_within_5 ?_
    refine R.j gt_X8_within_6 ?_
    refine R.ri rt_X8_within_19 rfl ⟨_, rfl, ?_⟩
    exact ⟨by rw [f_held]; split <;> (try split) <;> first | rfl | (exfalso; simp only [Int32.lt_iff_toInt_lt, Int32.le_iff_toInt_le] at *; omega), rfl⟩
theorem f_held_eq {v a b : Int32} (h : a ≤ b) : (if a < (if v < b then v else b) then (if v < b then v else b) else a) = f_held v a b := by
  unfold f_held
  simp only [Int32.lt_iff_toInt_lt, Int32.le_iff_toInt_le] at *
  by_cases h1 : v.toInt < b.toInt <;> by_cases h2 : v.toInt < a.toInt <;> by_cases h3 : b.toInt < v.toInt <;> by_cases h4 : a.toInt < v.toInt <;> by_cases h5 : a.toInt < b.toInt <;> simp [*] <;> first | omega | (apply Int32.toInt_inj.mp; omega)
theorem c_X7_held {l : Launch} {G : Gt} {M : Mm} {v a b : Int32} (hab : a ≤ b) : Runs l G true dm_X7_held 1 127 [.int v, .int a, .int b] M 127 (Pi (fun x M1 => x = f_held v a b ∧ M1 = M)) := by
  refine mx_run ow_X7_held rfl rfl (fun dp X hdp R => ?_)
  refine R.b bk_X7_held_0 ?_
  refine R.min kc_X7_held_3 (by omega) rfl (Nat.le_refl _) ?_
  refine R.max kc_X7_held_6 (by omega) rfl (Nat.le_refl _) ?_
  refine R.ri rt_X7_held_9 rfl ⟨_, rfl, ?_⟩
  exact ⟨f_held_eq hab, rfl⟩
theorem c_X7_only {l : Launch} {G : Gt} {M : Mm} {v : Int32} : Runs l G true dm_X7_only 0 127 [.int v] M 127 (Pi (fun x M1 => x = 1 <<< (v &&& 31) ∧ M1 = M)) := by
  refine mx_run ow_X7_only rfl rfl (fun dp X hdp R => ?_)
  refine R.b bk_X7_only_0 ?_
  refine R.ri rt_X7_only_3 rfl ⟨_, rfl, ?_⟩
  exact ⟨rfl, rfl⟩
end
section
/-! the model: its row 'now' is cell 104 -/
theorem e_ix (d w : Nat) : (7 : Int32) + 8 * nI d + nI w = nI (7 + 8 * d + w) := by rw [show (7 : Int32) = nI 7 from rfl, show (8 : Int32) = nI 8 from rfl, pk_mul, nI_add, nI_add]
theorem vp_lit {i : Int32} {n : Nat} (h : decide (¬ (i < 0 ∨ n ≤ i.toNatClampNeg)) = true) : vp_in i n := (of_decide_eq_true h : ¬ (i < 0 ∨ n ≤ i.toNatClampNeg))
theorem vp_ix {d w : Nat} (h : 7 + 8 * d + w < 1427) : vp_in ((7 : Int32) + 8 * nI d + nI w) 1427 := by rw [e_ix]; exact vp_in_nI h (by decide)
theorem cl_ix {d w : Nat} (h : 7 + 8 * d + w < 1427) : ((7 : Int32) + 8 * nI d + nI w).toNatClampNeg = 7 + 8 * d + w := by rw [e_ix]; exact nI_clamp (by omega)
theorem nI_dec (n : Nat) (h : 0 < n) : nI n - 1 = nI (n - 1) := by
  obtain ⟨m, rfl⟩ : ∃ m, n = m + 1 := ⟨n - 1, by omega⟩
  exact nI_pred m
/-- a district's number, looked at -/
theorem f_in_dist {v x : Int32} {m : Nat} (hm : m ≤ 1000) (hx : x = nI m) (h : ¬ f_in v 0 (x - 1) = 0) : ∃ d, d < m ∧ v = nI d := by
  have h1 : (0 : Int32) ≤ v ∧ v ≤ x - 1 := by
    apply Classical.byContradiction
    intro hc
    exact h (by rw [f_in, if_neg hc])
  subst hx
  have h0 : 0 ≤ v.toInt := by simpa using Int32.le_iff_toInt_le.mp h1.1
  have h2 := Int32.le_iff_toInt_le.mp h1.2
  cases m with
  | zero =>
    have : (nI 0 - 1).toInt = -1 := by decide
    omega
  | succ m =>
    rw [nI_pred, nI_toInt (by omega)] at h2
    refine ⟨v.toInt.toNat, by omega, Int32.toInt_inj.mp ?_⟩
    rw [nI_toInt (by omega)]
    omega
theorem f_in_ne {v a b : Int32} (h : ¬ f_in v a b = 0) : a ≤ v ∧ v ≤ b := by
  apply Classical.byContradiction
  intro hc
  exact h (by rw [f_in, if_neg hc])
theorem f_in_nat {v b : Int32} {n : Nat} (hb : b.toInt = n) (h : ¬ f_in v 0 b = 0) : ∃ d, d ≤ n ∧ v = nI d := by
  obtain ⟨h1, h2⟩ := f_in_ne h
  exact nI_of2 hb (Int32.not_lt.mpr h1) h2
theorem f_in_nar (v a b : Int32) : narrow .boolean (.int (f_in v a b)) = .int (f_in v a b) := by
  unfold f_in
  split <;> rfl
theorem c_X8_isDistrict {l : Launch} {G : Gt} {M : Mm} {v : Int32} : Runs l G true dm_X8_isDistrict 1 127 [.ref 103, .int v] M 127 (Pi (fun x M1 => x = f_in v 0 (M 104 1 - 1) ∧ M1 = M)) := by
  refine mx_run ow_X8_isDistrict rfl rfl (fun dp X hdp R => ?_)
  refine R.b bk_X8_isDistrict_0 (And.intro (by first | rfl | assumption) (And.intro (by first | rfl | assumption) (And.intro (by exact vp_lit rfl) ?_)))
  refine R.S3i kc_X8_isDistrict_10 (c_X8_in) (by omega) rfl ⟨Nat.le_refl _, Nat.le_refl _⟩ (fun x10 M10 q10 => ?_)
  obtain ⟨rfl, q10⟩ := q10
  replace q10 := q10.symm
  subst q10
  refine R.ri rt_X8_isDistrict_13 (f_in_nar _ _ _) ⟨_, rfl, ?_⟩
  exact ⟨rfl, rfl⟩
theorem c_X8_of {l : Launch} {G : Gt} {M : Mm} {d w : Nat} (h : 7 + 8 * d + w < 1427) : Runs l G true dm_X8_of 0 127 [.ref 103, .int (nI d), .int (nI w)] M 127 (Pi (fun x M1 => x = M 104 (7 + 8 * d + w) ∧ M1 = M)) := by
  refine mx_run ow_X8_of rfl rfl (fun dp X hdp R => ?_)
  refine R.b bk_X8_of_0 (And.intro (by first | rfl | assumption) (And.intro (by first | rfl | assumption) (And.intro (by exact vp_ix h) ?_)))
  refine R.ri rt_X8_of_14 rfl ⟨_, rfl, ?_⟩
  exact ⟨by rw [cl_ix h], rfl⟩
theorem c_X8_put {l : Launch} {G : Gt} {M : Mm} {d w : Nat} {v : Int32} (h : 7 + 8 * d + w < 1427) : Runs l G true dm_X8_put 0 127 [.ref 103, .int (nI d), .int (nI w), .int v] M 127 (Pv (fun M1 => M1 = mx_wr M 104 (7 + 8 * d + w) v)) := by
  refine mx_run ow_X8_put rfl rfl (fun dp X hdp R => ?_)
  refine R.b bk_X8_put_0 (And.intro (by first | rfl | assumption) (And.intro (by first | rfl | assumption) (And.intro (by exact vp_ix h) ?_)))
  refine R.rv rt_X8_put_15 ⟨rfl, ?_⟩
  rw [cl_ix h]
theorem c_X8_becomes {l : Launch} {G : Gt} {M : Mm} {i : Nat} {x v : Int32} (hx : x = nI i) (h : i < 1427) : Runs l G true dm_X8_becomes 0 127 [.ref 103, .int x, .int v] M 127 (Pi (fun x M1 => x = M 104 i ∧ M1 = mx_wr M 104 i v)) := by
  refine mx_run ow_X8_becomes rfl rfl (fun dp X hdp R => ?_)
  subst hx
  refine R.b bk_X8_becomes_0 (And.intro (by first | rfl | assumption) (And.intro (by first | rfl | assumption) (And.intro (by exact vp_in_nI h (by decide)) (And.intro (by first | rfl | assumption) (And.intro (by first | rfl | assumption) (And.intro (by exact vp_in_nI h (by decide)) ?_))))))
  refine R.ri rt_X8_becomes_15 rfl ⟨_, rfl, ?_⟩
  exact ⟨by rw [nI_clamp (by omega)], by rw [nI_clamp (by omega)]⟩
def f_worth (k r : Int32) : Int32 := if k = 1 then r + 2 else if k = 2 then 30 - r else if k = 3 then 2 * (r + 2) else if k = 4 then 26 - r else if k = 5 then 11 else r
theorem c_X8_worthOf {l : Launch} {G : Gt} {M : Mm} {d : Nat} (h : d < 6) : Runs l G true dm_X8_worthOf 1 127 [.ref 103, .int (nI d)] M 127 (Pi (fun x M1 => x = f_worth (M 104 (7 + 8 * d)) (M 104 (7 + 8 * d + 1)) ∧ M1 = M)) := by
  refine mx_run ow_X8_worthOf rfl rfl (fun dp X hdp R => ?_)
  refine R.b bk_X8_worthOf_0 ?_
  refine R.V2i kc_X8_worthOf_3 (by first | rfl | assumption) (c_X8_of (w := 1) (by omega)) (by omega) rfl ⟨Nat.le_refl _, Nat.le_refl _⟩ (fun x3 M3 q3 => ?_)
  obtain ⟨rfl, q3⟩ := q3
  replace q3 := q3.symm
  subst q3
  refine R.b bk_X8_worthOf_6 ?_
  refine R.V2i kc_X8_worthOf_10 (by first | rfl | assumption) (c_X8_of (w := 0) (by omega)) (by omega) rfl ⟨Nat.le_refl _, Nat.le_refl _⟩ (fun x10 M10 q10 => ?_)
  obtain ⟨rfl, q10⟩ := q10
  replace q10 := q10.symm
  subst q10
  refine R.s sw_X8_worthOf_13 (And.intro (fun h13_0 => ?_) (fun h13_0 => And.intro (fun h13_1 => ?_) (fun h13_1 => And.intro (fun h13_2 => ?_) (fun h13_2 => And.intro (fun h13_3 => ?_) (fun h13_3 => And.intro (fun h13_4 => ?_) (fun h13_4 => ?_))))))
  · refine R.b bk_X8_worthOf_48 ?_
    refine R.ri rt_X8_worthOf_51 rfl ⟨_, rfl, ?_⟩
    exact ⟨by simp_all [f_worth], rfl⟩
  · refine R.b bk_X8_worthOf_52 ?_
    refine R.ri rt_X8_worthOf_56 rfl ⟨_, rfl, ?_⟩
    exact ⟨by simp_all [f_worth], rfl⟩
  · refine R.b bk_X8_worthOf_57 ?_
    refine R.ri rt_X8_worthOf_62 rfl ⟨_, rfl, ?_⟩
    exact ⟨by simp_all [f_worth], rfl⟩
  · refine R.b bk_X8_worthOf_63 ?_
    refine R.ri rt_X8_worthOf_67 rfl ⟨_, rfl, ?_⟩
    exact ⟨by simp_all [f_worth], rfl⟩
  · refine R.b bk_X8_worthOf_68 ?_
    refine R.ri rt_X8_worthOf_70 rfl ⟨_, rfl, ?_⟩
    exact ⟨by simp_all [f_worth], rfl⟩
  · refine R.b bk_X8_worthOf_71 ?_
    refine R.ri rt_X8_worthOf_72 rfl ⟨_, rfl, ?_⟩
    exact ⟨by simp_all [f_worth], rfl⟩
def f_eq (a b : Int32) : Int32 := if a = b then 1 else 0
theorem f_eq_nar (a b : Int32) : narrow .boolean (.int (f_eq a b)) = .int (f_eq a b) := by
  unfold f_eq
  split <;> rfl
theorem c_X8_isFair {l : Launch} {G : Gt} {M : Mm} {d : Nat} (h : d < 6) : Runs l G true dm_X8_isFair 1 127 [.ref 103, .int (nI d)] M 127 (Pi (fun x M1 => x = f_eq (M 104 (7 + 8 * d + 4)) (M 104 5) ∧ M1 = M)) := by
  refine mx_run ow_X8_isFair rfl rfl (fun dp X hdp R => ?_)
  refine R.b bk_X8_isFair_0 ?_
  refine R.V2i kc_X8_isFair_3 (by first | rfl | assumption) (c_X8_of (w := 4) (by omega)) (by omega) rfl ⟨Nat.le_refl _, Nat.le_refl _⟩ (fun x3 M3 q3 => ?_)
  obtain ⟨rfl, q3⟩ := q3
  replace q3 := q3.symm
  subst q3
  refine R.b bk_X8_isFair_6 (And.intro (by first | rfl | assumption) (And.intro (by first | rfl | assumption) (And.intro (by exact vp_lit rfl) ?_)))
  refine R.c br_X8_isFair_12 (And.intro (fun h12 => ?_) (fun h12 => ?_))
  · refine R.b bk_X8_isFair_19 ?_
    refine R.ri rt_X8_isFair_20 rfl ⟨_, rfl, ?_⟩
    exact ⟨by simp_all [f_eq] <;> rfl, rfl⟩
  · refine R.b bk_X8_isFair_15 ?_
    refine R.j gt_X8_isFair_16 ?_
    refine R.ri rt_X8_isFair_20 rfl ⟨_, rfl, ?_⟩
    exact ⟨by simp_all [f_eq] <;> rfl, rfl⟩
theorem nI_inc (i : Nat) : nI i + Int32.ofInt 1 = nI (i + 1) := nI_1 i
/-- a loop with a counter -/
theorem mx_loop {σ : Type} (XH : Nat → σ → Prop) (n : Nat) (I : Nat → σ → Prop) (step : ∀ i s, i < n → I i s → (∀ s', I (i + 1) s' → XH (i + 1) s') → XH i s) (exit : ∀ s, I n s → XH n s) : ∀ i s, i ≤ n → I i s → XH i s := by
  have h : ∀ (k i : Nat) (s : σ), n - i = k → i ≤ n → I i s → XH i s := by
    intro k
    induction k with
    | zero =>
      intro i s hk hi hI
      have e : i = n := by omega
      subst e
      exact exit s hI
    | succ k ih =>
      intro i s hk hi hI
      exact step i s (by omega) hI (fun s' hs' => ih (i + 1) s' (by omega) (by omega) hs')
  exact fun i s hi hI => h (n - i) i s rfl hi hI
def mx_rw (M : Mm) (k : Nat) (r : Nat → Int32) : Mm := fun q => if q = k then r else M q
def up (a : Nat → Int32) (i : Nat) (v : Int32) : Nat → Int32 := fun j => if j = i then v else a j
theorem mx_wr_up (M : Mm) (k i : Nat) (v : Int32) : mx_wr M k i v = mx_rw M k (up (M k) i v) := rfl
theorem mx_rw_rw (M : Mm) (k : Nat) (r r' : Nat → Int32) : mx_rw (mx_rw M k r) k r' = mx_rw M k r' := by
  funext q
  unfold mx_rw
  split <;> rfl
theorem mx_rw_at (M : Mm) (k : Nat) (r : Nat → Int32) : mx_rw M k r k = r := by simp [mx_rw]
theorem mx_rw_ne {M : Mm} {k q : Nat} {r : Nat → Int32} (h : q ≠ k) : mx_rw M k r q = M q := by simp [mx_rw, h]
theorem mx_rw_id (M : Mm) (k : Nat) : mx_rw M k (M k) = M := by
  funext q
  unfold mx_rw
  split
  · rename_i h; rw [h]
  · rfl
theorem up_at (a : Nat → Int32) (i : Nat) (v : Int32) : up a i v i = v := by simp [up]
theorem up_ne {a : Nat → Int32} {i j : Nat} {v : Int32} (h : j ≠ i) : up a i v j = a j := by simp [up, h]
/-- one more district -/
def A_come (a : Nat → Int32) (k r : Int32) : Nat → Int32 := fun j => if j = 1 then a 1 + 1 else if 7 + 8 * (a 1).toNatClampNeg ≤ j ∧ j < 15 + 8 * (a 1).toNatClampNeg then (if j = 7 + 8 * (a 1).toNatClampNeg then k else if j = 8 + 8 * (a 1).toNatClampNeg then r else if j = 10 + 8 * (a 1).toNatClampNeg then 7 else 0) else a j
def A_zero (a : Nat → Int32) (m i : Nat) : Nat → Int32 := fun j => if 7 + 8 * m ≤ j ∧ j < 7 + 8 * m + i then 0 else a j
theorem c_X8_comes {l : Launch} {G : Gt} {M : Mm} {k r : Int32} {m : Nat} (hm : m < 6) (h1 : M 104 1 = nI m) : Runs l G true dm_X8_comes 1 127 [.ref 103, .int k, .int r] M 127 (Pi (fun x M1 => x = nI m ∧ M1 = mx_rw M 104 (A_come (M 104) k r))) := by
  refine mx_run ow_X8_comes rfl rfl (fun dp X hdp R => ?_)
  have hA : ∀ (i : Nat) (M1 : Mm), i ≤ 8 → M1 = mx_rw M 104 (A_zero (M 104) m i) → X 127 M1 10 [some (.ref 103), some (.int k), some (.int r), some (.int (nI m)), some (.int (nI i))] [] := by
    refine mx_loop (fun i M1 => X 127 M1 10 [some (.ref 103), some (.int k), some (.int r), some (.int (nI m)), some (.int (nI i))] []) 8 (fun i M1 => M1 = mx_rw M 104 (A_zero (M 104) m i)) (fun i M1 hi hI ih => ?_) (fun M1 hI => ?_)
    · refine R.b bk_X8_comes_10 ?_
      refine R.c br_X8_comes_14 (And.intro (fun h14 => absurd h14 (nI_ge (a := i) (b := 8) hi (by decide))) (fun h14 => ?_))
      refine R.b bk_X8_comes_17 ?_
      refine R.V3v kc_X8_comes_22 (by first | rfl | assumption) (c_X8_put (d := m) (w := i) (by omega)) (by omega) rfl ⟨Nat.le_refl _, Nat.le_refl _⟩ (fun M22 q22 => ?_)
      replace q22 := q22.symm
      subst q22
      refine R.b bk_X8_comes_25 ?_
      refine R.j gt_X8_comes_28 ?_
      rw [nI_inc]
      refine ih _ ?_
      subst hI
      rw [mx_wr_up, mx_rw_rw, mx_rw_at]
      congr 1
      funext j
      simp only [up, A_zero]
      grind
    · refine R.b bk_X8_comes_10 ?_
      refine R.c br_X8_comes_14 (And.intro (fun h14 => ?_) (fun h14 => absurd (nI_le (Nat.le_refl 8) (by decide)) h14))
      refine R.b bk_X8_comes_31 ?_
      refine R.V3v kc_X8_comes_35 (by first | rfl | assumption) (c_X8_put (d := m) (w := 0) (by omega)) (by omega) rfl ⟨Nat.le_refl _, Nat.le_refl _⟩ (fun M35 q35 => ?_)
      replace q35 := q35.symm
      subst q35
      refine R.b bk_X8_comes_38 ?_
      refine R.V3v kc_X8_comes_42 (by first | rfl | assumption) (c_X8_put (d := m) (w := 1) (by omega)) (by omega) rfl ⟨Nat.le_refl _, Nat.le_refl _⟩ (fun M42 q42 => ?_)
      replace q42 := q42.symm
      subst q42
      refine R.b bk_X8_comes_45 ?_
      refine R.V3v kc_X8_comes_50 (by first | rfl | assumption) (c_X8_put (d := m) (w := 3) (by omega)) (by omega) rfl ⟨Nat.le_refl _, Nat.le_refl _⟩ (fun M50 q50 => ?_)
      replace q50 := q50.symm
      subst q50
      refine R.b bk_X8_comes_53 (And.intro (by first | rfl | assumption) (And.intro (by first | rfl | assumption) (And.intro (by exact vp_lit rfl) (And.intro (by first | rfl | assumption) (And.intro (by exact vp_lit rfl) ?_)))))
      refine R.ri rt_X8_comes_64 rfl ⟨_, rfl, ?_⟩
      refine ⟨rfl, ?_⟩
      subst hI
      simp only [mx_wr_up, mx_rw_rw, mx_rw_at]
      congr 1
      funext j
      have e9 : (A_zero (M 104) m 8) (Int32.toNatClampNeg 1) = nI m := by rw [← h1]; show A_zero (M 104) m 8 1 = _; simp only [A_zero]; grind
      have e8 : (M 104 1).toNatClampNeg = m := by rw [h1]; exact nI_clamp (by omega)
      have e7 : Int32.toNatClampNeg 1 = 1 := by decide
      simp only [up, A_come, e8, e7, A_zero]
      grind
  refine R.b bk_X8_comes_0 (And.intro (by first | rfl | assumption) (And.intro (by first | rfl | assumption) (And.intro (by exact vp_lit rfl) ?_)))
  have e1 : M 104 (Int32.toNatClampNeg 1) = nI m := h1
  rw [e1]
  refine hA 0 M (by omega) ?_
  have e2 : A_zero (M 104) m 0 = M 104 := by
    funext j
    simp only [A_zero]
    grind
  rw [e2, mx_rw_id]
end
section
theorem clit : Int32.toNatClampNeg 0 = 0 ∧ Int32.toNatClampNeg 1 = 1 ∧ Int32.toNatClampNeg 2 = 2 ∧ Int32.toNatClampNeg 3 = 3 ∧ Int32.toNatClampNeg 4 = 4 ∧ Int32.toNatClampNeg 5 = 5 ∧ Int32.toNatClampNeg 6 = 6 := by decide
/-! what the calls answer, and what becomes of the row a (laid out as the model's now) -/
abbrev Rw : Type := Nat → Int32
def cN (x : Int32) : Nat := x.toNatClampNeg
theorem cN_nI {n : Nat} (h : n < 2 ^ 31) : cN (nI n) = n := nI_clamp h
def isD (a : Rw) (d : Int32) : Int32 := f_in d 0 (a 1 - 1)
def F_district (a : Rw) (k r : Int32) : Int32 := if f_in k 0 5 = 0 ∨ f_in r 0 9 = 0 then (-1000000001) else if a 1 = 6 then (-1000000003) else a 1
def A_district (a : Rw) (k r : Int32) : Rw := if f_in k 0 5 = 0 ∨ f_in r 0 9 = 0 ∨ a 1 = 6 then a else A_come a k r
def F_told (a : Rw) (d w : Int32) : Int32 := if isD a d = 0 ∨ f_in w 0 9 = 0 then (-1000000001) else if w < 8 then a (7 + 8 * cN d + cN w) else if w = 8 then f_worth (a (7 + 8 * cN d)) (a (7 + 8 * cN d + 1)) else f_eq (a (7 + 8 * cN d + 4)) (a 5)
def f_under (k one : Int32) : Int32 := if one = 0 ∨ k = one ∨ one = 1 ∧ k = 3 ∨ one = 2 ∧ k = 4 then 1 else 0
def F_as (a : Rw) (d k : Int32) : Int32 := if isD a d = 0 ∨ f_in k 0 5 = 0 then (-1000000001) else if f_under (a (7 + 8 * cN d)) k = 0 then (-1000000012) else a (7 + 8 * cN d + 1)
def F_turns (a : Rw) (d k : Int32) : Int32 := if isD a d = 0 ∨ f_in k 0 5 = 0 then (-1000000001) else a (7 + 8 * cN d)
def A_turns (a : Rw) (d k : Int32) : Rw := if isD a d = 0 ∨ f_in k 0 5 = 0 then a else up a (7 + 8 * cN d) k
def f_setlo (w : Int32) : Int32 := if w = 1 then 0 else if w = 2 then 2 else -99999
def f_sethi (w : Int32) : Int32 := if w = 1 then 9 else if w = 2 then 60 else 99999
def f_setix (w : Int32) : Nat := if w = 1 then 1 else if w = 2 then 3 else 7
def f_setbad (a : Rw) (d w v : Int32) : Prop := isD a d = 0 ∨ f_in w 1 3 = 0 ∨ f_in v (f_setlo w) (f_sethi w) = 0
def F_set (a : Rw) (d w v : Int32) : Int32 := if isD a d = 0 ∨ f_in w 1 3 = 0 ∨ f_in v (f_setlo w) (f_sethi w) = 0 then (-1000000001) else a (7 + 8 * cN d + f_setix w)
def A_set (a : Rw) (d w v : Int32) : Rw := if isD a d = 0 ∨ f_in w 1 3 = 0 ∨ f_in v (f_setlo w) (f_sethi w) = 0 then a else up (if w = 2 then up a (7 + 8 * cN d + 4) 0 else a) (7 + 8 * cN d + f_setix w) v
def A_hides (a : Rw) (d : Nat) : Rw := up (up a (7 + 8 * d + 5) (a (7 + 8 * d + 5) - 1)) (7 + 8 * d + 6) (a (7 + 8 * d + 6) + 1)
def F_hide (a : Rw) (d : Int32) : Int32 := if isD a d = 0 then (-1000000001) else if a (7 + 8 * cN d + 5) = 0 then (-1000000002) else a (7 + 8 * cN d + 6) + 1
def A_hide (a : Rw) (d : Int32) : Rw := if isD a d = 0 ∨ a (7 + 8 * cN d + 5) = 0 then a else A_hides a (cN d)
def f_rulehi (w : Int32) : Int32 := if w = 0 then 999 else if w = 1 then 99 else 59
def F_rule (a : Rw) (w v : Int32) : Int32 := if f_in w 0 2 = 0 ∨ f_in v 0 (f_rulehi w) = 0 then (-1000000001) else a (3 + cN w)
def A_rule (a : Rw) (w v : Int32) : Rw := if f_in w 0 2 = 0 ∨ f_in v 0 (f_rulehi w) = 0 then a else up a (3 + cN w) v
def f_dz (z : Int32) : Int32 := z * 1103515245 + 12345
def f_dr (z : Int32) : Int32 := (z.toUInt32 >>> ((8 : Int32).toUInt32 &&& Int32.toUInt32 31)).toInt32
def A_draw (a : Rw) : Rw := up a 0 (f_dz (a 0))
def f_rem (x y : Int32) : Int32 := x - x / y * y
theorem e_ix0 (d : Nat) : (7 : Int32) + 8 * nI d = nI (7 + 8 * d) := by rw [show (7 : Int32) = nI 7 from rfl, show (8 : Int32) = nI 8 from rfl, pk_mul, nI_add]
theorem f_under_nar (a b : Int32) : narrow .boolean (.int (f_under a b)) = .int (f_under a b) := by
  unfold f_under
  split <;> rfl
theorem nI_lt8 {w n : Nat} (hw : w < 2 ^ 31) (hn : n < 2 ^ 31) (h : ¬ nI n ≤ nI w) : w < n := Nat.lt_of_not_le (fun q => h (nI_le q hw))
theorem up_same (a : Rw) (i : Nat) : up a i (a i) = a := by
  funext j
  unfold up
  split
  · rename_i h; rw [h]
  · rfl
theorem c_X8_district {l : Launch} {G : Gt} {M : Mm} {k r : Int32} {m : Nat} (hm : m ≤ 6) (h1 : M 104 1 = nI m) : Runs l G true dm_X8_district 2 127 [.ref 103, .int k, .int r] M 127 (Pi (fun x M1 => x = F_district (M 104) k r ∧ M1 = mx_rw M 104 (A_district (M 104) k r))) := by
  refine mx_run ow_X8_district rfl rfl (fun dp X hdp R => ?_)
  refine R.b bk_X8_district_0 ?_
  refine R.S3i kc_X8_district_3 (c_X8_in) (by omega) rfl ⟨Nat.le_refl _, Nat.le_refl _⟩ (fun x3 M3 q3 => ?_)
  obtain ⟨rfl, q3⟩ := q3
  replace q3 := q3.symm
  subst q3
  refine R.c br_X8_district_6 (And.intro (fun h6 => ?_) (fun h6 => ?_))
  · refine R.b bk_X8_district_19 ?_
    refine R.ri rt_X8_district_21 rfl ⟨_, rfl, ?_⟩
    exact ⟨by simp [F_district, *], by simp [A_district, *, mx_rw_id]⟩
  · refine R.b bk_X8_district_9 ?_
    refine R.S3i kc_X8_district_13 (c_X8_in) (by omega) rfl ⟨Nat.le_refl _, Nat.le_refl _⟩ (fun x13 M13 q13 => ?_)
    obtain ⟨rfl, q13⟩ := q13
    replace q13 := q13.symm
    subst q13
    refine R.c br_X8_district_16 (And.intro (fun h16 => ?_) (fun h16 => ?_))
    · refine R.b bk_X8_district_22 (And.intro (by first | rfl | assumption) (And.intro (by first | rfl | assumption) (And.intro (by exact vp_lit rfl) ?_)))
      refine R.c br_X8_district_30 (And.intro (fun h30 => ?_) (fun h30 => ?_))
      · have hm5 : m < 6 := by
          have : ¬ nI m = 6 := by rw [← h1]; exact h30
          rcases Nat.lt_or_ge m 6 with q | q
          · exact q
          · have e : m = 6 := by omega
            subst e
            exact absurd rfl this
        refine R.b bk_X8_district_38 ?_
        refine R.V2i kc_X8_district_41 (by first | rfl | assumption) (c_X8_comes hm5 h1) (by omega) rfl ⟨Nat.le_refl _, Nat.le_refl _⟩ (fun x41 M41 q41 => ?_)
        obtain ⟨rfl, q41⟩ := q41
        replace q41 := q41.symm
        subst q41
        refine R.ri rt_X8_district_44 rfl ⟨_, rfl, ?_⟩
        exact ⟨by simp_all [F_district, clit], by simp_all [A_district, clit, mx_rw_id]⟩
      · refine R.b bk_X8_district_33 ?_
        refine R.j gt_X8_district_35 ?_
        refine R.ri rt_X8_district_44 rfl ⟨_, rfl, ?_⟩
        exact ⟨by simp_all [F_district, clit], by simp_all [A_district, clit, mx_rw_id]⟩
    · refine R.b bk_X8_district_19 ?_
      refine R.ri rt_X8_district_21 rfl ⟨_, rfl, ?_⟩
      exact ⟨by simp [F_district, *], by simp [A_district, *, mx_rw_id]⟩
theorem c_X8_told {l : Launch} {G : Gt} {M : Mm} {d w : Int32} {m : Nat} (hm : m ≤ 6) (h1 : M 104 1 = nI m) : Runs l G true dm_X8_told 2 127 [.ref 103, .int d, .int w] M 127 (Pi (fun x M1 => x = F_told (M 104) d w ∧ M1 = M)) := by
  refine mx_run ow_X8_told rfl rfl (fun dp X hdp R => ?_)
  refine R.b bk_X8_told_0 ?_
  refine R.V1i kc_X8_told_2 (by first | rfl | assumption) (c_X8_isDistrict) (by omega) rfl ⟨Nat.le_refl _, Nat.le_refl _⟩ (fun x2 M2 q2 => ?_)
  obtain ⟨rfl, q2⟩ := q2
  replace q2 := q2.symm
  subst q2
  refine R.c br_X8_told_5 (And.intro (fun h5 => ?_) (fun h5 => ?_))
  · refine R.b bk_X8_told_18 ?_
    refine R.ri rt_X8_told_20 rfl ⟨_, rfl, ?_⟩
    exact ⟨by simp_all [F_told, isD], rfl⟩
  · refine R.b bk_X8_told_8 ?_
    refine R.S3i kc_X8_told_12 (c_X8_in) (by omega) rfl ⟨Nat.le_refl _, Nat.le_refl _⟩ (fun x12 M12 q12 => ?_)
    obtain ⟨rfl, q12⟩ := q12
    replace q12 := q12.symm
    subst q12
    refine R.c br_X8_told_15 (And.intro (fun h15 => ?_) (fun h15 => ?_))
    · obtain ⟨dn, hdn, rfl⟩ := f_in_dist (by omega) h1 h5
      have hcd : cN (nI dn) = dn := cN_nI (by omega)
      obtain ⟨wn, hwn, rfl⟩ := f_in_nat (n := 9) rfl h15
      have hcw : cN (nI wn) = wn := cN_nI (by omega)
      refine R.b bk_X8_told_21 ?_
      refine R.c br_X8_told_24 (And.intro (fun h24 => ?_) (fun h24 => ?_))
      · have h24b : ¬ nI wn < 8 := Int32.not_lt.mpr h24
        refine R.b bk_X8_told_36 ?_
        refine R.c br_X8_told_39 (And.intro (fun h39 => ?_) (fun h39 => ?_))
        · refine R.b bk_X8_told_50 ?_
          refine R.V1i kc_X8_told_52 (by first | rfl | assumption) (c_X8_isFair (d := dn) (by omega)) (by omega) rfl ⟨Nat.le_refl _, Nat.le_refl _⟩ (fun x52 M52 q52 => ?_)
          obtain ⟨rfl, q52⟩ := q52
          replace q52 := q52.symm
          subst q52
          refine R.c br_X8_told_55 (And.intro (fun h55 => ?_) (fun h55 => ?_))
          · refine R.b bk_X8_told_62 ?_
            refine R.ri rt_X8_told_63 rfl ⟨_, rfl, ?_⟩
            exact ⟨by simp_all [F_told, isD, f_eq] <;> (intro hq; exact absurd hq (Int32.not_lt.mpr (by assumption))), rfl⟩
          · refine R.b bk_X8_told_58 ?_
            refine R.j gt_X8_told_59 ?_
            refine R.ri rt_X8_told_63 rfl ⟨_, rfl, ?_⟩
            exact ⟨by simp_all [F_told, isD, f_eq] <;> (intro hq; exact absurd hq (Int32.not_lt.mpr (by assumption))), rfl⟩
        · refine R.b bk_X8_told_42 ?_
          refine R.V1i kc_X8_told_44 (by first | rfl | assumption) (c_X8_worthOf (d := dn) (by omega)) (by omega) rfl ⟨Nat.le_refl _, Nat.le_refl _⟩ (fun x44 M44 q44 => ?_)
          obtain ⟨rfl, q44⟩ := q44
          replace q44 := q44.symm
          subst q44
          refine R.j gt_X8_told_47 ?_
          refine R.ri rt_X8_told_63 rfl ⟨_, rfl, ?_⟩
          exact ⟨by simp_all [F_told, isD, f_eq] <;> (intro hq; exact absurd hq (Int32.not_lt.mpr (by assumption))), rfl⟩
      · have hw8 : wn < 8 := nI_lt8 (by omega) (by decide) h24
        have h24c : nI wn < 8 := Int32.not_le.mp h24
        refine R.b bk_X8_told_27 ?_
        refine R.V2i kc_X8_told_30 (by first | rfl | assumption) (c_X8_of (d := dn) (w := wn) (by omega)) (by omega) rfl ⟨Nat.le_refl _, Nat.le_refl _⟩ (fun x30 M30 q30 => ?_)
        obtain ⟨rfl, q30⟩ := q30
        replace q30 := q30.symm
        subst q30
        refine R.j gt_X8_told_33 ?_
        refine R.ri rt_X8_told_63 rfl ⟨_, rfl, ?_⟩
        exact ⟨by simp_all [F_told, isD, f_eq] <;> (intro hq; exact absurd hq (Int32.not_lt.mpr (by assumption))), rfl⟩
    · refine R.b bk_X8_told_18 ?_
      refine R.ri rt_X8_told_20 rfl ⟨_, rfl, ?_⟩
      exact ⟨by simp_all [F_told, isD], rfl⟩
theorem c_X8_isUnder {l : Launch} {G : Gt} {M : Mm} {k one : Int32} : Runs l G true dm_X8_isUnder 0 127 [.int k, .int one] M 127 (Pi (fun x M1 => x = f_under k one ∧ M1 = M)) := by
  refine mx_run ow_X8_isUnder rfl rfl (fun dp X hdp R => ?_)
  refine R.b bk_X8_isUnder_0 ?_
  refine R.c br_X8_isUnder_1 (And.intro (fun h1 => ?_) (fun h1 => ?_))
  · refine R.b bk_X8_isUnder_29 ?_
    refine R.j gt_X8_isUnder_30 ?_
    refine R.ri rt_X8_isUnder_34 rfl ⟨_, rfl, ?_⟩
    exact ⟨by unfold f_under; grind, rfl⟩
  · refine R.b bk_X8_isUnder_4 ?_
    refine R.c br_X8_isUnder_6 (And.intro (fun h6 => ?_) (fun h6 => ?_))
    · refine R.b bk_X8_isUnder_29 ?_
      refine R.j gt_X8_isUnder_30 ?_
      refine R.ri rt_X8_isUnder_34 rfl ⟨_, rfl, ?_⟩
      exact ⟨by unfold f_under; grind, rfl⟩
    · refine R.b bk_X8_isUnder_9 ?_
      refine R.c br_X8_isUnder_11 (And.intro (fun h11 => ?_) (fun h11 => ?_))
      · refine R.b bk_X8_isUnder_19 ?_
        refine R.c br_X8_isUnder_21 (And.intro (fun h21 => ?_) (fun h21 => ?_))
        · refine R.b bk_X8_isUnder_33 ?_
          refine R.ri rt_X8_isUnder_34 rfl ⟨_, rfl, ?_⟩
          exact ⟨by unfold f_under; grind, rfl⟩
        · refine R.b bk_X8_isUnder_24 ?_
          refine R.c br_X8_isUnder_26 (And.intro (fun h26 => ?_) (fun h26 => ?_))
          · refine R.b bk_X8_isUnder_33 ?_
            refine R.ri rt_X8_isUnder_34 rfl ⟨_, rfl, ?_⟩
            exact ⟨by unfold f_under; grind, rfl⟩
          · refine R.b bk_X8_isUnder_29 ?_
            refine R.j gt_X8_isUnder_30 ?_
            refine R.ri rt_X8_isUnder_34 rfl ⟨_, rfl, ?_⟩
            exact ⟨by unfold f_under; grind, rfl⟩
      · refine R.b bk_X8_isUnder_14 ?_
        refine R.c br_X8_isUnder_16 (And.intro (fun h16 => ?_) (fun h16 => ?_))
        · refine R.b bk_X8_isUnder_29 ?_
          refine R.j gt_X8_isUnder_30 ?_
          refine R.ri rt_X8_isUnder_34 rfl ⟨_, rfl, ?_⟩
          exact ⟨by unfold f_under; grind, rfl⟩
        · refine R.b bk_X8_isUnder_19 ?_
          refine R.c br_X8_isUnder_21 (And.intro (fun h21 => ?_) (fun h21 => absurd (h11.symm.trans h21) (by decide)))
          refine R.b bk_X8_isUnder_33 ?_
          refine R.ri rt_X8_isUnder_34 rfl ⟨_, rfl, ?_⟩
          exact ⟨by unfold f_under; grind, rfl⟩
theorem c_X8_as {l : Launch} {G : Gt} {M : Mm} {d k : Int32} {m : Nat} (hm : m ≤ 6) (h1 : M 104 1 = nI m) : Runs l G true dm_X8_as 2 127 [.ref 103, .int d, .int k] M 127 (Pi (fun x M1 => x = F_as (M 104) d k ∧ M1 = M)) := by
  refine mx_run ow_X8_as rfl rfl (fun dp X hdp R => ?_)
  refine R.b bk_X8_as_0 ?_
  refine R.V1i kc_X8_as_2 (by first | rfl | assumption) (c_X8_isDistrict) (by omega) rfl ⟨Nat.le_refl _, Nat.le_refl _⟩ (fun x2 M2 q2 => ?_)
  obtain ⟨rfl, q2⟩ := q2
  replace q2 := q2.symm
  subst q2
  refine R.c br_X8_as_5 (And.intro (fun h5 => ?_) (fun h5 => ?_))
  · refine R.b bk_X8_as_17 ?_
    refine R.ri rt_X8_as_19 rfl ⟨_, rfl, ?_⟩
    exact ⟨by simp_all [F_as, isD], rfl⟩
  · refine R.b bk_X8_as_8 ?_
    refine R.S3i kc_X8_as_11 (c_X8_in) (by omega) rfl ⟨Nat.le_refl _, Nat.le_refl _⟩ (fun x11 M11 q11 => ?_)
    obtain ⟨rfl, q11⟩ := q11
    replace q11 := q11.symm
    subst q11
    refine R.c br_X8_as_14 (And.intro (fun h14 => ?_) (fun h14 => ?_))
    · obtain ⟨dn, hdn, rfl⟩ := f_in_dist (by omega) h1 h5
      have hcd : cN (nI dn) = dn := cN_nI (by omega)
      refine R.b bk_X8_as_20 ?_
      refine R.V2i kc_X8_as_23 (by first | rfl | assumption) (c_X8_of (d := dn) (w := 0) (by omega)) (by omega) rfl ⟨Nat.le_refl _, Nat.le_refl _⟩ (fun x23 M23 q23 => ?_)
      obtain ⟨rfl, q23⟩ := q23
      replace q23 := q23.symm
      subst q23
      refine R.b bk_X8_as_26 ?_
      refine R.S2i kc_X8_as_27 (c_X8_isUnder) (by omega) rfl ⟨Nat.le_refl _, Nat.le_refl _⟩ (fun x27 M27 q27 => ?_)
      obtain ⟨rfl, q27⟩ := q27
      replace q27 := q27.symm
      subst q27
      refine R.c br_X8_as_30 (And.intro (fun h30 => ?_) (fun h30 => ?_))
      · refine R.b bk_X8_as_42 ?_
        refine R.ri rt_X8_as_44 rfl ⟨_, rfl, ?_⟩
        exact ⟨by simp_all [F_as, isD], rfl⟩
      · refine R.b bk_X8_as_33 ?_
        refine R.V2i kc_X8_as_36 (by first | rfl | assumption) (c_X8_of (d := dn) (w := 1) (by omega)) (by omega) rfl ⟨Nat.le_refl _, Nat.le_refl _⟩ (fun x36 M36 q36 => ?_)
        obtain ⟨rfl, q36⟩ := q36
        replace q36 := q36.symm
        subst q36
        refine R.j gt_X8_as_39 ?_
        refine R.ri rt_X8_as_44 rfl ⟨_, rfl, ?_⟩
        exact ⟨by simp_all [F_as, isD], rfl⟩
    · refine R.b bk_X8_as_17 ?_
      refine R.ri rt_X8_as_19 rfl ⟨_, rfl, ?_⟩
      exact ⟨by simp_all [F_as, isD], rfl⟩
theorem c_X8_turns {l : Launch} {G : Gt} {M : Mm} {d k : Int32} {m : Nat} (hm : m ≤ 6) (h1 : M 104 1 = nI m) : Runs l G true dm_X8_turns 2 127 [.ref 103, .int d, .int k] M 127 (Pi (fun x M1 => x = F_turns (M 104) d k ∧ M1 = mx_rw M 104 (A_turns (M 104) d k))) := by
  refine mx_run ow_X8_turns rfl rfl (fun dp X hdp R => ?_)
  refine R.b bk_X8_turns_0 ?_
  refine R.V1i kc_X8_turns_2 (by first | rfl | assumption) (c_X8_isDistrict) (by omega) rfl ⟨Nat.le_refl _, Nat.le_refl _⟩ (fun x2 M2 q2 => ?_)
  obtain ⟨rfl, q2⟩ := q2
  replace q2 := q2.symm
  subst q2
  refine R.c br_X8_turns_5 (And.intro (fun h5 => ?_) (fun h5 => ?_))
  · refine R.b bk_X8_turns_32 ?_
    refine R.ri rt_X8_turns_34 rfl ⟨_, rfl, ?_⟩
    exact ⟨by simp_all [F_turns, isD], by simp_all [A_turns, isD, mx_rw_id, mx_wr_up]⟩
  · refine R.b bk_X8_turns_8 ?_
    refine R.S3i kc_X8_turns_11 (c_X8_in) (by omega) rfl ⟨Nat.le_refl _, Nat.le_refl _⟩ (fun x11 M11 q11 => ?_)
    obtain ⟨rfl, q11⟩ := q11
    replace q11 := q11.symm
    subst q11
    refine R.c br_X8_turns_14 (And.intro (fun h14 => ?_) (fun h14 => ?_))
    · refine R.b bk_X8_turns_32 ?_
      refine R.ri rt_X8_turns_34 rfl ⟨_, rfl, ?_⟩
      exact ⟨by simp_all [F_turns, isD], by simp_all [A_turns, isD, mx_rw_id, mx_wr_up]⟩
    · obtain ⟨dn, hdn, rfl⟩ := f_in_dist (by omega) h1 h5
      have hcd : cN (nI dn) = dn := cN_nI (by omega)
      refine R.b bk_X8_turns_17 ?_
      refine R.V2i kc_X8_turns_26 (by first | rfl | assumption) (c_X8_becomes (i := 7 + 8 * dn) (e_ix0 dn) (by omega)) (by omega) rfl ⟨Nat.le_refl _, Nat.le_refl _⟩ (fun x26 M26 q26 => ?_)
      obtain ⟨rfl, q26⟩ := q26
      replace q26 := q26.symm
      subst q26
      refine R.j gt_X8_turns_29 ?_
      refine R.ri rt_X8_turns_34 rfl ⟨_, rfl, ?_⟩
      exact ⟨by simp_all [F_turns, isD], by simp_all [A_turns, isD, mx_rw_id, mx_wr_up]⟩
theorem c_X8_set {l : Launch} {G : Gt} {M : Mm} {d w v : Int32} {m : Nat} (hm : m ≤ 6) (h1 : M 104 1 = nI m) : Runs l G true dm_X8_set 2 127 [.ref 103, .int d, .int w, .int v] M 127 (Pi (fun x M1 => x = F_set (M 104) d w v ∧ M1 = mx_rw M 104 (A_set (M 104) d w v))) := by
  refine mx_run ow_X8_set rfl rfl (fun dp X hdp R => ?_)
  refine R.b bk_X8_set_0 ?_
  refine R.V1i kc_X8_set_2 (by first | rfl | assumption) (c_X8_isDistrict) (by omega) rfl ⟨Nat.le_refl _, Nat.le_refl _⟩ (fun x2 M2 q2 => ?_)
  obtain ⟨rfl, q2⟩ := q2
  replace q2 := q2.symm
  subst q2
  refine R.c br_X8_set_5 (And.intro (fun h5 => ?_) (fun h5 => ?_))
  · refine R.b bk_X8_set_17 ?_
    refine R.ri rt_X8_set_19 rfl ⟨_, rfl, ?_⟩
    exact ⟨by simp_all [F_set, isD], by simp_all [A_set, isD, mx_rw_id]⟩
  · refine R.b bk_X8_set_8 ?_
    refine R.S3i kc_X8_set_11 (c_X8_in) (by omega) rfl ⟨Nat.le_refl _, Nat.le_refl _⟩ (fun x11 M11 q11 => ?_)
    obtain ⟨rfl, q11⟩ := q11
    replace q11 := q11.symm
    subst q11
    refine R.c br_X8_set_14 (And.intro (fun h14 => ?_) (fun h14 => ?_))
    · obtain ⟨dn, hdn, rfl⟩ := f_in_dist (by omega) h1 h5
      have hcd : cN (nI dn) = dn := cN_nI (by omega)
      refine R.b bk_X8_set_20 ?_
      refine R.c br_X8_set_23 (And.intro (fun h23 => ?_) (fun h23 => ?_))
      · refine R.b bk_X8_set_30 ?_
        refine R.c br_X8_set_32 (And.intro (fun h32 => ?_) (fun h32 => ?_))
        · refine R.b bk_X8_set_39 ?_
          refine R.b bk_X8_set_41 ?_
          refine R.c br_X8_set_43 (And.intro (fun h43 => ?_) (fun h43 => absurd h43 h23))
          refine R.b bk_X8_set_51 ?_
          refine R.c br_X8_set_53 (And.intro (fun h53 => ?_) (fun h53 => absurd h53 h32))
          refine R.b bk_X8_set_61 ?_
          refine R.S3i kc_X8_set_63 (c_X8_in) (by omega) rfl ⟨Nat.le_refl _, Nat.le_refl _⟩ (fun x63 M63 q63 => ?_)
          obtain ⟨rfl, q63⟩ := q63
          replace q63 := q63.symm
          subst q63
          refine R.c br_X8_set_66 (And.intro (fun h66 => ?_) (fun h66 => ?_))
          · refine R.b bk_X8_set_72 ?_
            refine R.c br_X8_set_77 (And.intro (fun h77 => ?_) (fun h77 => absurd h77 h32))
            refine R.b bk_X8_set_84 ?_
            refine R.V2i kc_X8_set_87 (by first | rfl | assumption) (c_X8_of (d := dn) (w := 4) (by omega)) (by omega) rfl ⟨Nat.le_refl _, Nat.le_refl _⟩ (fun x87 M87 q87 => ?_)
            obtain ⟨rfl, q87⟩ := q87
            replace q87 := q87.symm
            subst q87
            refine R.V3v kc_X8_set_90 (by first | rfl | assumption) (c_X8_put (d := dn) (w := 4) (by omega)) (by omega) rfl ⟨Nat.le_refl _, Nat.le_refl _⟩ (fun M90 q90 => ?_)
            replace q90 := q90.symm
            subst q90
            refine R.b bk_X8_set_93 ?_
            refine R.c br_X8_set_103 (And.intro (fun h103 => ?_) (fun h103 => absurd h103 h23))
            refine R.b bk_X8_set_110 ?_
            refine R.c br_X8_set_112 (And.intro (fun h112 => ?_) (fun h112 => absurd h112 h32))
            refine R.b bk_X8_set_119 ?_
            refine R.b bk_X8_set_121 ?_
            refine R.V2i kc_X8_set_123 (by first | rfl | assumption) (c_X8_becomes (i := 7 + 8 * dn + f_setix w) (by simp [f_setix, *]; first | exact e_ix dn 1 | exact e_ix dn 3 | exact e_ix dn 7) (by unfold f_setix; split <;> (try split) <;> omega)) (by omega) rfl ⟨Nat.le_refl _, Nat.le_refl _⟩ (fun x123 M123 q123 => ?_)
            obtain ⟨rfl, q123⟩ := q123
            replace q123 := q123.symm
            subst q123
            refine R.ri rt_X8_set_126 rfl ⟨_, rfl, ?_⟩
            refine ⟨?_, ?_⟩
            · simp_all [F_set, isD, f_setlo, f_sethi, f_setix, mx_wr_up, mx_rw_at, up_same] <;> simp [mx_rw, up]
            · simp_all [A_set, isD, f_setlo, f_sethi, f_setix, mx_wr_up, mx_rw_at, mx_rw_rw, up_same] <;> simp [mx_rw, up]
          · refine R.b bk_X8_set_69 ?_
            refine R.ri rt_X8_set_71 rfl ⟨_, rfl, ?_⟩
            exact ⟨by simp_all [F_set, isD, f_setlo, f_sethi], by simp_all [A_set, isD, f_setlo, f_sethi, mx_rw_id]⟩
        · refine R.b bk_X8_set_35 ?_
          refine R.j gt_X8_set_36 ?_
          refine R.b bk_X8_set_41 ?_
          refine R.c br_X8_set_43 (And.intro (fun h43 => ?_) (fun h43 => absurd (h32.symm.trans h43) (by decide)))
          refine R.b bk_X8_set_51 ?_
          refine R.c br_X8_set_53 (And.intro (fun h53 => absurd h32 h53) (fun h53 => ?_))
          refine R.b bk_X8_set_56 ?_
          refine R.j gt_X8_set_58 ?_
          refine R.S3i kc_X8_set_63 (c_X8_in) (by omega) rfl ⟨Nat.le_refl _, Nat.le_refl _⟩ (fun x63 M63 q63 => ?_)
          obtain ⟨rfl, q63⟩ := q63
          replace q63 := q63.symm
          subst q63
          refine R.c br_X8_set_66 (And.intro (fun h66 => ?_) (fun h66 => ?_))
          · refine R.b bk_X8_set_72 ?_
            refine R.c br_X8_set_77 (And.intro (fun h77 => absurd h32 h77) (fun h77 => ?_))
            refine R.b bk_X8_set_80 ?_
            refine R.j gt_X8_set_81 ?_
            refine R.V3v kc_X8_set_90 (by first | rfl | assumption) (c_X8_put (d := dn) (w := 4) (by omega)) (by omega) rfl ⟨Nat.le_refl _, Nat.le_refl _⟩ (fun M90 q90 => ?_)
            replace q90 := q90.symm
            subst q90
            refine R.b bk_X8_set_93 ?_
            refine R.c br_X8_set_103 (And.intro (fun h103 => ?_) (fun h103 => absurd (h32.symm.trans h103) (by decide)))
            refine R.b bk_X8_set_110 ?_
            refine R.c br_X8_set_112 (And.intro (fun h112 => absurd h32 h112) (fun h112 => ?_))
            refine R.b bk_X8_set_115 ?_
            refine R.j gt_X8_set_116 ?_
            refine R.b bk_X8_set_121 ?_
            refine R.V2i kc_X8_set_123 (by first | rfl | assumption) (c_X8_becomes (i := 7 + 8 * dn + f_setix w) (by simp [f_setix, *]; first | exact e_ix dn 1 | exact e_ix dn 3 | exact e_ix dn 7) (by unfold f_setix; split <;> (try split) <;> omega)) (by omega) rfl ⟨Nat.le_refl _, Nat.le_refl _⟩ (fun x123 M123 q123 => ?_)
            obtain ⟨rfl, q123⟩ := q123
            replace q123 := q123.symm
            subst q123
            refine R.ri rt_X8_set_126 rfl ⟨_, rfl, ?_⟩
            refine ⟨?_, ?_⟩
            · simp_all [F_set, isD, f_setlo, f_sethi, f_setix, mx_wr_up, mx_rw_at, up_same] <;> simp [mx_rw, up]
            · simp_all [A_set, isD, f_setlo, f_sethi, f_setix, mx_wr_up, mx_rw_at, mx_rw_rw, up_same] <;> simp [mx_rw, up]
          · refine R.b bk_X8_set_69 ?_
            refine R.ri rt_X8_set_71 rfl ⟨_, rfl, ?_⟩
            exact ⟨by simp_all [F_set, isD, f_setlo, f_sethi], by simp_all [A_set, isD, f_setlo, f_sethi, mx_rw_id]⟩
      · refine R.b bk_X8_set_26 ?_
        refine R.j gt_X8_set_27 ?_
        refine R.b bk_X8_set_41 ?_
        refine R.c br_X8_set_43 (And.intro (fun h43 => absurd h23 h43) (fun h43 => ?_))
        refine R.b bk_X8_set_46 ?_
        refine R.j gt_X8_set_48 ?_
        refine R.S3i kc_X8_set_63 (c_X8_in) (by omega) rfl ⟨Nat.le_refl _, Nat.le_refl _⟩ (fun x63 M63 q63 => ?_)
        obtain ⟨rfl, q63⟩ := q63
        replace q63 := q63.symm
        subst q63
        refine R.c br_X8_set_66 (And.intro (fun h66 => ?_) (fun h66 => ?_))
        · refine R.b bk_X8_set_72 ?_
          refine R.c br_X8_set_77 (And.intro (fun h77 => ?_) (fun h77 => absurd (h23.symm.trans h77) (by decide)))
          refine R.b bk_X8_set_84 ?_
          refine R.V2i kc_X8_set_87 (by first | rfl | assumption) (c_X8_of (d := dn) (w := 4) (by omega)) (by omega) rfl ⟨Nat.le_refl _, Nat.le_refl _⟩ (fun x87 M87 q87 => ?_)
          obtain ⟨rfl, q87⟩ := q87
          replace q87 := q87.symm
          subst q87
          refine R.V3v kc_X8_set_90 (by first | rfl | assumption) (c_X8_put (d := dn) (w := 4) (by omega)) (by omega) rfl ⟨Nat.le_refl _, Nat.le_refl _⟩ (fun M90 q90 => ?_)
          replace q90 := q90.symm
          subst q90
          refine R.b bk_X8_set_93 ?_
          refine R.c br_X8_set_103 (And.intro (fun h103 => absurd h23 h103) (fun h103 => ?_))
          refine R.b bk_X8_set_106 ?_
          refine R.j gt_X8_set_107 ?_
          refine R.b bk_X8_set_121 ?_
          refine R.V2i kc_X8_set_123 (by first | rfl | assumption) (c_X8_becomes (i := 7 + 8 * dn + f_setix w) (by simp [f_setix, *]; first | exact e_ix dn 1 | exact e_ix dn 3 | exact e_ix dn 7) (by unfold f_setix; split <;> (try split) <;> omega)) (by omega) rfl ⟨Nat.le_refl _, Nat.le_refl _⟩ (fun x123 M123 q123 => ?_)
          obtain ⟨rfl, q123⟩ := q123
          replace q123 := q123.symm
          subst q123
          refine R.ri rt_X8_set_126 rfl ⟨_, rfl, ?_⟩
          refine ⟨?_, ?_⟩
          · simp_all [F_set, isD, f_setlo, f_sethi, f_setix, mx_wr_up, mx_rw_at, up_same] <;> simp [mx_rw, up]
          · simp_all [A_set, isD, f_setlo, f_sethi, f_setix, mx_wr_up, mx_rw_at, mx_rw_rw, up_same] <;> simp [mx_rw, up]
        · refine R.b bk_X8_set_69 ?_
          refine R.ri rt_X8_set_71 rfl ⟨_, rfl, ?_⟩
          exact ⟨by simp_all [F_set, isD, f_setlo, f_sethi], by simp_all [A_set, isD, f_setlo, f_sethi, mx_rw_id]⟩
    · refine R.b bk_X8_set_17 ?_
      refine R.ri rt_X8_set_19 rfl ⟨_, rfl, ?_⟩
      exact ⟨by simp_all [F_set, isD], by simp_all [A_set, isD, mx_rw_id]⟩
theorem c_X8_hides {l : Launch} {G : Gt} {M : Mm} {d : Nat} (h : d < 6) : Runs l G true dm_X8_hides 1 127 [.ref 103, .int (nI d)] M 127 (Pv (fun M1 => M1 = mx_rw M 104 (A_hides (M 104) d))) := by
  refine mx_run ow_X8_hides rfl rfl (fun dp X hdp R => ?_)
  refine R.b bk_X8_hides_0 ?_
  refine R.V2i kc_X8_hides_6 (by first | rfl | assumption) (c_X8_of (d := d) (w := 5) (by omega)) (by omega) rfl ⟨Nat.le_refl _, Nat.le_refl _⟩ (fun x6 M6 q6 => ?_)
  obtain ⟨rfl, q6⟩ := q6
  replace q6 := q6.symm
  subst q6
  refine R.b bk_X8_hides_9 ?_
  refine R.V3v kc_X8_hides_11 (by first | rfl | assumption) (c_X8_put (d := d) (w := 5) (by omega)) (by omega) rfl ⟨Nat.le_refl _, Nat.le_refl _⟩ (fun M11 q11 => ?_)
  replace q11 := q11.symm
  subst q11
  refine R.b bk_X8_hides_14 ?_
  refine R.V2i kc_X8_hides_22 (by first | rfl | assumption) (c_X8_of (d := d) (w := 6) (by omega)) (by omega) rfl ⟨Nat.le_refl _, Nat.le_refl _⟩ (fun x22 M22 q22 => ?_)
  obtain ⟨rfl, q22⟩ := q22
  replace q22 := q22.symm
  subst q22
  refine R.b bk_X8_hides_25 ?_
  refine R.V3v kc_X8_hides_27 (by first | rfl | assumption) (c_X8_put (d := d) (w := 6) (by omega)) (by omega) rfl ⟨Nat.le_refl _, Nat.le_refl _⟩ (fun M27 q27 => ?_)
  replace q27 := q27.symm
  subst q27
  refine R.rv rt_X8_hides_30 ⟨rfl, ?_⟩
  simp only [mx_wr_up, mx_rw_rw, mx_rw_at, A_hides]
  rw [up_ne (by omega)]
theorem c_X8_hide {l : Launch} {G : Gt} {M : Mm} {d : Int32} {m : Nat} (hm : m ≤ 6) (h1 : M 104 1 = nI m) : Runs l G true dm_X8_hide 2 127 [.ref 103, .int d] M 127 (Pi (fun x M1 => x = F_hide (M 104) d ∧ M1 = mx_rw M 104 (A_hide (M 104) d))) := by
  refine mx_run ow_X8_hide rfl rfl (fun dp X hdp R => ?_)
  refine R.b bk_X8_hide_0 ?_
  refine R.V1i kc_X8_hide_2 (by first | rfl | assumption) (c_X8_isDistrict) (by omega) rfl ⟨Nat.le_refl _, Nat.le_refl _⟩ (fun x2 M2 q2 => ?_)
  obtain ⟨rfl, q2⟩ := q2
  replace q2 := q2.symm
  subst q2
  refine R.c br_X8_hide_5 (And.intro (fun h5 => ?_) (fun h5 => ?_))
  · obtain ⟨dn, hdn, rfl⟩ := f_in_dist (by omega) h1 h5
    have hcd : cN (nI dn) = dn := cN_nI (by omega)
    refine R.b bk_X8_hide_11 ?_
    refine R.V2i kc_X8_hide_14 (by first | rfl | assumption) (c_X8_of (d := dn) (w := 5) (by omega)) (by omega) rfl ⟨Nat.le_refl _, Nat.le_refl _⟩ (fun x14 M14 q14 => ?_)
    obtain ⟨rfl, q14⟩ := q14
    replace q14 := q14.symm
    subst q14
    refine R.c br_X8_hide_17 (And.intro (fun h17 => ?_) (fun h17 => ?_))
    · refine R.b bk_X8_hide_23 ?_
      refine R.V1v kc_X8_hide_25 (by first | rfl | assumption) (c_X8_hides (d := dn) (by omega)) (by omega) rfl ⟨Nat.le_refl _, Nat.le_refl _⟩ (fun M25 q25 => ?_)
      replace q25 := q25.symm
      subst q25
      refine R.b bk_X8_hide_28 ?_
      refine R.V2i kc_X8_hide_32 (by first | rfl | assumption) (c_X8_of (d := dn) (w := 6) (by omega)) (by omega) rfl ⟨Nat.le_refl _, Nat.le_refl _⟩ (fun x32 M32 q32 => ?_)
      obtain ⟨rfl, q32⟩ := q32
      replace q32 := q32.symm
      subst q32
      refine R.ri rt_X8_hide_35 rfl ⟨_, rfl, ?_⟩
      exact ⟨by simp_all [F_hide, isD, mx_rw_at, A_hides, up], by simp_all [A_hide, isD]⟩
    · refine R.b bk_X8_hide_20 ?_
      refine R.ri rt_X8_hide_22 rfl ⟨_, rfl, ?_⟩
      exact ⟨by simp_all [F_hide, isD], by simp_all [A_hide, isD, mx_rw_id]⟩
  · refine R.b bk_X8_hide_8 ?_
    refine R.ri rt_X8_hide_10 rfl ⟨_, rfl, ?_⟩
    exact ⟨by simp_all [F_hide, isD], by simp_all [A_hide, isD, mx_rw_id]⟩
theorem c_X8_rule {l : Launch} {G : Gt} {M : Mm} {w v : Int32} : Runs l G true dm_X8_rule 1 127 [.ref 103, .int w, .int v] M 127 (Pi (fun x M1 => x = F_rule (M 104) w v ∧ M1 = mx_rw M 104 (A_rule (M 104) w v))) := by
  refine mx_run ow_X8_rule rfl rfl (fun dp X hdp R => ?_)
  refine R.b bk_X8_rule_0 ?_
  refine R.S3i kc_X8_rule_3 (c_X8_in) (by omega) rfl ⟨Nat.le_refl _, Nat.le_refl _⟩ (fun x3 M3 q3 => ?_)
  obtain ⟨rfl, q3⟩ := q3
  replace q3 := q3.symm
  subst q3
  refine R.c br_X8_rule_6 (And.intro (fun h6 => ?_) (fun h6 => ?_))
  · refine R.b bk_X8_rule_50 ?_
    refine R.ri rt_X8_rule_52 rfl ⟨_, rfl, ?_⟩
    refine ⟨?_, ?_⟩
    · simp_all [F_rule, f_rulehi]
    · simp_all [A_rule, f_rulehi, mx_wr_up, mx_rw_id]
  · refine R.b bk_X8_rule_9 ?_
    refine R.c br_X8_rule_12 (And.intro (fun h12 => ?_) (fun h12 => ?_))
    · refine R.b bk_X8_rule_21 ?_
      refine R.c br_X8_rule_23 (And.intro (fun h23 => ?_) (fun h23 => ?_))
      · refine R.b bk_X8_rule_31 ?_
        refine R.S3i kc_X8_rule_33 (c_X8_in) (by omega) rfl ⟨Nat.le_refl _, Nat.le_refl _⟩ (fun x33 M33 q33 => ?_)
        obtain ⟨rfl, q33⟩ := q33
        replace q33 := q33.symm
        subst q33
        refine R.c br_X8_rule_36 (And.intro (fun h36 => ?_) (fun h36 => ?_))
        · refine R.b bk_X8_rule_50 ?_
          refine R.ri rt_X8_rule_52 rfl ⟨_, rfl, ?_⟩
          refine ⟨?_, ?_⟩
          · simp_all [F_rule, f_rulehi]
          · simp_all [A_rule, f_rulehi, mx_wr_up, mx_rw_id]
        · have h6b := h6
          obtain ⟨wn, hwn, rfl⟩ := f_in_nat (n := 2) rfl h6b
          have hcw : cN (nI wn) = wn := cN_nI (by omega)
          refine R.b bk_X8_rule_39 ?_
          refine R.V2i kc_X8_rule_44 (by first | rfl | assumption) (c_X8_becomes (i := 3 + wn) (nI_add 3 wn) (by omega)) (by omega) rfl ⟨Nat.le_refl _, Nat.le_refl _⟩ (fun x44 M44 q44 => ?_)
          obtain ⟨rfl, q44⟩ := q44
          replace q44 := q44.symm
          subst q44
          refine R.j gt_X8_rule_47 ?_
          refine R.ri rt_X8_rule_52 rfl ⟨_, rfl, ?_⟩
          refine ⟨?_, ?_⟩
          · simp_all [F_rule, f_rulehi]
          · simp_all [A_rule, f_rulehi, mx_wr_up, mx_rw_id]
      · refine R.b bk_X8_rule_26 ?_
        refine R.j gt_X8_rule_28 ?_
        refine R.S3i kc_X8_rule_33 (c_X8_in) (by omega) rfl ⟨Nat.le_refl _, Nat.le_refl _⟩ (fun x33 M33 q33 => ?_)
        obtain ⟨rfl, q33⟩ := q33
        replace q33 := q33.symm
        subst q33
        refine R.c br_X8_rule_36 (And.intro (fun h36 => ?_) (fun h36 => ?_))
        · refine R.b bk_X8_rule_50 ?_
          refine R.ri rt_X8_rule_52 rfl ⟨_, rfl, ?_⟩
          refine ⟨?_, ?_⟩
          · simp_all [F_rule, f_rulehi]
          · simp_all [A_rule, f_rulehi, mx_wr_up, mx_rw_id]
        · have h6b := h6
          obtain ⟨wn, hwn, rfl⟩ := f_in_nat (n := 2) rfl h6b
          have hcw : cN (nI wn) = wn := cN_nI (by omega)
          refine R.b bk_X8_rule_39 ?_
          refine R.V2i kc_X8_rule_44 (by first | rfl | assumption) (c_X8_becomes (i := 3 + wn) (nI_add 3 wn) (by omega)) (by omega) rfl ⟨Nat.le_refl _, Nat.le_refl _⟩ (fun x44 M44 q44 => ?_)
          obtain ⟨rfl, q44⟩ := q44
          replace q44 := q44.symm
          subst q44
          refine R.j gt_X8_rule_47 ?_
          refine R.ri rt_X8_rule_52 rfl ⟨_, rfl, ?_⟩
          refine ⟨?_, ?_⟩
          · simp_all [F_rule, f_rulehi]
          · simp_all [A_rule, f_rulehi, mx_wr_up, mx_rw_id]
    · refine R.b bk_X8_rule_15 ?_
      refine R.j gt_X8_rule_18 ?_
      refine R.S3i kc_X8_rule_33 (c_X8_in) (by omega) rfl ⟨Nat.le_refl _, Nat.le_refl _⟩ (fun x33 M33 q33 => ?_)
      obtain ⟨rfl, q33⟩ := q33
      replace q33 := q33.symm
      subst q33
      refine R.c br_X8_rule_36 (And.intro (fun h36 => ?_) (fun h36 => ?_))
      · refine R.b bk_X8_rule_50 ?_
        refine R.ri rt_X8_rule_52 rfl ⟨_, rfl, ?_⟩
        refine ⟨?_, ?_⟩
        · simp_all [F_rule, f_rulehi]
        · simp_all [A_rule, f_rulehi, mx_wr_up, mx_rw_id]
      · have h6b := h6
        obtain ⟨wn, hwn, rfl⟩ := f_in_nat (n := 2) rfl h6b
        have hcw : cN (nI wn) = wn := cN_nI (by omega)
        refine R.b bk_X8_rule_39 ?_
        refine R.V2i kc_X8_rule_44 (by first | rfl | assumption) (c_X8_becomes (i := 3 + wn) (nI_add 3 wn) (by omega)) (by omega) rfl ⟨Nat.le_refl _, Nat.le_refl _⟩ (fun x44 M44 q44 => ?_)
        obtain ⟨rfl, q44⟩ := q44
        replace q44 := q44.symm
        subst q44
        refine R.j gt_X8_rule_47 ?_
        refine R.ri rt_X8_rule_52 rfl ⟨_, rfl, ?_⟩
        refine ⟨?_, ?_⟩
        · simp_all [F_rule, f_rulehi]
        · simp_all [A_rule, f_rulehi, mx_wr_up, mx_rw_id]
theorem c_X8_draw {l : Launch} {G : Gt} {M : Mm}  : Runs l G true dm_X8_draw 0 127 [.ref 103] M 127 (Pi (fun x M1 => x = f_dr (f_dz (M 104 0)) ∧ M1 = mx_rw M 104 (A_draw (M 104)))) := by
  refine mx_run ow_X8_draw rfl rfl (fun dp X hdp R => ?_)
  refine R.b bk_X8_draw_0 (And.intro (by first | rfl | assumption) (And.intro (by first | rfl | assumption) (And.intro (by first | rfl | assumption) (And.intro (by exact vp_lit rfl) (And.intro (by first | rfl | assumption) (And.intro (by exact vp_lit rfl) (And.intro (by first | rfl | assumption) (And.intro (by first | rfl | assumption) (And.intro (by exact vp_lit rfl) ?_)))))))))
  refine R.ri rt_X8_draw_28 rfl ⟨_, rfl, ?_⟩
  refine ⟨?_, rfl⟩
  rfl
theorem c_X8_seed {l : Launch} {G : Gt} {M : Mm} {v : Int32} : Runs l G true dm_X8_seed 1 127 [.ref 103, .int v] M 127 (Pi (fun x M1 => x = M 104 0 ∧ M1 = mx_rw M 104 (up (M 104) 0 v))) := by
  refine mx_run ow_X8_seed rfl rfl (fun dp X hdp R => ?_)
  refine R.b bk_X8_seed_0 ?_
  refine R.V2i kc_X8_seed_3 (by first | rfl | assumption) (c_X8_becomes (i := 0) rfl (by omega)) (by omega) rfl ⟨Nat.le_refl _, Nat.le_refl _⟩ (fun x3 M3 q3 => ?_)
  obtain ⟨rfl, q3⟩ := q3
  replace q3 := q3.symm
  subst q3
  refine R.ri rt_X8_seed_6 rfl ⟨_, rfl, ?_⟩
  exact ⟨rfl, rfl⟩
end
section
/-! texts at work -/
def cntF (a : Rw) (key : Int32) : Nat → Int32
  | 0 => -1
  | t + 1 => if a (55 + 2 * t) / 1000 = key then nI t else cntF a key t
/-- the text that counts for a key -/
def A_cnt (a : Rw) (key : Int32) : Int32 := cntF a key (cN (a 6))
theorem e_55 (t : Nat) : (55 : Int32) + 2 * nI t = nI (55 + 2 * t) := by rw [show (55 : Int32) = nI 55 from rfl, show (2 : Int32) = nI 2 from rfl, pk_mul, nI_add]
theorem e_83 (t k : Nat) : (83 : Int32) + 96 * nI t + nI k = nI (83 + 96 * t + k) := by rw [show (83 : Int32) = nI 83 from rfl, show (96 : Int32) = nI 96 from rfl, pk_mul, nI_add, nI_add]
theorem vp_n {x : Int32} {i n : Nat} (e : x = nI i) (h : i < n) (hn : n < 2 ^ 31) : vp_in x n := by rw [e]; exact vp_in_nI h hn
theorem cl_n {x : Int32} {i : Nat} (e : x = nI i) (h : i < 2 ^ 31) : x.toNatClampNeg = i := by rw [e]; exact nI_clamp h
theorem nI_pm (t : Nat) : nI (t + 1) - 1 = nI t := nI_pred t
theorem nI_m1' (t : Nat) : nI t + Int32.ofInt (-1) = nI t - 1 := by
  rw [show Int32.ofInt (-1) = -1 from rfl]
  exact (Int32.sub_eq_add_neg (nI t) 1).symm
theorem c_X8_counts {l : Launch} {G : Gt} {M : Mm} {key : Int32} {T : Nat} (hT : T ≤ 14) (h6 : M 104 6 = nI T) : Runs l G true dm_X8_counts 0 127 [.ref 103, .int key] M 127 (Pi (fun x M1 => x = A_cnt (M 104) key ∧ M1 = M)) := by
  refine mx_run ow_X8_counts rfl rfl (fun dp X hdp R => ?_)
  have hA : ∀ (t : Nat), t ≤ 14 → cntF (M 104) key t = A_cnt (M 104) key → X 127 M 10 [some (.ref 103), some (.int key), some (.int (nI t - 1))] [] := by
    intro t
    induction t with
    | zero =>
      intro ht hc
      refine R.b bk_X8_counts_10 ?_
      refine R.c br_X8_counts_11 (And.intro (fun h11 => ?_) (fun h11 => absurd (by decide) h11))
      refine R.b bk_X8_counts_41 ?_
      refine R.ri rt_X8_counts_42 rfl ⟨_, rfl, ?_⟩
      exact ⟨hc, rfl⟩
    | succ t ih =>
      intro ht hc
      rw [nI_pm]
      refine R.b bk_X8_counts_10 ?_
      refine R.c br_X8_counts_11 (And.intro (fun h11 => absurd h11 (nI_pos (by omega))) (fun h11 => ?_))
      refine R.b bk_X8_counts_14 (And.intro (by first | rfl | assumption) (And.intro (by first | rfl | assumption) (And.intro (by exact vp_n (e_55 t) (by show _ < 1427; omega) (by decide)) (And.intro (by decide) ?_))))
      rw [cl_n (e_55 t) (by omega)]
      refine R.c br_X8_counts_30 (And.intro (fun h30 => ?_) (fun h30 => ?_))
      · refine R.b bk_X8_counts_35 ?_
        refine R.j gt_X8_counts_38 ?_
        rw [nI_m1']
        exact ih (by omega) (by rw [← hc, cntF, if_neg h30])
      · refine R.b bk_X8_counts_33 ?_
        refine R.ri rt_X8_counts_34 rfl ⟨_, rfl, ?_⟩
        exact ⟨by rw [← hc, cntF, if_pos h30], rfl⟩
  refine R.b bk_X8_counts_0 (And.intro (by first | rfl | assumption) (And.intro (by first | rfl | assumption) (And.intro (by exact vp_lit rfl) ?_)))
  have e1 : M 104 (Int32.toNatClampNeg 6) = nI T := h6
  rw [e1]
  exact hA T (by omega) (by rw [A_cnt, h6, cN_nI (by omega)])
def f_two (s a b : Int32) : Int32 := if s = -8 then a * b else if s = -7 then a - b else if s = -6 then a + b else if s = -5 then (if b < a then 1 else 0) else if s = -4 then (if a = b then 1 else 0) else if s = -3 then (if a < b then 1 else 0) else if s = -2 then (if a = 0 ∨ b = 0 then 0 else 1) else if s = -1 then (if a = 0 ∧ b = 0 then 0 else 1) else if b = 0 then 0 else a / b
theorem c_X8_two {l : Launch} {G : Gt} {M : Mm} {s a b : Int32} : Runs l G true dm_X8_two 0 127 [.int s, .int a, .int b] M 127 (Pi (fun x M1 => x = f_two s a b ∧ M1 = M)) := by
  refine mx_run ow_X8_two rfl rfl (fun dp X hdp R => ?_)
  refine R.b bk_X8_two_0 ?_
  refine R.s sw_X8_two_1 (And.intro (fun h1_0 => ?_) (fun h1_0 => And.intro (fun h1_1 => ?_) (fun h1_1 => And.intro (fun h1_2 => ?_) (fun h1_2 => And.intro (fun h1_3 => ?_) (fun h1_3 => And.intro (fun h1_4 => ?_) (fun h1_4 => And.intro (fun h1_5 => ?_) (fun h1_5 => And.intro (fun h1_6 => ?_) (fun h1_6 => And.intro (fun h1_7 => ?_) (fun h1_7 => ?_)))))))))
  · refine R.b bk_X8_two_117 ?_
    refine R.ri rt_X8_two_120 rfl ⟨_, rfl, ?_⟩
    refine ⟨?_, rfl⟩
    simp_all [f_two, Int32.not_lt, Int32.not_le] <;> first | (intro hq; exact absurd hq (Int32.not_lt.mpr (by assumption))) | (split <;> first | rfl | (exfalso; simp_all))
  · refine R.b bk_X8_two_113 ?_
    refine R.ri rt_X8_two_116 rfl ⟨_, rfl, ?_⟩
    refine ⟨?_, rfl⟩
    simp_all [f_two, Int32.not_lt, Int32.not_le] <;> first | (intro hq; exact absurd hq (Int32.not_lt.mpr (by assumption))) | (split <;> first | rfl | (exfalso; simp_all))
  · refine R.b bk_X8_two_109 ?_
    refine R.ri rt_X8_two_112 rfl ⟨_, rfl, ?_⟩
    refine ⟨?_, rfl⟩
    simp_all [f_two, Int32.not_lt, Int32.not_le] <;> first | (intro hq; exact absurd hq (Int32.not_lt.mpr (by assumption))) | (split <;> first | rfl | (exfalso; simp_all))
  · refine R.b bk_X8_two_98 ?_
    refine R.c br_X8_two_100 (And.intro (fun h100 => ?_) (fun h100 => ?_))
    · refine R.b bk_X8_two_107 ?_
      refine R.ri rt_X8_two_108 rfl ⟨_, rfl, ?_⟩
      refine ⟨?_, rfl⟩
      simp_all [f_two, Int32.not_lt, Int32.not_le] <;> first | (intro hq; exact absurd hq (Int32.not_lt.mpr (by assumption))) | (split <;> first | rfl | (exfalso; simp_all))
    · refine R.b bk_X8_two_103 ?_
      refine R.j gt_X8_two_104 ?_
      refine R.ri rt_X8_two_108 rfl ⟨_, rfl, ?_⟩
      refine ⟨?_, rfl⟩
      simp_all [f_two, Int32.not_lt, Int32.not_le] <;> first | (intro hq; exact absurd hq (Int32.not_lt.mpr (by assumption))) | (split <;> first | rfl | (exfalso; simp_all))
  · refine R.b bk_X8_two_87 ?_
    refine R.c br_X8_two_89 (And.intro (fun h89 => ?_) (fun h89 => ?_))
    · refine R.b bk_X8_two_96 ?_
      refine R.ri rt_X8_two_97 rfl ⟨_, rfl, ?_⟩
      refine ⟨?_, rfl⟩
      simp_all [f_two, Int32.not_lt, Int32.not_le] <;> first | (intro hq; exact absurd hq (Int32.not_lt.mpr (by assumption))) | (split <;> first | rfl | (exfalso; simp_all))
    · refine R.b bk_X8_two_92 ?_
      refine R.j gt_X8_two_93 ?_
      refine R.ri rt_X8_two_97 rfl ⟨_, rfl, ?_⟩
      refine ⟨?_, rfl⟩
      simp_all [f_two, Int32.not_lt, Int32.not_le] <;> first | (intro hq; exact absurd hq (Int32.not_lt.mpr (by assumption))) | (split <;> first | rfl | (exfalso; simp_all))
  · refine R.b bk_X8_two_76 ?_
    refine R.c br_X8_two_78 (And.intro (fun h78 => ?_) (fun h78 => ?_))
    · refine R.b bk_X8_two_85 ?_
      refine R.ri rt_X8_two_86 rfl ⟨_, rfl, ?_⟩
      refine ⟨?_, rfl⟩
      simp_all [f_two, Int32.not_lt, Int32.not_le] <;> first | (intro hq; exact absurd hq (Int32.not_lt.mpr (by assumption))) | (split <;> first | rfl | (exfalso; simp_all))
    · refine R.b bk_X8_two_81 ?_
      refine R.j gt_X8_two_82 ?_
      refine R.ri rt_X8_two_86 rfl ⟨_, rfl, ?_⟩
      refine ⟨?_, rfl⟩
      simp_all [f_two, Int32.not_lt, Int32.not_le] <;> first | (intro hq; exact absurd hq (Int32.not_lt.mpr (by assumption))) | (split <;> first | rfl | (exfalso; simp_all))
  · refine R.b bk_X8_two_62 ?_
    refine R.c br_X8_two_63 (And.intro (fun h63 => ?_) (fun h63 => ?_))
    · refine R.b bk_X8_two_74 ?_
      refine R.ri rt_X8_two_75 rfl ⟨_, rfl, ?_⟩
      refine ⟨?_, rfl⟩
      simp_all [f_two, Int32.not_lt, Int32.not_le] <;> first | (intro hq; exact absurd hq (Int32.not_lt.mpr (by assumption))) | (split <;> first | rfl | (exfalso; simp_all))
    · refine R.b bk_X8_two_66 ?_
      refine R.c br_X8_two_67 (And.intro (fun h67 => ?_) (fun h67 => ?_))
      · refine R.b bk_X8_two_74 ?_
        refine R.ri rt_X8_two_75 rfl ⟨_, rfl, ?_⟩
        refine ⟨?_, rfl⟩
        simp_all [f_two, Int32.not_lt, Int32.not_le] <;> first | (intro hq; exact absurd hq (Int32.not_lt.mpr (by assumption))) | (split <;> first | rfl | (exfalso; simp_all))
      · refine R.b bk_X8_two_70 ?_
        refine R.j gt_X8_two_71 ?_
        refine R.ri rt_X8_two_75 rfl ⟨_, rfl, ?_⟩
        refine ⟨?_, rfl⟩
        simp_all [f_two, Int32.not_lt, Int32.not_le] <;> first | (intro hq; exact absurd hq (Int32.not_lt.mpr (by assumption))) | (split <;> first | rfl | (exfalso; simp_all))
  · refine R.b bk_X8_two_48 ?_
    refine R.c br_X8_two_49 (And.intro (fun h49 => ?_) (fun h49 => ?_))
    · refine R.b bk_X8_two_56 ?_
      refine R.j gt_X8_two_57 ?_
      refine R.ri rt_X8_two_61 rfl ⟨_, rfl, ?_⟩
      refine ⟨?_, rfl⟩
      simp_all [f_two, Int32.not_lt, Int32.not_le] <;> first | (intro hq; exact absurd hq (Int32.not_lt.mpr (by assumption))) | (split <;> first | rfl | (exfalso; simp_all))
    · refine R.b bk_X8_two_52 ?_
      refine R.c br_X8_two_53 (And.intro (fun h53 => ?_) (fun h53 => ?_))
      · refine R.b bk_X8_two_60 ?_
        refine R.ri rt_X8_two_61 rfl ⟨_, rfl, ?_⟩
        refine ⟨?_, rfl⟩
        simp_all [f_two, Int32.not_lt, Int32.not_le] <;> first | (intro hq; exact absurd hq (Int32.not_lt.mpr (by assumption))) | (split <;> first | rfl | (exfalso; simp_all))
      · refine R.b bk_X8_two_56 ?_
        refine R.j gt_X8_two_57 ?_
        refine R.ri rt_X8_two_61 rfl ⟨_, rfl, ?_⟩
        refine ⟨?_, rfl⟩
        simp_all [f_two, Int32.not_lt, Int32.not_le] <;> first | (intro hq; exact absurd hq (Int32.not_lt.mpr (by assumption))) | (split <;> first | rfl | (exfalso; simp_all))
  · refine R.b bk_X8_two_121 ?_
    refine R.c br_X8_two_122 (And.intro (fun h122 => ?_) (fun h122 => ?_))
    · refine R.b bk_X8_two_129 (And.intro h122 ?_)
      refine R.ri rt_X8_two_132 rfl ⟨_, rfl, ?_⟩
      refine ⟨?_, rfl⟩
      simp_all [f_two, Int32.not_lt, Int32.not_le] <;> first | (intro hq; exact absurd hq (Int32.not_lt.mpr (by assumption))) | (split <;> first | rfl | (exfalso; simp_all))
    · refine R.b bk_X8_two_125 ?_
      refine R.j gt_X8_two_126 ?_
      refine R.ri rt_X8_two_132 rfl ⟨_, rfl, ?_⟩
      refine ⟨?_, rfl⟩
      simp_all [f_two, Int32.not_lt, Int32.not_le] <;> first | (intro hq; exact absurd hq (Int32.not_lt.mpr (by assumption))) | (split <;> first | rfl | (exfalso; simp_all))
/-- one step of a text's working out: the stack, its top first -/
def ev1 (fc : Nat → Int32) (c : Int32) (st : List Int32) : List Int32 :=
  if c < 0 then (if c = -10 then (match st with | x :: r => (if x = 0 then 1 else 0) :: r | [] => []) else (match st with | y :: x :: r => f_two c x y :: r | r => r)) else (if c < 10000 then c else fc (cN (c - 10000))) :: st
theorem ev1_num {fc : Nat → Int32} {c : Int32} {st : List Int32} (h : ¬ c < 0) (h2 : c < 10000) : ev1 fc c st = c :: st := by
  unfold ev1
  rw [if_neg h, if_pos h2]
theorem ev1_nm {fc : Nat → Int32} {c : Int32} {st : List Int32} (h : ¬ c < 0) (h2 : ¬ c < 10000) : ev1 fc c st = fc (cN (c - 10000)) :: st := by
  unfold ev1
  rw [if_neg h, if_neg h2]
theorem ev1_not {fc : Nat → Int32} {c x : Int32} {r : List Int32} (h : c < 0) (h2 : c = -10) : ev1 fc c (x :: r) = (if x = 0 then 1 else 0) :: r := by
  unfold ev1
  rw [if_pos h, if_pos h2]
theorem ev1_two {fc : Nat → Int32} {c x y : Int32} {r : List Int32} (h : c < 0) (h2 : ¬ c = -10) : ev1 fc c (y :: x :: r) = f_two c x y :: r := by
  unfold ev1
  rw [if_pos h, if_neg h2]
def evN (fc : Nat → Int32) (code : Nat → Int32) : Nat → List Int32
  | 0 => []
  | n + 1 => ev1 fc (code n) (evN fc code n)
/-- how many stand on the stack -/
def dlN (code : Nat → Int32) : Nat → Nat
  | 0 => 0
  | n + 1 => if code n < 0 then (if code n = -10 then dlN code n else dlN code n - 1) else dlN code n + 1
/-- a code that can be worked out, with nn names -/
def WFc (code : Nat → Int32) (n nn : Nat) : Prop := n ≤ 96 ∧ 1 ≤ dlN code n ∧ (∀ k, k < n → (code k < 0 → (if code k = -10 then 1 else 2) ≤ dlN code k) ∧ (¬ code k < 0 → ∃ j, code k = nI j ∧ j < 10000 + nn))
theorem evN_len {fc : Nat → Int32} {code : Nat → Int32} {n nn : Nat} (h : WFc code n nn) : ∀ k, k ≤ n → (evN fc code k).length = dlN code k := by
  intro k
  induction k with
  | zero => intro _; rfl
  | succ k ih =>
    intro hk
    have h1 := ih (by omega)
    have h2 := h.2.2 k (by omega)
    simp only [evN, dlN, ev1]
    by_cases hc : code k < 0
    · have h3 := h2.1 hc
      rw [if_pos hc, if_pos hc]
      by_cases h10 : code k = -10
      · rw [if_pos h10, if_pos h10]
        rw [if_pos h10] at h3
        cases hs : evN fc code k with
        | nil => rw [hs] at h1; simp at h1; omega
        | cons x r => rw [hs] at h1; simpa using h1
      · rw [if_neg h10, if_neg h10]
        rw [if_neg h10] at h3
        match hs : evN fc code k with
        | [] => rw [hs] at h1; simp at h1; omega
        | [y] => rw [hs] at h1; simp at h1; omega
        | y :: x :: r => rw [hs] at h1; simp at h1 ⊢; omega
    · rw [if_neg hc, if_neg hc]
      simp [h1]
theorem dlN_le (code : Nat → Int32) : ∀ k, dlN code k ≤ k
  | 0 => Nat.le_refl 0
  | k + 1 => by
    have := dlN_le code k
    unfold dlN
    split
    · split <;> omega
    · omega
theorem evN_congr {fc fc' : Nat → Int32} {code : Nat → Int32} {n nn : Nat} (h : WFc code n nn) (hf : ∀ j, j < nn → fc j = fc' j) (hn : nn ≤ 1000) : ∀ k, k ≤ n → evN fc code k = evN fc' code k := by
  intro k
  induction k with
  | zero => intro _; rfl
  | succ k ih =>
    intro hk
    simp only [evN, ih (by omega), ev1]
    by_cases hc : code k < 0
    · rw [if_pos hc, if_pos hc]
    · rw [if_neg hc, if_neg hc]
      obtain ⟨j, hj, hlt⟩ := (h.2.2 k (by omega)).2 hc
      by_cases h4 : code k < 10000
      · rw [if_pos h4, if_pos h4]
      · rw [if_neg h4, if_neg h4]
        have h5 : 10000 ≤ j := by
          apply Nat.le_of_not_lt
          intro q
          exact h4 (by rw [hj]; exact nI_lt (b := 10000) q (by decide))
        have e : cN (code k - 10000) = j - 10000 := by
          rw [hj, show (10000 : Int32) = nI 10000 from rfl, pk_sub h5]
          exact cN_nI (by omega)
        rw [e, hf (j - 10000) (by omega)]
/-- the row holds the stack -/
def stR (r : Rw) (st : List Int32) : Prop := ∀ j, j < st.length → r j = st.getD (st.length - 1 - j) 0
theorem stR_push {r : Rw} {st : List Int32} {v : Int32} (h : stR r st) : stR (up r st.length v) (v :: st) := by
  intro j hj
  simp only [List.length_cons] at hj ⊢
  by_cases e : j = st.length
  · subst e
    simp [up]
  · rw [up_ne e, h j (by omega)]
    have : st.length + 1 - 1 - j = (st.length - 1 - j) + 1 := by omega
    rw [this]
    simp
theorem stR_top {r : Rw} {st : List Int32} {x : Int32} (h : stR r (x :: st)) : r st.length = x := by
  have := h st.length (by simp)
  simpa using this
theorem stR_tail {r : Rw} {st : List Int32} {x : Int32} (h : stR r (x :: st)) : stR r st := by
  intro j hj
  rw [h j (by simp; omega)]
  simp only [List.length_cons]
  have : st.length + 1 - 1 - j = (st.length - 1 - j) + 1 := by omega
  rw [this]
  simp
/-- a text worked out -/
def A_ev (a : Rw) (t : Nat) (fc : Nat → Int32) : Int32 := (evN fc (fun k => a (83 + 96 * t + k)) (cN (f_rem (a (55 + 2 * t)) 1000))).getLastD 0
theorem stR_last {r : Rw} {st : List Int32} (h : stR r st) (h1 : 1 ≤ st.length) : r 0 = st.getLastD 0 := by
  rw [h 0 h1]
  cases st with
  | nil => simp at h1
  | cons x r => simp [List.getLastD_cons, List.getD_eq_getElem?_getD, List.getLastD]; grind
theorem c_X8_worksOut {l : Launch} {G : Gt} {M : Mm} {t n nn : Nat} (ht : t < 14) (hn : f_rem (M 104 (55 + 2 * t)) 1000 = nI n) (hnn : nn ≤ 3) (hw : WFc (fun k => M 104 (83 + 96 * t + k)) n nn) : Runs l G true dm_X8_worksOut 1 127 [.ref 103, .int (nI t)] M 127 (Pi (fun x M1 => x = A_ev (M 104) t (M 117) ∧ ∀ q, q ≠ 116 → M1 q = M q)) := by
  refine mx_run ow_X8_worksOut rfl rfl (fun dp X hdp R => ?_)
  have hA : ∀ (k : Nat) (s : Mm × Option Value), k ≤ n → ((∀ q, q ≠ 116 → s.1 q = M q) ∧ stR (s.1 116) (evN (M 117) (fun k => M 104 (83 + 96 * t + k)) k)) → X 127 s.1 21 [some (.ref 103), some (.int (nI t)), some (.int (nI (evN (M 117) (fun k => M 104 (83 + 96 * t + k)) k).length)), some (.int (nI n)), some (.int (nI k)), s.2] [] := by
    refine mx_loop (σ := Mm × Option Value) (fun k s => X 127 s.1 21 [some (.ref 103), some (.int (nI t)), some (.int (nI (evN (M 117) (fun k => M 104 (83 + 96 * t + k)) k).length)), some (.int (nI n)), some (.int (nI k)), s.2] []) n (fun k s => (∀ q, q ≠ 116 → s.1 q = M q) ∧ stR (s.1 116) (evN (M 117) (fun k => M 104 (83 + 96 * t + k)) k)) (fun k s hk hI ih => ?_) (fun s hI => ?_)
    · obtain ⟨M1, c5⟩ := s
      obtain ⟨hI1, hI2⟩ := hI
      dsimp only at hI1 hI2 ⊢
      have hk96 := hw.1
      have hlen := evN_len (fc := M 117) hw k (by omega)
      have hle := dlN_le (fun k => M 104 (83 + 96 * t + k)) k
      have hwk := hw.2.2 k hk
      dsimp only at hwk
      have e104 := hI1 104 (by decide)
      have e117 := hI1 117 (by decide)
      have ih2 : ∀ (M2 : Mm) (c : Option Value), (∀ q, q ≠ 116 → M2 q = M q) → stR (M2 116) (ev1 (M 117) (M 104 (83 + 96 * t + k)) (evN (M 117) (fun k => M 104 (83 + 96 * t + k)) k)) → X 127 M2 21 [some (.ref 103), some (.int (nI t)), some (.int (nI (ev1 (M 117) (M 104 (83 + 96 * t + k)) (evN (M 117) (fun k => M 104 (83 + 96 * t + k)) k)).length)), some (.int (nI n)), some (.int (nI (k + 1))), c] [] := fun M2 c h1 h2 => ih (M2, c) ⟨h1, h2⟩
      clear ih
      rw [← hlen] at hwk hle
      generalize evN (M 117) (fun k => M 104 (83 + 96 * t + k)) k = st at *
      have hs96 : st.length < 96 := by omega
      by_cases hneg : M 104 (83 + 96 * t + k) < 0
      · have hd2 := hwk.1 hneg
        by_cases h10 : M 104 (83 + 96 * t + k) = -10
        · rw [if_pos h10] at hd2
          match st, hd2, hs96, hI2, ih2 with
          | [], hd2, _, _, _ => exact absurd hd2 (by simp)
          | x :: r, hd2, hs96, hI2, ih2 =>
            refine R.b bk_X8_worksOut_21 ?_
            refine R.c br_X8_worksOut_24 (And.intro (fun h24 => absurd h24 (nI_ge hk (by omega))) (fun h24 => ?_))
            refine R.b bk_X8_worksOut_27 (And.intro (by first | rfl | assumption) (And.intro (by first | rfl | assumption) (And.intro (by exact vp_n (e_83 t k) (by show _ < 1427; omega) (by decide)) ?_)))
            rw [cl_n (e_83 t k) (by omega), e104]
            refine R.c br_X8_worksOut_46 (And.intro (fun h46 => ?_) (fun h46 => absurd hneg h46))
            refine R.b bk_X8_worksOut_85 ?_
            refine R.c br_X8_worksOut_89 (And.intro (fun h89 => absurd h10 h89) (fun h89 => ?_))
            refine R.b bk_X8_worksOut_92 (And.intro (by first | rfl | assumption) (And.intro (by first | rfl | assumption) (And.intro (by first | rfl | assumption) (And.intro (by exact vp_n (nI_pm r.length) (by show _ < 96; simp at hs96; omega) (by decide)) ?_))))
            refine R.c br_X8_worksOut_107 (And.intro (fun h107 => ?_) (fun h107 => ?_))
            · refine R.b bk_X8_worksOut_114 ?_
              refine R.b bk_X8_worksOut_115 (And.intro (by first | rfl | assumption) (And.intro (by exact vp_n (nI_pm r.length) (by show _ < 96; simp at hs96; omega) (by decide)) ?_))
              refine R.j gt_X8_worksOut_116 ?_
              refine R.b bk_X8_worksOut_149 ?_
              refine R.j gt_X8_worksOut_152 ?_
              rw [nI_inc]
              have hx := ih2 (mx_wr M1 116 r.length (if x = 0 then 1 else 0)) (some (.int (M 104 (83 + 96 * t + k)))) (fun q hq => by rw [mx_wr_ne hq]; exact hI1 q hq) (by
                rw [ev1_not hneg h10]
                exact stR_push (stR_tail hI2))
              rw [ev1_not hneg h10] at hx
              simp only [List.length_cons] at hx h107 ⊢
              have e9 : (nI (r.length + 1) - 1).toNatClampNeg = r.length := by rw [nI_pm]; exact nI_clamp (by simp at hs96; omega)
              rw [e9] at h107 ⊢
              rw [stR_top hI2] at h107
              simp only [h107] at hx
              exact hx
            · refine R.b bk_X8_worksOut_110 ?_
              refine R.j gt_X8_worksOut_111 ?_
              refine R.b bk_X8_worksOut_115 (And.intro (by first | rfl | assumption) (And.intro (by exact vp_n (nI_pm r.length) (by show _ < 96; simp at hs96; omega) (by decide)) ?_))
              refine R.j gt_X8_worksOut_116 ?_
              refine R.b bk_X8_worksOut_149 ?_
              refine R.j gt_X8_worksOut_152 ?_
              rw [nI_inc]
              have hx := ih2 (mx_wr M1 116 r.length (if x = 0 then 1 else 0)) (some (.int (M 104 (83 + 96 * t + k)))) (fun q hq => by rw [mx_wr_ne hq]; exact hI1 q hq) (by
                rw [ev1_not hneg h10]
                exact stR_push (stR_tail hI2))
              rw [ev1_not hneg h10] at hx
              simp only [List.length_cons] at hx h107 ⊢
              have e9 : (nI (r.length + 1) - 1).toNatClampNeg = r.length := by rw [nI_pm]; exact nI_clamp (by simp at hs96; omega)
              rw [e9] at h107 ⊢
              rw [stR_top hI2] at h107
              simp only [h107] at hx
              exact hx
        · rw [if_neg h10] at hd2
          match st, hd2, hs96, hI2, ih2 with
          | [], hd2, _, _, _ => exact absurd hd2 (by simp)
          | [y], hd2, _, _, _ => exact absurd hd2 (by simp)
          | y :: x :: r, hd2, hs96, hI2, ih2 =>
            refine R.b bk_X8_worksOut_21 ?_
            refine R.c br_X8_worksOut_24 (And.intro (fun h24 => absurd h24 (nI_ge hk (by omega))) (fun h24 => ?_))
            refine R.b bk_X8_worksOut_27 (And.intro (by first | rfl | assumption) (And.intro (by first | rfl | assumption) (And.intro (by exact vp_n (e_83 t k) (by show _ < 1427; omega) (by decide)) ?_)))
            rw [cl_n (e_83 t k) (by omega), e104]
            refine R.c br_X8_worksOut_46 (And.intro (fun h46 => ?_) (fun h46 => absurd hneg h46))
            refine R.b bk_X8_worksOut_85 ?_
            refine R.c br_X8_worksOut_89 (And.intro (fun h89 => ?_) (fun h89 => absurd h89 h10))
            refine R.b bk_X8_worksOut_119 (And.intro (by first | rfl | assumption) (And.intro (by first | rfl | assumption) (And.intro (by first | rfl | assumption) (And.intro (by exact vp_n (show nI ((r.length + 1) + 1) + Int32.ofInt (-1) - 1 = nI r.length by rw [nI_m1', nI_pm, nI_pm]) (by show _ < 96; simp at hs96; omega) (by decide)) (And.intro (by first | rfl | assumption) (And.intro (by first | rfl | assumption) (And.intro (by exact vp_n (show nI ((r.length + 1) + 1) + Int32.ofInt (-1) = nI (r.length + 1) by rw [nI_m1', nI_pm]) (by show _ < 96; simp at hs96; omega) (by decide)) ?_)))))))
            refine R.S3i kc_X8_worksOut_145 (c_X8_two) (by omega) rfl ⟨Nat.le_refl _, Nat.le_refl _⟩ (fun x145 M145 q145 => ?_)
            obtain ⟨rfl, q145⟩ := q145
            replace q145 := q145.symm
            subst q145
            refine R.b bk_X8_worksOut_148 (And.intro (by first | rfl | assumption) (And.intro (by exact vp_n (show nI ((r.length + 1) + 1) + Int32.ofInt (-1) - 1 = nI r.length by rw [nI_m1', nI_pm, nI_pm]) (by show _ < 96; simp at hs96; omega) (by decide)) ?_))
            refine R.b bk_X8_worksOut_149 ?_
            refine R.j gt_X8_worksOut_152 ?_
            rw [nI_inc]
            have hx := ih2 (mx_wr M1 116 r.length (f_two (M 104 (83 + 96 * t + k)) x y)) (some (.int (M 104 (83 + 96 * t + k)))) (fun q hq => by rw [mx_wr_ne hq]; exact hI1 q hq) (by
              rw [ev1_two hneg h10]
              exact stR_push (stR_tail (stR_tail hI2)))
            rw [ev1_two hneg h10] at hx
            simp only [List.length_cons] at hx
            have et : nI ((r.length + 1) + 1) + Int32.ofInt (-1) = nI (r.length + 1) := by rw [nI_m1', nI_pm]
            have e9 : (nI (r.length + 1) - 1).toNatClampNeg = r.length := by rw [nI_pm]; exact nI_clamp (by simp at hs96; omega)
            have e8 : (nI (r.length + 1)).toNatClampNeg = r.length + 1 := nI_clamp (by simp at hs96; omega)
            have ey : M1 116 (r.length + 1) = y := stR_top hI2
            have ex : M1 116 r.length = x := stR_top (stR_tail hI2)
            simp only [List.length_cons, et, e9, e8, ex, ey]
            exact hx
      · obtain ⟨j, hj, hj2⟩ := hwk.2 hneg
        by_cases hbig : M 104 (83 + 96 * t + k) < 10000
        · refine R.b bk_X8_worksOut_21 ?_
          refine R.c br_X8_worksOut_24 (And.intro (fun h24 => absurd h24 (nI_ge hk (by omega))) (fun h24 => ?_))
          refine R.b bk_X8_worksOut_27 (And.intro (by first | rfl | assumption) (And.intro (by first | rfl | assumption) (And.intro (by exact vp_n (e_83 t k) (by show _ < 1427; omega) (by decide)) ?_)))
          rw [cl_n (e_83 t k) (by omega), e104]
          refine R.c br_X8_worksOut_46 (And.intro (fun h46 => absurd h46 hneg) (fun h46 => ?_))
          refine R.b bk_X8_worksOut_49 (And.intro (by first | rfl | assumption) ?_)
          refine R.c br_X8_worksOut_59 (And.intro (fun h59 => absurd h59 (Int32.not_le.mpr hbig)) (fun h59 => ?_))
          refine R.b bk_X8_worksOut_62 ?_
          refine R.j gt_X8_worksOut_64 ?_
          refine R.b bk_X8_worksOut_78 (And.intro (by first | rfl | assumption) (And.intro (by exact vp_in_nI (by show _ < 96; omega) (by decide)) ?_))
          refine R.j gt_X8_worksOut_82 ?_
          refine R.b bk_X8_worksOut_149 ?_
          refine R.j gt_X8_worksOut_152 ?_
          rw [nI_inc, nI_inc, nI_clamp (by omega)]
          have hx := ih2 (mx_wr M1 116 st.length (M 104 (83 + 96 * t + k))) (some (.int (M 104 (83 + 96 * t + k)))) (fun q hq => by rw [mx_wr_ne hq]; exact hI1 q hq) (by
            rw [ev1_num hneg hbig]
            exact stR_push hI2)
          rw [ev1_num hneg hbig] at hx
          exact hx
        · refine R.b bk_X8_worksOut_21 ?_
          refine R.c br_X8_worksOut_24 (And.intro (fun h24 => absurd h24 (nI_ge hk (by omega))) (fun h24 => ?_))
          refine R.b bk_X8_worksOut_27 (And.intro (by first | rfl | assumption) (And.intro (by first | rfl | assumption) (And.intro (by exact vp_n (e_83 t k) (by show _ < 1427; omega) (by decide)) ?_)))
          rw [cl_n (e_83 t k) (by omega), e104]
          refine R.c br_X8_worksOut_46 (And.intro (fun h46 => absurd h46 hneg) (fun h46 => ?_))
          refine R.b bk_X8_worksOut_49 (And.intro (by first | rfl | assumption) ?_)
          refine R.c br_X8_worksOut_59 (And.intro (fun h59 => ?_) (fun h59 => absurd (Int32.not_lt.mp hbig) h59))
          have h5 : 10000 ≤ j := by
            apply Nat.le_of_not_lt
            intro q
            exact hbig (by rw [hj]; exact nI_lt (b := 10000) q (by decide))
          have ej : M 104 (83 + 96 * t + k) - 10000 = nI (j - 10000) := by rw [hj, show (10000 : Int32) = nI 10000 from rfl, pk_sub h5]
          refine R.b bk_X8_worksOut_67 (And.intro (by first | rfl | assumption) (And.intro (by first | rfl | assumption) (And.intro (by exact vp_n ej (by show _ < 4; omega) (by decide)) ?_)))
          refine R.b bk_X8_worksOut_78 (And.intro (by first | rfl | assumption) (And.intro (by exact vp_in_nI (by show _ < 96; omega) (by decide)) ?_))
          refine R.j gt_X8_worksOut_82 ?_
          refine R.b bk_X8_worksOut_149 ?_
          refine R.j gt_X8_worksOut_152 ?_
          rw [nI_inc, nI_inc, nI_clamp (by omega), e117]
          have hx := ih2 (mx_wr M1 116 st.length (M 117 (M 104 (83 + 96 * t + k) - 10000).toNatClampNeg)) (some (.int (M 104 (83 + 96 * t + k)))) (fun q hq => by rw [mx_wr_ne hq]; exact hI1 q hq) (by
            rw [ev1_nm hneg hbig]
            exact stR_push hI2)
          rw [ev1_nm hneg hbig] at hx
          exact hx
    · obtain ⟨M1, c5⟩ := s
      obtain ⟨hI1, hI2⟩ := hI
      dsimp only at hI1 hI2 ⊢
      have hlen := evN_len (fc := M 117) hw n (Nat.le_refl n)
      refine R.b bk_X8_worksOut_21 ?_
      refine R.c br_X8_worksOut_24 (And.intro (fun h24 => ?_) (fun h24 => absurd (nI_le (Nat.le_refl n) (by have := hw.1; omega)) h24))
      refine R.b bk_X8_worksOut_155 (And.intro (by first | rfl | assumption) (And.intro (by first | rfl | assumption) (And.intro (by exact vp_lit rfl) ?_)))
      refine R.ri rt_X8_worksOut_161 rfl ⟨_, rfl, ?_⟩
      refine ⟨?_, hI1⟩
      rw [A_ev, hn, cN_nI (by have := hw.1; omega)]
      exact stR_last hI2 (by rw [hlen]; exact hw.2.1)
  refine R.b bk_X8_worksOut_0 (And.intro (by first | rfl | assumption) (And.intro (by first | rfl | assumption) (And.intro (by exact vp_n (e_55 t) (by show _ < 1427; omega) (by decide)) (And.intro (by decide) ?_))))
  rw [cl_n (e_55 t) (by omega)]
  have e1 : M 104 (55 + 2 * t) - M 104 (55 + 2 * t) / 1000 * 1000 = nI n := hn
  rw [e1]
  exact hA 0 (M, none) (Nat.zero_le n) ⟨fun q _ => rfl, fun j hj => absurd hj (Nat.not_lt_zero j)⟩
end
section
/-! days -/
def nnK (k : Nat) : Nat := if k = 0 then 3 else 2
/-- the texts of a row can be worked out -/
def VT (a : Rw) : Prop := ∃ T, T ≤ 14 ∧ a 6 = nI T ∧ ∀ t, t < T → ∃ k n, k ≤ 2 ∧ n ≤ 96 ∧ a (55 + 2 * t) = nI (1000 * k + n) ∧ WFc (fun j => a (83 + 96 * t + j)) n (nnK k)
theorem cnt_spec {a : Rw} {kk : Nat} (hk : kk ≤ 2) (h : VT a) : A_cnt a (nI kk) = -1 ∨ ∃ t n, t < 14 ∧ A_cnt a (nI kk) = nI t ∧ f_rem (a (55 + 2 * t)) 1000 = nI n ∧ WFc (fun j => a (83 + 96 * t + j)) n (nnK kk) := by
  obtain ⟨T, hT, h6, ht⟩ := h
  unfold A_cnt
  rw [h6, cN_nI (by omega)]
  clear h6
  induction T with
  | zero => exact Or.inl rfl
  | succ T ih =>
    unfold cntF
    obtain ⟨k, n, h1, h2, h3, h4⟩ := ht T (by omega)
    split
    · rename_i hq
      refine Or.inr ⟨T, n, by omega, rfl, ?_, ?_⟩
      · rw [f_rem, h3, show (1000 : Int32) = nI 1000 from rfl, pk_rem (by omega) (by decide) (by decide)]
        congr 1
        omega
      · rw [h3, show (1000 : Int32) = nI 1000 from rfl, pk_div (by omega) (by decide) (by decide), nI_eq (by omega) (by omega)] at hq
        have : k = kk := by omega
        rw [← this]
        exact h4
    · exact ih (by omega) (fun t ht' => ht t (by omega))
theorem A_ev_congr {a : Rw} {t n nn : Nat} {fc fc' : Nat → Int32} (hn : f_rem (a (55 + 2 * t)) 1000 = nI n) (hw : WFc (fun k => a (83 + 96 * t + k)) n nn) (hnn : nn ≤ 3) (hf : ∀ j, j < nn → fc j = fc' j) : A_ev a t fc = A_ev a t fc' := by
  have h96 := hw.1
  rw [A_ev, A_ev, hn, cN_nI (by omega), evN_congr hw hf (by omega) n (Nat.le_refl n)]
def fc3 (x y z : Int32) : Nat → Int32 := fun j => if j = 0 then x else if j = 1 then y else z
def A_plain (a : Rw) (x l p : Int32) : Int32 := if A_cnt a 0 = -1 then x else f_held (A_ev a (cN (A_cnt a 0)) (fc3 x l p)) 0 30
def f_bk (k p r pl lg : Int32) : Int32 := if k = 1 then p / 2 else if k = 2 then p + 1 else if k = 3 then (if pl = 0 then 0 else p / 2) else if k = 4 then (if pl = lg - 1 then 2 * (p + 1) else p + 1) else if k = 5 then r else p
def A_births (a : Rw) (d : Nat) (x : Int32) : Int32 := f_bk (a (7 + 8 * d)) (A_plain a x (a (7 + 8 * d + 3)) (a (7 + 8 * d + 4))) (a (7 + 8 * d + 1)) (a (7 + 8 * d + 4)) (a (7 + 8 * d + 3))
def A_wage (a : Rw) (d : Nat) : Int32 := if A_cnt a 1 = -1 then a 3 else f_held (A_ev a (cN (A_cnt a 1)) (fc3 (a (7 + 8 * d + 3)) (a (7 + 8 * d + 2)) 0)) 0 9999
theorem nI_not_m1 {t : Nat} (h : t < 2 ^ 31) : ¬ nI t = -1 := by
  intro e
  have h1 := nI_pos h
  rw [e] at h1
  exact h1 (by decide)
theorem c_X8_birthsOf {l : Launch} {G : Gt} {M : Mm} {d : Nat} {x : Int32} (hd : d < 6) (hV : VT (M 104)) : Runs l G true dm_X8_birthsOf 2 127 [.ref 103, .int (nI d), .int x] M 127 (Pi (fun r M1 => r = A_births (M 104) d x ∧ ∀ q, q ≠ 116 → q ≠ 117 → M1 q = M q)) := by
  refine mx_run ow_X8_birthsOf rfl rfl (fun dp X hdp R => ?_)
  obtain ⟨T, hT, h6, -⟩ := id hV
  have hcs : A_cnt (M 104) 0 = -1 ∨ ∃ t n, t < 14 ∧ A_cnt (M 104) 0 = nI t ∧ f_rem (M 104 (55 + 2 * t)) 1000 = nI n ∧ WFc (fun j => M 104 (83 + 96 * t + j)) n (nnK 0) := cnt_spec (kk := 0) (by decide) hV
  have hB : ∀ (M2 : Mm) (p : Int32) (c3 : Int32), (∀ q, q ≠ 116 → q ≠ 117 → M2 q = M q) → p = A_plain (M 104) x (M 104 (7 + 8 * d + 3)) (M 104 (7 + 8 * d + 4)) → X 127 M2 56 [some (.ref 103), some (.int (nI d)), some (.int x), some (.int c3), none] [.int p] := by
    intro M2 p c3 hM2 hp
    have e104 : M2 104 = M 104 := hM2 104 (by decide) (by decide)
    refine R.b bk_X8_birthsOf_56 ?_
    refine R.V2i kc_X8_birthsOf_61 (by first | rfl | assumption) (c_X8_of (d := d) (w := 0) (by omega)) (by omega) rfl ⟨Nat.le_refl _, Nat.le_refl _⟩ (fun x61 M61 q61 => ?_)
    obtain ⟨rfl, q61⟩ := q61
    replace q61 := q61.symm
    subst q61
    refine R.s sw_X8_birthsOf_64 (And.intro (fun h64_0 => ?_) (fun h64_0 => And.intro (fun h64_1 => ?_) (fun h64_1 => And.intro (fun h64_2 => ?_) (fun h64_2 => And.intro (fun h64_3 => ?_) (fun h64_3 => And.intro (fun h64_4 => ?_) (fun h64_4 => ?_))))))
    · refine R.b bk_X8_birthsOf_100 (And.intro (by decide) ?_)
      refine R.ri rt_X8_birthsOf_104 rfl ⟨_, rfl, ?_⟩
      refine ⟨?_, hM2⟩
      subst hp
      simp_all [A_births, f_bk]
    · refine R.b bk_X8_birthsOf_105 ?_
      refine R.ri rt_X8_birthsOf_109 rfl ⟨_, rfl, ?_⟩
      refine ⟨?_, hM2⟩
      subst hp
      simp_all [A_births, f_bk]
    · refine R.b bk_X8_birthsOf_110 ?_
      refine R.V2i kc_X8_birthsOf_113 (by first | rfl | assumption) (c_X8_of (d := d) (w := 4) (by omega)) (by omega) rfl ⟨Nat.le_refl _, Nat.le_refl _⟩ (fun x113 M113 q113 => ?_)
      obtain ⟨rfl, q113⟩ := q113
      replace q113 := q113.symm
      subst q113
      refine R.c br_X8_birthsOf_116 (And.intro (fun h116 => ?_) (fun h116 => ?_))
      · refine R.b bk_X8_birthsOf_123 (And.intro (by decide) ?_)
        refine R.ri rt_X8_birthsOf_127 rfl ⟨_, rfl, ?_⟩
        refine ⟨?_, hM2⟩
        subst hp
        simp_all [A_births, f_bk]
      · refine R.b bk_X8_birthsOf_119 ?_
        refine R.j gt_X8_birthsOf_120 ?_
        refine R.ri rt_X8_birthsOf_127 rfl ⟨_, rfl, ?_⟩
        refine ⟨?_, hM2⟩
        subst hp
        simp_all [A_births, f_bk]
    · refine R.b bk_X8_birthsOf_128 ?_
      refine R.V2i kc_X8_birthsOf_131 (by first | rfl | assumption) (c_X8_of (d := d) (w := 4) (by omega)) (by omega) rfl ⟨Nat.le_refl _, Nat.le_refl _⟩ (fun x131 M131 q131 => ?_)
      obtain ⟨rfl, q131⟩ := q131
      replace q131 := q131.symm
      subst q131
      refine R.b bk_X8_birthsOf_134 ?_
      refine R.V2i kc_X8_birthsOf_137 (by first | rfl | assumption) (c_X8_of (d := d) (w := 3) (by omega)) (by omega) rfl ⟨Nat.le_refl _, Nat.le_refl _⟩ (fun x137 M137 q137 => ?_)
      obtain ⟨rfl, q137⟩ := q137
      replace q137 := q137.symm
      subst q137
      refine R.b bk_X8_birthsOf_140 ?_
      refine R.c br_X8_birthsOf_142 (And.intro (fun h142 => ?_) (fun h142 => ?_))
      · refine R.b bk_X8_birthsOf_154 ?_
        refine R.ri rt_X8_birthsOf_158 rfl ⟨_, rfl, ?_⟩
        refine ⟨?_, hM2⟩
        subst hp
        simp_all [A_births, f_bk]
      · refine R.b bk_X8_birthsOf_145 ?_
        refine R.j gt_X8_birthsOf_151 ?_
        refine R.ri rt_X8_birthsOf_158 rfl ⟨_, rfl, ?_⟩
        refine ⟨?_, hM2⟩
        subst hp
        simp_all [A_births, f_bk]
    · refine R.b bk_X8_birthsOf_159 ?_
      refine R.V2i kc_X8_birthsOf_162 (by first | rfl | assumption) (c_X8_of (d := d) (w := 1) (by omega)) (by omega) rfl ⟨Nat.le_refl _, Nat.le_refl _⟩ (fun x162 M162 q162 => ?_)
      obtain ⟨rfl, q162⟩ := q162
      replace q162 := q162.symm
      subst q162
      refine R.ri rt_X8_birthsOf_165 rfl ⟨_, rfl, ?_⟩
      refine ⟨?_, hM2⟩
      subst hp
      simp_all [A_births, f_bk]
    · refine R.b bk_X8_birthsOf_166 ?_
      refine R.ri rt_X8_birthsOf_168 rfl ⟨_, rfl, ?_⟩
      refine ⟨?_, hM2⟩
      subst hp
      simp_all [A_births, f_bk]
  refine R.b bk_X8_birthsOf_0 ?_
  refine R.V1i kc_X8_birthsOf_2 (by first | rfl | assumption) (c_X8_counts hT h6) (by omega) rfl ⟨Nat.le_refl _, Nat.le_refl _⟩ (fun x2 M2 q2 => ?_)
  obtain ⟨rfl, q2⟩ := q2
  replace q2 := q2.symm
  subst q2
  refine R.b bk_X8_birthsOf_5 (And.intro (by first | rfl | assumption) (And.intro (by first | rfl | assumption) (And.intro (by exact vp_lit rfl) (And.intro (by first | rfl | assumption) ?_))))
  refine R.V2i kc_X8_birthsOf_21 (by first | rfl | assumption) (c_X8_of (d := d) (w := 3) (by omega)) (by omega) rfl ⟨Nat.le_refl _, Nat.le_refl _⟩ (fun x21 M21 q21 => ?_)
  obtain ⟨rfl, q21⟩ := q21
  replace q21 := q21.symm
  subst q21
  refine R.b bk_X8_birthsOf_24 (And.intro (by first | rfl | assumption) (And.intro (by exact vp_lit rfl) (And.intro (by first | rfl | assumption) ?_)))
  refine R.V2i kc_X8_birthsOf_33 (by first | rfl | assumption) (c_X8_of (d := d) (w := 4) (by omega)) (by omega) rfl ⟨Nat.le_refl _, Nat.le_refl _⟩ (fun x33 M33 q33 => ?_)
  obtain ⟨rfl, q33⟩ := q33
  replace q33 := q33.symm
  subst q33
  refine R.b bk_X8_birthsOf_36 (And.intro (by first | rfl | assumption) (And.intro (by exact vp_lit rfl) ?_))
  refine R.c br_X8_birthsOf_38 (And.intro (fun h38 => ?_) (fun h38 => ?_))
  · rcases hcs with hcs | ⟨t, n, ht14, hcs, hn, hwf⟩
    · rw [hcs] at h38; exact absurd h38 (by decide)
    have hcs2 : A_cnt (M 104) 0 = nI t := hcs
    rw [hcs2]
    refine R.b bk_X8_birthsOf_45 ?_
    refine R.V1i kc_X8_birthsOf_47 (by first | rfl | assumption) (c_X8_worksOut (nn := 3) ht14 hn (by decide) hwf) (by omega) rfl ⟨Nat.le_refl _, Nat.le_refl _⟩ (fun x47 M47 q47 => ?_)
    obtain ⟨e47, f47⟩ := q47
    refine R.b bk_X8_birthsOf_50 ?_
    refine R.S3i kc_X8_birthsOf_53 (c_X8_within) (by omega) rfl ⟨Nat.le_refl _, Nat.le_refl _⟩ (fun x53 M53 q53 => ?_)
    obtain ⟨rfl, q53⟩ := q53
    replace q53 := q53.symm
    subst q53
    first
    | (refine hB _ _ _ (fun q h1 h2 => by rw [f47 q h1]; simp [mx_wr, h2]) ?_
       rw [A_plain, if_neg (by rw [hcs2]; exact nI_not_m1 (by omega)), hcs2, cN_nI (by omega), e47]
       congr 1
       refine A_ev_congr hn hwf (by decide) (fun j hj => ?_)
       rcases (show j = 0 ∨ j = 1 ∨ j = 2 by unfold nnK at hj; simp at hj; omega) with rfl | rfl | rfl <;> rfl)
    | (refine hB _ _ _ (fun q h1 h2 => by simp [mx_wr, h2]) ?_
       rcases hcs with hcs | ⟨t, n, ht14, hcs, -⟩
       · rw [A_plain, if_pos hcs]
       · exact absurd (by rw [show A_cnt (M 104) 0 = nI t from hcs]; exact nI_pos' (by omega)) h38)
  · refine R.b bk_X8_birthsOf_41 ?_
    refine R.j gt_X8_birthsOf_42 ?_
    first
    | (refine hB _ _ _ (fun q h1 h2 => by rw [f47 q h1]; simp [mx_wr, h2]) ?_
       rw [A_plain, if_neg (by rw [hcs2]; exact nI_not_m1 (by omega)), hcs2, cN_nI (by omega), e47]
       congr 1
       refine A_ev_congr hn hwf (by decide) (fun j hj => ?_)
       rcases (show j = 0 ∨ j = 1 ∨ j = 2 by unfold nnK at hj; simp at hj; omega) with rfl | rfl | rfl <;> rfl)
    | (refine hB _ _ _ (fun q h1 h2 => by simp [mx_wr, h2]) ?_
       rcases hcs with hcs | ⟨t, n, ht14, hcs, -⟩
       · rw [A_plain, if_pos hcs]
       · exact absurd (by rw [show A_cnt (M 104) 0 = nI t from hcs]; exact nI_pos' (by omega)) h38)
theorem c_X8_wageOf {l : Launch} {G : Gt} {M : Mm} {d : Nat} (hd : d < 6) (hV : VT (M 104)) : Runs l G true dm_X8_wageOf 2 127 [.ref 103, .int (nI d)] M 127 (Pi (fun r M1 => r = A_wage (M 104) d ∧ ∀ q, q ≠ 116 → q ≠ 117 → M1 q = M q)) := by
  refine mx_run ow_X8_wageOf rfl rfl (fun dp X hdp R => ?_)
  obtain ⟨T, hT, h6, -⟩ := id hV
  have hcs : A_cnt (M 104) 1 = -1 ∨ ∃ t n, t < 14 ∧ A_cnt (M 104) 1 = nI t ∧ f_rem (M 104 (55 + 2 * t)) 1000 = nI n ∧ WFc (fun j => M 104 (83 + 96 * t + j)) n (nnK 1) := cnt_spec (kk := 1) (by decide) hV
  refine R.b bk_X8_wageOf_0 ?_
  refine R.V1i kc_X8_wageOf_2 (by first | rfl | assumption) (c_X8_counts hT h6) (by omega) rfl ⟨Nat.le_refl _, Nat.le_refl _⟩ (fun x2 M2 q2 => ?_)
  obtain ⟨rfl, q2⟩ := q2
  replace q2 := q2.symm
  subst q2
  refine R.b bk_X8_wageOf_5 (And.intro (by first | rfl | assumption) ?_)
  refine R.V2i kc_X8_wageOf_14 (by first | rfl | assumption) (c_X8_of (d := d) (w := 3) (by omega)) (by omega) rfl ⟨Nat.le_refl _, Nat.le_refl _⟩ (fun x14 M14 q14 => ?_)
  obtain ⟨rfl, q14⟩ := q14
  replace q14 := q14.symm
  subst q14
  refine R.b bk_X8_wageOf_17 (And.intro (by first | rfl | assumption) (And.intro (by exact vp_lit rfl) (And.intro (by first | rfl | assumption) ?_)))
  refine R.V2i kc_X8_wageOf_26 (by first | rfl | assumption) (c_X8_of (d := d) (w := 2) (by omega)) (by omega) rfl ⟨Nat.le_refl _, Nat.le_refl _⟩ (fun x26 M26 q26 => ?_)
  obtain ⟨rfl, q26⟩ := q26
  replace q26 := q26.symm
  subst q26
  refine R.b bk_X8_wageOf_29 (And.intro (by first | rfl | assumption) (And.intro (by exact vp_lit rfl) ?_))
  refine R.c br_X8_wageOf_31 (And.intro (fun h31 => ?_) (fun h31 => ?_))
  · rcases hcs with hcs | ⟨t, n, ht14, hcs, hn, hwf⟩
    · rw [hcs] at h31; exact absurd h31 (by decide)
    have hcs2 : A_cnt (M 104) 1 = nI t := hcs
    rw [hcs2]
    refine R.b bk_X8_wageOf_43 ?_
    refine R.V1i kc_X8_wageOf_45 (by first | rfl | assumption) (c_X8_worksOut (nn := 2) ht14 hn (by decide) hwf) (by omega) rfl ⟨Nat.le_refl _, Nat.le_refl _⟩ (fun x45 M45 q45 => ?_)
    obtain ⟨e45, f45⟩ := q45
    refine R.b bk_X8_wageOf_48 ?_
    refine R.S3i kc_X8_wageOf_52 (c_X8_within) (by omega) rfl ⟨Nat.le_refl _, Nat.le_refl _⟩ (fun x52 M52 q52 => ?_)
    obtain ⟨rfl, q52⟩ := q52
    replace q52 := q52.symm
    subst q52
    refine R.ri rt_X8_wageOf_55 rfl ⟨_, rfl, ?_⟩
    first
    | (refine ⟨?_, fun q h1 h2 => by rw [f45 q h1]; simp [mx_wr, h2]⟩
       rw [A_wage, if_neg (by rw [hcs2]; exact nI_not_m1 (by omega)), hcs2, cN_nI (by omega), e45]
       congr 1
       refine A_ev_congr hn hwf (by decide) (fun j hj => ?_)
       rcases (show j = 0 ∨ j = 1 by unfold nnK at hj; simp at hj; omega) with rfl | rfl <;> rfl)
    | (refine ⟨?_, fun q h1 h2 => by simp [mx_wr, h2]⟩
       rcases hcs with hcs | ⟨t, n, ht14, hcs, -⟩
       · rw [A_wage, if_pos hcs]; rfl
       · exact absurd (by rw [show A_cnt (M 104) 1 = nI t from hcs]; exact nI_pos' (by omega)) h31)
  · refine R.b bk_X8_wageOf_34 (And.intro (by first | rfl | assumption) (And.intro (by first | rfl | assumption) (And.intro (by exact vp_lit rfl) ?_)))
    refine R.j gt_X8_wageOf_40 ?_
    refine R.ri rt_X8_wageOf_55 rfl ⟨_, rfl, ?_⟩
    first
    | (refine ⟨?_, fun q h1 h2 => by rw [f45 q h1]; simp [mx_wr, h2]⟩
       rw [A_wage, if_neg (by rw [hcs2]; exact nI_not_m1 (by omega)), hcs2, cN_nI (by omega), e45]
       congr 1
       refine A_ev_congr hn hwf (by decide) (fun j hj => ?_)
       rcases (show j = 0 ∨ j = 1 by unfold nnK at hj; simp at hj; omega) with rfl | rfl <;> rfl)
    | (refine ⟨?_, fun q h1 h2 => by simp [mx_wr, h2]⟩
       rcases hcs with hcs | ⟨t, n, ht14, hcs, -⟩
       · rw [A_wage, if_pos hcs]; rfl
       · exact absurd (by rw [show A_cnt (M 104) 1 = nI t from hcs]; exact nI_pos' (by omega)) h31)
/-- a week ends -/
def A_week (a : Rw) (d : Nat) : Rw := fun j => if j = 7 + 8 * d + 7 then a j + A_wage a d else if j = 7 + 8 * d + 2 then a j + 1 else if j = 7 + 8 * d + 3 then f_held (a (7 + 8 * d + 5)) 2 60 else if j = 7 + 8 * d + 5 then a (7 + 8 * d + 6) else if j = 7 + 8 * d + 6 then 0 else if j = 7 + 8 * d + 4 then 0 else a j
theorem c_X8_weekEnds {l : Launch} {G : Gt} {M : Mm} {d : Nat} (hd : d < 6) (hV : VT (M 104)) : Runs l G true dm_X8_weekEnds 3 127 [.ref 103, .int (nI d)] M 127 (Pv (fun M1 => M1 104 = A_week (M 104) d ∧ ∀ q, q ≠ 104 → q ≠ 116 → q ≠ 117 → M1 q = M q)) := by
  refine mx_run ow_X8_weekEnds rfl rfl (fun dp X hdp R => ?_)
  refine R.b bk_X8_weekEnds_0 ?_
  refine R.V2i kc_X8_weekEnds_8 (by first | rfl | assumption) (c_X8_of (d := d) (w := 7) (by omega)) (by omega) rfl ⟨Nat.le_refl _, Nat.le_refl _⟩ (fun x8 M8 q8 => ?_)
  obtain ⟨rfl, q8⟩ := q8
  replace q8 := q8.symm
  subst q8
  refine R.b bk_X8_weekEnds_11 ?_
  refine R.V1i kc_X8_weekEnds_13 (by first | rfl | assumption) (c_X8_wageOf hd hV) (by omega) rfl ⟨Nat.le_refl _, Nat.le_refl _⟩ (fun x13 M13 q13 => ?_)
  obtain ⟨rfl, f13⟩ := q13
  have e13 : M13 104 = M 104 := f13 104 (by decide) (by decide)
  refine R.b bk_X8_weekEnds_16 ?_
  refine R.V3v kc_X8_weekEnds_17 (by first | rfl | assumption) (c_X8_put (d := d) (w := 7) (by omega)) (by omega) rfl ⟨Nat.le_refl _, Nat.le_refl _⟩ (fun M17 q17 => ?_)
  replace q17 := q17.symm
  subst q17
  refine R.b bk_X8_weekEnds_20 ?_
  refine R.V2i kc_X8_weekEnds_26 (by first | rfl | assumption) (c_X8_of (d := d) (w := 2) (by omega)) (by omega) rfl ⟨Nat.le_refl _, Nat.le_refl _⟩ (fun x26 M26 q26 => ?_)
  obtain ⟨rfl, q26⟩ := q26
  replace q26 := q26.symm
  subst q26
  refine R.b bk_X8_weekEnds_29 ?_
  refine R.V3v kc_X8_weekEnds_31 (by first | rfl | assumption) (c_X8_put (d := d) (w := 2) (by omega)) (by omega) rfl ⟨Nat.le_refl _, Nat.le_refl _⟩ (fun M31 q31 => ?_)
  replace q31 := q31.symm
  subst q31
  refine R.b bk_X8_weekEnds_34 ?_
  refine R.V2i kc_X8_weekEnds_40 (by first | rfl | assumption) (c_X8_of (d := d) (w := 5) (by omega)) (by omega) rfl ⟨Nat.le_refl _, Nat.le_refl _⟩ (fun x40 M40 q40 => ?_)
  obtain ⟨rfl, q40⟩ := q40
  replace q40 := q40.symm
  subst q40
  refine R.b bk_X8_weekEnds_43 ?_
  refine R.S3i kc_X8_weekEnds_46 (c_X8_within) (by omega) rfl ⟨Nat.le_refl _, Nat.le_refl _⟩ (fun x46 M46 q46 => ?_)
  obtain ⟨rfl, q46⟩ := q46
  replace q46 := q46.symm
  subst q46
  refine R.V3v kc_X8_weekEnds_49 (by first | rfl | assumption) (c_X8_put (d := d) (w := 3) (by omega)) (by omega) rfl ⟨Nat.le_refl _, Nat.le_refl _⟩ (fun M49 q49 => ?_)
  replace q49 := q49.symm
  subst q49
  refine R.b bk_X8_weekEnds_52 ?_
  refine R.V2i kc_X8_weekEnds_59 (by first | rfl | assumption) (c_X8_of (d := d) (w := 6) (by omega)) (by omega) rfl ⟨Nat.le_refl _, Nat.le_refl _⟩ (fun x59 M59 q59 => ?_)
  obtain ⟨rfl, q59⟩ := q59
  replace q59 := q59.symm
  subst q59
  refine R.V3v kc_X8_weekEnds_62 (by first | rfl | assumption) (c_X8_put (d := d) (w := 5) (by omega)) (by omega) rfl ⟨Nat.le_refl _, Nat.le_refl _⟩ (fun M62 q62 => ?_)
  replace q62 := q62.symm
  subst q62
  refine R.b bk_X8_weekEnds_65 ?_
  refine R.V3v kc_X8_weekEnds_70 (by first | rfl | assumption) (c_X8_put (d := d) (w := 6) (by omega)) (by omega) rfl ⟨Nat.le_refl _, Nat.le_refl _⟩ (fun M70 q70 => ?_)
  replace q70 := q70.symm
  subst q70
  refine R.b bk_X8_weekEnds_73 ?_
  refine R.V3v kc_X8_weekEnds_77 (by first | rfl | assumption) (c_X8_put (d := d) (w := 4) (by omega)) (by omega) rfl ⟨Nat.le_refl _, Nat.le_refl _⟩ (fun M77 q77 => ?_)
  replace q77 := q77.symm
  subst q77
  refine R.rv rt_X8_weekEnds_80 ⟨rfl, ?_⟩
  refine ⟨?_, fun q h1 h2 h3 => by simp only [mx_wr, if_neg h1]; exact f13 q h2 h3⟩
  funext j
  simp only [mx_wr, if_pos, e13, A_week]
  grind
end
section
/-! a day of all districts -/
def F_births (a : Rw) (d x : Int32) : Int32 := if isD a d = 0 ∨ f_in x 0 9 = 0 then (-1000000001) else A_births a (cN d) x
def A_x (a : Rw) (d : Nat) : Int32 := f_rem (f_dr (f_dz (a 0))) (a (7 + 8 * d + 1) + 1)
def A_d2 (a : Rw) (d : Nat) : Rw := fun j => if j = 7 + 8 * d + 5 then a j + A_births (A_draw a) d (A_x a d) else if j = 7 + 8 * d + 7 then a j - a 4 else if j = 7 + 8 * d + 4 then a j + 1 else if j = 0 then f_dz (a 0) else a j
def A_end (a : Rw) (d : Nat) : Prop := A_d2 a d (7 + 8 * d + 4) = A_d2 a d (7 + 8 * d + 3)
def A_dayD (a : Rw) (d : Nat) : Rw := if A_d2 a d (7 + 8 * d + 4) = A_d2 a d (7 + 8 * d + 3) then A_week (A_d2 a d) d else A_d2 a d
def A_wkD (a : Rw) (d : Nat) : Int32 := if A_d2 a d (7 + 8 * d + 4) = A_d2 a d (7 + 8 * d + 3) then 1 else 0
def A_dayN (a : Rw) : Nat → Rw
  | 0 => a
  | d + 1 => A_dayD (A_dayN a d) d
def A_wkN (a : Rw) : Nat → Int32
  | 0 => 0
  | d + 1 => A_wkN a d + A_wkD (A_dayN a d) d
def A_day (a : Rw) : Rw := up (A_dayN a (cN (a 1))) 2 (A_dayN a (cN (a 1)) 2 + 1)
def A_wk (a : Rw) : Int32 := A_wkN a (cN (a 1))
theorem A_dayD_keep {a : Rw} {d j : Nat} (h0 : j ≠ 0) (h : j < 7 + 8 * d ∨ 15 + 8 * d ≤ j ∨ j = 7 + 8 * d ∨ j = 7 + 8 * d + 1) : A_dayD a d j = a j := by
  unfold A_dayD
  split
  · simp only [A_week, A_d2]
    grind
  · simp only [A_d2]
    grind
theorem A_dayN_keep {a : Rw} {j : Nat} (h0 : j ≠ 0) : ∀ n, (j < 7 ∨ 7 + 8 * n ≤ j ∨ j % 8 = 7 ∨ j % 8 = 0) → A_dayN a n j = a j
  | 0, _ => rfl
  | n + 1, h => by
    unfold A_dayN
    rw [A_dayD_keep h0 (by omega), A_dayN_keep h0 n (by omega)]
theorem VT_congr {a b : Rw} (h : ∀ j, j = 6 ∨ 55 ≤ j → b j = a j) (hV : VT a) : VT b := by
  obtain ⟨T, h1, h2, h3⟩ := hV
  refine ⟨T, h1, by rw [h 6 (Or.inl rfl)]; exact h2, fun t ht => ?_⟩
  obtain ⟨k, n, g1, g2, g3, g4⟩ := h3 t ht
  refine ⟨k, n, g1, g2, by rw [h _ (Or.inr (by omega))]; exact g3, ?_⟩
  have e : (fun j => b (83 + 96 * t + j)) = fun j => a (83 + 96 * t + j) := by
    funext j
    exact h _ (Or.inr (by omega))
  rw [e]
  exact g4
/-- what a day needs of a row -/
def VR (a : Rw) (mm : Nat) : Prop := mm ≤ 6 ∧ a 1 = nI mm ∧ VT a ∧ ∀ d, d < mm → ∃ rt, rt ≤ 9 ∧ a (7 + 8 * d + 1) = nI rt
theorem VR_dayN {a : Rw} {mm : Nat} (h : VR a mm) : ∀ n, n ≤ mm → VR (A_dayN a n) mm := by
  intro n hn
  obtain ⟨h1, h2, h3, h4⟩ := h
  refine ⟨h1, by rw [A_dayN_keep (by decide) n (by omega)]; exact h2, VT_congr (fun j hj => A_dayN_keep (by omega) n (by omega)) h3, fun d hd => ?_⟩
  obtain ⟨rt, g1, g2⟩ := h4 d hd
  exact ⟨rt, g1, by rw [A_dayN_keep (by omega) n (by omega)]; exact g2⟩
theorem VR_day {a : Rw} {mm : Nat} (h : VR a mm) : VR (A_day a) mm := by
  have hm := h.1
  have hc : cN (a 1) = mm := by rw [h.2.1]; exact cN_nI (by omega)
  obtain ⟨h1, h2, h3, h4⟩ := VR_dayN h mm (Nat.le_refl mm)
  unfold A_day
  rw [hc]
  refine ⟨h1, by rw [up_ne (by decide)]; exact h2, VT_congr (fun j hj => up_ne (by omega)) h3, fun d hd => ?_⟩
  obtain ⟨rt, g1, g2⟩ := h4 d hd
  exact ⟨rt, g1, by rw [up_ne (by omega)]; exact g2⟩
theorem nI_succ_ne {r : Nat} (h : r ≤ 9) : ¬ nI r + 1 = 0 := by
  rw [nI_1]
  exact nI_ne0 (by omega) (by omega)
theorem c_X8_births {l : Launch} {G : Gt} {M : Mm} {d x : Int32} {m : Nat} (hm : m ≤ 6) (h1 : M 104 1 = nI m) (hV : VT (M 104)) : Runs l G true dm_X8_births 3 127 [.ref 103, .int d, .int x] M 127 (Pi (fun r M1 => r = F_births (M 104) d x ∧ ∀ q, q ≠ 116 → q ≠ 117 → M1 q = M q)) := by
  refine mx_run ow_X8_births rfl rfl (fun dp X hdp R => ?_)
  refine R.b bk_X8_births_0 ?_
  refine R.V1i kc_X8_births_2 (by first | rfl | assumption) (c_X8_isDistrict) (by omega) rfl ⟨Nat.le_refl _, Nat.le_refl _⟩ (fun x2 M2 q2 => ?_)
  obtain ⟨rfl, q2⟩ := q2
  replace q2 := q2.symm
  subst q2
  refine R.c br_X8_births_5 (And.intro (fun h5 => ?_) (fun h5 => ?_))
  · refine R.b bk_X8_births_27 ?_
    refine R.ri rt_X8_births_29 rfl ⟨_, rfl, ?_⟩
    first | exact ⟨by simp_all [F_births, isD], f21⟩ | exact ⟨by simp_all [F_births, isD], fun q _ _ => rfl⟩
  · refine R.b bk_X8_births_8 ?_
    refine R.S3i kc_X8_births_12 (c_X8_in) (by omega) rfl ⟨Nat.le_refl _, Nat.le_refl _⟩ (fun x12 M12 q12 => ?_)
    obtain ⟨rfl, q12⟩ := q12
    replace q12 := q12.symm
    subst q12
    refine R.c br_X8_births_15 (And.intro (fun h15 => ?_) (fun h15 => ?_))
    · refine R.b bk_X8_births_27 ?_
      refine R.ri rt_X8_births_29 rfl ⟨_, rfl, ?_⟩
      first | exact ⟨by simp_all [F_births, isD], f21⟩ | exact ⟨by simp_all [F_births, isD], fun q _ _ => rfl⟩
    · obtain ⟨dn, hdn, rfl⟩ := f_in_dist (by omega) h1 h5
      have hcd : cN (nI dn) = dn := cN_nI (by omega)
      refine R.b bk_X8_births_18 ?_
      refine R.V2i kc_X8_births_21 (by first | rfl | assumption) (c_X8_birthsOf (by omega) hV) (by omega) rfl ⟨Nat.le_refl _, Nat.le_refl _⟩ (fun x21 M21 q21 => ?_)
      obtain ⟨rfl, f21⟩ := q21
      refine R.j gt_X8_births_24 ?_
      refine R.ri rt_X8_births_29 rfl ⟨_, rfl, ?_⟩
      first | exact ⟨by simp_all [F_births, isD], f21⟩ | exact ⟨by simp_all [F_births, isD], fun q _ _ => rfl⟩
theorem c_X8_day {l : Launch} {G : Gt} {M : Mm} {mm : Nat} (hV : VR (M 104) mm) : Runs l G true dm_X8_day 4 127 [.ref 103] M 127 (Pi (fun x M1 => x = A_wk (M 104) ∧ M1 104 = A_day (M 104) ∧ ∀ q, q ≠ 104 → q ≠ 116 → q ≠ 117 → M1 q = M q)) := by
  refine mx_run ow_X8_day rfl rfl (fun dp X hdp R => ?_)
  have hm6 := hV.1
  have hcm : cN (M 104 1) = mm := by rw [hV.2.1]; exact cN_nI (by omega)
  have hA : ∀ (i : Nat) (s : Mm × Option Value), i ≤ mm → (s.1 104 = A_dayN (M 104) i ∧ ∀ q, q ≠ 104 → q ≠ 116 → q ≠ 117 → s.1 q = M q) → X 127 s.1 4 [some (.ref 103), some (.int (A_wkN (M 104) i)), some (.int (nI i)), s.2] [] := by
    refine mx_loop (σ := Mm × Option Value) (fun i s => X 127 s.1 4 [some (.ref 103), some (.int (A_wkN (M 104) i)), some (.int (nI i)), s.2] []) mm (fun i s => s.1 104 = A_dayN (M 104) i ∧ ∀ q, q ≠ 104 → q ≠ 116 → q ≠ 117 → s.1 q = M q) (fun i s hi hI ih => ?_) (fun s hI => ?_)
    · obtain ⟨M1, c3⟩ := s
      obtain ⟨hI1, hI2⟩ := hI
      dsimp only at hI1 hI2 ⊢
      have ih2 : ∀ (M2 : Mm) (c : Option Value), M2 104 = A_dayN (M 104) (i + 1) → (∀ q, q ≠ 104 → q ≠ 116 → q ≠ 117 → M2 q = M q) → X 127 M2 4 [some (.ref 103), some (.int (A_wkN (M 104) (i + 1))), some (.int (nI (i + 1))), c] [] := fun M2 c g1 g2 => ih (M2, c) ⟨g1, g2⟩
      clear ih
      have hV1 : VR (M1 104) mm := by rw [hI1]; exact VR_dayN hV i (by omega)
      obtain ⟨rt, hrt, hrt2⟩ := hV1.2.2.2 i hi
      refine R.b bk_X8_day_4 (And.intro (by first | rfl | assumption) (And.intro (by first | rfl | assumption) (And.intro (vp_lit rfl) ?_)))
      refine R.c br_X8_day_11 (And.intro (fun h11 => absurd h11 (by rw [show M1 104 (Int32.toNatClampNeg 1) = nI mm from hV1.2.1]; exact nI_ge hi (by omega))) (fun h11 => ?_))
      refine R.b bk_X8_day_14 ?_
      refine R.V0i kc_X8_day_15 (by first | rfl | assumption) (c_X8_draw) (by omega) rfl ⟨Nat.le_refl _, Nat.le_refl _⟩ (fun x15 M15 q15 => ?_)
      obtain ⟨rfl, q15⟩ := q15
      replace q15 := q15.symm
      subst q15
      refine R.b bk_X8_day_18 ?_
      refine R.V2i kc_X8_day_21 (by first | rfl | assumption) (c_X8_of (d := i) (w := 1) (by omega)) (by omega) rfl ⟨Nat.le_refl _, Nat.le_refl _⟩ (fun x21 M21 q21 => ?_)
      obtain ⟨rfl, q21⟩ := q21
      replace q21 := q21.symm
      subst q21
      refine R.b bk_X8_day_24 (And.intro (by rw [show mx_rw M1 104 (A_draw (M1 104)) 104 (7 + 8 * i + 1) = nI rt by rw [mx_rw_at, A_draw, up_ne (by omega)]; exact hrt2]; exact nI_succ_ne hrt) ?_)
      show X 127 (mx_rw M1 104 (A_draw (M1 104))) 34 [some (.ref 103), some (.int (A_wkN (M 104) i)), some (.int (nI i)), some (.int (A_x (M1 104) i))] _
      refine R.V2i kc_X8_day_34 (by first | rfl | assumption) (c_X8_of (d := i) (w := 5) (by omega)) (by omega) rfl ⟨Nat.le_refl _, Nat.le_refl _⟩ (fun x34 M34 q34 => ?_)
      obtain ⟨rfl, q34⟩ := q34
      replace q34 := q34.symm
      subst q34
      refine R.b bk_X8_day_37 ?_
      refine R.V2i kc_X8_day_40 (by first | rfl | assumption) (c_X8_birthsOf (d := i) (by omega) (VT_congr (fun j hj => by rw [mx_rw_at, A_draw, up_ne (by omega)]) hV1.2.2.1)) (by omega) rfl ⟨Nat.le_refl _, Nat.le_refl _⟩ (fun x40 M40 q40 => ?_)
      obtain ⟨rfl, f40⟩ := q40
      have e40 : M40 104 = A_draw (M1 104) := (f40 104 (by decide) (by decide)).trans (mx_rw_at _ _ _)
      rw [mx_rw_at]
      refine R.b bk_X8_day_43 ?_
      refine R.V3v kc_X8_day_44 (by first | rfl | assumption) (c_X8_put (d := i) (w := 5) (by omega)) (by omega) rfl ⟨Nat.le_refl _, Nat.le_refl _⟩ (fun M44 q44 => ?_)
      replace q44 := q44.symm
      subst q44
      refine R.b bk_X8_day_47 ?_
      refine R.V2i kc_X8_day_55 (by first | rfl | assumption) (c_X8_of (d := i) (w := 7) (by omega)) (by omega) rfl ⟨Nat.le_refl _, Nat.le_refl _⟩ (fun x55 M55 q55 => ?_)
      obtain ⟨rfl, q55⟩ := q55
      replace q55 := q55.symm
      subst q55
      refine R.b bk_X8_day_58 (And.intro (by first | rfl | assumption) (And.intro (by first | rfl | assumption) (And.intro (vp_lit rfl) ?_)))
      refine R.V3v kc_X8_day_65 (by first | rfl | assumption) (c_X8_put (d := i) (w := 7) (by omega)) (by omega) rfl ⟨Nat.le_refl _, Nat.le_refl _⟩ (fun M65 q65 => ?_)
      replace q65 := q65.symm
      subst q65
      refine R.b bk_X8_day_68 ?_
      refine R.V2i kc_X8_day_74 (by first | rfl | assumption) (c_X8_of (d := i) (w := 4) (by omega)) (by omega) rfl ⟨Nat.le_refl _, Nat.le_refl _⟩ (fun x74 M74 q74 => ?_)
      obtain ⟨rfl, q74⟩ := q74
      replace q74 := q74.symm
      subst q74
      refine R.b bk_X8_day_77 ?_
      refine R.V3v kc_X8_day_79 (by first | rfl | assumption) (c_X8_put (d := i) (w := 4) (by omega)) (by omega) rfl ⟨Nat.le_refl _, Nat.le_refl _⟩ (fun M79 q79 => ?_)
      have e79 : M79 104 = A_d2 (M1 104) i := by
        rw [q79]
        funext j
        simp only [mx_wr, ↓reduceIte, e40, A_d2, A_draw, up]
        grind
      have f79 : ∀ q, q ≠ 104 → q ≠ 116 → q ≠ 117 → M79 q = M1 q := fun q g1 g2 g3 => by
        rw [q79]
        simp only [mx_wr, if_neg g1]
        rw [f40 q g2 g3, mx_rw_ne g1]
      clear q79
      refine R.b bk_X8_day_82 ?_
      refine R.V2i kc_X8_day_85 (by first | rfl | assumption) (c_X8_of (d := i) (w := 4) (by omega)) (by omega) rfl ⟨Nat.le_refl _, Nat.le_refl _⟩ (fun x85 M85 q85 => ?_)
      obtain ⟨rfl, q85⟩ := q85
      replace q85 := q85.symm
      subst q85
      refine R.b bk_X8_day_88 ?_
      refine R.V2i kc_X8_day_91 (by first | rfl | assumption) (c_X8_of (d := i) (w := 3) (by omega)) (by omega) rfl ⟨Nat.le_refl _, Nat.le_refl _⟩ (fun x91 M91 q91 => ?_)
      obtain ⟨rfl, q91⟩ := q91
      replace q91 := q91.symm
      subst q91
      refine R.c br_X8_day_94 (And.intro (fun h94 => ?_) (fun h94 => ?_))
      · refine R.b bk_X8_day_105 ?_
        refine R.j gt_X8_day_108 ?_
        rw [nI_inc]
        rw [e79] at h94
        first
        | (have hx := ih2 M99 (some (.int (A_x (M1 104) i))) (by rw [e99, e79, A_dayN, A_dayD, ← hI1, if_pos h94]) (fun q g1 g2 g3 => by rw [f99 q g1 g2 g3, f79 q g1 g2 g3]; exact hI2 q g1 g2 g3)
           have hw : A_wkN (M 104) (i + 1) = A_wkN (M 104) i + Int32.ofInt 1 := by rw [A_wkN, A_wkD, ← hI1, if_pos h94]; rfl
           rw [hw] at hx
           exact hx)
        | (have hx := ih2 M79 (some (.int (A_x (M1 104) i))) (by rw [e79, A_dayN, A_dayD, ← hI1, if_neg h94]) (fun q g1 g2 g3 => by rw [f79 q g1 g2 g3]; exact hI2 q g1 g2 g3)
           have hw : A_wkN (M 104) (i + 1) = A_wkN (M 104) i := by rw [A_wkN, A_wkD, ← hI1, if_neg h94]; simp
           rw [hw] at hx
           exact hx)
      · refine R.b bk_X8_day_97 ?_
        refine R.V1v kc_X8_day_99 (by first | rfl | assumption) (c_X8_weekEnds (d := i) (by omega) (VT_congr (fun j hj => by rw [e79]; simp only [A_d2]; grind) hV1.2.2.1)) (by omega) rfl ⟨Nat.le_refl _, Nat.le_refl _⟩ (fun M99 q99 => ?_)
        obtain ⟨e99, f99⟩ := q99
        refine R.b bk_X8_day_102 ?_
        refine R.b bk_X8_day_105 ?_
        refine R.j gt_X8_day_108 ?_
        rw [nI_inc]
        rw [e79] at h94
        first
        | (have hx := ih2 M99 (some (.int (A_x (M1 104) i))) (by rw [e99, e79, A_dayN, A_dayD, ← hI1, if_pos h94]) (fun q g1 g2 g3 => by rw [f99 q g1 g2 g3, f79 q g1 g2 g3]; exact hI2 q g1 g2 g3)
           have hw : A_wkN (M 104) (i + 1) = A_wkN (M 104) i + Int32.ofInt 1 := by rw [A_wkN, A_wkD, ← hI1, if_pos h94]; rfl
           rw [hw] at hx
           exact hx)
        | (have hx := ih2 M79 (some (.int (A_x (M1 104) i))) (by rw [e79, A_dayN, A_dayD, ← hI1, if_neg h94]) (fun q g1 g2 g3 => by rw [f79 q g1 g2 g3]; exact hI2 q g1 g2 g3)
           have hw : A_wkN (M 104) (i + 1) = A_wkN (M 104) i := by rw [A_wkN, A_wkD, ← hI1, if_neg h94]; simp
           rw [hw] at hx
           exact hx)
    · obtain ⟨M1, c3⟩ := s
      obtain ⟨hI1, hI2⟩ := hI
      dsimp only at hI1 hI2 ⊢
      have hV1 : VR (M1 104) mm := by rw [hI1]; exact VR_dayN hV mm (by omega)
      refine R.b bk_X8_day_4 (And.intro (by first | rfl | assumption) (And.intro (by first | rfl | assumption) (And.intro (vp_lit rfl) ?_)))
      refine R.c br_X8_day_11 (And.intro (fun h11 => ?_) (fun h11 => absurd (by rw [show M1 104 (Int32.toNatClampNeg 1) = nI mm from hV1.2.1]; exact nI_le (Nat.le_refl mm) (by omega)) h11))
      refine R.b bk_X8_day_111 (And.intro (by first | rfl | assumption) (And.intro (by first | rfl | assumption) (And.intro (by exact vp_lit rfl) (And.intro (by first | rfl | assumption) (And.intro (by exact vp_lit rfl) ?_)))))
      refine R.ri rt_X8_day_122 rfl ⟨_, rfl, ?_⟩
      refine ⟨?_, ?_, ?_⟩
      · rw [A_wk, hcm]
      · rw [mx_wr_up, mx_rw_at, A_day, hcm, ← hI1]
        rfl
      · intro q g1 g2 g3
        rw [mx_wr_ne g1]
        exact hI2 q g1 g2 g3
  refine R.b bk_X8_day_0 ?_
  exact hA 0 (M, none) (Nat.zero_le mm) ⟨rfl, fun q _ _ _ => rfl⟩
end
section
/-! rows copied; sums; days one behind the other -/
def cut (n : Nat) (f g : Rw) : Rw := fun j => if j < n then f j else g j
theorem cut_0 (f g : Rw) : cut 0 f g = g := by
  funext j
  simp [cut]
theorem cut_up (i : Nat) (f g : Rw) : up (cut i f g) i (f i) = cut (i + 1) f g := by
  funext j
  simp only [up, cut]
  grind
theorem c_X8_thinks {l : Launch} {G : Gt} {M : Mm}  : Runs l G true dm_X8_thinks 0 127 [.ref 103] M 127 (Pv (fun M1 => M1 = mx_rw M 107 (cut 55 (M 104) (M 107)))) := by
  refine mx_run ow_X8_thinks rfl rfl (fun dp X hdp R => ?_)
  have hA : ∀ (fu i : Nat) (M1 : Mm), 55 - i = fu → i ≤ 55 → (M1 = mx_rw M 107 (cut i (M 104) (M 107))) → X 127 M1 2 [some (.ref 103), some (.int (nI i))] [] := by
    intro fu
    induction fu with
    | zero =>
      intro i M1 hfu hi hI1
      have hiN : i = 55 := by omega
      refine R.b bk_X8_thinks_2 ?_
      refine R.c br_X8_thinks_5 (And.intro (fun h5 => ?_) (fun h5 => absurd (by rw [hiN]; exact nI_le (Nat.le_refl 55) (by decide)) h5))
      refine R.rv rt_X8_thinks_26 ⟨rfl, ?_⟩
      subst hiN
      exact hI1
    | succ fu ih =>
      intro i M1 hfu hi hI1
      have hlt : i < 55 := by omega
      refine R.b bk_X8_thinks_2 ?_
      refine R.c br_X8_thinks_5 (And.intro (fun h5 => absurd h5 (nI_ge (a := i) (b := 55) hlt (by decide))) (fun h5 => ?_))
      refine R.b bk_X8_thinks_8 (And.intro (by first | rfl | assumption) (And.intro (by first | rfl | assumption) (And.intro (by first | rfl | assumption) (And.intro (by first | exact vp_in_nI (n := i) (N := 55) (by omega) (by decide) | exact vp_in_nI (n := i) (N := 1427) (by omega) (by decide)) (And.intro (by first | rfl | assumption) (And.intro (by first | exact vp_in_nI (n := i) (N := 55) (by omega) (by decide) | exact vp_in_nI (n := i) (N := 1427) (by omega) (by decide)) ?_))))))
      refine R.j gt_X8_thinks_23 ?_
      rw [nI_inc]
      refine ih (i + 1) _ (by omega) (by omega) ?_
      subst hI1
      rw [nI_clamp (by omega), mx_wr_up, mx_rw_rw, mx_rw_at, mx_rw_ne (show 104 ≠ 107 by omega)]
      rw [cut_up]
  refine R.b bk_X8_thinks_0 ?_
  exact hA 55 0 M rfl (by decide) (by rw [cut_0, mx_rw_id])
theorem c_X8_putsBack {l : Launch} {G : Gt} {M : Mm}  : Runs l G true dm_X8_putsBack 0 127 [.ref 103] M 127 (Pv (fun M1 => M1 = mx_rw M 104 (cut 55 (M 107) (M 104)))) := by
  refine mx_run ow_X8_putsBack rfl rfl (fun dp X hdp R => ?_)
  have hA : ∀ (fu i : Nat) (M1 : Mm), 55 - i = fu → i ≤ 55 → (M1 = mx_rw M 104 (cut i (M 107) (M 104))) → X 127 M1 2 [some (.ref 103), some (.int (nI i))] [] := by
    intro fu
    induction fu with
    | zero =>
      intro i M1 hfu hi hI1
      have hiN : i = 55 := by omega
      refine R.b bk_X8_putsBack_2 ?_
      refine R.c br_X8_putsBack_5 (And.intro (fun h5 => ?_) (fun h5 => absurd (by rw [hiN]; exact nI_le (Nat.le_refl 55) (by decide)) h5))
      refine R.rv rt_X8_putsBack_26 ⟨rfl, ?_⟩
      subst hiN
      exact hI1
    | succ fu ih =>
      intro i M1 hfu hi hI1
      have hlt : i < 55 := by omega
      refine R.b bk_X8_putsBack_2 ?_
      refine R.c br_X8_putsBack_5 (And.intro (fun h5 => absurd h5 (nI_ge (a := i) (b := 55) hlt (by decide))) (fun h5 => ?_))
      refine R.b bk_X8_putsBack_8 (And.intro (by first | rfl | assumption) (And.intro (by first | rfl | assumption) (And.intro (by first | rfl | assumption) (And.intro (by first | exact vp_in_nI (n := i) (N := 55) (by omega) (by decide) | exact vp_in_nI (n := i) (N := 1427) (by omega) (by decide)) (And.intro (by first | rfl | assumption) (And.intro (by first | exact vp_in_nI (n := i) (N := 55) (by omega) (by decide) | exact vp_in_nI (n := i) (N := 1427) (by omega) (by decide)) ?_))))))
      refine R.j gt_X8_putsBack_23 ?_
      rw [nI_inc]
      refine ih (i + 1) _ (by omega) (by omega) ?_
      subst hI1
      rw [nI_clamp (by omega), mx_wr_up, mx_rw_rw, mx_rw_at, mx_rw_ne (show 107 ≠ 104 by omega)]
      rw [cut_up]
  refine R.b bk_X8_putsBack_0 ?_
  exact hA 55 0 M rfl (by decide) (by rw [cut_0, mx_rw_id])
theorem c_X8_copyAll {l : Launch} {G : Gt} {M : Mm} {k1 k2 : Nat} (hk1 : kd k1 = (11, 1427)) (hk2 : kd k2 = (11, 1427)) (hne : k1 ≠ k2) : Runs l G true dm_X8_copyAll 0 127 [.ref k1, .ref k2] M 127 (Pv (fun M1 => M1 = mx_rw M k2 (cut 1427 (M k1) (M k2)))) := by
  refine mx_run ow_X8_copyAll rfl rfl (fun dp X hdp R => ?_)
  have hq1 : (kd k1).1 = 11 := by rw [hk1]
  have hq2 : (kd k2).1 = 11 := by rw [hk2]
  have hA : ∀ (fu i : Nat) (M1 : Mm), 1427 - i = fu → i ≤ 1427 → (M1 = mx_rw M k2 (cut i (M k1) (M k2))) → X 127 M1 2 [some (.ref k1), some (.ref k2), some (.int (nI i))] [] := by
    intro fu
    induction fu with
    | zero =>
      intro i M1 hfu hi hI1
      have hiN : i = 1427 := by omega
      refine R.b bk_X8_copyAll_2 ?_
      refine R.c br_X8_copyAll_6 (And.intro (fun h6 => ?_) (fun h6 => absurd (by rw [hiN]; exact nI_le (Nat.le_refl 1427) (by decide)) h6))
      refine R.rv rt_X8_copyAll_21 ⟨rfl, ?_⟩
      subst hiN
      exact hI1
    | succ fu ih =>
      intro i M1 hfu hi hI1
      have hlt : i < 1427 := by omega
      refine R.b bk_X8_copyAll_2 ?_
      refine R.c br_X8_copyAll_6 (And.intro (fun h6 => absurd h6 (nI_ge (a := i) (b := 1427) hlt (by decide))) (fun h6 => ?_))
      refine R.b bk_X8_copyAll_9 (And.intro (by first | rfl | assumption) (And.intro (by exact vp_in_nI (by show _ < _; first | omega | (rw [hk1]; omega) | (rw [hk2]; omega)) (by first | decide | (rw [hk1]; decide) | (rw [hk2]; decide))) (And.intro (by first | rfl | assumption) (And.intro (by exact vp_in_nI (by show _ < _; first | omega | (rw [hk1]; omega) | (rw [hk2]; omega)) (by first | decide | (rw [hk1]; decide) | (rw [hk2]; decide))) ?_))))
      refine R.j gt_X8_copyAll_18 ?_
      rw [nI_inc]
      refine ih (i + 1) _ (by omega) (by omega) ?_
      subst hI1
      rw [nI_clamp (by omega), mx_wr_up, mx_rw_rw, mx_rw_at, mx_rw_ne (show k1 ≠ k2 by exact hne)]
      rw [cut_up]
  refine R.b bk_X8_copyAll_0 ?_
  exact hA 1427 0 M rfl (by decide) (by rw [cut_0, mx_rw_id])
def A_sum (a : Rw) (w : Nat) : Nat → Int32
  | 0 => 0
  | d + 1 => A_sum a w d + a (7 + 8 * d + w)
def A_fairs (a : Rw) : Nat → Int32
  | 0 => 0
  | d + 1 => A_fairs a d + f_eq (a (7 + 8 * d + 4)) (a 5)
theorem c_X8_sumOf {l : Launch} {G : Gt} {M : Mm} {w m : Nat} (hw : w < 8) (hm : m ≤ 6) (h1 : M 104 1 = nI m) : Runs l G true dm_X8_sumOf 1 127 [.ref 103, .int (nI w)] M 127 (Pi (fun x M1 => x = A_sum (M 104) w m ∧ M1 = M)) := by
  refine mx_run ow_X8_sumOf rfl rfl (fun dp X hdp R => ?_)
  have hA : ∀ (fu i : Nat) , m - i = fu → i ≤ m → X 127 M 4 [some (.ref 103), some (.int (nI w)), some (.int (A_sum (M 104) w i)), some (.int (nI i))] [] := by
    intro fu
    induction fu with
    | zero =>
      intro i  hfu hi 
      have hiN : i = m := by omega
      refine R.b bk_X8_sumOf_4 (And.intro (by first | rfl | assumption) (And.intro (by first | rfl | assumption) (And.intro (by exact vp_lit rfl) ?_)))
      refine R.c br_X8_sumOf_11 (And.intro (fun h11 => ?_) (fun h11 => absurd (by rw [show M 104 (Int32.toNatClampNeg 1) = nI m from h1]; exact nI_le (by omega) (by omega)) h11))
      refine R.b bk_X8_sumOf_29 ?_
      refine R.ri rt_X8_sumOf_30 rfl ⟨_, rfl, ?_⟩
      subst hiN
      exact ⟨rfl, rfl⟩
    | succ fu ih =>
      intro i  hfu hi 
      have hlt : i < m := by omega
      refine R.b bk_X8_sumOf_4 (And.intro (by first | rfl | assumption) (And.intro (by first | rfl | assumption) (And.intro (by exact vp_lit rfl) ?_)))
      refine R.c br_X8_sumOf_11 (And.intro (fun h11 => absurd h11 (by rw [show M 104 (Int32.toNatClampNeg 1) = nI m from h1]; exact nI_ge hlt (by omega))) (fun h11 => ?_))
      refine R.b bk_X8_sumOf_14 ?_
      refine R.V2i kc_X8_sumOf_18 (by first | rfl | assumption) (c_X8_of (d := i) (w := w) (by omega)) (by omega) rfl ⟨Nat.le_refl _, Nat.le_refl _⟩ (fun x18 M18 q18 => ?_)
      obtain ⟨rfl, q18⟩ := q18
      replace q18 := q18.symm
      subst q18
      refine R.b bk_X8_sumOf_21 ?_
      refine R.j gt_X8_sumOf_26 ?_
      rw [nI_inc]
      exact ih (i + 1) (by omega) (by omega)
  refine R.b bk_X8_sumOf_0 ?_
  exact hA m 0 rfl (Nat.zero_le m)
theorem c_X8_fairs {l : Launch} {G : Gt} {M : Mm} {m : Nat} (hm : m ≤ 6) (h1 : M 104 1 = nI m) : Runs l G true dm_X8_fairs 2 127 [.ref 103] M 127 (Pi (fun x M1 => x = A_fairs (M 104) m ∧ M1 = M)) := by
  refine mx_run ow_X8_fairs rfl rfl (fun dp X hdp R => ?_)
  have hA : ∀ (fu i : Nat) , m - i = fu → i ≤ m → X 127 M 4 [some (.ref 103), some (.int (A_fairs (M 104) i)), some (.int (nI i))] [] := by
    intro fu
    induction fu with
    | zero =>
      intro i  hfu hi 
      have hiN : i = m := by omega
      refine R.b bk_X8_fairs_4 (And.intro (by first | rfl | assumption) (And.intro (by first | rfl | assumption) (And.intro (by exact vp_lit rfl) ?_)))
      refine R.c br_X8_fairs_11 (And.intro (fun h11 => ?_) (fun h11 => absurd (by rw [show M 104 (Int32.toNatClampNeg 1) = nI m from h1]; exact nI_le (by omega) (by omega)) h11))
      refine R.b bk_X8_fairs_36 ?_
      refine R.ri rt_X8_fairs_37 rfl ⟨_, rfl, ?_⟩
      subst hiN
      exact ⟨rfl, rfl⟩
    | succ fu ih =>
      intro i  hfu hi 
      have hlt : i < m := by omega
      refine R.b bk_X8_fairs_4 (And.intro (by first | rfl | assumption) (And.intro (by first | rfl | assumption) (And.intro (by exact vp_lit rfl) ?_)))
      refine R.c br_X8_fairs_11 (And.intro (fun h11 => absurd h11 (by rw [show M 104 (Int32.toNatClampNeg 1) = nI m from h1]; exact nI_ge hlt (by omega))) (fun h11 => ?_))
      refine R.b bk_X8_fairs_14 ?_
      refine R.V1i kc_X8_fairs_17 (by first | rfl | assumption) (c_X8_isFair (d := i) (by omega)) (by omega) rfl ⟨Nat.le_refl _, Nat.le_refl _⟩ (fun x17 M17 q17 => ?_)
      obtain ⟨rfl, q17⟩ := q17
      replace q17 := q17.symm
      subst q17
      refine R.c br_X8_fairs_20 (And.intro (fun h20 => ?_) (fun h20 => ?_))
      · refine R.b bk_X8_fairs_27 ?_
        refine R.b bk_X8_fairs_28 ?_
        refine R.j gt_X8_fairs_33 ?_
        rw [nI_inc]
        have hx := ih (i + 1) (by omega) (by omega)
        rw [A_fairs] at hx
        unfold f_eq at h20 hx
        split at hx
        · rename_i hq
          first | exact hx | (rw [if_pos hq] at h20; exact absurd h20 (by decide))
        · rename_i hq
          first | exact hx | (rw [if_neg hq] at h20; exact absurd rfl h20)
      · refine R.b bk_X8_fairs_23 ?_
        refine R.j gt_X8_fairs_24 ?_
        refine R.b bk_X8_fairs_28 ?_
        refine R.j gt_X8_fairs_33 ?_
        rw [nI_inc]
        have hx := ih (i + 1) (by omega) (by omega)
        rw [A_fairs] at hx
        unfold f_eq at h20 hx
        split at hx
        · rename_i hq
          first | exact hx | (rw [if_pos hq] at h20; exact absurd h20 (by decide))
        · rename_i hq
          first | exact hx | (rw [if_neg hq] at h20; exact absurd rfl h20)
  refine R.b bk_X8_fairs_0 ?_
  exact hA m 0 rfl (Nat.zero_le m)
def A_go (a : Rw) : Nat → Rw
  | 0 => a
  | n + 1 => A_day (A_go a n)
def A_goW (a : Rw) : Nat → Int32
  | 0 => 0
  | n + 1 => A_goW a n + A_wk (A_go a n)
theorem VR_go {a : Rw} {mm : Nat} (h : VR a mm) : ∀ n, VR (A_go a n) mm
  | 0 => h
  | n + 1 => VR_day (VR_go h n)
theorem c_X8_goesOn {l : Launch} {G : Gt} {M : Mm} {n mm : Nat} (hn : n ≤ 1000) (hV : VR (M 104) mm) : Runs l G true dm_X8_goesOn 5 127 [.ref 103, .int (nI n)] M 127 (Pi (fun x M1 => x = A_goW (M 104) n ∧ M1 104 = A_go (M 104) n ∧ ∀ q, q ≠ 104 → q ≠ 116 → q ≠ 117 → M1 q = M q)) := by
  refine mx_run ow_X8_goesOn rfl rfl (fun dp X hdp R => ?_)
  have hA : ∀ (fu i : Nat) (M1 : Mm), n - i = fu → i ≤ n → (M1 104 = A_go (M 104) i) → (∀ q, q ≠ 104 → q ≠ 116 → q ≠ 117 → M1 q = M q) → X 127 M1 4 [some (.ref 103), some (.int (nI n)), some (.int (A_goW (M 104) i)), some (.int (nI i))] [] := by
    intro fu
    induction fu with
    | zero =>
      intro i M1 hfu hi hI1 hI2
      have hiN : i = n := by omega
      refine R.b bk_X8_goesOn_4 ?_
      refine R.c br_X8_goesOn_6 (And.intro (fun h6 => ?_) (fun h6 => absurd (by rw [hiN]; exact nI_le (Nat.le_refl n) (by omega)) h6))
      refine R.b bk_X8_goesOn_22 ?_
      refine R.ri rt_X8_goesOn_23 rfl ⟨_, rfl, ?_⟩
      subst hiN
      exact ⟨rfl, hI1, hI2⟩
    | succ fu ih =>
      intro i M1 hfu hi hI1 hI2
      have hlt : i < n := by omega
      refine R.b bk_X8_goesOn_4 ?_
      refine R.c br_X8_goesOn_6 (And.intro (fun h6 => absurd h6 (nI_ge hlt (by omega))) (fun h6 => ?_))
      refine R.b bk_X8_goesOn_9 ?_
      refine R.V0i kc_X8_goesOn_11 (by first | rfl | assumption) (c_X8_day (mm := mm) (by rw [hI1]; exact VR_go hV i)) (by omega) rfl ⟨Nat.le_refl _, Nat.le_refl _⟩ (fun x11 M11 q11 => ?_)
      obtain ⟨rfl, e11, f11⟩ := q11
      refine R.b bk_X8_goesOn_14 ?_
      refine R.j gt_X8_goesOn_19 ?_
      rw [nI_inc]
      have hx := ih (i + 1) M11 (by omega) (by omega) (by rw [e11, hI1]; rfl) (fun q g1 g2 g3 => by rw [f11 q g1 g2 g3]; exact hI2 q g1 g2 g3)
      rw [A_goW] at hx
      rw [hI1]
      exact hx
  refine R.b bk_X8_goesOn_0 ?_
  exact hA n 0 M rfl (Nat.zero_le n) rfl (fun q _ _ _ => rfl)
end
section
/-! the model's calls on days and thoughts -/
theorem f_in_1 {v b : Int32} {n : Nat} (hb : b.toInt = n) (h : ¬ f_in v 1 b = 0) : ∃ d, d ≤ n ∧ v = nI d := by
  obtain ⟨h1, h2⟩ := f_in_ne h
  exact nI_of2 hb (by rw [Int32.not_lt]; rw [Int32.le_iff_toInt_le] at h1 ⊢; have e1 : (1 : Int32).toInt = 1 := by decide
                      have e0 : (0 : Int32).toInt = 0 := by decide
                      omega) h2
theorem f_held_nat {v b : Int32} {n : Nat} (hb : b.toInt = n) : ∃ k, k ≤ n ∧ f_held v 0 b = nI k := by
  unfold f_held
  split
  · exact ⟨0, Nat.zero_le n, rfl⟩
  · split
    · have h0 : ¬ b < 0 := by
        rw [Int32.lt_iff_toInt_lt, hb]
        have e0 : (0 : Int32).toInt = 0 := by decide
        omega
      exact nI_of2 hb h0 (Int32.le_iff_toInt_le.mpr (Int.le_refl _))
    · rename_i h1 h2
      exact nI_of2 hb h1 (Int32.not_lt.mp h2)
def f_days (a : Rw) (n : Int32) : Nat := cN (f_held (99999 - a 2) 0 n)
def F_days (a : Rw) (n : Int32) : Int32 := if f_in n 1 300 = 0 then (-1000000001) else A_goW a (f_days a n)
def A_days (a : Rw) (n : Int32) : Rw := if f_in n 1 300 = 0 then a else A_go a (f_days a n)
def A_dl (a : Rw) : Nat → Rw
  | 0 => a
  | i + 1 => A_come (A_draw (A_draw (A_dl a i))) (f_rem (f_dr (f_dz (A_dl a i 0))) 6) (f_rem (f_dr (f_dz (A_draw (A_dl a i) 0))) 10)
def f_deal (a : Rw) (n : Int32) : Nat := min (cN n) (6 - cN (a 1))
def F_deal (a : Rw) (n : Int32) : Int32 := if f_in n 1 6 = 0 then (-1000000001) else nI (f_deal a n)
def A_deal (a : Rw) (n : Int32) : Rw := if f_in n 1 6 = 0 then a else A_dl a (f_deal a n)
theorem A_dl_1 {a : Rw} {m : Nat} (h : a 1 = nI m) : ∀ i, A_dl a i 1 = nI (m + i)
  | 0 => h
  | i + 1 => by
    unfold A_dl
    simp only [A_come, if_true]
    rw [A_draw, up_ne (by decide), A_draw, up_ne (by decide), A_dl_1 h i, nI_1]
    rfl
def F_fine (a : Rw) : Int32 := if A_cnt a 2 = -1 then 0 else A_ev a (cN (A_cnt a 2)) (fc3 (a 2) (A_sum a 5 (cN (a 1))) 0)
def F_count (a : Rw) (wt tp w : Int32) : Int32 := if w = 0 then a 1 else if w = 1 then a 2 else if w = 2 then a 3 else if w = 3 then a 4 else if w = 4 then a 5 else if w = 5 then A_sum a 7 (cN (a 1)) else if w = 6 then a 6 else if w = 7 then wt else if w = 8 then tp else if w = 9 then a 0 else (-1000000001)
def F_behind (a : Rw) (d n w : Int32) : Int32 := if isD a d = 0 ∨ f_in n 0 300 = 0 ∨ f_in w 0 4 = 0 then (-1000000001) else A_go a (cN n) (7 + 8 * cN d + (if w < 4 then 2 + cN w else 7))
theorem A_day_keep {a : Rw} {j mm : Nat} (hV : VR a mm) (h : 55 ≤ j) : A_day a j = a j := by
  have hm := hV.1
  unfold A_day
  rw [up_ne (by omega), show cN (a 1) = mm by rw [hV.2.1]; exact cN_nI (by omega), A_dayN_keep (by omega) mm (by omega)]
theorem A_go_keep {a : Rw} {j mm : Nat} (hV : VR a mm) (h : 55 ≤ j) : ∀ n, A_go a n j = a j
  | 0 => rfl
  | n + 1 => by
    unfold A_go
    rw [A_day_keep (VR_go hV n) h, A_go_keep hV h n]
theorem cut_back {a b r : Rw} (h : ∀ j, 55 ≤ j → b j = a j) : cut 55 (cut 55 a r) b = a := by
  funext j
  simp only [cut]
  by_cases h1 : j < 55
  · simp [h1]
  · simp [h1]
    exact h j (by omega)
theorem c_X8_days {l : Launch} {G : Gt} {M : Mm} {n : Int32} {mm : Nat} (hV : VR (M 104) mm) : Runs l G true dm_X8_days 6 127 [.ref 103, .int n] M 127 (Pi (fun x M1 => x = F_days (M 104) n ∧ M1 104 = A_days (M 104) n ∧ ∀ q, q ≠ 104 → q ≠ 116 → q ≠ 117 → M1 q = M q)) := by
  refine mx_run ow_X8_days rfl rfl (fun dp X hdp R => ?_)
  refine R.b bk_X8_days_0 ?_
  refine R.S3i kc_X8_days_5 (c_X8_in) (by omega) rfl ⟨Nat.le_refl _, Nat.le_refl _⟩ (fun x5 M5 q5 => ?_)
  obtain ⟨rfl, q5⟩ := q5
  replace q5 := q5.symm
  subst q5
  refine R.c br_X8_days_8 (And.intro (fun h8 => ?_) (fun h8 => ?_))
  · refine R.b bk_X8_days_32 ?_
    refine R.ri rt_X8_days_34 rfl ⟨_, rfl, ?_⟩
    first
    | (refine ⟨?_, ?_, f26⟩
       · rw [F_days, if_neg h8, f_days, ek, cN_nI (by omega)]
       · rw [A_days, if_neg h8, f_days, ek, cN_nI (by omega)]; exact e26)
    | exact ⟨by rw [F_days, if_pos h8], by rw [A_days, if_pos h8], fun q _ _ _ => rfl⟩
  · refine R.b bk_X8_days_11 (And.intro (by first | rfl | assumption) (And.intro (by first | rfl | assumption) (And.intro (by exact vp_lit rfl) ?_)))
    refine R.S3i kc_X8_days_23 (c_X8_within) (by omega) rfl ⟨Nat.le_refl _, Nat.le_refl _⟩ (fun x23 M23 q23 => ?_)
    obtain ⟨e23, q23⟩ := q23
    replace e23 : x23 = f_held (99999 - M 104 2) 0 n := e23
    replace q23 := q23.symm
    subst q23
    obtain ⟨nn, hnn, rfl⟩ := f_in_1 (n := 300) (by decide) h8
    obtain ⟨k, hk, ek⟩ := f_held_nat (v := 99999 - M 104 2) (b := nI nn) (nI_toInt (by omega))
    rw [ek] at e23
    subst e23
    refine R.V1i kc_X8_days_26 (by first | rfl | assumption) (c_X8_goesOn (n := k) (by omega) hV) (by omega) rfl ⟨Nat.le_refl _, Nat.le_refl _⟩ (fun x26 M26 q26 => ?_)
    obtain ⟨rfl, e26, f26⟩ := q26
    refine R.j gt_X8_days_29 ?_
    refine R.ri rt_X8_days_34 rfl ⟨_, rfl, ?_⟩
    first
    | (refine ⟨?_, ?_, f26⟩
       · rw [F_days, if_neg h8, f_days, ek, cN_nI (by omega)]
       · rw [A_days, if_neg h8, f_days, ek, cN_nI (by omega)]; exact e26)
    | exact ⟨by rw [F_days, if_pos h8], by rw [A_days, if_pos h8], fun q _ _ _ => rfl⟩
theorem c_X8_deal {l : Launch} {G : Gt} {M : Mm} {n : Int32} {m : Nat} (hm : m ≤ 6) (h1 : M 104 1 = nI m) : Runs l G true dm_X8_deal 2 127 [.ref 103, .int n] M 127 (Pi (fun x M1 => x = F_deal (M 104) n ∧ M1 = mx_rw M 104 (A_deal (M 104) n))) := by
  refine mx_run ow_X8_deal rfl rfl (fun dp X hdp R => ?_)
  refine R.b bk_X8_deal_0 ?_
  refine R.S3i kc_X8_deal_4 (c_X8_in) (by omega) rfl ⟨Nat.le_refl _, Nat.le_refl _⟩ (fun x4 M4 q4 => ?_)
  obtain ⟨rfl, q4⟩ := q4
  replace q4 := q4.symm
  subst q4
  refine R.c br_X8_deal_7 (And.intro (fun h7 => ?_) (fun h7 => ?_))
  · refine R.b bk_X8_deal_13 ?_
    obtain ⟨n, hn, rfl⟩ := f_in_1 (n := 6) (by decide) h7
    have hmin : f_deal (M 104) (nI n) = min n (6 - m) := by rw [f_deal, h1, cN_nI (by omega), cN_nI (by omega)]
    have hF : F_deal (M 104) (nI n) = nI (min n (6 - m)) := by rw [F_deal, if_neg h7, hmin]
    have hA' : A_deal (M 104) (nI n) = A_dl (M 104) (min n (6 - m)) := by rw [A_deal, if_neg h7, hmin]
    have hA : ∀ (fu i : Nat) (M1 : Mm) (c3 : Option Value) (c4 : Option Value), (min n (6 - m)) - i = fu → i ≤ (min n (6 - m)) → (M1 = mx_rw M 104 (A_dl (M 104) i)) → X 127 M1 15 [some (.ref 103), some (.int (nI n)), some (.int (nI i)), c3, c4] [] := by
      intro fu
      induction fu with
      | zero =>
        intro i M1 c3 c4 hfu hi hI1
        have hiN : i = (min n (6 - m)) := by omega
        have e1 : M1 104 1 = nI (m + i) := by rw [hI1, mx_rw_at]; exact A_dl_1 h1 i
        refine R.b bk_X8_deal_15 ?_
        refine R.c br_X8_deal_17 (And.intro (fun h17 => ?_) (fun h17 => ?_))
        · refine R.b bk_X8_deal_59 ?_
          refine R.ri rt_X8_deal_60 rfl ⟨_, rfl, ?_⟩
          exact ⟨by rw [hF, hiN], by rw [hI1, hA', hiN]⟩
        · refine R.b bk_X8_deal_20 (And.intro (by first | rfl | assumption) (And.intro (by first | rfl | assumption) (And.intro (by exact vp_lit rfl) ?_)))
          refine R.c br_X8_deal_28 (And.intro (fun h28 => ?_) (fun h28 => absurd (by rw [show M1 104 (Int32.toNatClampNeg 1) = nI (m + i) from e1]; exact nI_le (a := 6) (by have := nI_lt8 (by omega) (by omega) h17; omega) (by omega)) h28))
          refine R.b bk_X8_deal_59 ?_
          refine R.ri rt_X8_deal_60 rfl ⟨_, rfl, ?_⟩
          exact ⟨by rw [hF, hiN], by rw [hI1, hA', hiN]⟩
      | succ fu ih =>
        intro i M1 c3 c4 hfu hi hI1
        have hlt : i < (min n (6 - m)) := by omega
        have e1 : M1 104 1 = nI (m + i) := by rw [hI1, mx_rw_at]; exact A_dl_1 h1 i
        refine R.b bk_X8_deal_15 ?_
        refine R.c br_X8_deal_17 (And.intro (fun h17 => absurd h17 (nI_ge (by omega) (by omega))) (fun h17 => ?_))
        refine R.b bk_X8_deal_20 (And.intro (by first | rfl | assumption) (And.intro (by first | rfl | assumption) (And.intro (by exact vp_lit rfl) ?_)))
        refine R.c br_X8_deal_28 (And.intro (fun h28 => absurd h28 (by rw [show M1 104 (Int32.toNatClampNeg 1) = nI (m + i) from e1]; exact nI_ge (b := 6) (by omega) (by decide))) (fun h28 => ?_))
        refine R.b bk_X8_deal_31 ?_
        refine R.V0i kc_X8_deal_32 (by first | rfl | assumption) (c_X8_draw) (by omega) rfl ⟨Nat.le_refl _, Nat.le_refl _⟩ (fun x32 M32 q32 => ?_)
        obtain ⟨rfl, q32⟩ := q32
        replace q32 := q32.symm
        subst q32
        refine R.b bk_X8_deal_35 (And.intro (by decide) ?_)
        refine R.V0i kc_X8_deal_42 (by first | rfl | assumption) (c_X8_draw) (by omega) rfl ⟨Nat.le_refl _, Nat.le_refl _⟩ (fun x42 M42 q42 => ?_)
        obtain ⟨rfl, q42⟩ := q42
        replace q42 := q42.symm
        subst q42
        refine R.b bk_X8_deal_45 (And.intro (by decide) ?_)
        refine R.V2i kc_X8_deal_48 (by first | rfl | assumption) (c_X8_comes (m := m + i) (by omega) (by rw [mx_rw_at, A_draw, up_ne (by decide), mx_rw_at, A_draw, up_ne (by decide)]; exact e1)) (by omega) rfl ⟨Nat.le_refl _, Nat.le_refl _⟩ (fun x48 M48 q48 => ?_)
        obtain ⟨rfl, q48⟩ := q48
        replace q48 := q48.symm
        subst q48
        refine R.b bk_X8_deal_51 ?_
        refine R.j gt_X8_deal_56 ?_
        rw [nI_inc]
        refine ih (i + 1) _ _ _ (by omega) (by omega) ?_
        subst hI1
        simp only [mx_rw_rw, mx_rw_at]
        rfl
    exact hA (min n (6 - m)) 0 M _ _ rfl (Nat.zero_le _) (by rw [A_dl, mx_rw_id])
  · refine R.b bk_X8_deal_10 ?_
    refine R.ri rt_X8_deal_12 rfl ⟨_, rfl, ?_⟩
    exact ⟨by rw [F_deal, if_pos h7], by rw [A_deal, if_pos h7, mx_rw_id]⟩
end
section
/-! more of the model's calls -/
theorem c_X8_fine {l : Launch} {G : Gt} {M : Mm} {mm : Nat} (hV : VR (M 104) mm) : Runs l G true dm_X8_fine 2 127 [.ref 103] M 127 (Pi (fun r M1 => r = F_fine (M 104) ∧ ∀ q, q ≠ 116 → q ≠ 117 → M1 q = M q)) := by
  refine mx_run ow_X8_fine rfl rfl (fun dp X hdp R => ?_)
  have hmm := hV.1
  have h1 := hV.2.1
  obtain ⟨T, hT, h6, -⟩ := id hV.2.2.1
  have hcs : A_cnt (M 104) 2 = -1 ∨ ∃ t n, t < 14 ∧ A_cnt (M 104) 2 = nI t ∧ f_rem (M 104 (55 + 2 * t)) 1000 = nI n ∧ WFc (fun j => M 104 (83 + 96 * t + j)) n (nnK 2) := cnt_spec (kk := 2) (by decide) hV.2.2.1
  refine R.b bk_X8_fine_0 ?_
  refine R.V1i kc_X8_fine_2 (by first | rfl | assumption) (c_X8_counts hT h6) (by omega) rfl ⟨Nat.le_refl _, Nat.le_refl _⟩ (fun x2 M2 q2 => ?_)
  obtain ⟨rfl, q2⟩ := q2
  replace q2 := q2.symm
  subst q2
  refine R.b bk_X8_fine_5 (And.intro (by first | rfl | assumption) (And.intro (by first | rfl | assumption) (And.intro (by first | rfl | assumption) (And.intro (by exact vp_lit rfl) (And.intro (by first | rfl | assumption) (And.intro (by exact vp_lit rfl) (And.intro (by first | rfl | assumption) ?_)))))))
  refine R.V1i kc_X8_fine_25 (by first | rfl | assumption) (c_X8_sumOf (w := 5) (m := mm) (by decide) hmm h1) (by omega) rfl ⟨Nat.le_refl _, Nat.le_refl _⟩ (fun x25 M25 q25 => ?_)
  obtain ⟨rfl, q25⟩ := q25
  replace q25 := q25.symm
  subst q25
  refine R.b bk_X8_fine_28 (And.intro (by first | rfl | assumption) (And.intro (by exact vp_lit rfl) ?_))
  refine R.c br_X8_fine_30 (And.intro (fun h30 => ?_) (fun h30 => ?_))
  · rcases hcs with hcs | ⟨t, n, ht14, hcs, hn, hwf⟩
    · rw [hcs] at h30; exact absurd h30 (by decide)
    have hcs2 : A_cnt (M 104) 2 = nI t := hcs
    rw [hcs2]
    refine R.b bk_X8_fine_37 ?_
    refine R.V1i kc_X8_fine_39 (by first | rfl | assumption) (c_X8_worksOut (nn := 2) ht14 hn (by decide) hwf) (by omega) rfl ⟨Nat.le_refl _, Nat.le_refl _⟩ (fun x39 M39 q39 => ?_)
    obtain ⟨e39, f39⟩ := q39
    refine R.ri rt_X8_fine_42 rfl ⟨_, rfl, ?_⟩
    first
    | (refine ⟨?_, fun q h1 h2 => by rw [f39 q h1]; simp [mx_wr, h2]⟩
       rw [F_fine, if_neg (by rw [hcs2]; exact nI_not_m1 (by omega)), hcs2, cN_nI (by omega), e39]
       refine A_ev_congr hn hwf (by decide) (fun j hj => ?_)
       rw [h1, cN_nI (by omega)]
       rcases (show j = 0 ∨ j = 1 by unfold nnK at hj; simp at hj; omega) with rfl | rfl <;> rfl)
    | (refine ⟨?_, fun q h1 h2 => by simp [mx_wr, h2]⟩
       rcases hcs with hcs | ⟨t, n, ht14, hcs, -⟩
       · rw [F_fine, if_pos hcs]
       · exact absurd (by rw [show A_cnt (M 104) 2 = nI t from hcs]; exact nI_pos' (by omega)) h30)
  · refine R.b bk_X8_fine_33 ?_
    refine R.j gt_X8_fine_34 ?_
    refine R.ri rt_X8_fine_42 rfl ⟨_, rfl, ?_⟩
    first
    | (refine ⟨?_, fun q h1 h2 => by rw [f39 q h1]; simp [mx_wr, h2]⟩
       rw [F_fine, if_neg (by rw [hcs2]; exact nI_not_m1 (by omega)), hcs2, cN_nI (by omega), e39]
       refine A_ev_congr hn hwf (by decide) (fun j hj => ?_)
       rw [h1, cN_nI (by omega)]
       rcases (show j = 0 ∨ j = 1 by unfold nnK at hj; simp at hj; omega) with rfl | rfl <;> rfl)
    | (refine ⟨?_, fun q h1 h2 => by simp [mx_wr, h2]⟩
       rcases hcs with hcs | ⟨t, n, ht14, hcs, -⟩
       · rw [F_fine, if_pos hcs]
       · exact absurd (by rw [show A_cnt (M 104) 2 = nI t from hcs]; exact nI_pos' (by omega)) h30)
theorem c_X8_keep {l : Launch} {G : Gt} {M : Mm}  : Runs l G true dm_X8_keep 1 127 [.ref 103] M 127 (Pi (fun x M1 => x = M 104 1 ∧ M1 = mx_wr (mx_rw M 105 (cut 1427 (M 104) (M 105))) 103 3 1)) := by
  refine mx_run ow_X8_keep rfl rfl (fun dp X hdp R => ?_)
  refine R.b bk_X8_keep_0 (And.intro (by first | rfl | assumption) (And.intro (by first | rfl | assumption) ?_))
  refine R.S2v kc_X8_keep_8 (c_X8_copyAll (k1 := 104) (k2 := 105) rfl rfl (by decide)) (by omega) rfl ⟨Nat.le_refl _, Nat.le_refl _⟩ (fun M8 q8 => ?_)
  replace q8 := q8.symm
  subst q8
  refine R.b bk_X8_keep_11 (And.intro (by first | rfl | assumption) (And.intro rfl (And.intro rfl (And.intro (by first | rfl | assumption) (And.intro (by first | rfl | assumption) (And.intro (by exact vp_lit rfl) ?_))))))
  refine R.ri rt_X8_keep_22 rfl ⟨_, rfl, ?_⟩
  exact ⟨rfl, rfl⟩
theorem c_X8_back {l : Launch} {G : Gt} {M : Mm}  : Runs l G true dm_X8_back 1 127 [.ref 103] M 127 (Pi (fun x M1 => (M 103 3 = 0 → x = (-1000000002) ∧ M1 = M) ∧ (M 103 3 ≠ 0 → x = M 105 1 ∧ M1 = mx_rw M 104 (cut 1427 (M 105) (M 104))))) := by
  refine mx_run ow_X8_back rfl rfl (fun dp X hdp R => ?_)
  refine R.b bk_X8_back_0 (And.intro (by first | rfl | assumption) ?_)
  refine R.c br_X8_back_4 (And.intro (fun h4 => ?_) (fun h4 => ?_))
  · refine R.b bk_X8_back_10 (And.intro (by first | rfl | assumption) (And.intro (by first | rfl | assumption) ?_))
    refine R.S2v kc_X8_back_18 (c_X8_copyAll (k1 := 105) (k2 := 104) rfl rfl (by decide)) (by omega) rfl ⟨Nat.le_refl _, Nat.le_refl _⟩ (fun M18 q18 => ?_)
    replace q18 := q18.symm
    subst q18
    refine R.b bk_X8_back_21 (And.intro (by first | rfl | assumption) (And.intro (by first | rfl | assumption) (And.intro (by exact vp_lit rfl) ?_)))
    refine R.ri rt_X8_back_27 rfl ⟨_, rfl, ?_⟩
    exact ⟨fun h => absurd h h4, fun _ => ⟨rfl, rfl⟩⟩
  · refine R.b bk_X8_back_7 ?_
    refine R.ri rt_X8_back_9 rfl ⟨_, rfl, ?_⟩
    exact ⟨fun _ => ⟨rfl, rfl⟩, fun h => absurd h4 h⟩
theorem c_X8_count {l : Launch} {G : Gt} {M : Mm} {w : Int32} {mm : Nat} (hV : VR (M 104) mm) : Runs l G true dm_X8_count 2 127 [.ref 103, .int w] M 127 (Pi (fun x M1 => x = F_count (M 104) (M 103 34) (M 103 8) w ∧ M1 = M)) := by
  refine mx_run ow_X8_count rfl rfl (fun dp X hdp R => ?_)
  have hmm := hV.1
  refine R.b bk_X8_count_0 ?_
  refine R.s sw_X8_count_1 (And.intro (fun h1_0 => ?_) (fun h1_0 => And.intro (fun h1_1 => ?_) (fun h1_1 => And.intro (fun h1_2 => ?_) (fun h1_2 => And.intro (fun h1_3 => ?_) (fun h1_3 => And.intro (fun h1_4 => ?_) (fun h1_4 => And.intro (fun h1_5 => ?_) (fun h1_5 => And.intro (fun h1_6 => ?_) (fun h1_6 => And.intro (fun h1_7 => ?_) (fun h1_7 => And.intro (fun h1_8 => ?_) (fun h1_8 => And.intro (fun h1_9 => ?_) (fun h1_9 => ?_)))))))))))
  · refine R.b bk_X8_count_56 (And.intro (by first | rfl | assumption) (And.intro (by first | rfl | assumption) (And.intro (by exact vp_lit rfl) ?_)))
    refine R.ri rt_X8_count_62 rfl ⟨_, rfl, ?_⟩
    refine ⟨?_, rfl⟩
    have hc1 : cN (M 104 1) = mm := by rw [hV.2.1]; exact cN_nI (by omega)
    first | (subst w; rfl) | (simp [F_count, *]; done) | (simp [F_count, *]; rfl)
  · refine R.b bk_X8_count_63 (And.intro (by first | rfl | assumption) (And.intro (by first | rfl | assumption) (And.intro (by exact vp_lit rfl) ?_)))
    refine R.ri rt_X8_count_69 rfl ⟨_, rfl, ?_⟩
    refine ⟨?_, rfl⟩
    have hc1 : cN (M 104 1) = mm := by rw [hV.2.1]; exact cN_nI (by omega)
    first | (subst w; rfl) | (simp [F_count, *]; done) | (simp [F_count, *]; rfl)
  · refine R.b bk_X8_count_70 (And.intro (by first | rfl | assumption) (And.intro (by first | rfl | assumption) (And.intro (by exact vp_lit rfl) ?_)))
    refine R.ri rt_X8_count_76 rfl ⟨_, rfl, ?_⟩
    refine ⟨?_, rfl⟩
    have hc1 : cN (M 104 1) = mm := by rw [hV.2.1]; exact cN_nI (by omega)
    first | (subst w; rfl) | (simp [F_count, *]; done) | (simp [F_count, *]; rfl)
  · refine R.b bk_X8_count_77 (And.intro (by first | rfl | assumption) (And.intro (by first | rfl | assumption) (And.intro (by exact vp_lit rfl) ?_)))
    refine R.ri rt_X8_count_83 rfl ⟨_, rfl, ?_⟩
    refine ⟨?_, rfl⟩
    have hc1 : cN (M 104 1) = mm := by rw [hV.2.1]; exact cN_nI (by omega)
    first | (subst w; rfl) | (simp [F_count, *]; done) | (simp [F_count, *]; rfl)
  · refine R.b bk_X8_count_84 (And.intro (by first | rfl | assumption) (And.intro (by first | rfl | assumption) (And.intro (by exact vp_lit rfl) ?_)))
    refine R.ri rt_X8_count_90 rfl ⟨_, rfl, ?_⟩
    refine ⟨?_, rfl⟩
    have hc1 : cN (M 104 1) = mm := by rw [hV.2.1]; exact cN_nI (by omega)
    first | (subst w; rfl) | (simp [F_count, *]; done) | (simp [F_count, *]; rfl)
  · refine R.b bk_X8_count_91 ?_
    refine R.V1i kc_X8_count_94 (by first | rfl | assumption) (c_X8_sumOf (w := 7) (m := mm) (by decide) hmm hV.2.1) (by omega) rfl ⟨Nat.le_refl _, Nat.le_refl _⟩ (fun x94 M94 q94 => ?_)
    obtain ⟨rfl, q94⟩ := q94
    replace q94 := q94.symm
    subst q94
    refine R.ri rt_X8_count_97 rfl ⟨_, rfl, ?_⟩
    refine ⟨?_, rfl⟩
    have hc1 : cN (M 104 1) = mm := by rw [hV.2.1]; exact cN_nI (by omega)
    first | (subst w; rfl) | (simp [F_count, *]; done) | (simp [F_count, *]; rfl)
  · refine R.b bk_X8_count_98 (And.intro (by first | rfl | assumption) (And.intro (by first | rfl | assumption) (And.intro (by exact vp_lit rfl) ?_)))
    refine R.ri rt_X8_count_105 rfl ⟨_, rfl, ?_⟩
    refine ⟨?_, rfl⟩
    have hc1 : cN (M 104 1) = mm := by rw [hV.2.1]; exact cN_nI (by omega)
    first | (subst w; rfl) | (simp [F_count, *]; done) | (simp [F_count, *]; rfl)
  · refine R.b bk_X8_count_106 (And.intro (by first | rfl | assumption) ?_)
    refine R.ri rt_X8_count_110 rfl ⟨_, rfl, ?_⟩
    refine ⟨?_, rfl⟩
    have hc1 : cN (M 104 1) = mm := by rw [hV.2.1]; exact cN_nI (by omega)
    first | (subst w; rfl) | (simp [F_count, *]; done) | (simp [F_count, *]; rfl)
  · refine R.b bk_X8_count_111 (And.intro (by first | rfl | assumption) ?_)
    refine R.ri rt_X8_count_115 rfl ⟨_, rfl, ?_⟩
    refine ⟨?_, rfl⟩
    have hc1 : cN (M 104 1) = mm := by rw [hV.2.1]; exact cN_nI (by omega)
    first | (subst w; rfl) | (simp [F_count, *]; done) | (simp [F_count, *]; rfl)
  · refine R.b bk_X8_count_116 (And.intro (by first | rfl | assumption) (And.intro (by first | rfl | assumption) (And.intro (by exact vp_lit rfl) ?_)))
    refine R.ri rt_X8_count_122 rfl ⟨_, rfl, ?_⟩
    refine ⟨?_, rfl⟩
    have hc1 : cN (M 104 1) = mm := by rw [hV.2.1]; exact cN_nI (by omega)
    first | (subst w; rfl) | (simp [F_count, *]; done) | (simp [F_count, *]; rfl)
  · refine R.b bk_X8_count_123 ?_
    refine R.ri rt_X8_count_125 rfl ⟨_, rfl, ?_⟩
    refine ⟨?_, rfl⟩
    have hc1 : cN (M 104 1) = mm := by rw [hV.2.1]; exact cN_nI (by omega)
    first | (subst w; rfl) | (simp [F_count, *]; done) | (simp [F_count, *]; rfl)
theorem c_X8_tell {l : Launch} {G : Gt} {M : Mm} {v : Int32} {wn : Nat} (hwn : wn ≤ 60) (hw : M 103 34 = nI wn) : Runs l G true dm_X8_tell 0 127 [.ref 103, .int v] M 127 (Pi (fun x M1 => (wn = 60 → x = (-1000000003) ∧ M1 = M) ∧ (wn < 60 → x = nI (wn + 1) ∧ M1 = mx_wr (mx_wr M 126 wn v) 103 34 (nI (wn + 1))))) := by
  refine mx_run ow_X8_tell rfl rfl (fun dp X hdp R => ?_)
  refine R.b bk_X8_tell_0 (And.intro (by first | rfl | assumption) ?_)
  refine R.c br_X8_tell_6 (And.intro (fun h6 => ?_) (fun h6 => ?_))
  · refine R.b bk_X8_tell_12 (And.intro (by first | rfl | assumption) (And.intro (by first | rfl | assumption) (And.intro (by first | rfl | assumption) (And.intro (by show vp_in (M 103 34) 60; rw [hw]; exact vp_in_nI (by rcases Nat.lt_or_ge wn 60 with q | q; exact q; exact absurd (show M 103 34 = 60 by rw [hw, show wn = 60 by omega]; rfl) h6) (by decide)) (And.intro (by first | rfl | assumption) (And.intro (by first | rfl | assumption) (And.intro rfl (And.intro rfl (And.intro (by first | rfl | assumption) ?_)))))))))
    refine R.ri rt_X8_tell_36 rfl ⟨_, rfl, ?_⟩
    refine ⟨fun h => absurd (show M 103 34 = 60 by rw [hw, h]; rfl) h6, fun h => ?_⟩
    have e1 : (M 103 34).toNatClampNeg = wn := by rw [hw]; exact nI_clamp (by omega)
    have e2 : mx_wr M 126 wn v 103 34 = nI wn := by rw [← hw]; rfl
    refine ⟨?_, ?_⟩
    · show mx_wr (mx_wr M 126 (M 103 34).toNatClampNeg v) 103 34 (mx_wr M 126 (M 103 34).toNatClampNeg v 103 34 + 1) 103 34 = _
      rw [e1, e2, nI_1]; simp [mx_wr]
    · show mx_wr (mx_wr M 126 (M 103 34).toNatClampNeg v) 103 34 (mx_wr M 126 (M 103 34).toNatClampNeg v 103 34 + 1) = _
      rw [e1, e2, nI_1]
  · refine R.b bk_X8_tell_9 ?_
    refine R.ri rt_X8_tell_11 rfl ⟨_, rfl, ?_⟩
    refine ⟨fun _ => ⟨rfl, rfl⟩, fun h => ?_⟩
    have h6b : nI wn = nI 60 := hw.symm.trans h6
    rw [nI_eq (by omega) (by decide)] at h6b
    omega
theorem c_X8_behind {l : Launch} {G : Gt} {M : Mm} {d n w : Int32} {mm : Nat} (hV : VR (M 104) mm) : Runs l G true dm_X8_behind 6 127 [.ref 103, .int d, .int n, .int w] M 127 (Pi (fun x M1 => x = F_behind (M 104) d n w ∧ ∀ q, q ≠ 107 → q ≠ 116 → q ≠ 117 → M1 q = M q)) := by
  refine mx_run ow_X8_behind rfl rfl (fun dp X hdp R => ?_)
  refine R.b bk_X8_behind_0 ?_
  refine R.V1i kc_X8_behind_2 (by first | rfl | assumption) (c_X8_isDistrict) (by omega) rfl ⟨Nat.le_refl _, Nat.le_refl _⟩ (fun x2 M2 q2 => ?_)
  obtain ⟨rfl, q2⟩ := q2
  replace q2 := q2.symm
  subst q2
  refine R.c br_X8_behind_5 (And.intro (fun h5 => ?_) (fun h5 => ?_))
  · refine R.b bk_X8_behind_28 ?_
    refine R.ri rt_X8_behind_30 rfl ⟨_, rfl, ?_⟩
    exact ⟨by simp_all [F_behind, isD], fun q _ _ _ => rfl⟩
  · refine R.b bk_X8_behind_8 ?_
    refine R.S3i kc_X8_behind_13 (c_X8_in) (by omega) rfl ⟨Nat.le_refl _, Nat.le_refl _⟩ (fun x13 M13 q13 => ?_)
    obtain ⟨rfl, q13⟩ := q13
    replace q13 := q13.symm
    subst q13
    refine R.c br_X8_behind_16 (And.intro (fun h16 => ?_) (fun h16 => ?_))
    · refine R.b bk_X8_behind_28 ?_
      refine R.ri rt_X8_behind_30 rfl ⟨_, rfl, ?_⟩
      exact ⟨by simp_all [F_behind, isD], fun q _ _ _ => rfl⟩
    · refine R.b bk_X8_behind_19 ?_
      refine R.S3i kc_X8_behind_22 (c_X8_in) (by omega) rfl ⟨Nat.le_refl _, Nat.le_refl _⟩ (fun x22 M22 q22 => ?_)
      obtain ⟨rfl, q22⟩ := q22
      replace q22 := q22.symm
      subst q22
      refine R.c br_X8_behind_25 (And.intro (fun h25 => ?_) (fun h25 => ?_))
      · have hmm := hV.1
        obtain ⟨dn, hdn, rfl⟩ := f_in_dist (by omega) hV.2.1 h5
        have hcd : cN (nI dn) = dn := cN_nI (by omega)
        obtain ⟨nn, hnn, rfl⟩ := f_in_nat (n := 300) (by decide) h16
        have hcnn : cN (nI nn) = nn := cN_nI (by omega)
        obtain ⟨wn, hwn, rfl⟩ := f_in_nat (n := 4) (by decide) h25
        have hcwn : cN (nI wn) = wn := cN_nI (by omega)
        refine R.b bk_X8_behind_31 ?_
        refine R.V0v kc_X8_behind_32 (by first | rfl | assumption) (c_X8_thinks) (by omega) rfl ⟨Nat.le_refl _, Nat.le_refl _⟩ (fun M32 q32 => ?_)
        replace q32 := q32.symm
        subst q32
        refine R.b bk_X8_behind_35 ?_
        refine R.V1i kc_X8_behind_37 (by first | rfl | assumption) (c_X8_goesOn (n := nn) (by omega) (by rw [mx_rw_ne (show 104 ≠ 107 by decide)]; exact hV)) (by omega) rfl ⟨Nat.le_refl _, Nat.le_refl _⟩ (fun x37 M37 q37 => ?_)
        obtain ⟨rfl, e37, f37⟩ := q37
        rw [mx_rw_ne (show 104 ≠ 107 by decide)] at e37 ⊢
        refine R.b bk_X8_behind_40 ?_
        refine R.c br_X8_behind_46 (And.intro (fun h46 => ?_) (fun h46 => ?_))
        · refine R.b bk_X8_behind_55 ?_
          first
          | (have hw4 : wn < 4 := nI_lt8 (w := wn) (n := 4) (by omega) (by decide) h46
             have e2 : (2 : Int32) + nI wn = nI (if (nI wn) < 4 then 2 + cN (nI wn) else 7) := by
               rw [if_pos (show nI wn < 4 from Int32.not_le.mp h46), hcwn]
               exact nI_add 2 wn
             rw [e2])
          | (have e2 : (7 : Int32) = nI (if (nI wn) < 4 then 2 + cN (nI wn) else 7) := by
               rw [if_neg (Int32.not_lt.mpr h46)]; rfl
             rw [e2])
          have hix : (if (nI wn) < 4 then 2 + cN (nI wn) else 7) < 8 := by split <;> omega
          refine R.V2i kc_X8_behind_57 (by first | rfl | assumption) (c_X8_of (d := dn) (w := if (nI wn) < 4 then 2 + cN (nI wn) else 7) (by omega)) (by omega) rfl ⟨Nat.le_refl _, Nat.le_refl _⟩ (fun x57 M57 q57 => ?_)
          obtain ⟨rfl, q57⟩ := q57
          replace q57 := q57.symm
          subst q57
          refine R.b bk_X8_behind_60 ?_
          refine R.V0v kc_X8_behind_63 (by first | rfl | assumption) (c_X8_putsBack) (by omega) rfl ⟨Nat.le_refl _, Nat.le_refl _⟩ (fun M63 q63 => ?_)
          replace q63 := q63.symm
          subst q63
          refine R.b bk_X8_behind_66 ?_
          refine R.ri rt_X8_behind_68 rfl ⟨_, rfl, ?_⟩
          refine ⟨?_, ?_⟩
          · have hF : F_behind (M 104) (nI dn) (nI nn) (nI wn) = A_go (M 104) (cN (nI nn)) (7 + 8 * cN (nI dn) + (if (nI wn) < 4 then 2 + cN (nI wn) else 7)) := if_neg (not_or.mpr ⟨h5, not_or.mpr ⟨h16, h25⟩⟩)
            rw [hF, hcd, hcnn, e37]
          · intro q h1 h2 h3
            by_cases hq : q = 104
            · subst hq
              rw [mx_rw_at, f37 107 (by decide) (by decide) (by decide), mx_rw_at, e37]
              exact cut_back (fun j hj => A_go_keep hV hj nn)
            · rw [mx_rw_ne hq, f37 q hq h2 h3, mx_rw_ne h1]
        · refine R.b bk_X8_behind_49 ?_
          refine R.j gt_X8_behind_52 ?_
          first
          | (have hw4 : wn < 4 := nI_lt8 (w := wn) (n := 4) (by omega) (by decide) h46
             have e2 : (2 : Int32) + nI wn = nI (if (nI wn) < 4 then 2 + cN (nI wn) else 7) := by
               rw [if_pos (show nI wn < 4 from Int32.not_le.mp h46), hcwn]
               exact nI_add 2 wn
             rw [e2])
          | (have e2 : (7 : Int32) = nI (if (nI wn) < 4 then 2 + cN (nI wn) else 7) := by
               rw [if_neg (Int32.not_lt.mpr h46)]; rfl
             rw [e2])
          have hix : (if (nI wn) < 4 then 2 + cN (nI wn) else 7) < 8 := by split <;> omega
          refine R.V2i kc_X8_behind_57 (by first | rfl | assumption) (c_X8_of (d := dn) (w := if (nI wn) < 4 then 2 + cN (nI wn) else 7) (by omega)) (by omega) rfl ⟨Nat.le_refl _, Nat.le_refl _⟩ (fun x57 M57 q57 => ?_)
          obtain ⟨rfl, q57⟩ := q57
          replace q57 := q57.symm
          subst q57
          refine R.b bk_X8_behind_60 ?_
          refine R.V0v kc_X8_behind_63 (by first | rfl | assumption) (c_X8_putsBack) (by omega) rfl ⟨Nat.le_refl _, Nat.le_refl _⟩ (fun M63 q63 => ?_)
          replace q63 := q63.symm
          subst q63
          refine R.b bk_X8_behind_66 ?_
          refine R.ri rt_X8_behind_68 rfl ⟨_, rfl, ?_⟩
          refine ⟨?_, ?_⟩
          · have hF : F_behind (M 104) (nI dn) (nI nn) (nI wn) = A_go (M 104) (cN (nI nn)) (7 + 8 * cN (nI dn) + (if (nI wn) < 4 then 2 + cN (nI wn) else 7)) := if_neg (not_or.mpr ⟨h5, not_or.mpr ⟨h16, h25⟩⟩)
            rw [hF, hcd, hcnn, e37]
          · intro q h1 h2 h3
            by_cases hq : q = 104
            · subst hq
              rw [mx_rw_at, f37 107 (by decide) (by decide) (by decide), mx_rw_at, e37]
              exact cut_back (fun j hj => A_go_keep hV hj nn)
            · rw [mx_rw_ne hq, f37 q hq h2 h3, mx_rw_ne h1]
      · refine R.b bk_X8_behind_28 ?_
        refine R.ri rt_X8_behind_30 rfl ⟨_, rfl, ?_⟩
        exact ⟨by simp_all [F_behind, isD], fun q _ _ _ => rfl⟩
end
section
/-! thoughts of the model -/
/-- what a thought leaves, once it is put back -/
theorem put_back {M M1 : Mm} {b r : Rw} (e : M1 104 = b) (h : ∀ j, 55 ≤ j → b j = M 104 j) (f : ∀ q, q ≠ 104 → q ≠ 116 → q ≠ 117 → M1 q = mx_rw M 107 (cut 55 (M 104) r) q) (q : Nat) (h1 : q ≠ 107) (h2 : q ≠ 116) (h3 : q ≠ 117) : mx_rw M1 104 (cut 55 (M1 107) (M1 104)) q = M q := by
  by_cases hq : q = 104
  · subst hq
    rw [mx_rw_at, f 107 (by decide) (by decide) (by decide), mx_rw_at, e]
    exact cut_back h
  · rw [mx_rw_ne hq, f q hq h2 h3, mx_rw_ne h1]
def A_sun (a : Rw) (d : Nat) : Nat → Int32
  | 0 => 0
  | n + 1 => A_sun a d n + (if A_go a (n + 1) (7 + 8 * d + 4) = 0 then 1 else 0)
def F_sundays (a : Rw) (d n : Int32) : Int32 := if isD a d = 0 ∨ f_in n 0 300 = 0 then (-1000000001) else A_sun a (cN d) (cN n)
def A_mt (a : Rw) (d e : Nat) : Nat → Nat → Nat
  | 0, n => n
  | f + 1, n => if A_go a n (7 + 8 * d + 4) = A_go a n 5 ∧ A_go a n (7 + 8 * e + 4) = A_go a n 5 then n else A_mt a d e f (n + 1)
def F_meets (a : Rw) (d e : Int32) : Int32 := if isD a d = 0 ∨ isD a e = 0 then (-1000000001) else if A_mt a (cN d) (cN e) 201 0 ≤ 200 then nI (A_mt a (cN d) (cN e) 201 0) else (-1000000005)
def A_rich (a : Rw) : Nat → Int32
  | 0 => (-1000000005)
  | d + 1 => if A_rich a d = (-1000000005) ∨ a (7 + 8 * cN (A_rich a d) + 7) < a (7 + 8 * d + 7) then nI d else A_rich a d
theorem A_rich_spec (a : Rw) : ∀ n, n ≤ 6 → A_rich a n = (-1000000005) ∨ ∃ b, b < n ∧ A_rich a n = nI b
  | 0, _ => Or.inl rfl
  | n + 1, h => by
    right
    unfold A_rich
    split
    · exact ⟨n, Nat.lt_succ_self n, rfl⟩
    · rename_i hc
      rcases A_rich_spec a n (by omega) with h1 | ⟨b, hb, h1⟩
      · exact absurd (Or.inl h1) hc
      · exact ⟨b, by omega, h1⟩
def F_richest (a : Rw) (n : Int32) : Int32 := if f_in n 0 300 = 0 then (-1000000001) else A_rich (A_go a (cN n)) (cN (a 1))
def F_brings (a : Rw) (d n : Int32) : Int32 := if isD a d = 0 ∨ f_in n 0 300 = 0 then (-1000000001) else if a (7 + 8 * cN d + 5) = 0 then (-1000000002) else A_go (A_hides a (cN d)) (cN n) (7 + 8 * cN d + 7) - A_go a (cN n) (7 + 8 * cN d + 7)
theorem VR_hides {a : Rw} {mm d : Nat} (h : VR a mm) (hd : d < 6) : VR (A_hides a d) mm := by
  obtain ⟨h1, h2, h3, h4⟩ := h
  unfold A_hides
  refine ⟨h1, by rw [up_ne (by omega), up_ne (by omega)]; exact h2, VT_congr (fun j hj => by rw [up_ne (by omega), up_ne (by omega)]) h3, fun e he => ?_⟩
  obtain ⟨rt, g1, g2⟩ := h4 e he
  exact ⟨rt, g1, by rw [up_ne (by omega), up_ne (by omega)]; exact g2⟩
theorem c_X8_sundays {l : Launch} {G : Gt} {M : Mm} {d n : Int32} {mm : Nat} (hV : VR (M 104) mm) : Runs l G true dm_X8_sundays 6 127 [.ref 103, .int d, .int n] M 127 (Pi (fun x M1 => x = F_sundays (M 104) d n ∧ ∀ q, q ≠ 107 → q ≠ 116 → q ≠ 117 → M1 q = M q)) := by
  refine mx_run ow_X8_sundays rfl rfl (fun dp X hdp R => ?_)
  refine R.b bk_X8_sundays_0 ?_
  refine R.V1i kc_X8_sundays_2 (by first | rfl | assumption) (c_X8_isDistrict) (by omega) rfl ⟨Nat.le_refl _, Nat.le_refl _⟩ (fun x2 M2 q2 => ?_)
  obtain ⟨rfl, q2⟩ := q2
  replace q2 := q2.symm
  subst q2
  refine R.c br_X8_sundays_5 (And.intro (fun h5 => ?_) (fun h5 => ?_))
  · refine R.b bk_X8_sundays_19 ?_
    refine R.ri rt_X8_sundays_21 rfl ⟨_, rfl, ?_⟩
    exact ⟨by simp_all [F_sundays, isD], fun q _ _ _ => rfl⟩
  · refine R.b bk_X8_sundays_8 ?_
    refine R.S3i kc_X8_sundays_13 (c_X8_in) (by omega) rfl ⟨Nat.le_refl _, Nat.le_refl _⟩ (fun x13 M13 q13 => ?_)
    obtain ⟨rfl, q13⟩ := q13
    replace q13 := q13.symm
    subst q13
    refine R.c br_X8_sundays_16 (And.intro (fun h16 => ?_) (fun h16 => ?_))
    · have hmm := hV.1
      obtain ⟨dn, hdn, rfl⟩ := f_in_dist (by omega) hV.2.1 h5
      have hcd : cN (nI dn) = dn := cN_nI (by omega)
      obtain ⟨nn, hnn, rfl⟩ := f_in_nat (n := 300) (by decide) h16
      have hcnn : cN (nI nn) = nn := cN_nI (by omega)
      refine R.b bk_X8_sundays_22 ?_
      refine R.V0v kc_X8_sundays_23 (by first | rfl | assumption) (c_X8_thinks) (by omega) rfl ⟨Nat.le_refl _, Nat.le_refl _⟩ (fun M23 q23 => ?_)
      replace q23 := q23.symm
      subst q23
      refine R.b bk_X8_sundays_26 ?_
      have hA : ∀ (fu i : Nat) (M1 : Mm) (c5 : Option Value), nn - i = fu → i ≤ nn → (M1 104 = A_go (M 104) i) → (∀ q, q ≠ 104 → q ≠ 116 → q ≠ 117 → M1 q = mx_rw M 107 (cut 55 (M 104) (M 107)) q) → X 127 M1 31 [some (.ref 103), some (.int (nI dn)), some (.int (nI nn)), some (.int (A_sun (M 104) dn i)), some (.int (nI i)), c5] [] := by
        intro fu
        induction fu with
        | zero =>
          intro i M1 c5 hfu hi hI1 hI2
          have hiN : i = nn := by omega
          refine R.b bk_X8_sundays_31 ?_
          refine R.c br_X8_sundays_34 (And.intro (fun h34 => ?_) (fun h34 => absurd (by rw [hiN]; exact nI_le (Nat.le_refl nn) (by omega)) h34))
          refine R.b bk_X8_sundays_66 ?_
          refine R.V0v kc_X8_sundays_67 (by first | rfl | assumption) (c_X8_putsBack) (by omega) rfl ⟨Nat.le_refl _, Nat.le_refl _⟩ (fun M67 q67 => ?_)
          replace q67 := q67.symm
          subst q67
          refine R.b bk_X8_sundays_70 ?_
          refine R.ri rt_X8_sundays_71 rfl ⟨_, rfl, ?_⟩
          subst hiN
          refine ⟨?_, put_back hI1 (fun j hj => A_go_keep hV hj i) hI2⟩
          unfold F_sundays isD
          rw [if_neg (not_or.mpr ⟨h5, h16⟩), hcd, hcnn]
        | succ fu ih =>
          intro i M1 c5 hfu hi hI1 hI2
          have hlt : i < nn := by omega
          refine R.b bk_X8_sundays_31 ?_
          refine R.c br_X8_sundays_34 (And.intro (fun h34 => absurd h34 (nI_ge hlt (by omega))) (fun h34 => ?_))
          refine R.b bk_X8_sundays_37 ?_
          refine R.V0i kc_X8_sundays_38 (by first | rfl | assumption) (c_X8_day (mm := mm) (by rw [hI1]; exact VR_go hV i)) (by omega) rfl ⟨Nat.le_refl _, Nat.le_refl _⟩ (fun x38 M38 q38 => ?_)
          obtain ⟨-, e38, f38⟩ := q38
          have g38 : M38 104 = A_go (M 104) (i + 1) := by rw [e38, hI1]; rfl
          have k38 : ∀ q, q ≠ 104 → q ≠ 116 → q ≠ 117 → M38 q = mx_rw M 107 (cut 55 (M 104) (M 107)) q := fun q g1 g2 g3 => by rw [f38 q g1 g2 g3]; exact hI2 q g1 g2 g3
          refine R.b bk_X8_sundays_41 ?_
          refine R.V2i kc_X8_sundays_47 (by first | rfl | assumption) (c_X8_of (d := dn) (w := 4) (by omega)) (by omega) rfl ⟨Nat.le_refl _, Nat.le_refl _⟩ (fun x47 M47 q47 => ?_)
          obtain ⟨rfl, q47⟩ := q47
          replace q47 := q47.symm
          subst q47
          refine R.c br_X8_sundays_50 (And.intro (fun h50 => ?_) (fun h50 => ?_))
          · refine R.b bk_X8_sundays_57 ?_
            refine R.b bk_X8_sundays_58 ?_
            refine R.j gt_X8_sundays_63 ?_
            rw [nI_inc]
            have hx := ih (i + 1) M38 (some (.int x38)) (by omega) (by omega) g38 k38
            rw [A_sun] at hx
            rw [g38] at h50
            first | (rw [if_pos h50] at hx; exact hx) | (rw [if_neg h50] at hx; exact hx)
          · refine R.b bk_X8_sundays_53 ?_
            refine R.j gt_X8_sundays_54 ?_
            refine R.b bk_X8_sundays_58 ?_
            refine R.j gt_X8_sundays_63 ?_
            rw [nI_inc]
            have hx := ih (i + 1) M38 (some (.int x38)) (by omega) (by omega) g38 k38
            rw [A_sun] at hx
            rw [g38] at h50
            first | (rw [if_pos h50] at hx; exact hx) | (rw [if_neg h50] at hx; exact hx)
      exact hA nn 0 _ _ rfl (Nat.zero_le _) (by rw [mx_rw_ne (by decide)]; rfl) (fun q _ _ _ => rfl)
    · refine R.b bk_X8_sundays_19 ?_
      refine R.ri rt_X8_sundays_21 rfl ⟨_, rfl, ?_⟩
      exact ⟨by simp_all [F_sundays, isD], fun q _ _ _ => rfl⟩
theorem c_X8_meets {l : Launch} {G : Gt} {M : Mm} {d e : Int32} {mm : Nat} (hV : VR (M 104) mm) : Runs l G true dm_X8_meets 5 127 [.ref 103, .int d, .int e] M 127 (Pi (fun x M1 => x = F_meets (M 104) d e ∧ ∀ q, q ≠ 107 → q ≠ 116 → q ≠ 117 → M1 q = M q)) := by
  refine mx_run ow_X8_meets rfl rfl (fun dp X hdp R => ?_)
  refine R.b bk_X8_meets_0 ?_
  refine R.V1i kc_X8_meets_2 (by first | rfl | assumption) (c_X8_isDistrict) (by omega) rfl ⟨Nat.le_refl _, Nat.le_refl _⟩ (fun x2 M2 q2 => ?_)
  obtain ⟨rfl, q2⟩ := q2
  replace q2 := q2.symm
  subst q2
  refine R.c br_X8_meets_5 (And.intro (fun h5 => ?_) (fun h5 => ?_))
  · refine R.b bk_X8_meets_16 ?_
    refine R.ri rt_X8_meets_18 rfl ⟨_, rfl, ?_⟩
    exact ⟨by simp_all [F_meets, isD], fun q _ _ _ => rfl⟩
  · refine R.b bk_X8_meets_8 ?_
    refine R.V1i kc_X8_meets_10 (by first | rfl | assumption) (c_X8_isDistrict) (by omega) rfl ⟨Nat.le_refl _, Nat.le_refl _⟩ (fun x10 M10 q10 => ?_)
    obtain ⟨rfl, q10⟩ := q10
    replace q10 := q10.symm
    subst q10
    refine R.c br_X8_meets_13 (And.intro (fun h13 => ?_) (fun h13 => ?_))
    · have hmm := hV.1
      obtain ⟨dn, hdn, rfl⟩ := f_in_dist (by omega) hV.2.1 h5
      have hcd : cN (nI dn) = dn := cN_nI (by omega)
      obtain ⟨en, hen, rfl⟩ := f_in_dist (by omega) hV.2.1 h13
      have hce : cN (nI en) = en := cN_nI (by omega)
      refine R.b bk_X8_meets_19 ?_
      refine R.V0v kc_X8_meets_20 (by first | rfl | assumption) (c_X8_thinks) (by omega) rfl ⟨Nat.le_refl _, Nat.le_refl _⟩ (fun M20 q20 => ?_)
      replace q20 := q20.symm
      subst q20
      refine R.b bk_X8_meets_23 ?_
      have hA : ∀ (fu i : Nat) (M1 : Mm) (c4 : Option Value), 201 - i = fu → i ≤ 201 → (M1 104 = A_go (M 104) i) → (∀ q, q ≠ 104 → q ≠ 116 → q ≠ 117 → M1 q = mx_rw M 107 (cut 55 (M 104) (M 107)) q) → (A_mt (M 104) dn en (201 - i) i = A_mt (M 104) dn en 201 0) → X 127 M1 25 [some (.ref 103), some (.int (nI dn)), some (.int (nI en)), some (.int (nI i)), c4] [] := by
        intro fu
        induction fu with
        | zero =>
          intro i M1 c4 hfu hi hI1 hI2 hI3
          have hiN : i = 201 := by omega
          refine R.b bk_X8_meets_25 ?_
          refine R.c br_X8_meets_29 (And.intro (fun h29 => ?_) (fun h29 => absurd (by rw [hiN]; decide) h29))
          refine R.b bk_X8_meets_60 ?_
          refine R.V0v kc_X8_meets_61 (by first | rfl | assumption) (c_X8_putsBack) (by omega) rfl ⟨Nat.le_refl _, Nat.le_refl _⟩ (fun M61 q61 => ?_)
          replace q61 := q61.symm
          subst q61
          refine R.b bk_X8_meets_64 ?_
          refine R.c br_X8_meets_68 (And.intro (fun h68 => ?_) (fun h68 => absurd (by rw [hiN]; decide) h68))
          refine R.b bk_X8_meets_75 ?_
          refine R.ri rt_X8_meets_77 rfl ⟨_, rfl, ?_⟩
          subst hiN
          refine ⟨?_, put_back hI1 (fun j hj => A_go_keep hV hj 201) hI2⟩
          unfold F_meets isD
          rw [if_neg (not_or.mpr ⟨h5, h13⟩), hcd, hce, ← hI3]
          rfl
        | succ fu ih =>
          intro i M1 c4 hfu hi hI1 hI2 hI3
          have hlt : i < 201 := by omega
          refine R.b bk_X8_meets_25 ?_
          refine R.c br_X8_meets_29 (And.intro (fun h29 => absurd h29 (nI_nlt (b := i) (a := 200) (by omega) (by decide))) (fun h29 => ?_))
          refine R.b bk_X8_meets_32 ?_
          refine R.V1i kc_X8_meets_34 (by first | rfl | assumption) (c_X8_isFair (d := dn) (by omega)) (by omega) rfl ⟨Nat.le_refl _, Nat.le_refl _⟩ (fun x34 M34 q34 => ?_)
          obtain ⟨rfl, q34⟩ := q34
          replace q34 := q34.symm
          subst q34
          refine R.c br_X8_meets_37 (And.intro (fun h37 => ?_) (fun h37 => ?_))
          · refine R.b bk_X8_meets_48 ?_
            refine R.V0i kc_X8_meets_49 (by first | rfl | assumption) (c_X8_day (mm := mm) (by rw [hI1]; exact VR_go hV i)) (by omega) rfl ⟨Nat.le_refl _, Nat.le_refl _⟩ (fun x49 M49 q49 => ?_)
            obtain ⟨-, e49, f49⟩ := q49
            have g49 : M49 104 = A_go (M 104) (i + 1) := by rw [e49, hI1]; rfl
            have k49 : ∀ q, q ≠ 104 → q ≠ 116 → q ≠ 117 → M49 q = mx_rw M 107 (cut 55 (M 104) (M 107)) q := fun q g1 g2 g3 => by rw [f49 q g1 g2 g3]; exact hI2 q g1 g2 g3
            refine R.b bk_X8_meets_52 ?_
            refine R.j gt_X8_meets_57 ?_
            rw [nI_inc]
            refine ih (i + 1) M49 _ (by omega) (by omega) g49 k49 ?_
            rw [show 201 - i = (201 - (i + 1)) + 1 by omega, A_mt, if_neg ?_] at hI3
            exact hI3
            intro hc
            rw [← hI1] at hc
            first | exact absurd h37 (by rw [f_eq, if_pos hc.1]; decide) | exact absurd h45 (by rw [f_eq, if_pos hc.2]; decide)
          · refine R.b bk_X8_meets_40 ?_
            refine R.V1i kc_X8_meets_42 (by first | rfl | assumption) (c_X8_isFair (d := en) (by omega)) (by omega) rfl ⟨Nat.le_refl _, Nat.le_refl _⟩ (fun x42 M42 q42 => ?_)
            obtain ⟨rfl, q42⟩ := q42
            replace q42 := q42.symm
            subst q42
            refine R.c br_X8_meets_45 (And.intro (fun h45 => ?_) (fun h45 => ?_))
            · refine R.b bk_X8_meets_60 ?_
              refine R.V0v kc_X8_meets_61 (by first | rfl | assumption) (c_X8_putsBack) (by omega) rfl ⟨Nat.le_refl _, Nat.le_refl _⟩ (fun M61 q61 => ?_)
              replace q61 := q61.symm
              subst q61
              refine R.b bk_X8_meets_64 ?_
              refine R.c br_X8_meets_68 (And.intro (fun h68 => absurd h68 (nI_nlt (b := i) (a := 200) (by omega) (by decide))) (fun h68 => ?_))
              refine R.b bk_X8_meets_71 ?_
              refine R.j gt_X8_meets_72 ?_
              refine R.ri rt_X8_meets_77 rfl ⟨_, rfl, ?_⟩
              rw [show 201 - i = (201 - (i + 1)) + 1 by omega, A_mt, if_pos ?_] at hI3
              · refine ⟨?_, put_back hI1 (fun j hj => A_go_keep hV hj i) hI2⟩
                unfold F_meets isD
                rw [if_neg (not_or.mpr ⟨h5, h13⟩), hcd, hce, ← hI3, if_pos (by omega)]
              · rw [← hI1]
                constructor
                · apply Classical.byContradiction; intro hc; exact h37 (by rw [f_eq, if_neg hc])
                · apply Classical.byContradiction; intro hc; exact h45 (by rw [f_eq, if_neg hc])
            · refine R.b bk_X8_meets_48 ?_
              refine R.V0i kc_X8_meets_49 (by first | rfl | assumption) (c_X8_day (mm := mm) (by rw [hI1]; exact VR_go hV i)) (by omega) rfl ⟨Nat.le_refl _, Nat.le_refl _⟩ (fun x49 M49 q49 => ?_)
              obtain ⟨-, e49, f49⟩ := q49
              have g49 : M49 104 = A_go (M 104) (i + 1) := by rw [e49, hI1]; rfl
              have k49 : ∀ q, q ≠ 104 → q ≠ 116 → q ≠ 117 → M49 q = mx_rw M 107 (cut 55 (M 104) (M 107)) q := fun q g1 g2 g3 => by rw [f49 q g1 g2 g3]; exact hI2 q g1 g2 g3
              refine R.b bk_X8_meets_52 ?_
              refine R.j gt_X8_meets_57 ?_
              rw [nI_inc]
              refine ih (i + 1) M49 _ (by omega) (by omega) g49 k49 ?_
              rw [show 201 - i = (201 - (i + 1)) + 1 by omega, A_mt, if_neg ?_] at hI3
              exact hI3
              intro hc
              rw [← hI1] at hc
              first | exact absurd h37 (by rw [f_eq, if_pos hc.1]; decide) | exact absurd h45 (by rw [f_eq, if_pos hc.2]; decide)
      exact hA 201 0 _ _ rfl (Nat.zero_le _) (by rw [mx_rw_ne (by decide)]; rfl) (fun q _ _ _ => rfl) rfl
    · refine R.b bk_X8_meets_16 ?_
      refine R.ri rt_X8_meets_18 rfl ⟨_, rfl, ?_⟩
      exact ⟨by simp_all [F_meets, isD], fun q _ _ _ => rfl⟩
theorem c_X8_richest {l : Launch} {G : Gt} {M : Mm} {n : Int32} {mm : Nat} (hV : VR (M 104) mm) : Runs l G true dm_X8_richest 6 127 [.ref 103, .int n] M 127 (Pi (fun x M1 => x = F_richest (M 104) n ∧ ∀ q, q ≠ 107 → q ≠ 116 → q ≠ 117 → M1 q = M q)) := by
  refine mx_run ow_X8_richest rfl rfl (fun dp X hdp R => ?_)
  refine R.b bk_X8_richest_0 ?_
  refine R.S3i kc_X8_richest_5 (c_X8_in) (by omega) rfl ⟨Nat.le_refl _, Nat.le_refl _⟩ (fun x5 M5 q5 => ?_)
  obtain ⟨rfl, q5⟩ := q5
  replace q5 := q5.symm
  subst q5
  refine R.c br_X8_richest_8 (And.intro (fun h8 => ?_) (fun h8 => ?_))
  · have hmm := hV.1
    obtain ⟨nn, hnn, rfl⟩ := f_in_nat (n := 300) (by decide) h8
    have hcnn : cN (nI nn) = nn := cN_nI (by omega)
    refine R.b bk_X8_richest_14 ?_
    refine R.V0v kc_X8_richest_15 (by first | rfl | assumption) (c_X8_thinks) (by omega) rfl ⟨Nat.le_refl _, Nat.le_refl _⟩ (fun M15 q15 => ?_)
    replace q15 := q15.symm
    subst q15
    refine R.b bk_X8_richest_18 ?_
    refine R.V1i kc_X8_richest_20 (by first | rfl | assumption) (c_X8_goesOn (n := nn) (by omega) (by rw [mx_rw_ne (show 104 ≠ 107 by decide)]; exact hV)) (by omega) rfl ⟨Nat.le_refl _, Nat.le_refl _⟩ (fun x20 M20 q20 => ?_)
    obtain ⟨-, hI1, hI2⟩ := q20
    rw [mx_rw_ne (show 104 ≠ 107 by decide)] at hI1
    refine R.b bk_X8_richest_23 ?_
    generalize x20 = c2
    generalize M20 = M1 at hI1 hI2 ⊢
    have e1 : M1 104 (Int32.toNatClampNeg 1) = nI mm := by rw [hI1]; exact (VR_go hV nn).2.1
    have hA : ∀ (fu i : Nat) , mm - i = fu → i ≤ mm → X 127 M1 30 [some (.ref 103), some (.int (nI nn)), some (.int c2), some (.int (A_rich (A_go (M 104) nn) i)), some (.int (nI i))] [] := by
      intro fu
      induction fu with
      | zero =>
        intro i  hfu hi 
        have hiN : i = mm := by omega
        refine R.b bk_X8_richest_30 (And.intro (by first | rfl | assumption) (And.intro (by first | rfl | assumption) (And.intro (by exact vp_lit rfl) ?_)))
        refine R.c br_X8_richest_38 (And.intro (fun h38 => ?_) (fun h38 => absurd (by rw [e1, hiN]; exact nI_le (Nat.le_refl mm) (by omega)) h38))
        refine R.b bk_X8_richest_78 ?_
        refine R.V0v kc_X8_richest_79 (by first | rfl | assumption) (c_X8_putsBack) (by omega) rfl ⟨Nat.le_refl _, Nat.le_refl _⟩ (fun M79 q79 => ?_)
        replace q79 := q79.symm
        subst q79
        refine R.b bk_X8_richest_82 ?_
        refine R.ri rt_X8_richest_83 rfl ⟨_, rfl, ?_⟩
        subst hiN
        refine ⟨?_, put_back hI1 (fun j hj => A_go_keep hV hj nn) hI2⟩
        rw [F_richest, if_neg h8, hcnn, hV.2.1, cN_nI (by omega)]
      | succ fu ih =>
        intro i  hfu hi 
        have hlt : i < mm := by omega
        refine R.b bk_X8_richest_30 (And.intro (by first | rfl | assumption) (And.intro (by first | rfl | assumption) (And.intro (by exact vp_lit rfl) ?_)))
        refine R.c br_X8_richest_38 (And.intro (fun h38 => absurd h38 (by rw [e1]; exact nI_ge hlt (by omega))) (fun h38 => ?_))
        refine R.b bk_X8_richest_41 ?_
        refine R.c br_X8_richest_44 (And.intro (fun h44 => ?_) (fun h44 => ?_))
        · refine R.b bk_X8_richest_65 ?_
          refine R.j gt_X8_richest_67 ?_
          refine R.b bk_X8_richest_71 ?_
          refine R.j gt_X8_richest_75 ?_
          rw [nI_inc]
          have hx := ih (i + 1) (by omega) (by omega)
          rw [A_rich] at hx
          first
          | (rw [if_pos (Or.inl h44)] at hx; exact hx)
          | (rw [hI1] at h62; rw [if_neg (not_or.mpr ⟨h44, by rw [hbe, hcb]; exact Int32.not_lt.mpr h62⟩), hbe] at hx; exact hx)
          | (rw [hI1] at h62; rw [if_pos (Or.inr (by rw [hbe, hcb]; exact Int32.not_le.mp h62))] at hx; exact hx)
        · obtain ⟨b, hb, hbe⟩ := (A_rich_spec (A_go (M 104) nn) i (by omega)).resolve_left h44
          have hcb : cN (nI b) = b := cN_nI (by omega)
          refine R.b bk_X8_richest_47 ?_
          refine R.V2i kc_X8_richest_52 (by first | rfl | assumption) (c_X8_of (d := i) (w := 7) (by omega)) (by omega) rfl ⟨Nat.le_refl _, Nat.le_refl _⟩ (fun x52 M52 q52 => ?_)
          obtain ⟨rfl, q52⟩ := q52
          replace q52 := q52.symm
          subst q52
          rw [hbe]
          refine R.b bk_X8_richest_55 ?_
          refine R.V2i kc_X8_richest_59 (by first | rfl | assumption) (c_X8_of (d := b) (w := 7) (by omega)) (by omega) rfl ⟨Nat.le_refl _, Nat.le_refl _⟩ (fun x59 M59 q59 => ?_)
          obtain ⟨rfl, q59⟩ := q59
          replace q59 := q59.symm
          subst q59
          refine R.c br_X8_richest_62 (And.intro (fun h62 => ?_) (fun h62 => ?_))
          · refine R.b bk_X8_richest_70 ?_
            refine R.b bk_X8_richest_71 ?_
            refine R.j gt_X8_richest_75 ?_
            rw [nI_inc]
            have hx := ih (i + 1) (by omega) (by omega)
            rw [A_rich] at hx
            first
            | (rw [if_pos (Or.inl h44)] at hx; exact hx)
            | (rw [hI1] at h62; rw [if_neg (not_or.mpr ⟨h44, by rw [hbe, hcb]; exact Int32.not_lt.mpr h62⟩), hbe] at hx; exact hx)
            | (rw [hI1] at h62; rw [if_pos (Or.inr (by rw [hbe, hcb]; exact Int32.not_le.mp h62))] at hx; exact hx)
          · refine R.b bk_X8_richest_65 ?_
            refine R.j gt_X8_richest_67 ?_
            refine R.b bk_X8_richest_71 ?_
            refine R.j gt_X8_richest_75 ?_
            rw [nI_inc]
            have hx := ih (i + 1) (by omega) (by omega)
            rw [A_rich] at hx
            first
            | (rw [if_pos (Or.inl h44)] at hx; exact hx)
            | (rw [hI1] at h62; rw [if_neg (not_or.mpr ⟨h44, by rw [hbe, hcb]; exact Int32.not_lt.mpr h62⟩), hbe] at hx; exact hx)
            | (rw [hI1] at h62; rw [if_pos (Or.inr (by rw [hbe, hcb]; exact Int32.not_le.mp h62))] at hx; exact hx)
    exact hA mm 0 rfl (Nat.zero_le _)
  · refine R.b bk_X8_richest_11 ?_
    refine R.ri rt_X8_richest_13 rfl ⟨_, rfl, ?_⟩
    exact ⟨by simp_all [F_richest, isD], fun q _ _ _ => rfl⟩
theorem c_X8_brings {l : Launch} {G : Gt} {M : Mm} {d n : Int32} {mm : Nat} (hV : VR (M 104) mm) : Runs l G true dm_X8_brings 6 127 [.ref 103, .int d, .int n] M 127 (Pi (fun x M1 => x = F_brings (M 104) d n ∧ ∀ q, q ≠ 107 → q ≠ 116 → q ≠ 117 → M1 q = M q)) := by
  refine mx_run ow_X8_brings rfl rfl (fun dp X hdp R => ?_)
  refine R.b bk_X8_brings_0 ?_
  refine R.V1i kc_X8_brings_2 (by first | rfl | assumption) (c_X8_isDistrict) (by omega) rfl ⟨Nat.le_refl _, Nat.le_refl _⟩ (fun x2 M2 q2 => ?_)
  obtain ⟨rfl, q2⟩ := q2
  replace q2 := q2.symm
  subst q2
  refine R.c br_X8_brings_5 (And.intro (fun h5 => ?_) (fun h5 => ?_))
  · refine R.b bk_X8_brings_19 ?_
    refine R.ri rt_X8_brings_21 rfl ⟨_, rfl, ?_⟩
    exact ⟨by simp_all [F_brings, isD], fun q _ _ _ => rfl⟩
  · refine R.b bk_X8_brings_8 ?_
    refine R.S3i kc_X8_brings_13 (c_X8_in) (by omega) rfl ⟨Nat.le_refl _, Nat.le_refl _⟩ (fun x13 M13 q13 => ?_)
    obtain ⟨rfl, q13⟩ := q13
    replace q13 := q13.symm
    subst q13
    refine R.c br_X8_brings_16 (And.intro (fun h16 => ?_) (fun h16 => ?_))
    · have hmm := hV.1
      obtain ⟨dn, hdn, rfl⟩ := f_in_dist (by omega) hV.2.1 h5
      have hcd : cN (nI dn) = dn := cN_nI (by omega)
      obtain ⟨nn, hnn, rfl⟩ := f_in_nat (n := 300) (by decide) h16
      have hcnn : cN (nI nn) = nn := cN_nI (by omega)
      refine R.b bk_X8_brings_22 ?_
      refine R.V2i kc_X8_brings_25 (by first | rfl | assumption) (c_X8_of (d := dn) (w := 5) (by omega)) (by omega) rfl ⟨Nat.le_refl _, Nat.le_refl _⟩ (fun x25 M25 q25 => ?_)
      obtain ⟨rfl, q25⟩ := q25
      replace q25 := q25.symm
      subst q25
      refine R.c br_X8_brings_28 (And.intro (fun h28 => ?_) (fun h28 => ?_))
      · refine R.b bk_X8_brings_34 ?_
        refine R.V0v kc_X8_brings_35 (by first | rfl | assumption) (c_X8_thinks) (by omega) rfl ⟨Nat.le_refl _, Nat.le_refl _⟩ (fun M35 q35 => ?_)
        replace q35 := q35.symm
        subst q35
        refine R.b bk_X8_brings_38 ?_
        refine R.V1i kc_X8_brings_40 (by first | rfl | assumption) (c_X8_goesOn (n := nn) (by omega) (by rw [mx_rw_ne (show 104 ≠ 107 by decide)]; exact hV)) (by omega) rfl ⟨Nat.le_refl _, Nat.le_refl _⟩ (fun x40 M40 q40 => ?_)
        obtain ⟨-, e40, f40⟩ := q40
        rw [mx_rw_ne (show 104 ≠ 107 by decide)] at e40
        refine R.b bk_X8_brings_43 ?_
        refine R.V2i kc_X8_brings_48 (by first | rfl | assumption) (c_X8_of (d := dn) (w := 7) (by omega)) (by omega) rfl ⟨Nat.le_refl _, Nat.le_refl _⟩ (fun x48 M48 q48 => ?_)
        obtain ⟨rfl, q48⟩ := q48
        replace q48 := q48.symm
        subst q48
        refine R.b bk_X8_brings_51 ?_
        refine R.V0v kc_X8_brings_54 (by first | rfl | assumption) (c_X8_putsBack) (by omega) rfl ⟨Nat.le_refl _, Nat.le_refl _⟩ (fun M54 q54 => ?_)
        have p54 := put_back e40 (fun j hj => A_go_keep hV hj nn) f40
        rw [← q54] at p54
        have e54 : M54 104 = M 104 := p54 104 (by decide) (by decide) (by decide)
        have t54 : M54 107 = cut 55 (M 104) (M 107) := by rw [q54, mx_rw_ne (by decide), f40 107 (by decide) (by decide) (by decide), mx_rw_at]
        refine R.b bk_X8_brings_57 ?_
        refine R.V1v kc_X8_brings_59 (by first | rfl | assumption) (c_X8_hides (d := dn) (by omega)) (by omega) rfl ⟨Nat.le_refl _, Nat.le_refl _⟩ (fun M59 q59 => ?_)
        replace q59 := q59.symm
        subst q59
        refine R.b bk_X8_brings_62 ?_
        refine R.V1i kc_X8_brings_64 (by first | rfl | assumption) (c_X8_goesOn (n := nn) (mm := mm) (by omega) (by rw [mx_rw_at, e54]; exact VR_hides hV (by omega))) (by omega) rfl ⟨Nat.le_refl _, Nat.le_refl _⟩ (fun x64 M64 q64 => ?_)
        obtain ⟨-, e64, f64⟩ := q64
        rw [mx_rw_at, e54] at e64
        refine R.b bk_X8_brings_67 ?_
        refine R.V2i kc_X8_brings_72 (by first | rfl | assumption) (c_X8_of (d := dn) (w := 7) (by omega)) (by omega) rfl ⟨Nat.le_refl _, Nat.le_refl _⟩ (fun x72 M72 q72 => ?_)
        obtain ⟨rfl, q72⟩ := q72
        replace q72 := q72.symm
        subst q72
        refine R.b bk_X8_brings_75 ?_
        refine R.V0v kc_X8_brings_78 (by first | rfl | assumption) (c_X8_putsBack) (by omega) rfl ⟨Nat.le_refl _, Nat.le_refl _⟩ (fun M78 q78 => ?_)
        replace q78 := q78.symm
        subst q78
        refine R.b bk_X8_brings_81 ?_
        refine R.ri rt_X8_brings_86 rfl ⟨_, rfl, ?_⟩
        refine ⟨?_, ?_⟩
        · unfold F_brings isD
          rw [if_neg (not_or.mpr ⟨h5, h16⟩), hcd, hcnn, if_neg h28, e40, e64]
        · intro q h1 h2 h3
          by_cases hq : q = 104
          · subst hq
            rw [mx_rw_at, f64 107 (by decide) (by decide) (by decide), mx_rw_ne (by decide), t54, e64]
            refine cut_back (fun j hj => ?_)
            rw [A_go_keep (VR_hides hV (by omega)) hj nn, A_hides, up_ne (by omega), up_ne (by omega)]
          · rw [mx_rw_ne hq, f64 q hq h2 h3, mx_rw_ne hq]
            exact p54 q h1 h2 h3
      · refine R.b bk_X8_brings_31 ?_
        refine R.ri rt_X8_brings_33 rfl ⟨_, rfl, ?_⟩
        exact ⟨by simp_all [F_brings, isD], fun q _ _ _ => rfl⟩
    · refine R.b bk_X8_brings_19 ?_
      refine R.ri rt_X8_brings_21 rfl ⟨_, rfl, ?_⟩
      exact ⟨by simp_all [F_brings, isD], fun q _ _ _ => rfl⟩
end
section
/-! what holds of the districts of a row, over days -/
/-- a district's kind, length, place -/
def VPd (a : Rw) (d : Nat) : Prop := ∃ k L p, k ≤ 5 ∧ a (7 + 8 * d) = nI k ∧ a (7 + 8 * d + 3) = nI L ∧ a (7 + 8 * d + 4) = nI p ∧ p < L ∧ 2 ≤ L ∧ L ≤ 60
def VP (a : Rw) (mm : Nat) : Prop := VR a mm ∧ ∀ d, d < mm → VPd a d
theorem f_held_2_60 (v : Int32) : ∃ L, 2 ≤ L ∧ L ≤ 60 ∧ f_held v 2 60 = nI L := by
  unfold f_held
  split
  · exact ⟨2, by decide, by decide, rfl⟩
  · split
    · exact ⟨60, by decide, by decide, rfl⟩
    · rename_i h1 h2
      have e0 : (0 : Int32).toInt = 0 := by decide
      have e2 : (2 : Int32).toInt = 2 := by decide
      have h0 : ¬ v < 0 := by
        rw [Int32.lt_iff_toInt_lt] at h1 ⊢
        omega
      obtain ⟨j, hj, e⟩ := nI_of2 (x := v) (M := 60) (n := 60) (by decide) h0 (Int32.not_lt.mp h2)
      refine ⟨j, ?_, hj, e⟩
      rw [e] at h1
      rcases Nat.lt_or_ge j 2 with q | q
      · exact absurd (nI_lt (b := 2) q (by decide)) h1
      · exact q
theorem A_dayD_ne {a : Rw} {d e f : Nat} (h : e ≠ d) (hf : f < 8) : A_dayD a e (7 + 8 * d + f) = a (7 + 8 * d + f) := A_dayD_keep (by omega) (by omega)
theorem A_dayN_lo {a : Rw} {d f : Nat} (hf : f < 8) : ∀ n, n ≤ d → A_dayN a n (7 + 8 * d + f) = a (7 + 8 * d + f)
  | 0, _ => rfl
  | n + 1, h => by
    unfold A_dayN
    rw [A_dayD_ne (by omega) hf, A_dayN_lo hf n (by omega)]
theorem A_dayN_hi {a : Rw} {d f : Nat} (hf : f < 8) : ∀ n, d < n → A_dayN a n (7 + 8 * d + f) = A_dayD (A_dayN a d) d (7 + 8 * d + f)
  | 0, h => absurd h (Nat.not_lt_zero d)
  | n + 1, h => by
    by_cases hd : d = n
    · subst hd
      rfl
    · rw [A_dayN, A_dayD_ne (by omega) hf, A_dayN_hi hf n (by omega)]
theorem A_day_at {a : Rw} {mm d f : Nat} (hV : VR a mm) (hd : d < mm) (hf : f < 8) : A_day a (7 + 8 * d + f) = A_dayD (A_dayN a d) d (7 + 8 * d + f) := by
  have hm := hV.1
  unfold A_day
  rw [up_ne (by omega), show cN (a 1) = mm by rw [hV.2.1]; exact cN_nI (by omega), A_dayN_hi hf mm hd]
theorem nI_in_eq {p L : Nat} (hp : p < 2 ^ 30) (hL : L < 2 ^ 30) : (nI p + 1 = nI L) ↔ p + 1 = L := by
  rw [nI_1]
  exact nI_eq (by omega) (by omega)
/-- a day of a district, by its place -/
theorem A_dayD_pl {a : Rw} {d L p : Nat} (hL : a (7 + 8 * d + 3) = nI L) (hp : a (7 + 8 * d + 4) = nI p) (hpL : p < L) (hL60 : L ≤ 60) :
    (p + 1 < L → A_wkD a d = 0 ∧ A_dayD a d (7 + 8 * d + 2) = a (7 + 8 * d + 2) ∧ A_dayD a d (7 + 8 * d + 3) = nI L ∧ A_dayD a d (7 + 8 * d + 4) = nI (p + 1)) ∧
    (p + 1 = L → A_wkD a d = 1 ∧ A_dayD a d (7 + 8 * d + 2) = a (7 + 8 * d + 2) + 1 ∧ A_dayD a d (7 + 8 * d + 3) = f_held (A_d2 a d (7 + 8 * d + 5)) 2 60 ∧ A_dayD a d (7 + 8 * d + 4) = 0) := by
  have e4 : A_d2 a d (7 + 8 * d + 4) = nI (p + 1) := by
    simp only [A_d2]
    rw [if_neg (by omega), if_neg (by omega), if_pos trivial, hp, nI_1]
  have e3 : A_d2 a d (7 + 8 * d + 3) = nI L := by
    simp only [A_d2]
    rw [if_neg (by omega), if_neg (by omega), if_neg (by omega), if_neg (by omega), hL]
  have e2 : A_d2 a d (7 + 8 * d + 2) = a (7 + 8 * d + 2) := by
    simp only [A_d2]
    rw [if_neg (by omega), if_neg (by omega), if_neg (by omega), if_neg (by omega)]
  constructor
  · intro h
    have hne : ¬ A_d2 a d (7 + 8 * d + 4) = A_d2 a d (7 + 8 * d + 3) := by
      rw [e4, e3, nI_eq (by omega) (by omega)]
      omega
    rw [A_wkD, A_dayD, if_neg hne, if_neg hne]
    exact ⟨rfl, e2, e3, e4⟩
  · intro h
    have heq : A_d2 a d (7 + 8 * d + 4) = A_d2 a d (7 + 8 * d + 3) := by rw [e4, e3, h]
    rw [A_wkD, A_dayD, if_pos heq, if_pos heq]
    refine ⟨rfl, ?_, ?_, ?_⟩
    · simp only [A_week]
      rw [if_neg (by omega), if_pos trivial, e2]
    · simp only [A_week]
      rw [if_neg (by omega), if_neg (by omega), if_pos trivial]
    · simp only [A_week]
      rw [if_neg (by omega), if_neg (by omega), if_neg (by omega), if_neg (by omega), if_neg (by omega), if_pos trivial]
theorem VPd_dayD {a : Rw} {d : Nat} (e : Nat) (h : VPd a d) : VPd (A_dayD a e) d := by
  obtain ⟨k, L, p, h1, h2, h3, h4, h5, h6, h7⟩ := h
  by_cases hed : e = d
  · subst hed
    have hk : A_dayD a e (7 + 8 * e) = nI k := by rw [A_dayD_keep (by omega) (by omega)]; exact h2
    obtain ⟨g1, g2⟩ := A_dayD_pl h3 h4 h5 h7
    rcases Nat.lt_or_ge (p + 1) L with q | q
    · obtain ⟨-, -, i3, i4⟩ := g1 q
      exact ⟨k, L, p + 1, h1, hk, i3, i4, q, h6, h7⟩
    · obtain ⟨-, -, i3, i4⟩ := g2 (by omega)
      obtain ⟨L', j1, j2, j3⟩ := f_held_2_60 (A_d2 a e (7 + 8 * e + 5))
      exact ⟨k, L', 0, h1, hk, i3.trans j3, i4, by omega, j1, j2⟩
  · have hk : A_dayD a e (7 + 8 * d) = a (7 + 8 * d) := A_dayD_ne (f := 0) hed (by decide)
    exact ⟨k, L, p, h1, hk.trans h2, (A_dayD_ne hed (by decide)).trans h3, (A_dayD_ne hed (by decide)).trans h4, h5, h6, h7⟩
theorem VPd_dayN {a : Rw} {d : Nat} (h : VPd a d) : ∀ n, VPd (A_dayN a n) d
  | 0 => h
  | n + 1 => VPd_dayD n (VPd_dayN h n)
theorem VPd_congr {a b : Rw} {d : Nat} (h : ∀ f, f < 8 → b (7 + 8 * d + f) = a (7 + 8 * d + f)) (hV : VPd a d) : VPd b d := by
  obtain ⟨k, L, p, h1, h2, h3, h4, h5⟩ := hV
  exact ⟨k, L, p, h1, (h 0 (by decide)).trans h2, (h 3 (by decide)).trans h3, (h 4 (by decide)).trans h4, h5⟩
theorem VP_day {a : Rw} {mm : Nat} (h : VP a mm) : VP (A_day a) mm := by
  have hm := h.1.1
  refine ⟨VR_day h.1, fun d hd => VPd_congr (fun f hf => ?_) (VPd_dayN (h.2 d hd) mm)⟩
  unfold A_day
  rw [up_ne (by omega), show cN (a 1) = mm by rw [h.1.2.1]; exact cN_nI (by omega)]
theorem VP_go {a : Rw} {mm : Nat} (h : VP a mm) : ∀ n, VP (A_go a n) mm
  | 0 => h
  | n + 1 => VP_day (VP_go h n)
/-- a day, as a district's place shows it -/
theorem A_day_pl {a : Rw} {mm d L p : Nat} (hV : VP a mm) (hd : d < mm) (hL : a (7 + 8 * d + 3) = nI L) (hp : a (7 + 8 * d + 4) = nI p) (hpL : p < L) (hL60 : L ≤ 60) :
    (p + 1 < L → A_day a (7 + 8 * d + 2) = a (7 + 8 * d + 2) ∧ A_day a (7 + 8 * d + 3) = nI L ∧ A_day a (7 + 8 * d + 4) = nI (p + 1)) ∧
    (p + 1 = L → A_day a (7 + 8 * d + 2) = a (7 + 8 * d + 2) + 1 ∧ A_day a (7 + 8 * d + 4) = 0) := by
  rw [A_day_at hV.1 hd (by decide), A_day_at hV.1 hd (by decide), A_day_at hV.1 hd (by decide)]
  have k2 := A_dayN_lo (a := a) (d := d) (f := 2) (by decide) d (Nat.le_refl d)
  have k3 := A_dayN_lo (a := a) (d := d) (f := 3) (by decide) d (Nat.le_refl d)
  have k4 := A_dayN_lo (a := a) (d := d) (f := 4) (by decide) d (Nat.le_refl d)
  obtain ⟨g1, g2⟩ := A_dayD_pl (a := A_dayN a d) (d := d) (k3.trans hL) (k4.trans hp) hpL hL60
  constructor
  · intro q
    obtain ⟨-, i2, i3, i4⟩ := g1 q
    exact ⟨i2.trans k2, i3, i4⟩
  · intro q
    obtain ⟨-, i2, -, i4⟩ := g2 q
    exact ⟨by rw [i2, k2], i4⟩
/-- how many days are left of a district's week -/
def f_left (a : Rw) (d : Nat) : Nat := cN (a (7 + 8 * d + 3)) - cN (a (7 + 8 * d + 4))
/-- the day on which a district's k-th week to come begins -/
def A_wd (a : Rw) (d : Nat) : Nat → Nat
  | 0 => 0
  | k + 1 => A_wd a d k + f_left (A_go a (A_wd a d k)) d
theorem A_go_add (a : Rw) (i : Nat) : ∀ j, A_go a (i + j) = A_go (A_go a i) j
  | 0 => rfl
  | j + 1 => by rw [← Nat.add_assoc, A_go, A_go_add a i j]; rfl
/-- within a week: the place goes up; the week stays -/
theorem A_go_in {a : Rw} {mm d L p : Nat} (hV : VP a mm) (hd : d < mm) (hL : a (7 + 8 * d + 3) = nI L) (hp : a (7 + 8 * d + 4) = nI p) (hpL : p < L) (hL60 : L ≤ 60) : ∀ j, p + j < L → A_go a j (7 + 8 * d + 2) = a (7 + 8 * d + 2) ∧ A_go a j (7 + 8 * d + 3) = nI L ∧ A_go a j (7 + 8 * d + 4) = nI (p + j)
  | 0, _ => ⟨rfl, hL, hp⟩
  | j + 1, h => by
    obtain ⟨i1, i2, i3⟩ := A_go_in hV hd hL hp hpL hL60 j (by omega)
    obtain ⟨g1, -⟩ := A_day_pl (VP_go hV j) hd i2 i3 (by omega) hL60
    obtain ⟨k1, k2, k3⟩ := g1 (by omega)
    exact ⟨k1.trans i1, k2, k3⟩
theorem A_go_end {a : Rw} {mm d L p : Nat} (hV : VP a mm) (hd : d < mm) (hL : a (7 + 8 * d + 3) = nI L) (hp : a (7 + 8 * d + 4) = nI p) (hpL : p < L) (hL60 : L ≤ 60) : A_go a (L - p) (7 + 8 * d + 2) = a (7 + 8 * d + 2) + 1 ∧ A_go a (L - p) (7 + 8 * d + 4) = 0 := by
  obtain ⟨i1, i2, i3⟩ := A_go_in hV hd hL hp hpL hL60 (L - p - 1) (by omega)
  obtain ⟨-, g2⟩ := A_day_pl (VP_go hV (L - p - 1)) hd i2 i3 (by omega) hL60
  obtain ⟨k1, k2⟩ := g2 (by omega)
  rw [show L - p = (L - p - 1) + 1 by omega]
  exact ⟨by rw [A_go, k1, i1], k2⟩
end
section
/-! traders; the check -/
theorem f_eq_one {a b : Int32} (h : ¬ f_eq a b = 0) : f_eq a b = 1 := by
  unfold f_eq at h ⊢
  split at h
  · rw [if_pos ‹_›]
  · exact absurd rfl h
theorem mx_rw_two {M M1 : Mm} {c : Rw} (h : M1 = mx_rw M 109 c) : M1 = mx_rw (mx_rw M 109 (M1 109)) 108 (M1 108) := by
  subst h
  funext q
  by_cases h8 : q = 108
  · subst h8
    exact (mx_rw_at _ _ _).symm
  · rw [mx_rw_ne h8, mx_rw_at]
def f_b1 (s : Rw) (d : Nat) : Int32 := if 0 < d ∧ s d < s (d - 1) then s (d - 1) else s d
def f_b2 (s : Rw) (mm d : Nat) : Int32 := if d + 1 < mm ∧ f_b1 s d < s (d + 1) then s (d + 1) else f_b1 s d
def f_tr (a s : Rw) (mm d : Nat) : Int32 := if f_b2 s mm d < 0 then -1 else f_b2 s mm d + f_eq (a (7 + 8 * d + 4)) (a 5)
theorem c_X8_trades {l : Launch} {G : Gt} {M : Mm} {mm : Nat} (hmm : mm ≤ 6) (h1 : M 104 1 = nI mm) : Runs l G true dm_X8_trades 2 127 [.ref 103] M 127 (Pv (fun M1 => M1 108 = cut mm (f_tr (M 104) (M 108) mm) (M 108) ∧ ∀ q, q ≠ 108 → q ≠ 109 → M1 q = M q)) := by
  refine mx_run ow_X8_trades rfl rfl (fun dp X hdp R => ?_)
  have hD : ∀ (fu i : Nat) (M0 : Mm) {c2 : Option Value} {r : Rw}, mm - i = fu → i ≤ mm → M0 = mx_rw M0 108 (cut i (f_tr (M 104) (M 108) mm) (M 108)) → M0 109 = cut mm (f_tr (M 104) (M 108) mm) r → (M0 = mx_rw (mx_rw M 109 (M0 109)) 108 (M0 108)) → X 127 M0 122 [some (.ref 103), some (.int (nI i)), c2] [] := by
    intro fu
    induction fu with
    | zero =>
      intro i M0 c2 r hfu hi hI1 hI2 hI3
      have hiN : i = mm := by omega
      have e1 : M0 104 (Int32.toNatClampNeg 1) = nI mm := by rw [hI3, mx_rw_ne (by decide), mx_rw_ne (by decide)]; exact h1
      refine R.b bk_X8_trades_122 (And.intro (by first | rfl | assumption) (And.intro (by first | rfl | assumption) (And.intro (by exact vp_lit rfl) ?_)))
      refine R.c br_X8_trades_129 (And.intro (fun h129 => ?_) (fun h129 => absurd (by rw [e1, hiN]; exact nI_le (Nat.le_refl mm) (by omega)) h129))
      refine R.rv rt_X8_trades_150 ⟨rfl, ?_⟩
      refine ⟨?_, fun q h8 h9 => ?_⟩
      · rw [hI1, mx_rw_at, hiN]
      · rw [hI3, mx_rw_ne h8, mx_rw_ne h9]
    | succ fu ih =>
      intro i M0 c2 r hfu hi hI1 hI2 hI3
      have hlt : i < mm := by omega
      have hcl : (nI i).toNatClampNeg = i := nI_clamp (by omega)
      have e1 : M0 104 (Int32.toNatClampNeg 1) = nI mm := by rw [hI3, mx_rw_ne (by decide), mx_rw_ne (by decide)]; exact h1
      refine R.b bk_X8_trades_122 (And.intro (by first | rfl | assumption) (And.intro (by first | rfl | assumption) (And.intro (vp_lit rfl) ?_)))
      refine R.c br_X8_trades_129 (And.intro (fun h129 => absurd h129 (by rw [e1]; exact nI_ge hlt (by omega))) (fun h129 => ?_))
      refine R.b bk_X8_trades_132 (And.intro (by first | rfl | assumption) (And.intro (by first | rfl | assumption) (And.intro (by first | rfl | assumption) (And.intro (by exact vp_in_nI (show i < 6 by omega) (by decide)) (And.intro (by first | rfl | assumption) (And.intro (by exact vp_in_nI (show i < 6 by omega) (by decide)) ?_))))))
      refine R.j gt_X8_trades_147 ?_
      rw [nI_inc, hcl, mx_wr_up]
      have e9 : M0 109 i = f_tr (M 104) (M 108) mm i := by rw [hI2, cut, if_pos hlt]
      have e8 : M0 108 = cut i (f_tr (M 104) (M 108) mm) (M 108) := by rw [hI1, mx_rw_at]
      rw [e9, e8, cut_up]
      refine ih (i + 1) _ (r := r) (by omega) (by omega) (by rw [mx_rw_rw]) (by rw [mx_rw_ne (by decide)]; exact hI2) ?_
      rw [mx_rw_at, mx_rw_ne (show 109 ≠ 108 by decide)]
      conv => lhs; rw [hI3]
      rw [mx_rw_rw]
  have hA : ∀ (fu i : Nat) (M1 : Mm) (c2 : Option Value), mm - i = fu → i ≤ mm → (M1 = mx_rw M 109 (cut i (f_tr (M 104) (M 108) mm) (M 109))) → X 127 M1 2 [some (.ref 103), some (.int (nI i)), c2] [] := by
    intro fu
    induction fu with
    | zero =>
      intro i M1 c2 hfu hi hI1
      have hiN : i = mm := by omega
      have e1 : M1 104 (Int32.toNatClampNeg 1) = nI mm := by rw [hI1, mx_rw_ne (by decide)]; exact h1
      refine R.b bk_X8_trades_2 (And.intro (by first | rfl | assumption) (And.intro (by first | rfl | assumption) (And.intro (by exact vp_lit rfl) ?_)))
      refine R.c br_X8_trades_9 (And.intro (fun h9 => ?_) (fun h9 => absurd (by rw [e1, hiN]; exact nI_le (Nat.le_refl mm) (by omega)) h9))
      refine R.b bk_X8_trades_120 ?_
      have e8 : M1 108 = M 108 := by rw [hI1, mx_rw_ne (by decide)]
      exact hD mm 0 M1 (r := M 109) rfl (Nat.zero_le _) (by rw [cut_0, ← e8, mx_rw_id]) (by rw [hI1, mx_rw_at, hiN]) (mx_rw_two hI1)
    | succ fu ih =>
      intro i M1 c2 hfu hi hI1
      have hlt : i < mm := by omega
      have e1 : M1 104 (Int32.toNatClampNeg 1) = nI mm := by rw [hI1, mx_rw_ne (by decide)]; exact h1
      have hM8 : M1 108 = M 108 := by rw [hI1, mx_rw_ne (by decide)]
      have hcl : (nI i).toNatClampNeg = i := nI_clamp (by omega)
      have hC : ∀ (b c2 : Int32), b = f_b2 (M 108) mm i → X 127 M1 84 [some (.ref 103), some (.int (nI i)), some (.int c2)] [.int b] := by
        intro b c2 hb
        refine R.b bk_X8_trades_84 (And.intro (by first | rfl | assumption) ?_)
        refine R.c br_X8_trades_91 (And.intro (fun h91 => ?_) (fun h91 => ?_))
        · refine R.b bk_X8_trades_98 ?_
          refine R.V1i kc_X8_trades_101 (by first | rfl | assumption) (c_X8_isFair (d := i) (by omega)) (by omega) rfl ⟨Nat.le_refl _, Nat.le_refl _⟩ (fun x101 M101 q101 => ?_)
          obtain ⟨rfl, q101⟩ := q101
          replace q101 := q101.symm
          subst q101
          refine R.c br_X8_trades_104 (And.intro (fun h104 => ?_) (fun h104 => ?_))
          · refine R.b bk_X8_trades_111 ?_
            refine R.b bk_X8_trades_112 ?_
            refine R.b bk_X8_trades_113 (And.intro (by first | rfl | assumption) (And.intro (by exact vp_in_nI (show i < 6 by omega) (by decide)) ?_))
            refine R.j gt_X8_trades_117 ?_
            rw [nI_inc]
            refine ih (i + 1) _ _ (by omega) (by omega) ?_
            rw [hcl, mx_wr_up, hI1, mx_rw_rw, mx_rw_at, ← cut_up]
            congr 2
            subst hb
            rw [f_tr]
            first
            | (rw [if_pos (Int32.not_le.mp h91)]; done)
            | (rw [if_neg (Int32.not_lt.mpr h91)]; rw [hI1, mx_rw_ne (by decide)] at h104; rw [h104]; done)
            | (rw [if_neg (Int32.not_lt.mpr h91)]; rw [hI1, mx_rw_ne (by decide)] at h104; rw [f_eq_one h104])
          · refine R.b bk_X8_trades_107 ?_
            refine R.j gt_X8_trades_108 ?_
            refine R.b bk_X8_trades_112 ?_
            refine R.b bk_X8_trades_113 (And.intro (by first | rfl | assumption) (And.intro (by exact vp_in_nI (show i < 6 by omega) (by decide)) ?_))
            refine R.j gt_X8_trades_117 ?_
            rw [nI_inc]
            refine ih (i + 1) _ _ (by omega) (by omega) ?_
            rw [hcl, mx_wr_up, hI1, mx_rw_rw, mx_rw_at, ← cut_up]
            congr 2
            subst hb
            rw [f_tr]
            first
            | (rw [if_pos (Int32.not_le.mp h91)]; done)
            | (rw [if_neg (Int32.not_lt.mpr h91)]; rw [hI1, mx_rw_ne (by decide)] at h104; rw [h104]; done)
            | (rw [if_neg (Int32.not_lt.mpr h91)]; rw [hI1, mx_rw_ne (by decide)] at h104; rw [f_eq_one h104])
        · refine R.b bk_X8_trades_94 ?_
          refine R.j gt_X8_trades_95 ?_
          refine R.b bk_X8_trades_113 (And.intro (by first | rfl | assumption) (And.intro (by exact vp_in_nI (show i < 6 by omega) (by decide)) ?_))
          refine R.j gt_X8_trades_117 ?_
          rw [nI_inc]
          refine ih (i + 1) _ _ (by omega) (by omega) ?_
          rw [hcl, mx_wr_up, hI1, mx_rw_rw, mx_rw_at, ← cut_up]
          congr 2
          subst hb
          rw [f_tr]
          first
          | (rw [if_pos (Int32.not_le.mp h91)]; done)
          | (rw [if_neg (Int32.not_lt.mpr h91)]; rw [hI1, mx_rw_ne (by decide)] at h104; rw [h104]; done)
          | (rw [if_neg (Int32.not_lt.mpr h91)]; rw [hI1, mx_rw_ne (by decide)] at h104; rw [f_eq_one h104])
      have hB : ∀ (b c2 : Int32), b = f_b1 (M 108) i → X 127 M1 47 [some (.ref 103), some (.int (nI i)), some (.int c2)] [.int b] := by
        intro b c2 hb
        refine R.b bk_X8_trades_47 (And.intro (by first | rfl | assumption) (And.intro (by first | rfl | assumption) (And.intro (vp_lit rfl) ?_)))
        refine R.c br_X8_trades_57 (And.intro (fun h57 => ?_) (fun h57 => ?_))
        · refine R.b bk_X8_trades_83 ?_
          have hs1 : (nI i + 1).toNatClampNeg = i + 1 := cl_n (nI_1 i) (by omega)
          refine hC _ _ ?_
          subst hb
          rw [f_b2]
          first
          | (rw [if_neg (fun q => absurd (show M1 104 (Int32.toNatClampNeg 1) ≤ nI i + 1 from h57) (by rw [e1, nI_1]; exact nI_ge q.1 (by omega)))]; done)
          | (rw [hs1, hM8] at h69; rw [if_neg (fun q => absurd q.2 (Int32.not_lt.mpr h69))]; done)
          | (rw [hs1, hM8] at h69; rw [if_pos ⟨by have := nI_lt8 (by omega) (by omega) (show ¬ nI mm ≤ nI (i + 1) by rw [← nI_1, ← e1]; exact h57); omega, Int32.not_le.mp h69⟩, hs1, hM8]; done)
        · refine R.b bk_X8_trades_60 (And.intro (by first | rfl | assumption) (And.intro (by first | rfl | assumption) (And.intro (by exact vp_n (nI_1 i) (show i + 1 < 6 by have := nI_lt8 (by omega) (by omega) (show ¬ nI mm ≤ nI (i + 1) by rw [← nI_1, ← e1]; exact h57); omega) (by decide)) ?_)))
          refine R.c br_X8_trades_69 (And.intro (fun h69 => ?_) (fun h69 => ?_))
          · refine R.b bk_X8_trades_83 ?_
            have hs1 : (nI i + 1).toNatClampNeg = i + 1 := cl_n (nI_1 i) (by omega)
            refine hC _ _ ?_
            subst hb
            rw [f_b2]
            first
            | (rw [if_neg (fun q => absurd (show M1 104 (Int32.toNatClampNeg 1) ≤ nI i + 1 from h57) (by rw [e1, nI_1]; exact nI_ge q.1 (by omega)))]; done)
            | (rw [hs1, hM8] at h69; rw [if_neg (fun q => absurd q.2 (Int32.not_lt.mpr h69))]; done)
            | (rw [hs1, hM8] at h69; rw [if_pos ⟨by have := nI_lt8 (by omega) (by omega) (show ¬ nI mm ≤ nI (i + 1) by rw [← nI_1, ← e1]; exact h57); omega, Int32.not_le.mp h69⟩, hs1, hM8]; done)
          · refine R.b bk_X8_trades_72 (And.intro (by first | rfl | assumption) (And.intro (by first | rfl | assumption) (And.intro (by exact vp_n (nI_1 i) (show i + 1 < 6 by have := nI_lt8 (by omega) (by omega) (show ¬ nI mm ≤ nI (i + 1) by rw [← nI_1, ← e1]; exact h57); omega) (by decide)) ?_)))
            refine R.j gt_X8_trades_80 ?_
            have hs1 : (nI i + 1).toNatClampNeg = i + 1 := cl_n (nI_1 i) (by omega)
            refine hC _ _ ?_
            subst hb
            rw [f_b2]
            first
            | (rw [if_neg (fun q => absurd (show M1 104 (Int32.toNatClampNeg 1) ≤ nI i + 1 from h57) (by rw [e1, nI_1]; exact nI_ge q.1 (by omega)))]; done)
            | (rw [hs1, hM8] at h69; rw [if_neg (fun q => absurd q.2 (Int32.not_lt.mpr h69))]; done)
            | (rw [hs1, hM8] at h69; rw [if_pos ⟨by have := nI_lt8 (by omega) (by omega) (show ¬ nI mm ≤ nI (i + 1) by rw [← nI_1, ← e1]; exact h57); omega, Int32.not_le.mp h69⟩, hs1, hM8]; done)
      refine R.b bk_X8_trades_2 (And.intro (by first | rfl | assumption) (And.intro (by first | rfl | assumption) (And.intro (vp_lit rfl) ?_)))
      refine R.c br_X8_trades_9 (And.intro (fun h9 => absurd h9 (by rw [e1]; exact nI_ge hlt (by omega))) (fun h9 => ?_))
      refine R.b bk_X8_trades_12 (And.intro (by first | rfl | assumption) (And.intro (by first | rfl | assumption) (And.intro (vp_in_nI (show i < 6 by omega) (by decide)) ?_)))
      refine R.c br_X8_trades_20 (And.intro (fun h20 => ?_) (fun h20 => ?_))
      · refine R.b bk_X8_trades_46 ?_
        refine hB _ _ ?_
        rw [f_b1]
        first
        | (rw [if_neg (fun q => absurd h20 (nI_nle q.1 (by omega))), hcl, hM8]; done)
        | (rw [hs1, hcl, hM8] at h32; rw [if_neg (fun q => absurd q.2 (Int32.not_lt.mpr h32)), hcl, hM8]; done)
        | (rw [hs1, hcl, hM8] at h32; rw [if_pos ⟨h0, Int32.not_le.mp h32⟩, hs1, hM8]; done)
      · have h0 : 0 < i := Nat.pos_of_ne_zero (fun q => h20 (by rw [q]; decide))
        have hs1 : (nI i - 1).toNatClampNeg = i - 1 := cl_n (nI_dec i h0) (by omega)
        refine R.b bk_X8_trades_23 (And.intro (by first | rfl | assumption) (And.intro (by first | rfl | assumption) (And.intro (by exact vp_n (nI_dec i h0) (show i - 1 < 6 by omega) (by decide)) ?_)))
        refine R.c br_X8_trades_32 (And.intro (fun h32 => ?_) (fun h32 => ?_))
        · refine R.b bk_X8_trades_46 ?_
          refine hB _ _ ?_
          rw [f_b1]
          first
          | (rw [if_neg (fun q => absurd h20 (nI_nle q.1 (by omega))), hcl, hM8]; done)
          | (rw [hs1, hcl, hM8] at h32; rw [if_neg (fun q => absurd q.2 (Int32.not_lt.mpr h32)), hcl, hM8]; done)
          | (rw [hs1, hcl, hM8] at h32; rw [if_pos ⟨h0, Int32.not_le.mp h32⟩, hs1, hM8]; done)
        · refine R.b bk_X8_trades_35 (And.intro (by first | rfl | assumption) (And.intro (by first | rfl | assumption) (And.intro (by exact vp_n (nI_dec i h0) (show i - 1 < 6 by omega) (by decide)) ?_)))
          refine R.j gt_X8_trades_43 ?_
          refine hB _ _ ?_
          rw [f_b1]
          first
          | (rw [if_neg (fun q => absurd h20 (nI_nle q.1 (by omega))), hcl, hM8]; done)
          | (rw [hs1, hcl, hM8] at h32; rw [if_neg (fun q => absurd q.2 (Int32.not_lt.mpr h32)), hcl, hM8]; done)
          | (rw [hs1, hcl, hM8] at h32; rw [if_pos ⟨h0, Int32.not_le.mp h32⟩, hs1, hM8]; done)
  refine R.b bk_X8_trades_0 ?_
  exact hA mm 0 M _ rfl (Nat.zero_le _) (by rw [cut_0, mx_rw_id])
def f_tr0 (a : Rw) (d : Nat) : Rw := fun j => if j = d then f_eq (a (7 + 8 * d + 4)) (a 5) else -1
def A_trd (a : Rw) (mm d : Nat) : Nat → Rw
  | 0 => f_tr0 a d
  | n + 1 => cut mm (f_tr (A_go a (n + 1)) (A_trd a mm d n) mm) (A_trd a mm d n)
theorem f_tr_congr {a s s' : Rw} {mm j : Nat} (hm : mm ≤ 6) (h : ∀ j, j < 6 → s j = s' j) (hj : j < mm) : f_tr a s mm j = f_tr a s' mm j := by
  have e1 : f_b1 s j = f_b1 s' j := by
    unfold f_b1
    rw [h j (by omega), h (j - 1) (by omega)]
  have e2 : f_b2 s mm j = f_b2 s' mm j := by
    unfold f_b2
    rw [e1]
    by_cases hq : j + 1 < mm
    · rw [h (j + 1) (by omega)]
    · rw [if_neg (fun q => hq q.1), if_neg (fun q => hq q.1)]
  unfold f_tr
  rw [e2]
def A_mx (s : Rw) : Nat → Int32
  | 0 => 0
  | d + 1 => if A_mx s d < s d then s d else A_mx s d
theorem A_mx_congr {s s' : Rw} : ∀ n, (∀ j, j < n → s j = s' j) → A_mx s n = A_mx s' n
  | 0, _ => rfl
  | n + 1, h => by
    unfold A_mx
    rw [A_mx_congr n (fun j hj => h j (by omega)), h n (by omega)]
def F_trader (a : Rw) (d n : Int32) : Int32 := if isD a d = 0 ∨ f_in n 0 100 = 0 then (-1000000001) else A_mx (A_trd a (cN (a 1)) (cN d) (cN n)) (cN (a 1))
theorem c_X8_trader {l : Launch} {G : Gt} {M : Mm} {d n : Int32} {mm : Nat} (hV : VR (M 104) mm) : Runs l G true dm_X8_trader 6 127 [.ref 103, .int d, .int n] M 127 (Pi (fun x M1 => x = F_trader (M 104) d n ∧ ∀ q, q ≠ 107 → q ≠ 108 → q ≠ 109 → q ≠ 116 → q ≠ 117 → M1 q = M q)) := by
  refine mx_run ow_X8_trader rfl rfl (fun dp X hdp R => ?_)
  refine R.b bk_X8_trader_0 ?_
  refine R.V1i kc_X8_trader_2 (by first | rfl | assumption) (c_X8_isDistrict) (by omega) rfl ⟨Nat.le_refl _, Nat.le_refl _⟩ (fun x2 M2 q2 => ?_)
  obtain ⟨rfl, q2⟩ := q2
  replace q2 := q2.symm
  subst q2
  refine R.c br_X8_trader_5 (And.intro (fun h5 => ?_) (fun h5 => ?_))
  · refine R.b bk_X8_trader_18 ?_
    refine R.ri rt_X8_trader_20 rfl ⟨_, rfl, ?_⟩
    exact ⟨by simp_all [F_trader, isD], fun q _ _ _ _ _ => rfl⟩
  · refine R.b bk_X8_trader_8 ?_
    refine R.S3i kc_X8_trader_12 (c_X8_in) (by omega) rfl ⟨Nat.le_refl _, Nat.le_refl _⟩ (fun x12 M12 q12 => ?_)
    obtain ⟨rfl, q12⟩ := q12
    replace q12 := q12.symm
    subst q12
    refine R.c br_X8_trader_15 (And.intro (fun h15 => ?_) (fun h15 => ?_))
    · have hmm := hV.1
      obtain ⟨dn, hdn, rfl⟩ := f_in_dist (by omega) hV.2.1 h5
      have hcd : cN (nI dn) = dn := cN_nI (by omega)
      obtain ⟨nn, hnn, rfl⟩ := f_in_nat (n := 100) (by decide) h15
      have hcnn : cN (nI nn) = nn := cN_nI (by omega)
      refine R.b bk_X8_trader_21 ?_
      refine R.V0v kc_X8_trader_22 (by first | rfl | assumption) (c_X8_thinks) (by omega) rfl ⟨Nat.le_refl _, Nat.le_refl _⟩ (fun M22 q22 => ?_)
      replace q22 := q22.symm
      subst q22
      refine R.b bk_X8_trader_25 ?_
      have hG : ∀ (fu i : Nat) (M1 : Mm), mm - i = fu → i ≤ mm → (M1 104 = M 104) → (∀ q, q ≠ 107 → q ≠ 108 → q ≠ 109 → q ≠ 116 → q ≠ 117 → M1 q = M q) → (∀ j, j < 6 → M1 108 j = A_trd (M 104) mm dn nn j) → X 127 M1 99 [some (.ref 103), some (.int (nI dn)), some (.int (nI nn)), some (.int (A_mx (A_trd (M 104) mm dn nn) i)), some (.int (nI i))] [] := by
        intro fu
        induction fu with
        | zero =>
          intro i M1 hfu hi hI1 hI2 hI3
          have hiN : i = mm := by omega
          have e1 : M1 104 (Int32.toNatClampNeg 1) = nI mm := by rw [hI1]; exact hV.2.1
          refine R.b bk_X8_trader_99 (And.intro (by first | rfl | assumption) (And.intro (by first | rfl | assumption) (And.intro (by exact vp_lit rfl) ?_)))
          refine R.c br_X8_trader_107 (And.intro (fun h107 => ?_) (fun h107 => absurd (by rw [e1, hiN]; exact nI_le (Nat.le_refl mm) (by omega)) h107))
          refine R.b bk_X8_trader_139 ?_
          refine R.ri rt_X8_trader_140 rfl ⟨_, rfl, ?_⟩
          refine ⟨?_, hI2⟩
          unfold F_trader isD
          rw [if_neg (not_or.mpr ⟨h5, h15⟩), hcd, hcnn, hV.2.1, cN_nI (by omega), hiN]
        | succ fu ih =>
          intro i M1 hfu hi hI1 hI2 hI3
          have hlt : i < mm := by omega
          have e1 : M1 104 (Int32.toNatClampNeg 1) = nI mm := by rw [hI1]; exact hV.2.1
          have hcl : (nI i).toNatClampNeg = i := nI_clamp (by omega)
          refine R.b bk_X8_trader_99 (And.intro (by first | rfl | assumption) (And.intro (by first | rfl | assumption) (And.intro (vp_lit rfl) ?_)))
          refine R.c br_X8_trader_107 (And.intro (fun h107 => absurd h107 (by rw [e1]; exact nI_ge hlt (by omega))) (fun h107 => ?_))
          refine R.b bk_X8_trader_110 (And.intro (by first | rfl | assumption) (And.intro (by first | rfl | assumption) (And.intro (by exact vp_in_nI (show i < 6 by omega) (by decide)) ?_)))
          refine R.c br_X8_trader_118 (And.intro (fun h118 => ?_) (fun h118 => ?_))
          · refine R.b bk_X8_trader_131 ?_
            refine R.b bk_X8_trader_132 ?_
            refine R.j gt_X8_trader_136 ?_
            rw [nI_inc]
            have hx := ih (i + 1) M1 (by omega) (by omega) hI1 hI2 hI3
            rw [A_mx] at hx
            rw [hcl, hI3 i (by omega)] at h118
            first
            | (rw [if_neg (Int32.not_lt.mpr h118)] at hx; exact hx)
            | (rw [if_pos (Int32.not_le.mp h118)] at hx; rw [hcl, hI3 i (by omega)]; exact hx)
          · refine R.b bk_X8_trader_121 (And.intro (by first | rfl | assumption) (And.intro (by first | rfl | assumption) (And.intro (by exact vp_in_nI (show i < 6 by omega) (by decide)) ?_)))
            refine R.j gt_X8_trader_128 ?_
            refine R.b bk_X8_trader_132 ?_
            refine R.j gt_X8_trader_136 ?_
            rw [nI_inc]
            have hx := ih (i + 1) M1 (by omega) (by omega) hI1 hI2 hI3
            rw [A_mx] at hx
            rw [hcl, hI3 i (by omega)] at h118
            first
            | (rw [if_neg (Int32.not_lt.mpr h118)] at hx; exact hx)
            | (rw [if_pos (Int32.not_le.mp h118)] at hx; rw [hcl, hI3 i (by omega)]; exact hx)
      have hE : ∀ (fu i : Nat) (M1 : Mm) (c4 : Option Value), nn - i = fu → i ≤ nn → (M1 104 = A_go (M 104) i) → (∀ j, j < 6 → M1 108 j = A_trd (M 104) mm dn i j) → (∀ q, q ≠ 104 → q ≠ 108 → q ≠ 109 → q ≠ 116 → q ≠ 117 → M1 q = (mx_rw M 107 (cut 55 (M 104) (M 107))) q) → X 127 M1 69 [some (.ref 103), some (.int (nI dn)), some (.int (nI nn)), some (.int (nI i)), c4] [] := by
        intro fu
        induction fu with
        | zero =>
          intro i M1 c4 hfu hi hI1 hI2 hI3
          have hiN : i = nn := by omega
          refine R.b bk_X8_trader_69 ?_
          refine R.c br_X8_trader_71 (And.intro (fun h71 => ?_) (fun h71 => absurd (by rw [hiN]; exact nI_le (Nat.le_refl nn) (by omega)) h71))
          refine R.b bk_X8_trader_90 ?_
          refine R.V0v kc_X8_trader_91 (by first | rfl | assumption) (c_X8_putsBack) (by omega) rfl ⟨Nat.le_refl _, Nat.le_refl _⟩ (fun M91 q91 => ?_)
          have e91 : M91 104 = M 104 := by rw [q91, mx_rw_at, hI3 107 (by decide) (by decide) (by decide) (by decide) (by decide), mx_rw_at, hI1]; exact cut_back (fun j hj => A_go_keep hV hj i)
          have k91 : ∀ q, q ≠ 107 → q ≠ 108 → q ≠ 109 → q ≠ 116 → q ≠ 117 → M91 q = M q := by
            intro q g1 g2 g3 g4 g5
            by_cases hq : q = 104
            · subst hq; exact e91
            · rw [q91, mx_rw_ne hq, hI3 q hq g2 g3 g4 g5, mx_rw_ne g1]
          have s91 : ∀ j, j < 6 → M91 108 j = A_trd (M 104) mm dn nn j := fun j hj => by rw [q91, mx_rw_ne (by decide), hI2 j hj, hiN]
          refine R.b bk_X8_trader_94 ?_
          exact hG mm 0 M91 rfl (Nat.zero_le _) e91 k91 s91
        | succ fu ih =>
          intro i M1 c4 hfu hi hI1 hI2 hI3
          have hlt : i < nn := by omega
          refine R.b bk_X8_trader_69 ?_
          refine R.c br_X8_trader_71 (And.intro (fun h71 => absurd h71 (nI_ge hlt (by omega))) (fun h71 => ?_))
          refine R.b bk_X8_trader_74 ?_
          refine R.V0i kc_X8_trader_75 (by first | rfl | assumption) (c_X8_day (mm := mm) (by rw [hI1]; exact VR_go hV i)) (by omega) rfl ⟨Nat.le_refl _, Nat.le_refl _⟩ (fun x75 M75 q75 => ?_)
          obtain ⟨-, e75, f75⟩ := q75
          have g75 : M75 104 = A_go (M 104) (i + 1) := by rw [e75, hI1]; rfl
          have w75 : M75 108 = M1 108 := f75 108 (by decide) (by decide) (by decide)
          refine R.b bk_X8_trader_78 ?_
          refine R.V0v kc_X8_trader_81 (by first | rfl | assumption) (c_X8_trades hmm (by rw [g75]; exact (VR_go hV (i + 1)).2.1)) (by omega) rfl ⟨Nat.le_refl _, Nat.le_refl _⟩ (fun M81 q81 => ?_)
          obtain ⟨e81, f81⟩ := q81
          refine R.b bk_X8_trader_84 ?_
          refine R.j gt_X8_trader_87 ?_
          rw [nI_inc]
          refine ih (i + 1) M81 _ (by omega) (by omega) ?_ (fun j hj => ?_) ?_
          · rw [f81 104 (by decide) (by decide)]; exact g75
          · rw [e81, g75, w75, A_trd, cut, cut, hI2 j hj]
            by_cases hjm : j < mm
            · rw [if_pos hjm, if_pos hjm]; exact f_tr_congr hmm hI2 hjm
            · rw [if_neg hjm, if_neg hjm]
          · intro q g1 g2 g3 g4 g5
            rw [f81 q g2 g3, f75 q g1 g4 g5]
            exact hI3 q g1 g2 g3 g4 g5
      have hA : ∀ (fu i : Nat) (M1 : Mm), 6 - i = fu → i ≤ 6 → (M1 = mx_rw (mx_rw M 107 (cut 55 (M 104) (M 107))) 108 (cut i (f_tr0 (M 104) dn) (M 108))) → X 127 M1 27 [some (.ref 103), some (.int (nI dn)), some (.int (nI nn)), some (.int (nI i)), none] [] := by
        intro fu
        induction fu with
        | zero =>
          intro i M1 hfu hi hI1
          have hiN : i = 6 := by omega
          refine R.b bk_X8_trader_27 ?_
          refine R.c br_X8_trader_30 (And.intro (fun h30 => ?_) (fun h30 => absurd (by rw [hiN]; decide) h30))
          refine R.b bk_X8_trader_67 ?_
          refine hE nn 0 _ _ rfl (Nat.zero_le _) ?_ (fun j hj => ?_) ?_
          · rw [hI1, mx_rw_ne (by decide), mx_rw_ne (by decide)]; rfl
          · rw [hI1, mx_rw_at, hiN, cut, if_pos hj]; rfl
          · intro q g1 g2 g3 g4 g5
            rw [hI1, mx_rw_ne g2]
        | succ fu ih =>
          intro i M1 hfu hi hI1
          have hlt : i < 6 := by omega
          refine R.b bk_X8_trader_27 ?_
          refine R.c br_X8_trader_30 (And.intro (fun h30 => absurd h30 (nI_ge (b := 6) hlt (by decide))) (fun h30 => ?_))
          refine R.b bk_X8_trader_33 (And.intro (by first | rfl | assumption) ?_)
          refine R.c br_X8_trader_40 (And.intro (fun h40 => ?_) (fun h40 => ?_))
          · refine R.b bk_X8_trader_59 ?_
            refine R.b bk_X8_trader_60 (And.intro (by first | rfl | assumption) (And.intro (by exact vp_in_nI (show i < 6 by omega) (by decide)) ?_))
            refine R.j gt_X8_trader_64 ?_
            rw [nI_inc]
            refine ih (i + 1) _ (by omega) (by omega) ?_
            rw [nI_clamp (show i < 2 ^ 31 by omega), mx_wr_up, hI1, mx_rw_rw, mx_rw_at, ← cut_up i (f_tr0 (M 104) dn)]
            congr 2
            unfold f_tr0
            first
            | (rw [if_neg (fun q => h40 (by rw [q]))]; done)
            | (have hid : i = dn := (nI_eq (by omega) (by omega)).mp h40; rw [if_pos hid]; subst hid; rw [hI1, mx_rw_ne (by decide), mx_rw_ne (by decide)] at h48; rw [h48]; done)
            | (have hid : i = dn := (nI_eq (by omega) (by omega)).mp h40; rw [if_pos hid]; subst hid; rw [hI1, mx_rw_ne (by decide), mx_rw_ne (by decide)] at h48; rw [f_eq_one h48]; done)
          · refine R.b bk_X8_trader_43 ?_
            refine R.V1i kc_X8_trader_45 (by first | rfl | assumption) (c_X8_isFair (d := i) (by omega)) (by omega) rfl ⟨Nat.le_refl _, Nat.le_refl _⟩ (fun x45 M45 q45 => ?_)
            obtain ⟨rfl, q45⟩ := q45
            replace q45 := q45.symm
            subst q45
            refine R.c br_X8_trader_48 (And.intro (fun h48 => ?_) (fun h48 => ?_))
            · refine R.b bk_X8_trader_55 ?_
              refine R.j gt_X8_trader_56 ?_
              refine R.b bk_X8_trader_60 (And.intro (by first | rfl | assumption) (And.intro (by exact vp_in_nI (show i < 6 by omega) (by decide)) ?_))
              refine R.j gt_X8_trader_64 ?_
              rw [nI_inc]
              refine ih (i + 1) _ (by omega) (by omega) ?_
              rw [nI_clamp (show i < 2 ^ 31 by omega), mx_wr_up, hI1, mx_rw_rw, mx_rw_at, ← cut_up i (f_tr0 (M 104) dn)]
              congr 2
              unfold f_tr0
              first
              | (rw [if_neg (fun q => h40 (by rw [q]))]; done)
              | (have hid : i = dn := (nI_eq (by omega) (by omega)).mp h40; rw [if_pos hid]; subst hid; rw [hI1, mx_rw_ne (by decide), mx_rw_ne (by decide)] at h48; rw [h48]; done)
              | (have hid : i = dn := (nI_eq (by omega) (by omega)).mp h40; rw [if_pos hid]; subst hid; rw [hI1, mx_rw_ne (by decide), mx_rw_ne (by decide)] at h48; rw [f_eq_one h48]; done)
            · refine R.b bk_X8_trader_51 ?_
              refine R.j gt_X8_trader_52 ?_
              refine R.b bk_X8_trader_60 (And.intro (by first | rfl | assumption) (And.intro (by exact vp_in_nI (show i < 6 by omega) (by decide)) ?_))
              refine R.j gt_X8_trader_64 ?_
              rw [nI_inc]
              refine ih (i + 1) _ (by omega) (by omega) ?_
              rw [nI_clamp (show i < 2 ^ 31 by omega), mx_wr_up, hI1, mx_rw_rw, mx_rw_at, ← cut_up i (f_tr0 (M 104) dn)]
              congr 2
              unfold f_tr0
              first
              | (rw [if_neg (fun q => h40 (by rw [q]))]; done)
              | (have hid : i = dn := (nI_eq (by omega) (by omega)).mp h40; rw [if_pos hid]; subst hid; rw [hI1, mx_rw_ne (by decide), mx_rw_ne (by decide)] at h48; rw [h48]; done)
              | (have hid : i = dn := (nI_eq (by omega) (by omega)).mp h40; rw [if_pos hid]; subst hid; rw [hI1, mx_rw_ne (by decide), mx_rw_ne (by decide)] at h48; rw [f_eq_one h48]; done)
      exact hA 6 0 _ rfl (by decide) (by rw [cut_0]; exact (mx_rw_id (mx_rw M 107 (cut 55 (M 104) (M 107))) 108).symm)
    · refine R.b bk_X8_trader_18 ?_
      refine R.ri rt_X8_trader_20 rfl ⟨_, rfl, ?_⟩
      exact ⟨by simp_all [F_trader, isD], fun q _ _ _ _ _ => rfl⟩
end
section
/-! the check -/
abbrev C1 (b wt : Rw) (wn mm i : Nat) : Prop := 2 * i < wn ∧ wt (2 * i) = A_fairs (A_go b (i + 1)) mm
abbrev C2 (b wt : Rw) (wn mm i : Nat) : Prop := 2 * i + 1 < wn ∧ wt (2 * i + 1) = A_sum (A_go b (i + 1)) 7 mm
def A_ck (b wt : Rw) (wn mm : Nat) : Nat → Nat
  | 0 => 0
  | i + 1 => if A_ck b wt wn mm i = 2 * i then (if C1 b wt wn mm i then (if C2 b wt wn mm i then 2 * i + 2 else 2 * i + 1) else 2 * i) else A_ck b wt wn mm i
theorem A_ck_le (b wt : Rw) (wn mm : Nat) : ∀ i, A_ck b wt wn mm i ≤ 2 * i
  | 0 => Nat.le_refl 0
  | i + 1 => by
    have h := A_ck_le b wt wn mm i
    unfold A_ck
    split
    · split
      · split <;> omega
      · omega
    · omega
theorem A_ck_stop {b wt : Rw} {wn mm i : Nat} (h : A_ck b wt wn mm i ≠ 2 * i) : ∀ j, A_ck b wt wn mm (i + j) = A_ck b wt wn mm i
  | 0 => rfl
  | j + 1 => by
    have h1 := A_ck_stop h j
    have h2 := A_ck_le b wt wn mm i
    rw [← Nat.add_assoc, A_ck, if_neg (by omega), h1]
def F_check (b : Rw) (has : Int32) (wt : Rw) (wn : Nat) (n : Int32) : Int32 := if f_in n 1 30 = 0 then (-1000000001) else if has = 0 then (-1000000002) else if A_ck b wt wn (cN (b 1)) (f_days b n) = wn ∧ A_ck b wt wn (cN (b 1)) (f_days b n) = 2 * f_days b n then 0 else nI (1 + A_ck b wt wn (cN (b 1)) (f_days b n))
theorem cut_all {n : Nat} {f g : Rw} (h : ∀ j, n ≤ j → f j = g j) : cut n f g = f := by
  funext j
  simp only [cut]
  split
  · rfl
  · exact (h j (by omega)).symm
theorem nI_2 (i : Nat) : (2 : Int32) * nI i = nI (2 * i) := pk_mul 2 i
theorem c_X8_check {l : Launch} {G : Gt} {M : Mm} {n : Int32} {mm wn : Nat} (hwn : wn ≤ 60) (hw : M 103 34 = nI wn) (hV0 : M 103 3 ≠ 0 → VR (M 105) mm) (z104 : ∀ j, 1427 ≤ j → M 104 j = 0) (z105 : ∀ j, 1427 ≤ j → M 105 j = 0) (hz6 : ∀ j, 1427 ≤ j → M 106 j = 0) : Runs l G true dm_X8_check 6 127 [.ref 103, .int n] M 127 (Pi (fun x M1 => x = F_check (M 105) (M 103 3) (M 126) wn n ∧ ∀ q, q ≠ 106 → q ≠ 116 → q ≠ 117 → M1 q = (mx_wr M 103 34 0) q)) := by
  refine mx_run ow_X8_check rfl rfl (fun dp X hdp R => ?_)
  refine R.b bk_X8_check_0 (And.intro (by first | rfl | assumption) (And.intro (by first | rfl | assumption) (And.intro rfl (And.intro rfl ?_))))
  refine R.S3i kc_X8_check_14 (c_X8_in) (by omega) rfl ⟨Nat.le_refl _, Nat.le_refl _⟩ (fun x14 M14 q14 => ?_)
  obtain ⟨rfl, q14⟩ := q14
  replace q14 := q14.symm
  subst q14
  refine R.c br_X8_check_17 (And.intro (fun h17 => ?_) (fun h17 => ?_))
  · refine R.b bk_X8_check_23 (And.intro (by first | rfl | assumption) ?_)
    refine R.c br_X8_check_27 (And.intro (fun h27 => ?_) (fun h27 => ?_))
    · obtain ⟨nn, hnn, rfl⟩ := f_in_1 (n := 30) (by decide) h17
      have hV := hV0 h27
      have hmm := hV.1
      obtain ⟨K, hK, eK⟩ := f_held_nat (v := 99999 - M 105 2) (b := nI nn) (nI_toInt (by omega))
      refine R.b bk_X8_check_33 (And.intro (by first | rfl | assumption) (And.intro (by first | rfl | assumption) ?_))
      refine R.S2v kc_X8_check_41 (c_X8_copyAll (k1 := 104) (k2 := 106) rfl rfl (by decide)) (by omega) rfl ⟨Nat.le_refl _, Nat.le_refl _⟩ (fun M41 q41 => ?_)
      replace q41 := q41.symm
      subst q41
      refine R.b bk_X8_check_44 (And.intro (by first | rfl | assumption) (And.intro (by first | rfl | assumption) ?_))
      refine R.S2v kc_X8_check_52 (c_X8_copyAll (k1 := 105) (k2 := 104) rfl rfl (by decide)) (by omega) rfl ⟨Nat.le_refl _, Nat.le_refl _⟩ (fun M52 q52 => ?_)
      have e52 : M52 = (mx_rw (mx_rw (mx_wr M 103 34 0) 106 (cut 1427 (M 104) (M 106))) 104 (M 105)) := by
        rw [q52]
        exact congrArg (fun t => mx_rw (mx_rw (mx_wr M 103 34 0) 106 (cut 1427 (M 104) (M 106))) 104 t) (cut_all (f := M 105) (g := M 104) (fun j hj => (z105 j hj).trans (z104 j hj).symm))
      clear q52
      subst e52
      refine R.b bk_X8_check_55 (And.intro (by first | rfl | assumption) (And.intro (by first | rfl | assumption) (And.intro (by exact vp_lit rfl) ?_)))
      refine R.S3i kc_X8_check_67 (c_X8_within) (by omega) rfl ⟨Nat.le_refl _, Nat.le_refl _⟩ (fun x67 M67 q67 => ?_)
      obtain ⟨e67, q67⟩ := q67
      replace e67 : x67 = f_held (99999 - M 105 2) 0 (nI nn) := e67
      rw [eK] at e67
      subst e67
      replace q67 := q67.symm
      subst q67
      refine R.b bk_X8_check_70 ?_
      have hcK : f_days (M 105) (nI nn) = K := by rw [f_days, eK]; exact cN_nI (by omega)
      have hF : F_check (M 105) (M 103 3) (M 126) wn (nI nn) = if A_ck (M 105) (M 126) wn mm K = wn ∧ A_ck (M 105) (M 126) wn mm K = 2 * K then 0 else nI (1 + A_ck (M 105) (M 126) wn mm K) := by
        rw [F_check, if_neg h17, if_neg (show ¬ M 103 3 = 0 from h27), hcK, hV.2.1, cN_nI (by omega)]
      have hX : ∀ (M1 : Mm) (i : Nat) (c6 : Option Value), M1 104 = A_go (M 105) i → (∀ q, q ≠ 104 → q ≠ 116 → q ≠ 117 → M1 q = (mx_rw (mx_rw (mx_wr M 103 34 0) 106 (cut 1427 (M 104) (M 106))) 104 (M 105)) q) → i ≤ K → A_ck (M 105) (M 126) wn mm K = A_ck (M 105) (M 126) wn mm i → X 127 M1 180 [some (.ref 103), some (.int (nI nn)), some (.int (nI wn)), some (.int (nI (2 * K))), some (.int (nI (A_ck (M 105) (M 126) wn mm i))), some (.int (nI i)), c6] [] := by
        intro M1 i c6 e104 hfr hiK hR
        rw [← hR]
        have hRK := A_ck_le (M 105) (M 126) wn mm K
        have k106 : M1 106 = cut 1427 (M 104) (M 106) := by rw [hfr 106 (by decide) (by decide) (by decide), mx_rw_ne (by decide), mx_rw_at]
        refine R.b bk_X8_check_180 (And.intro (by first | rfl | assumption) (And.intro (by first | rfl | assumption) ?_))
        refine R.S2v kc_X8_check_188 (c_X8_copyAll (k1 := 106) (k2 := 104) rfl rfl (by decide)) (by omega) rfl ⟨Nat.le_refl _, Nat.le_refl _⟩ (fun M188 q188 => ?_)
        replace q188 := q188.symm
        subst q188
        refine R.b bk_X8_check_191 ?_
        refine R.c br_X8_check_194 (And.intro (fun h194 => ?_) (fun h194 => ?_))
        · refine R.b bk_X8_check_207 ?_
          refine R.ri rt_X8_check_211 rfl ⟨_, rfl, ?_⟩
          refine ⟨?_, fun q g1 g2 g3 => ?_⟩
          · rw [hF]
            first | (rw [if_pos ⟨(nI_eq (by omega) (by omega)).mp h194, (nI_eq (by omega) (by omega)).mp h200⟩]; done) | (rw [if_neg (fun q => h194 (by rw [q.1]))]; exact nI_add 1 _) | (rw [if_neg (fun q => h200 (by rw [q.2]))]; exact nI_add 1 _)
          · by_cases hq : q = 104
            · subst hq
              rw [mx_rw_at, k106, e104]
              refine (cut_all (fun j hj => ?_)).trans ?_
              · rw [cut, if_neg (by omega), A_go_keep hV (by omega), z105 j hj]; exact hz6 j hj
              · rw [cut_all (fun j hj => (z104 j hj).trans (hz6 j hj).symm)]; rfl
            · rw [mx_rw_ne hq, hfr q hq g2 g3, mx_rw_ne hq, mx_rw_ne g1]
        · refine R.b bk_X8_check_197 ?_
          refine R.c br_X8_check_200 (And.intro (fun h200 => ?_) (fun h200 => ?_))
          · refine R.b bk_X8_check_207 ?_
            refine R.ri rt_X8_check_211 rfl ⟨_, rfl, ?_⟩
            refine ⟨?_, fun q g1 g2 g3 => ?_⟩
            · rw [hF]
              first | (rw [if_pos ⟨(nI_eq (by omega) (by omega)).mp h194, (nI_eq (by omega) (by omega)).mp h200⟩]; done) | (rw [if_neg (fun q => h194 (by rw [q.1]))]; exact nI_add 1 _) | (rw [if_neg (fun q => h200 (by rw [q.2]))]; exact nI_add 1 _)
            · by_cases hq : q = 104
              · subst hq
                rw [mx_rw_at, k106, e104]
                refine (cut_all (fun j hj => ?_)).trans ?_
                · rw [cut, if_neg (by omega), A_go_keep hV (by omega), z105 j hj]; exact hz6 j hj
                · rw [cut_all (fun j hj => (z104 j hj).trans (hz6 j hj).symm)]; rfl
              · rw [mx_rw_ne hq, hfr q hq g2 g3, mx_rw_ne hq, mx_rw_ne g1]
          · refine R.b bk_X8_check_203 ?_
            refine R.j gt_X8_check_204 ?_
            refine R.ri rt_X8_check_211 rfl ⟨_, rfl, ?_⟩
            refine ⟨?_, fun q g1 g2 g3 => ?_⟩
            · rw [hF]
              first | (rw [if_pos ⟨(nI_eq (by omega) (by omega)).mp h194, (nI_eq (by omega) (by omega)).mp h200⟩]; done) | (rw [if_neg (fun q => h194 (by rw [q.1]))]; exact nI_add 1 _) | (rw [if_neg (fun q => h200 (by rw [q.2]))]; exact nI_add 1 _)
            · by_cases hq : q = 104
              · subst hq
                rw [mx_rw_at, k106, e104]
                refine (cut_all (fun j hj => ?_)).trans ?_
                · rw [cut, if_neg (by omega), A_go_keep hV (by omega), z105 j hj]; exact hz6 j hj
                · rw [cut_all (fun j hj => (z104 j hj).trans (hz6 j hj).symm)]; rfl
              · rw [mx_rw_ne hq, hfr q hq g2 g3, mx_rw_ne hq, mx_rw_ne g1]
      have hA : ∀ (fu i : Nat) (M1 : Mm) (c6 : Option Value), K - i = fu → i ≤ K → (M1 104 = A_go (M 105) i) → (∀ q, q ≠ 104 → q ≠ 116 → q ≠ 117 → M1 q = (mx_rw (mx_rw (mx_wr M 103 34 0) 106 (cut 1427 (M 104) (M 106))) 104 (M 105)) q) → True → X 127 M1 78 [some (.ref 103), some (.int (nI nn)), some (.int (nI wn)), some (.int (nI (2 * K))), some (.int (nI (A_ck (M 105) (M 126) wn mm i))), some (.int (nI i)), c6] [] := by
        intro fu
        induction fu with
        | zero =>
          intro i M1 c6 hfu hi hI1 hI2 _
          have hiN : i = K := by omega
          refine R.b bk_X8_check_78 ?_
          refine R.c br_X8_check_83 (And.intro (fun h83 => ?_) (fun h83 => absurd (by rw [nI_2, hiN]; exact nI_le (Nat.le_refl _) (by omega)) h83))
          exact hX M1 i c6 hI1 hI2 (by omega) (by rw [hiN])
        | succ fu ih =>
          intro i M1 c6 hfu hi hI1 hI2 _
          have hRi := A_ck_le (M 105) (M 126) wn mm i
          refine R.b bk_X8_check_78 ?_
          refine R.c br_X8_check_83 (And.intro (fun h83 => absurd h83 (by rw [nI_2]; exact nI_ge (by omega) (by omega))) (fun h83 => ?_))
          refine R.b bk_X8_check_86 ?_
          refine R.c br_X8_check_92 (And.intro (fun h92 => ?_) (fun h92 => ?_))
          · exact hX M1 i c6 hI1 hI2 (by omega) (by rw [nI_2, nI_eq (by omega) (by omega)] at h92; rw [show K = i + (K - i) by omega]; exact A_ck_stop h92 _)
          · rw [nI_2, nI_eq (by omega) (by omega)] at h92
            have hI3 := h92
            rw [h92]
            refine R.b bk_X8_check_95 ?_
            refine R.V0i kc_X8_check_96 (by first | rfl | assumption) (c_X8_day (mm := mm) (by rw [hI1]; exact VR_go hV i)) (by omega) rfl ⟨Nat.le_refl _, Nat.le_refl _⟩ (fun x96 M96 q96 => ?_)
            obtain ⟨-, e96, f96⟩ := q96
            rw [hI1] at e96
            replace e96 : M96 104 = A_go (M 105) (i + 1) := e96
            have k96 : ∀ q, q ≠ 104 → q ≠ 116 → q ≠ 117 → M96 q = (mx_rw (mx_rw (mx_wr M 103 34 0) 106 (cut 1427 (M 104) (M 106))) 104 (M 105)) q := fun q g1 g2 g3 => by rw [f96 q g1 g2 g3]; exact hI2 q g1 g2 g3
            have e1 : M96 104 1 = nI mm := by rw [e96]; exact (VR_go hV (i + 1)).2.1
            have w96 : M96 126 = M 126 := by rw [k96 126 (by decide) (by decide) (by decide), mx_rw_ne (by decide), mx_rw_ne (by decide)]; rfl
            have hY : C1 (M 105) (M 126) wn mm i → X 127 M96 128 [some (.ref 103), some (.int (nI nn)), some (.int (nI wn)), some (.int (nI (2 * K))), some (.int (nI (2 * i))), some (.int (nI i)), some (.int x96)] [.int 1, .int (nI (2 * i))] := by
              intro hc
              refine R.b bk_X8_check_128 ?_
              refine R.c br_X8_check_141 (And.intro (fun h141 => absurd (by rw [nI_2]) h141) (fun h141 => ?_))
              refine R.b bk_X8_check_144 ?_
              refine R.c br_X8_check_147 (And.intro (fun h147 => ?_) (fun h147 => ?_))
              · refine R.b bk_X8_check_170 ?_
                refine R.b bk_X8_check_171 ?_
                refine R.j gt_X8_check_177 ?_
                have hcl : (nI (2 * i) + 1).toNatClampNeg = 2 * i + 1 := cl_n (nI_1 _) (by omega)
                rw [nI_inc]
                have hx := fun h => ih (i + 1) M96 (some (.int x96)) (by omega) (by omega) e96 k96 h
                have hR : A_ck (M 105) (M 126) wn mm (i + 1) = if C2 (M 105) (M 126) wn mm i then 2 * i + 2 else 2 * i + 1 := by rw [A_ck, if_pos hI3, if_pos hc]
                first
                | (rw [if_neg (fun q : C2 (M 105) (M 126) wn mm i => absurd q.1 (Nat.not_lt.mpr ((nI_leI (by omega) (by omega)).mp (show nI wn ≤ nI (2 * i + 1) by rw [← nI_1]; exact h147))))] at hR; rw [hR] at hx; rw [Int32.add_zero, nI_1]; exact hx trivial)
                | (rw [hcl, w96, e96] at h163; rw [if_neg (fun q : C2 (M 105) (M 126) wn mm i => h163 q.2)] at hR; rw [hR] at hx; rw [Int32.add_zero, nI_1]; exact hx trivial)
                | (rw [hcl, w96, e96] at h163; rw [if_pos (show C2 (M 105) (M 126) wn mm i from ⟨by have := nI_lt8 (by omega) (by omega) (show ¬ nI wn ≤ nI (2 * i + 1) by rw [← nI_1]; exact h147); omega, h163⟩)] at hR; rw [hR] at hx; rw [nI_1, nI_1]; exact hx trivial)
              · refine R.b bk_X8_check_150 (And.intro (by first | rfl | assumption) (And.intro (by first | rfl | assumption) (And.intro (by rw [nI_1]; exact (vp_in_nI (show 2 * i + 1 < 60 by have := nI_lt8 (by omega) (by omega) (show ¬ nI wn ≤ nI (2 * i + 1) by rw [← nI_1]; exact h147); omega) (by decide))) ?_)))
                refine R.V1i kc_X8_check_160 (by first | rfl | assumption) (c_X8_sumOf (w := 7) (m := mm) (by decide) hmm e1) (by omega) rfl ⟨Nat.le_refl _, Nat.le_refl _⟩ (fun x160 M160 q160 => ?_)
                obtain ⟨rfl, q160⟩ := q160
                replace q160 := q160.symm
                subst q160
                refine R.c br_X8_check_163 (And.intro (fun h163 => ?_) (fun h163 => ?_))
                · refine R.b bk_X8_check_170 ?_
                  refine R.b bk_X8_check_171 ?_
                  refine R.j gt_X8_check_177 ?_
                  have hcl : (nI (2 * i) + 1).toNatClampNeg = 2 * i + 1 := cl_n (nI_1 _) (by omega)
                  rw [nI_inc]
                  have hx := fun h => ih (i + 1) M96 (some (.int x96)) (by omega) (by omega) e96 k96 h
                  have hR : A_ck (M 105) (M 126) wn mm (i + 1) = if C2 (M 105) (M 126) wn mm i then 2 * i + 2 else 2 * i + 1 := by rw [A_ck, if_pos hI3, if_pos hc]
                  first
                  | (rw [if_neg (fun q : C2 (M 105) (M 126) wn mm i => absurd q.1 (Nat.not_lt.mpr ((nI_leI (by omega) (by omega)).mp (show nI wn ≤ nI (2 * i + 1) by rw [← nI_1]; exact h147))))] at hR; rw [hR] at hx; rw [Int32.add_zero, nI_1]; exact hx trivial)
                  | (rw [hcl, w96, e96] at h163; rw [if_neg (fun q : C2 (M 105) (M 126) wn mm i => h163 q.2)] at hR; rw [hR] at hx; rw [Int32.add_zero, nI_1]; exact hx trivial)
                  | (rw [hcl, w96, e96] at h163; rw [if_pos (show C2 (M 105) (M 126) wn mm i from ⟨by have := nI_lt8 (by omega) (by omega) (show ¬ nI wn ≤ nI (2 * i + 1) by rw [← nI_1]; exact h147); omega, h163⟩)] at hR; rw [hR] at hx; rw [nI_1, nI_1]; exact hx trivial)
                · refine R.b bk_X8_check_166 ?_
                  refine R.j gt_X8_check_167 ?_
                  refine R.b bk_X8_check_171 ?_
                  refine R.j gt_X8_check_177 ?_
                  have hcl : (nI (2 * i) + 1).toNatClampNeg = 2 * i + 1 := cl_n (nI_1 _) (by omega)
                  rw [nI_inc]
                  have hx := fun h => ih (i + 1) M96 (some (.int x96)) (by omega) (by omega) e96 k96 h
                  have hR : A_ck (M 105) (M 126) wn mm (i + 1) = if C2 (M 105) (M 126) wn mm i then 2 * i + 2 else 2 * i + 1 := by rw [A_ck, if_pos hI3, if_pos hc]
                  first
                  | (rw [if_neg (fun q : C2 (M 105) (M 126) wn mm i => absurd q.1 (Nat.not_lt.mpr ((nI_leI (by omega) (by omega)).mp (show nI wn ≤ nI (2 * i + 1) by rw [← nI_1]; exact h147))))] at hR; rw [hR] at hx; rw [Int32.add_zero, nI_1]; exact hx trivial)
                  | (rw [hcl, w96, e96] at h163; rw [if_neg (fun q : C2 (M 105) (M 126) wn mm i => h163 q.2)] at hR; rw [hR] at hx; rw [Int32.add_zero, nI_1]; exact hx trivial)
                  | (rw [hcl, w96, e96] at h163; rw [if_pos (show C2 (M 105) (M 126) wn mm i from ⟨by have := nI_lt8 (by omega) (by omega) (show ¬ nI wn ≤ nI (2 * i + 1) by rw [← nI_1]; exact h147); omega, h163⟩)] at hR; rw [hR] at hx; rw [nI_1, nI_1]; exact hx trivial)
            have hN : ¬ C1 (M 105) (M 126) wn mm i → X 127 M96 128 [some (.ref 103), some (.int (nI nn)), some (.int (nI wn)), some (.int (nI (2 * K))), some (.int (nI (2 * i))), some (.int (nI i)), some (.int x96)] [.int 0, .int (nI (2 * i))] := by
              intro hc
              refine R.b bk_X8_check_128 ?_
              refine R.c br_X8_check_141 (And.intro (fun h141 => ?_) (fun h141 => absurd h141 (by rw [nI_2, nI_1, Int32.add_zero, nI_eq (by omega) (by omega)]; omega)))
              refine R.b bk_X8_check_170 ?_
              refine R.b bk_X8_check_171 ?_
              refine R.j gt_X8_check_177 ?_
              rw [nI_inc]
              have hx := fun h => ih (i + 1) M96 (some (.int x96)) (by omega) (by omega) e96 k96 h
              have hR : A_ck (M 105) (M 126) wn mm (i + 1) = 2 * i := by rw [A_ck, if_pos hI3, if_neg hc]
              rw [hR] at hx
              rw [Int32.add_zero, Int32.add_zero]
              exact hx trivial
            refine R.b bk_X8_check_99 ?_
            refine R.c br_X8_check_106 (And.intro (fun h106 => ?_) (fun h106 => ?_))
            · refine R.b bk_X8_check_127 ?_
              have hcl : (nI (2 * i)).toNatClampNeg = 2 * i := nI_clamp (by omega)
              first
              | exact hN (fun q => absurd q.1 (Nat.not_lt.mpr ((nI_leI (by omega) (by omega)).mp h106)))
              | (rw [hcl, w96, e96] at h120; exact hN (fun q => h120 q.2))
              | (rw [hcl, w96, e96] at h120; exact hY ⟨nI_lt8 (by omega) (by omega) h106, h120⟩)
            · refine R.b bk_X8_check_109 (And.intro (by first | rfl | assumption) (And.intro (by first | rfl | assumption) (And.intro (vp_in_nI (show 2 * i < 60 by have := nI_lt8 (by omega) (by omega) h106; omega) (by decide)) ?_)))
              refine R.V0i kc_X8_check_117 (by first | rfl | assumption) (c_X8_fairs (m := mm) hmm e1) (by omega) rfl ⟨Nat.le_refl _, Nat.le_refl _⟩ (fun x117 M117 q117 => ?_)
              obtain ⟨rfl, q117⟩ := q117
              replace q117 := q117.symm
              subst q117
              refine R.c br_X8_check_120 (And.intro (fun h120 => ?_) (fun h120 => ?_))
              · refine R.b bk_X8_check_127 ?_
                have hcl : (nI (2 * i)).toNatClampNeg = 2 * i := nI_clamp (by omega)
                first
                | exact hN (fun q => absurd q.1 (Nat.not_lt.mpr ((nI_leI (by omega) (by omega)).mp h106)))
                | (rw [hcl, w96, e96] at h120; exact hN (fun q => h120 q.2))
                | (rw [hcl, w96, e96] at h120; exact hY ⟨nI_lt8 (by omega) (by omega) h106, h120⟩)
              · refine R.b bk_X8_check_123 ?_
                refine R.j gt_X8_check_124 ?_
                have hcl : (nI (2 * i)).toNatClampNeg = 2 * i := nI_clamp (by omega)
                first
                | exact hN (fun q => absurd q.1 (Nat.not_lt.mpr ((nI_leI (by omega) (by omega)).mp h106)))
                | (rw [hcl, w96, e96] at h120; exact hN (fun q => h120 q.2))
                | (rw [hcl, w96, e96] at h120; exact hY ⟨nI_lt8 (by omega) (by omega) h106, h120⟩)
      have hx := hA K 0 (mx_rw (mx_rw (mx_wr M 103 34 0) 106 (cut 1427 (M 104) (M 106))) 104 (M 105)) none rfl (Nat.zero_le _) (mx_rw_at _ _ _) (fun q _ _ _ => rfl) trivial
      rw [← nI_2, ← hw] at hx
      exact hx
    · refine R.b bk_X8_check_30 ?_
      refine R.ri rt_X8_check_32 rfl ⟨_, rfl, ?_⟩
      first | exact ⟨by rw [F_check, if_pos h17], fun q _ _ _ => rfl⟩ | exact ⟨by rw [F_check, if_neg h17]; exact (if_pos h27).symm, fun q _ _ _ => rfl⟩
  · refine R.b bk_X8_check_20 ?_
    refine R.ri rt_X8_check_22 rfl ⟨_, rfl, ?_⟩
    first | exact ⟨by rw [F_check, if_pos h17], fun q _ _ _ => rfl⟩ | exact ⟨by rw [F_check, if_neg h17]; exact (if_pos h27).symm, fun q _ _ _ => rfl⟩
end
