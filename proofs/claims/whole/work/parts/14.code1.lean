theorem bk_X0_init_0 : mx_blk 0 cX0_init 0 [.inl (.aload 0)] 1 = true := by decide +kernel
theorem kc_X0_init_1 : mx_ko dm_X0_init 1 := ⟨3, by decide +kernel, mx_gw (i := 170) (by decide +kernel)⟩
theorem bk_X0_init_4 : mx_blk 0 cX0_init 4 [.inl (.aload 0), .inr (.int 0), .inl (.putfield 0), .inl (.aload 0), .inr (.int 0), .inl (.putfield 1), .inl (.aload 0), .inr (.int 0), .inl (.putfield 2), .inl (.aload 0), .inr (.int 7), .inl (.putfield 3), .inl (.aload 0), .inr (.int 0), .inl (.putfield 4), .inl (.aload 0), .inr (.int 0), .inl (.putfield 5), .inl (.aload 0), .inr (.int 0), .inl (.putfield 6), .inl (.aload 0), .inr (.int 0), .inl (.putfield 7)] 45 = true := by decide +kernel
theorem rt_X0_init_45 : mx_kv dm_X0_init 45 := ⟨by decide +kernel, rfl⟩
theorem bk_X0_becomeNew_0 : mx_blk 0 cX0_becomeNew 0 [.inl (.aload 0), .inl (.iload 1), .inl (.putfield 0), .inl (.aload 0), .inl (.iload 2), .inl (.putfield 1), .inl (.aload 0), .inr (.int 0), .inl (.putfield 2), .inl (.aload 0), .inr (.int 7), .inl (.putfield 3), .inl (.aload 0), .inr (.int 0), .inl (.putfield 4), .inl (.aload 0), .inr (.int 0), .inl (.putfield 5), .inl (.aload 0), .inr (.int 0), .inl (.putfield 6), .inl (.aload 0), .inr (.int 0), .inl (.putfield 7)] 41 = true := by decide +kernel
theorem rt_X0_becomeNew_41 : mx_kv dm_X0_becomeNew 41 := ⟨by decide +kernel, rfl⟩
theorem bk_X0_becomeLike_0 : mx_blk 0 cX0_becomeLike 0 [.inl (.aload 0), .inl (.aload 1), .inl (.getfield 0), .inl (.putfield 0), .inl (.aload 0), .inl (.aload 1), .inl (.getfield 1), .inl (.putfield 1), .inl (.aload 0), .inl (.aload 1), .inl (.getfield 2), .inl (.putfield 2), .inl (.aload 0), .inl (.aload 1), .inl (.getfield 3), .inl (.putfield 3), .inl (.aload 0), .inl (.aload 1), .inl (.getfield 4), .inl (.putfield 4), .inl (.aload 0), .inl (.aload 1), .inl (.getfield 5), .inl (.putfield 5), .inl (.aload 0), .inl (.aload 1), .inl (.getfield 6), .inl (.putfield 6), .inl (.aload 0), .inl (.aload 1), .inl (.getfield 7), .inl (.putfield 7)] 64 = true := by decide +kernel
theorem rt_X0_becomeLike_64 : mx_kv dm_X0_becomeLike 64 := ⟨by decide +kernel, rfl⟩
theorem bk_X0_isOf_0 : mx_blk 0 cX0_isOf 0 [.inl (.aload 0), .inl (.getfield 0), .inl (.istore 2), .inr (.int 0), .inl (.istore 3)] 7 = true := by decide +kernel
theorem bk_X0_isOf_7 : mx_blk 0 cX0_isOf 7 [.inl (.iload 3)] 8 = true := by decide +kernel
theorem dd_X0_isOf_8 : decode cX0_isOf 8 = .ok (.getstatic 36, 3) := by decide +kernel
theorem dd_X0_isOf_11 : decode cX0_isOf 11 = .ok (.arraylength, 1) := by decide +kernel
theorem br_X0_isOf_12 : mx_brk cX0_isOf 12 (.if_icmp .ge 29) 41 15 = true := by decide +kernel
theorem bk_X0_isOf_15 : mx_blk 0 cX0_isOf 15 [.inl (.iload 2)] 16 = true := by decide +kernel
theorem kc_X0_isOf_16 : mx_kS dm_X0_isOf 16 dm_X7_isKind 1 := ⟨40, by decide +kernel, md_X7_isKind, cs_X0_40⟩
theorem br_X0_isOf_19 : mx_brk cX0_isOf 19 (.ifCond .eq 22) 41 22 = true := by decide +kernel
theorem bk_X0_isOf_22 : mx_blk 0 cX0_isOf 22 [.inl (.iload 2), .inl (.iload 1)] 24 = true := by decide +kernel
theorem br_X0_isOf_24 : mx_brk cX0_isOf 24 (.if_icmp .ne 5) 29 27 = true := by decide +kernel
theorem bk_X0_isOf_27 : mx_blk 0 cX0_isOf 27 [.inr (.int 1)] 28 = true := by decide +kernel
theorem rt_X0_isOf_28 : mx_kr dm_X0_isOf 28 .boolean := ⟨by decide +kernel, rfl⟩
theorem dd_X0_isOf_29 : decode cX0_isOf 29 = .ok (.getstatic 36, 3) := by decide +kernel
theorem bk_X0_isOf_32 : mx_blk 0 cX0_isOf 32 [.inl (.iload 2)] 33 = true := by decide +kernel
theorem dd_X0_isOf_33 : decode cX0_isOf 33 = .ok (.iaload, 1) := by decide +kernel
theorem bk_X0_isOf_34 : mx_blk 0 cX0_isOf 34 [.inl (.istore 2), .inl (.iinc 3 1)] 38 = true := by decide +kernel
theorem gt_X0_isOf_38 : mx_jmp cX0_isOf 38 7 = true := by decide +kernel
theorem bk_X0_isOf_41 : mx_blk 0 cX0_isOf 41 [.inr (.int 0)] 42 = true := by decide +kernel
theorem rt_X0_isOf_42 : mx_kr dm_X0_isOf 42 .boolean := ⟨by decide +kernel, rfl⟩
theorem bk_X0_worth_0 : mx_blk 0 cX0_worth 0 [.inl (.aload 0), .inl (.getfield 0)] 4 = true := by decide +kernel
theorem sw_X0_worth_4 : mx_swk cX0_worth 4 [(1, 40), (2, 56), (3, 47), (4, 64), (5, 74)] 77 = true := by decide +kernel
theorem bk_X0_worth_40 : mx_blk 0 cX0_worth 40 [.inl (.aload 0), .inl (.getfield 1), .inr (.int 2), .inl .iadd] 46 = true := by decide +kernel
theorem rt_X0_worth_46 : mx_kr dm_X0_worth 46 .int := ⟨by decide +kernel, rfl⟩
theorem bk_X0_worth_47 : mx_blk 0 cX0_worth 47 [.inr (.int 2), .inl (.aload 0), .inl (.getfield 1), .inr (.int 2), .inl .iadd, .inl .imul] 55 = true := by decide +kernel
theorem rt_X0_worth_55 : mx_kr dm_X0_worth 55 .int := ⟨by decide +kernel, rfl⟩
theorem bk_X0_worth_56 : mx_blk 0 cX0_worth 56 [.inr (.int 30), .inl (.aload 0), .inl (.getfield 1), .inl .isub] 63 = true := by decide +kernel
theorem rt_X0_worth_63 : mx_kr dm_X0_worth 63 .int := ⟨by decide +kernel, rfl⟩
theorem bk_X0_worth_64 : mx_blk 0 cX0_worth 64 [.inr (.int 30), .inl (.aload 0), .inl (.getfield 1), .inl .isub, .inr (.int 4), .inl .isub] 73 = true := by decide +kernel
theorem rt_X0_worth_73 : mx_kr dm_X0_worth 73 .int := ⟨by decide +kernel, rfl⟩
theorem bk_X0_worth_74 : mx_blk 0 cX0_worth 74 [.inr (.int 11)] 76 = true := by decide +kernel
theorem rt_X0_worth_76 : mx_kr dm_X0_worth 76 .int := ⟨by decide +kernel, rfl⟩
theorem bk_X0_worth_77 : mx_blk 0 cX0_worth 77 [.inl (.aload 0), .inl (.getfield 1)] 81 = true := by decide +kernel
theorem rt_X0_worth_81 : mx_kr dm_X0_worth 81 .int := ⟨by decide +kernel, rfl⟩
theorem bk_X0_birthsByKind_0 : mx_blk 0 cX0_birthsByKind 0 [.inl (.aload 0), .inl (.getfield 0)] 4 = true := by decide +kernel
theorem sw_X0_birthsByKind_4 : mx_swk cX0_birthsByKind 4 [(1, 40), (2, 59), (3, 44), (4, 63), (5, 88)] 93 = true := by decide +kernel
theorem bk_X0_birthsByKind_40 : mx_blk 0 cX0_birthsByKind 40 [.inl (.iload 1), .inr (.int 2), .inl .idiv] 43 = true := by decide +kernel
theorem rt_X0_birthsByKind_43 : mx_kr dm_X0_birthsByKind 43 .int := ⟨by decide +kernel, rfl⟩
theorem bk_X0_birthsByKind_44 : mx_blk 0 cX0_birthsByKind 44 [.inl (.aload 0), .inl (.getfield 4)] 48 = true := by decide +kernel
theorem br_X0_birthsByKind_48 : mx_brk cX0_birthsByKind 48 (.ifCond .ne 7) 55 51 = true := by decide +kernel
theorem bk_X0_birthsByKind_51 : mx_blk 0 cX0_birthsByKind 51 [.inr (.int 0)] 52 = true := by decide +kernel
theorem gt_X0_birthsByKind_52 : mx_jmp cX0_birthsByKind 52 58 = true := by decide +kernel
theorem bk_X0_birthsByKind_55 : mx_blk 0 cX0_birthsByKind 55 [.inl (.iload 1), .inr (.int 2), .inl .idiv] 58 = true := by decide +kernel
theorem rt_X0_birthsByKind_58 : mx_kr dm_X0_birthsByKind 58 .int := ⟨by decide +kernel, rfl⟩
theorem bk_X0_birthsByKind_59 : mx_blk 0 cX0_birthsByKind 59 [.inl (.iload 1), .inr (.int 1), .inl .iadd] 62 = true := by decide +kernel
theorem rt_X0_birthsByKind_62 : mx_kr dm_X0_birthsByKind 62 .int := ⟨by decide +kernel, rfl⟩
theorem bk_X0_birthsByKind_63 : mx_blk 0 cX0_birthsByKind 63 [.inl (.aload 0), .inl (.getfield 4), .inl (.aload 0), .inl (.getfield 3), .inr (.int 1), .inl .isub] 73 = true := by decide +kernel
theorem br_X0_birthsByKind_73 : mx_brk cX0_birthsByKind 73 (.if_icmp .ne 11) 84 76 = true := by decide +kernel
theorem bk_X0_birthsByKind_76 : mx_blk 0 cX0_birthsByKind 76 [.inr (.int 2), .inl (.iload 1), .inr (.int 1), .inl .iadd, .inl .imul] 81 = true := by decide +kernel
theorem gt_X0_birthsByKind_81 : mx_jmp cX0_birthsByKind 81 87 = true := by decide +kernel
theorem bk_X0_birthsByKind_84 : mx_blk 0 cX0_birthsByKind 84 [.inl (.iload 1), .inr (.int 1), .inl .iadd] 87 = true := by decide +kernel
theorem rt_X0_birthsByKind_87 : mx_kr dm_X0_birthsByKind 87 .int := ⟨by decide +kernel, rfl⟩
theorem bk_X0_birthsByKind_88 : mx_blk 0 cX0_birthsByKind 88 [.inl (.aload 0), .inl (.getfield 1)] 92 = true := by decide +kernel
theorem rt_X0_birthsByKind_92 : mx_kr dm_X0_birthsByKind 92 .int := ⟨by decide +kernel, rfl⟩
theorem bk_X0_birthsByKind_93 : mx_blk 0 cX0_birthsByKind 93 [.inl (.iload 1)] 94 = true := by decide +kernel
theorem rt_X0_birthsByKind_94 : mx_kr dm_X0_birthsByKind 94 .int := ⟨by decide +kernel, rfl⟩
theorem bk_X0_hideOne_0 : mx_blk 0 cX0_hideOne 0 [.inl (.aload 0), .inl (.getfield 5)] 4 = true := by decide +kernel
theorem br_X0_hideOne_4 : mx_brk cX0_hideOne 4 (.ifCond .le 23) 27 7 = true := by decide +kernel
theorem bk_X0_hideOne_7 : mx_blk 0 cX0_hideOne 7 [.inl (.aload 0), .inl .dup, .inl (.getfield 5), .inr (.int 1), .inl .isub, .inl (.putfield 5), .inl (.aload 0), .inl .dup, .inl (.getfield 6), .inr (.int 1), .inl .iadd, .inl (.putfield 6)] 27 = true := by decide +kernel
theorem rt_X0_hideOne_27 : mx_kv dm_X0_hideOne 27 := ⟨by decide +kernel, rfl⟩
theorem bk_X0_beginWeek_0 : mx_blk 0 cX0_beginWeek 0 [.inl (.aload 0), .inl .dup, .inl (.getfield 2), .inr (.int 1), .inl .iadd, .inl (.putfield 2), .inl (.aload 0), .inl (.aload 0), .inl (.getfield 5), .inr (.int 2), .inr (.int 60)] 18 = true := by decide +kernel
theorem kc_X0_beginWeek_18 : mx_kS dm_X0_beginWeek 18 dm_X7_held 3 := ⟨44, by decide +kernel, md_X7_held, cs_X0_44⟩
theorem bk_X0_beginWeek_21 : mx_blk 0 cX0_beginWeek 21 [.inl (.putfield 3), .inl (.aload 0), .inl (.aload 0), .inl (.getfield 6), .inl (.putfield 5), .inl (.aload 0), .inr (.int 0), .inl (.putfield 6), .inl (.aload 0), .inr (.int 0), .inl (.putfield 4)] 42 = true := by decide +kernel
theorem rt_X0_beginWeek_42 : mx_kv dm_X0_beginWeek 42 := ⟨by decide +kernel, rfl⟩
theorem bk_X1_init_0 : mx_blk 1 cX1_init 0 [.inl (.aload 0)] 1 = true := by decide +kernel
theorem kc_X1_init_1 : mx_ko dm_X1_init 1 := ⟨3, by decide +kernel, mx_gw (i := 90) (by decide +kernel)⟩
theorem bk_X1_init_4 : mx_blk 1 cX1_init 4 [.inl (.aload 0), .inr (.int 0), .inl (.putfield 64), .inl (.aload 0), .inr (.int 0), .inl (.putfield 65), .inl (.aload 0), .inr (.int 0), .inl (.putfield 66), .inl (.aload 0), .inr (.int 96)] 22 = true := by decide +kernel
theorem dd_X1_init_22 : decode cX1_init 22 = .ok (.newarray .int, 2) := by decide +kernel
theorem bk_X1_init_24 : mx_blk 1 cX1_init 24 [.inl (.putfield 67)] 27 = true := by decide +kernel
theorem rt_X1_init_27 : mx_kv dm_X1_init 27 := ⟨by decide +kernel, rfl⟩
theorem bk_X1_becomeNew_0 : mx_blk 1 cX1_becomeNew 0 [.inl (.aload 0), .inl (.iload 1), .inl (.putfield 64), .inl (.aload 0), .inr (.int 0), .inl (.putfield 65), .inl (.aload 0), .inr (.int 0), .inl (.putfield 66)] 15 = true := by decide +kernel
theorem rt_X1_becomeNew_15 : mx_kv dm_X1_becomeNew 15 := ⟨by decide +kernel, rfl⟩
theorem bk_X1_becomeLike_0 : mx_blk 1 cX1_becomeLike 0 [.inl (.aload 0), .inl (.aload 1), .inl (.getfield 64), .inl (.putfield 64), .inl (.aload 0), .inl (.aload 1), .inl (.getfield 65), .inl (.putfield 65), .inl (.aload 0), .inl (.aload 1), .inl (.getfield 66), .inl (.putfield 66), .inl (.aload 1), .inl (.getfield 67), .inr (.int 0), .inl (.aload 0), .inl (.getfield 67), .inr (.int 0), .inl (.aload 0), .inl (.getfield 67), .inl .arraylength] 39 = true := by decide +kernel
theorem kc_X1_becomeLike_39 : mx_km dm_X1_becomeLike 39 arraycopyName := ⟨25, by decide +kernel, mx_gw (i := 786) (by decide +kernel)⟩
theorem rt_X1_becomeLike_42 : mx_kv dm_X1_becomeLike 42 := ⟨by decide +kernel, rfl⟩
theorem bk_X1_addAtom_0 : mx_blk 1 cX1_addAtom 0 [.inl (.aload 0), .inl .dup, .inl (.getfield 65), .inr (.int 1), .inl .iadd, .inl (.putfield 65), .inl (.aload 0), .inl (.iload 1)] 12 = true := by decide +kernel
theorem kc_X1_addAtom_12 : mx_kV dm_X1_addAtom 12 dm_X1_addStep 1 1 := ⟨31, by decide +kernel, md_X1_addStep, cv_X1_31, by decide, by decide +kernel⟩
theorem rt_X1_addAtom_15 : mx_kv dm_X1_addAtom 15 := ⟨by decide +kernel, rfl⟩
theorem bk_X1_addSign_0 : mx_blk 1 cX1_addSign 0 [.inl (.aload 0), .inl (.iload 1), .inl .ineg] 3 = true := by decide +kernel
theorem kc_X1_addSign_3 : mx_kV dm_X1_addSign 3 dm_X1_addStep 1 1 := ⟨31, by decide +kernel, md_X1_addStep, cv_X1_31, by decide, by decide +kernel⟩
theorem rt_X1_addSign_6 : mx_kv dm_X1_addSign 6 := ⟨by decide +kernel, rfl⟩
theorem bk_X1_addStep_0 : mx_blk 1 cX1_addStep 0 [.inl (.aload 0), .inl (.getfield 66), .inl (.aload 0), .inl (.getfield 67), .inl .arraylength] 9 = true := by decide +kernel
theorem br_X1_addStep_9 : mx_brk cX1_addStep 9 (.if_icmp .ge 23) 32 12 = true := by decide +kernel
theorem bk_X1_addStep_12 : mx_blk 1 cX1_addStep 12 [.inl (.aload 0), .inl (.getfield 67), .inl (.aload 0), .inl (.getfield 66), .inl (.iload 1), .inl .iastore, .inl (.aload 0), .inl .dup, .inl (.getfield 66), .inr (.int 1), .inl .iadd, .inl (.putfield 66)] 32 = true := by decide +kernel
theorem rt_X1_addStep_32 : mx_kv dm_X1_addStep 32 := ⟨by decide +kernel, rfl⟩
theorem bk_X2_init_0 : mx_blk 2 cX2_init 0 [.inl (.aload 0)] 1 = true := by decide +kernel
theorem kc_X2_init_1 : mx_ko dm_X2_init 1 := ⟨3, by decide +kernel, mx_gw (i := 84) (by decide +kernel)⟩
theorem bk_X2_init_4 : mx_blk 2 cX2_init 4 [.inl (.aload 0), .inr (.int 0)] 6 = true := by decide +kernel
theorem dd_X2_init_6 : decode cX2_init 6 = .ok (.newarray .byte, 2) := by decide +kernel
theorem bk_X2_init_8 : mx_blk 2 cX2_init 8 [.inl (.putfield 128), .inl (.aload 0), .inr (.int 0), .inl (.putfield 129), .inl (.aload 0)] 17 = true := by decide +kernel
theorem kc_X2_init_17 : mx_kn dm_X2_init 17 1 := ⟨19, by decide +kernel, by decide +kernel, by decide⟩
theorem bk_X2_init_20 : mx_blk 2 cX2_init 20 [.inl .dup] 21 = true := by decide +kernel
theorem kc_X2_init_21 : mx_kI dm_X2_init 21 dm_X1_init 0 := ⟨21, by decide +kernel, md_X1_init, ci_X2_21⟩
theorem bk_X2_init_24 : mx_blk 2 cX2_init 24 [.inl (.putfield 130), .inl (.aload 0), .inr (.int (-1)), .inl (.putfield 131), .inl (.aload 0), .inr (.int 0), .inl (.putfield 132), .inl (.aload 0), .inr (.int 0), .inl (.putfield 133), .inl (.aload 0), .inr (.int 0), .inl (.putfield 134)] 47 = true := by decide +kernel
theorem rt_X2_init_47 : mx_kv dm_X2_init 47 := ⟨by decide +kernel, rfl⟩
theorem bk_X2_understands_0 : mx_blk 2 cX2_understands 0 [.inl (.aload 0), .inl (.aload 1), .inl (.putfield 128), .inl (.aload 0), .inl (.iload 2), .inl (.aload 1), .inl .arraylength] 9 = true := by decide +kernel
theorem kc_X2_understands_9 : mx_km dm_X2_understands 9 Lib.Math.min.name := ⟨39, by decide +kernel, mx_gw (i := 602) (by decide +kernel)⟩
theorem bk_X2_understands_12 : mx_blk 2 cX2_understands 12 [.inl (.putfield 129), .inl (.aload 0), .inl (.aload 3), .inl (.putfield 130), .inl (.aload 0), .inr (.int (-1)), .inl (.putfield 131), .inl (.aload 0), .inr (.int 0), .inl (.putfield 133), .inl (.aload 0)] 31 = true := by decide +kernel
theorem kc_X2_understands_31 : mx_kV dm_X2_understands 31 dm_X2_goOn 2 0 := ⟨45, by decide +kernel, md_X2_goOn, cv_X2_45, by decide, by decide +kernel⟩
theorem bk_X2_understands_34 : mx_blk 2 cX2_understands 34 [.inl (.aload 0)] 35 = true := by decide +kernel
theorem kc_X2_understands_35 : mx_kV dm_X2_understands 35 dm_X2_keyHere 2 0 := ⟨48, by decide +kernel, md_X2_keyHere, cv_X2_48, by decide, by decide +kernel⟩
theorem bk_X2_understands_38 : mx_blk 2 cX2_understands 38 [.inl (.istore 4), .inl (.iload 4)] 42 = true := by decide +kernel
theorem br_X2_understands_42 : mx_brk cX2_understands 42 (.ifCond .ge 5) 47 45 = true := by decide +kernel
theorem bk_X2_understands_45 : mx_blk 2 cX2_understands 45 [.inr (.int 0)] 46 = true := by decide +kernel
theorem rt_X2_understands_46 : mx_kr dm_X2_understands 46 .boolean := ⟨by decide +kernel, rfl⟩
theorem bk_X2_understands_47 : mx_blk 2 cX2_understands 47 [.inl (.aload 0), .inl (.getfield 130), .inl (.iload 4)] 53 = true := by decide +kernel
theorem kc_X2_understands_53 : mx_kV dm_X2_understands 53 dm_X1_becomeNew 1 1 := ⟨52, by decide +kernel, md_X1_becomeNew, cv_X2_52, by decide, by decide +kernel⟩
theorem bk_X2_understands_56 : mx_blk 2 cX2_understands 56 [.inl (.aload 0)] 57 = true := by decide +kernel
theorem kc_X2_understands_57 : mx_kV dm_X2_understands 57 dm_X2_goOn 2 0 := ⟨45, by decide +kernel, md_X2_goOn, cv_X2_45, by decide, by decide +kernel⟩
theorem bk_X2_understands_60 : mx_blk 2 cX2_understands 60 [.inl (.aload 0), .inr (.int 0), .inr (.int 0), .inr (.int 0)] 64 = true := by decide +kernel
theorem kc_X2_understands_64 : mx_kV dm_X2_understands 64 dm_X2_takesLevel 2 3 := ⟨56, by decide +kernel, md_X2_takesLevel, cv_X2_56, by decide, by decide +kernel⟩
theorem br_X2_understands_67 : mx_brk cX2_understands 67 (.ifCond .eq 15) 82 70 = true := by decide +kernel
theorem bk_X2_understands_70 : mx_blk 2 cX2_understands 70 [.inl (.aload 0), .inl (.getfield 131), .inr (.int (-1))] 75 = true := by decide +kernel
theorem br_X2_understands_75 : mx_brk cX2_understands 75 (.if_icmp .ne 7) 82 78 = true := by decide +kernel
theorem bk_X2_understands_78 : mx_blk 2 cX2_understands 78 [.inr (.int 1)] 79 = true := by decide +kernel
theorem gt_X2_understands_79 : mx_jmp cX2_understands 79 83 = true := by decide +kernel
theorem bk_X2_understands_82 : mx_blk 2 cX2_understands 82 [.inr (.int 0)] 83 = true := by decide +kernel
theorem rt_X2_understands_83 : mx_kr dm_X2_understands 83 .boolean := ⟨by decide +kernel, rfl⟩
theorem bk_X2_takesLevel_0 : mx_blk 2 cX2_takesLevel 0 [.inl (.iload 1), .inr (.int 5)] 2 = true := by decide +kernel
theorem br_X2_takesLevel_2 : mx_brk cX2_takesLevel 2 (.if_icmp .lt 10) 12 5 = true := by decide +kernel
theorem bk_X2_takesLevel_5 : mx_blk 2 cX2_takesLevel 5 [.inl (.aload 0), .inl (.iload 2), .inl (.iload 3)] 8 = true := by decide +kernel
theorem kc_X2_takesLevel_8 : mx_kV dm_X2_takesLevel 8 dm_X2_takesPiece 2 2 := ⟨60, by decide +kernel, md_X2_takesPiece, cv_X2_60, by decide, by decide +kernel⟩
theorem rt_X2_takesLevel_11 : mx_kr dm_X2_takesLevel 11 .boolean := ⟨by decide +kernel, rfl⟩
theorem bk_X2_takesLevel_12 : mx_blk 2 cX2_takesLevel 12 [.inl (.aload 0), .inl (.iload 1), .inr (.int 1), .inl .iadd, .inl (.iload 2), .inl (.iload 3)] 18 = true := by decide +kernel
theorem kc_X2_takesLevel_18 : mx_kV dm_X2_takesLevel 18 dm_X2_takesLevel 2 3 := ⟨56, by decide +kernel, md_X2_takesLevel, cv_X2_56, by decide, by decide +kernel⟩
theorem br_X2_takesLevel_21 : mx_brk cX2_takesLevel 21 (.ifCond .ne 5) 26 24 = true := by decide +kernel
theorem bk_X2_takesLevel_24 : mx_blk 2 cX2_takesLevel 24 [.inr (.int 0)] 25 = true := by decide +kernel
theorem rt_X2_takesLevel_25 : mx_kr dm_X2_takesLevel 25 .boolean := ⟨by decide +kernel, rfl⟩
theorem bk_X2_takesLevel_26 : mx_blk 2 cX2_takesLevel 26 [.inr (.int 0), .inl (.istore 4)] 29 = true := by decide +kernel
theorem bk_X2_takesLevel_29 : mx_blk 2 cX2_takesLevel 29 [.inl (.iload 4), .inr (.int 96)] 33 = true := by decide +kernel
theorem br_X2_takesLevel_33 : mx_brk cX2_takesLevel 33 (.if_icmp .ge 65) 98 36 = true := by decide +kernel
theorem bk_X2_takesLevel_36 : mx_blk 2 cX2_takesLevel 36 [.inl (.aload 0), .inl (.getfield 131)] 40 = true := by decide +kernel
theorem kc_X2_takesLevel_40 : mx_kS dm_X2_takesLevel 40 dm_X2_levelOf 1 := ⟨64, by decide +kernel, md_X2_levelOf, cs_X2_64⟩
theorem bk_X2_takesLevel_43 : mx_blk 2 cX2_takesLevel 43 [.inl (.iload 1)] 44 = true := by decide +kernel
theorem br_X2_takesLevel_44 : mx_brk cX2_takesLevel 44 (.if_icmp .ne 54) 98 47 = true := by decide +kernel
theorem bk_X2_takesLevel_47 : mx_blk 2 cX2_takesLevel 47 [.inl (.iload 1), .inr (.int 2)] 49 = true := by decide +kernel
theorem br_X2_takesLevel_49 : mx_brk cX2_takesLevel 49 (.if_icmp .ne 10) 59 52 = true := by decide +kernel
theorem bk_X2_takesLevel_52 : mx_blk 2 cX2_takesLevel 52 [.inl (.iload 4)] 54 = true := by decide +kernel
theorem br_X2_takesLevel_54 : mx_brk cX2_takesLevel 54 (.ifCond .le 5) 59 57 = true := by decide +kernel
theorem bk_X2_takesLevel_57 : mx_blk 2 cX2_takesLevel 57 [.inr (.int 1)] 58 = true := by decide +kernel
theorem rt_X2_takesLevel_58 : mx_kr dm_X2_takesLevel 58 .boolean := ⟨by decide +kernel, rfl⟩
theorem bk_X2_takesLevel_59 : mx_blk 2 cX2_takesLevel 59 [.inl (.aload 0), .inl (.getfield 131), .inl (.istore 5), .inl (.aload 0)] 66 = true := by decide +kernel
theorem kc_X2_takesLevel_66 : mx_kV dm_X2_takesLevel 66 dm_X2_goOn 2 0 := ⟨45, by decide +kernel, md_X2_goOn, cv_X2_45, by decide, by decide +kernel⟩
theorem bk_X2_takesLevel_69 : mx_blk 2 cX2_takesLevel 69 [.inl (.aload 0), .inl (.iload 1), .inr (.int 1), .inl .iadd, .inl (.iload 2), .inl (.iload 3)] 75 = true := by decide +kernel
theorem kc_X2_takesLevel_75 : mx_kV dm_X2_takesLevel 75 dm_X2_takesLevel 2 3 := ⟨56, by decide +kernel, md_X2_takesLevel, cv_X2_56, by decide, by decide +kernel⟩
theorem br_X2_takesLevel_78 : mx_brk cX2_takesLevel 78 (.ifCond .ne 5) 83 81 = true := by decide +kernel
theorem bk_X2_takesLevel_81 : mx_blk 2 cX2_takesLevel 81 [.inr (.int 0)] 82 = true := by decide +kernel
theorem rt_X2_takesLevel_82 : mx_kr dm_X2_takesLevel 82 .boolean := ⟨by decide +kernel, rfl⟩
theorem bk_X2_takesLevel_83 : mx_blk 2 cX2_takesLevel 83 [.inl (.aload 0), .inl (.getfield 130), .inl (.iload 5)] 89 = true := by decide +kernel
theorem kc_X2_takesLevel_89 : mx_kV dm_X2_takesLevel 89 dm_X1_addSign 1 1 := ⟨68, by decide +kernel, md_X1_addSign, cv_X2_68, by decide, by decide +kernel⟩
theorem bk_X2_takesLevel_92 : mx_blk 2 cX2_takesLevel 92 [.inl (.iinc 4 1)] 95 = true := by decide +kernel
theorem gt_X2_takesLevel_95 : mx_jmp cX2_takesLevel 95 29 = true := by decide +kernel
theorem bk_X2_takesLevel_98 : mx_blk 2 cX2_takesLevel 98 [.inr (.int 1)] 99 = true := by decide +kernel
theorem rt_X2_takesLevel_99 : mx_kr dm_X2_takesLevel 99 .boolean := ⟨by decide +kernel, rfl⟩
theorem bk_X2_takesPiece_0 : mx_blk 2 cX2_takesPiece 0 [.inl (.aload 0), .inl (.getfield 131)] 4 = true := by decide +kernel
theorem sw_X2_takesPiece_4 : mx_swk cX2_takesPiece 4 [(-3, 48), (-2, 53), (33, 58), (40, 81)] 104 = true := by decide +kernel
theorem bk_X2_takesPiece_48 : mx_blk 2 cX2_takesPiece 48 [.inl (.aload 0)] 49 = true := by decide +kernel
theorem kc_X2_takesPiece_49 : mx_kV dm_X2_takesPiece 49 dm_X2_takesNumber 2 0 := ⟨71, by decide +kernel, md_X2_takesNumber, cv_X2_71, by decide, by decide +kernel⟩
theorem rt_X2_takesPiece_52 : mx_kr dm_X2_takesPiece 52 .boolean := ⟨by decide +kernel, rfl⟩
theorem bk_X2_takesPiece_53 : mx_blk 2 cX2_takesPiece 53 [.inl (.aload 0)] 54 = true := by decide +kernel
theorem kc_X2_takesPiece_54 : mx_kV dm_X2_takesPiece 54 dm_X2_takesName 2 0 := ⟨75, by decide +kernel, md_X2_takesName, cv_X2_75, by decide, by decide +kernel⟩
theorem rt_X2_takesPiece_57 : mx_kr dm_X2_takesPiece 57 .boolean := ⟨by decide +kernel, rfl⟩
theorem bk_X2_takesPiece_58 : mx_blk 2 cX2_takesPiece 58 [.inl (.iload 2), .inr (.int 8)] 61 = true := by decide +kernel
theorem br_X2_takesPiece_61 : mx_brk cX2_takesPiece 61 (.if_icmp .ge 18) 79 64 = true := by decide +kernel
theorem bk_X2_takesPiece_64 : mx_blk 2 cX2_takesPiece 64 [.inl (.aload 0), .inl (.iload 1), .inl (.iload 2), .inr (.int 1), .inl .iadd] 69 = true := by decide +kernel
theorem kc_X2_takesPiece_69 : mx_kV dm_X2_takesPiece 69 dm_X2_takesNot 2 2 := ⟨78, by decide +kernel, md_X2_takesNot, cv_X2_78, by decide, by decide +kernel⟩
theorem br_X2_takesPiece_72 : mx_brk cX2_takesPiece 72 (.ifCond .eq 7) 79 75 = true := by decide +kernel
theorem bk_X2_takesPiece_75 : mx_blk 2 cX2_takesPiece 75 [.inr (.int 1)] 76 = true := by decide +kernel
theorem gt_X2_takesPiece_76 : mx_jmp cX2_takesPiece 76 80 = true := by decide +kernel
theorem bk_X2_takesPiece_79 : mx_blk 2 cX2_takesPiece 79 [.inr (.int 0)] 80 = true := by decide +kernel
theorem rt_X2_takesPiece_80 : mx_kr dm_X2_takesPiece 80 .boolean := ⟨by decide +kernel, rfl⟩
theorem bk_X2_takesPiece_81 : mx_blk 2 cX2_takesPiece 81 [.inl (.iload 1), .inr (.int 8)] 84 = true := by decide +kernel
theorem br_X2_takesPiece_84 : mx_brk cX2_takesPiece 84 (.if_icmp .ge 18) 102 87 = true := by decide +kernel
theorem bk_X2_takesPiece_87 : mx_blk 2 cX2_takesPiece 87 [.inl (.aload 0), .inl (.iload 1), .inr (.int 1), .inl .iadd, .inl (.iload 2)] 92 = true := by decide +kernel
theorem kc_X2_takesPiece_92 : mx_kV dm_X2_takesPiece 92 dm_X2_takesInner 2 2 := ⟨81, by decide +kernel, md_X2_takesInner, cv_X2_81, by decide, by decide +kernel⟩
theorem br_X2_takesPiece_95 : mx_brk cX2_takesPiece 95 (.ifCond .eq 7) 102 98 = true := by decide +kernel
theorem bk_X2_takesPiece_98 : mx_blk 2 cX2_takesPiece 98 [.inr (.int 1)] 99 = true := by decide +kernel
theorem gt_X2_takesPiece_99 : mx_jmp cX2_takesPiece 99 103 = true := by decide +kernel
theorem bk_X2_takesPiece_102 : mx_blk 2 cX2_takesPiece 102 [.inr (.int 0)] 103 = true := by decide +kernel
theorem rt_X2_takesPiece_103 : mx_kr dm_X2_takesPiece 103 .boolean := ⟨by decide +kernel, rfl⟩
theorem bk_X2_takesPiece_104 : mx_blk 2 cX2_takesPiece 104 [.inr (.int 0)] 105 = true := by decide +kernel
theorem rt_X2_takesPiece_105 : mx_kr dm_X2_takesPiece 105 .boolean := ⟨by decide +kernel, rfl⟩
theorem bk_X2_takesNumber_0 : mx_blk 2 cX2_takesNumber 0 [.inl (.aload 0), .inl (.getfield 134)] 4 = true := by decide +kernel
theorem br_X2_takesNumber_4 : mx_brk cX2_takesNumber 4 (.ifCond .ne 16) 20 7 = true := by decide +kernel
theorem bk_X2_takesNumber_7 : mx_blk 2 cX2_takesNumber 7 [.inl (.aload 0), .inl (.getfield 133), .inl (.aload 0), .inl (.getfield 132), .inl .isub, .inr (.int 4)] 17 = true := by decide +kernel
theorem br_X2_takesNumber_17 : mx_brk cX2_takesNumber 17 (.if_icmp .le 5) 22 20 = true := by decide +kernel
theorem bk_X2_takesNumber_20 : mx_blk 2 cX2_takesNumber 20 [.inr (.int 0)] 21 = true := by decide +kernel
theorem rt_X2_takesNumber_21 : mx_kr dm_X2_takesNumber 21 .boolean := ⟨by decide +kernel, rfl⟩
theorem bk_X2_takesNumber_22 : mx_blk 2 cX2_takesNumber 22 [.inr (.int 0), .inl (.istore 1), .inl (.aload 0), .inl (.getfield 132), .inl (.istore 2)] 29 = true := by decide +kernel
theorem bk_X2_takesNumber_29 : mx_blk 2 cX2_takesNumber 29 [.inl (.iload 2), .inl (.aload 0), .inl (.getfield 133)] 34 = true := by decide +kernel
theorem br_X2_takesNumber_34 : mx_brk cX2_takesNumber 34 (.if_icmp .ge 23) 57 37 = true := by decide +kernel
theorem bk_X2_takesNumber_37 : mx_blk 2 cX2_takesNumber 37 [.inl (.iload 1), .inr (.int 10), .inl .imul, .inl (.aload 0), .inl (.iload 2)] 43 = true := by decide +kernel
theorem kc_X2_takesNumber_43 : mx_kV dm_X2_takesNumber 43 dm_X2_byteAt 2 1 := ⟨84, by decide +kernel, md_X2_byteAt, cv_X2_84, by decide, by decide +kernel⟩
theorem bk_X2_takesNumber_46 : mx_blk 2 cX2_takesNumber 46 [.inl .iadd, .inr (.int 48), .inl .isub, .inl (.istore 1), .inl (.iinc 2 1)] 54 = true := by decide +kernel
theorem gt_X2_takesNumber_54 : mx_jmp cX2_takesNumber 54 29 = true := by decide +kernel
theorem bk_X2_takesNumber_57 : mx_blk 2 cX2_takesNumber 57 [.inl (.aload 0), .inl (.getfield 130), .inl (.iload 1)] 62 = true := by decide +kernel
theorem kc_X2_takesNumber_62 : mx_kV dm_X2_takesNumber 62 dm_X1_addAtom 1 1 := ⟨87, by decide +kernel, md_X1_addAtom, cv_X2_87, by decide, by decide +kernel⟩
theorem bk_X2_takesNumber_65 : mx_blk 2 cX2_takesNumber 65 [.inl (.aload 0)] 66 = true := by decide +kernel
theorem kc_X2_takesNumber_66 : mx_kV dm_X2_takesNumber 66 dm_X2_goOn 2 0 := ⟨45, by decide +kernel, md_X2_goOn, cv_X2_45, by decide, by decide +kernel⟩
theorem bk_X2_takesNumber_69 : mx_blk 2 cX2_takesNumber 69 [.inr (.int 1)] 70 = true := by decide +kernel
theorem rt_X2_takesNumber_70 : mx_kr dm_X2_takesNumber 70 .boolean := ⟨by decide +kernel, rfl⟩
theorem bk_X2_takesName_0 : mx_blk 2 cX2_takesName 0 [.inl (.aload 0), .inl (.getfield 134)] 4 = true := by decide +kernel
theorem br_X2_takesName_4 : mx_brk cX2_takesName 4 (.ifCond .ne 16) 20 7 = true := by decide +kernel
theorem bk_X2_takesName_7 : mx_blk 2 cX2_takesName 7 [.inl (.aload 0), .inl (.getfield 133), .inl (.aload 0), .inl (.getfield 132), .inl .isub, .inr (.int 1)] 17 = true := by decide +kernel
theorem br_X2_takesName_17 : mx_brk cX2_takesName 17 (.if_icmp .eq 5) 22 20 = true := by decide +kernel
theorem bk_X2_takesName_20 : mx_blk 2 cX2_takesName 20 [.inr (.int 0)] 21 = true := by decide +kernel
theorem rt_X2_takesName_21 : mx_kr dm_X2_takesName 21 .boolean := ⟨by decide +kernel, rfl⟩
theorem bk_X2_takesName_22 : mx_blk 2 cX2_takesName 22 [.inl (.aload 0), .inl (.getfield 130), .inl (.getfield 64)] 29 = true := by decide +kernel
theorem kc_X2_takesName_29 : mx_kS dm_X2_takesName 29 dm_X2_namesOf 1 := ⟨93, by decide +kernel, md_X2_namesOf, cs_X2_93⟩
theorem bk_X2_takesName_32 : mx_blk 2 cX2_takesName 32 [.inl (.aload 0), .inl (.aload 0), .inl (.getfield 132)] 37 = true := by decide +kernel
theorem kc_X2_takesName_37 : mx_kV dm_X2_takesName 37 dm_X2_byteAt 2 1 := ⟨84, by decide +kernel, md_X2_byteAt, cv_X2_84, by decide, by decide +kernel⟩
theorem bk_X2_takesName_40 : mx_blk 2 cX2_takesName 40 [.inl .i2c] 41 = true := by decide +kernel
theorem kc_X2_takesName_41 : mx_kT dm_X2_takesName 41 dm_J0_indexOf_0f7a4 1 := ⟨97, by decide +kernel, md_J0_indexOf_0f7a4, cv_X2_97, by decide +kernel⟩
theorem bk_X2_takesName_44 : mx_blk 2 cX2_takesName 44 [.inl (.istore 1), .inl (.iload 1)] 46 = true := by decide +kernel
theorem br_X2_takesName_46 : mx_brk cX2_takesName 46 (.ifCond .ge 5) 51 49 = true := by decide +kernel
theorem bk_X2_takesName_49 : mx_blk 2 cX2_takesName 49 [.inr (.int 0)] 50 = true := by decide +kernel
theorem rt_X2_takesName_50 : mx_kr dm_X2_takesName 50 .boolean := ⟨by decide +kernel, rfl⟩
theorem bk_X2_takesName_51 : mx_blk 2 cX2_takesName 51 [.inl (.aload 0), .inl (.getfield 130), .inr (.int (-1)), .inl (.iload 1), .inl .isub] 58 = true := by decide +kernel
theorem kc_X2_takesName_58 : mx_kV dm_X2_takesName 58 dm_X1_addAtom 1 1 := ⟨87, by decide +kernel, md_X1_addAtom, cv_X2_87, by decide, by decide +kernel⟩
theorem bk_X2_takesName_61 : mx_blk 2 cX2_takesName 61 [.inl (.aload 0)] 62 = true := by decide +kernel
theorem kc_X2_takesName_62 : mx_kV dm_X2_takesName 62 dm_X2_goOn 2 0 := ⟨45, by decide +kernel, md_X2_goOn, cv_X2_45, by decide, by decide +kernel⟩
theorem bk_X2_takesName_65 : mx_blk 2 cX2_takesName 65 [.inr (.int 1)] 66 = true := by decide +kernel
theorem rt_X2_takesName_66 : mx_kr dm_X2_takesName 66 .boolean := ⟨by decide +kernel, rfl⟩
theorem bk_X2_takesNot_0 : mx_blk 2 cX2_takesNot 0 [.inl (.aload 0)] 1 = true := by decide +kernel
theorem kc_X2_takesNot_1 : mx_kV dm_X2_takesNot 1 dm_X2_goOn 2 0 := ⟨45, by decide +kernel, md_X2_goOn, cv_X2_45, by decide, by decide +kernel⟩
theorem bk_X2_takesNot_4 : mx_blk 2 cX2_takesNot 4 [.inl (.aload 0), .inl (.iload 1), .inl (.iload 2)] 7 = true := by decide +kernel
theorem kc_X2_takesNot_7 : mx_kV dm_X2_takesNot 7 dm_X2_takesPiece 2 2 := ⟨60, by decide +kernel, md_X2_takesPiece, cv_X2_60, by decide, by decide +kernel⟩
theorem br_X2_takesNot_10 : mx_brk cX2_takesNot 10 (.ifCond .ne 5) 15 13 = true := by decide +kernel
theorem bk_X2_takesNot_13 : mx_blk 2 cX2_takesNot 13 [.inr (.int 0)] 14 = true := by decide +kernel
theorem rt_X2_takesNot_14 : mx_kr dm_X2_takesNot 14 .boolean := ⟨by decide +kernel, rfl⟩
theorem bk_X2_takesNot_15 : mx_blk 2 cX2_takesNot 15 [.inl (.aload 0), .inl (.getfield 130), .inr (.int 33)] 21 = true := by decide +kernel
theorem kc_X2_takesNot_21 : mx_kV dm_X2_takesNot 21 dm_X1_addSign 1 1 := ⟨68, by decide +kernel, md_X1_addSign, cv_X2_68, by decide, by decide +kernel⟩
theorem bk_X2_takesNot_24 : mx_blk 2 cX2_takesNot 24 [.inr (.int 1)] 25 = true := by decide +kernel
theorem rt_X2_takesNot_25 : mx_kr dm_X2_takesNot 25 .boolean := ⟨by decide +kernel, rfl⟩
theorem bk_X2_takesInner_0 : mx_blk 2 cX2_takesInner 0 [.inl (.aload 0)] 1 = true := by decide +kernel
theorem kc_X2_takesInner_1 : mx_kV dm_X2_takesInner 1 dm_X2_goOn 2 0 := ⟨45, by decide +kernel, md_X2_goOn, cv_X2_45, by decide, by decide +kernel⟩
theorem bk_X2_takesInner_4 : mx_blk 2 cX2_takesInner 4 [.inl (.aload 0), .inr (.int 0), .inl (.iload 1), .inl (.iload 2)] 8 = true := by decide +kernel
theorem kc_X2_takesInner_8 : mx_kV dm_X2_takesInner 8 dm_X2_takesLevel 2 3 := ⟨56, by decide +kernel, md_X2_takesLevel, cv_X2_56, by decide, by decide +kernel⟩
theorem br_X2_takesInner_11 : mx_brk cX2_takesInner 11 (.ifCond .eq 12) 23 14 = true := by decide +kernel
theorem bk_X2_takesInner_14 : mx_blk 2 cX2_takesInner 14 [.inl (.aload 0), .inl (.getfield 131), .inr (.int 41)] 20 = true := by decide +kernel
theorem br_X2_takesInner_20 : mx_brk cX2_takesInner 20 (.if_icmp .eq 5) 25 23 = true := by decide +kernel
theorem bk_X2_takesInner_23 : mx_blk 2 cX2_takesInner 23 [.inr (.int 0)] 24 = true := by decide +kernel
theorem rt_X2_takesInner_24 : mx_kr dm_X2_takesInner 24 .boolean := ⟨by decide +kernel, rfl⟩
theorem bk_X2_takesInner_25 : mx_blk 2 cX2_takesInner 25 [.inl (.aload 0)] 26 = true := by decide +kernel
theorem kc_X2_takesInner_26 : mx_kV dm_X2_takesInner 26 dm_X2_goOn 2 0 := ⟨45, by decide +kernel, md_X2_goOn, cv_X2_45, by decide, by decide +kernel⟩
theorem bk_X2_takesInner_29 : mx_blk 2 cX2_takesInner 29 [.inr (.int 1)] 30 = true := by decide +kernel
theorem rt_X2_takesInner_30 : mx_kr dm_X2_takesInner 30 .boolean := ⟨by decide +kernel, rfl⟩
theorem bk_X2_levelOf_0 : mx_blk 2 cX2_levelOf 0 [.inl (.iload 0)] 1 = true := by decide +kernel
theorem sw_X2_levelOf_1 : mx_swk cX2_levelOf 1 [(38, 86), (42, 92), (43, 90), (45, 90), (47, 92), (60, 88), (61, 88), (62, 88), (124, 84)] 94 = true := by decide +kernel
theorem bk_X2_levelOf_84 : mx_blk 2 cX2_levelOf 84 [.inr (.int 0)] 85 = true := by decide +kernel
theorem rt_X2_levelOf_85 : mx_kr dm_X2_levelOf 85 .int := ⟨by decide +kernel, rfl⟩
theorem bk_X2_levelOf_86 : mx_blk 2 cX2_levelOf 86 [.inr (.int 1)] 87 = true := by decide +kernel
theorem rt_X2_levelOf_87 : mx_kr dm_X2_levelOf 87 .int := ⟨by decide +kernel, rfl⟩
theorem bk_X2_levelOf_88 : mx_blk 2 cX2_levelOf 88 [.inr (.int 2)] 89 = true := by decide +kernel
theorem rt_X2_levelOf_89 : mx_kr dm_X2_levelOf 89 .int := ⟨by decide +kernel, rfl⟩
theorem bk_X2_levelOf_90 : mx_blk 2 cX2_levelOf 90 [.inr (.int 3)] 91 = true := by decide +kernel
theorem rt_X2_levelOf_91 : mx_kr dm_X2_levelOf 91 .int := ⟨by decide +kernel, rfl⟩
theorem bk_X2_levelOf_92 : mx_blk 2 cX2_levelOf 92 [.inr (.int 4)] 93 = true := by decide +kernel
theorem rt_X2_levelOf_93 : mx_kr dm_X2_levelOf 93 .int := ⟨by decide +kernel, rfl⟩
theorem bk_X2_levelOf_94 : mx_blk 2 cX2_levelOf 94 [.inr (.int (-1))] 95 = true := by decide +kernel
theorem rt_X2_levelOf_95 : mx_kr dm_X2_levelOf 95 .int := ⟨by decide +kernel, rfl⟩
theorem bk_X2_namesOf_0 : mx_blk 2 cX2_namesOf 0 [.inl (.iload 0)] 1 = true := by decide +kernel
theorem sw_X2_namesOf_1 : mx_swk cX2_namesOf 1 [(0, 28), (1, 31)] 34 = true := by decide +kernel
theorem dd_X2_namesOf_28 : decode cX2_namesOf 28 = .ok (.ldc 102, 2) := by decide +kernel
theorem rt_X2_namesOf_30 : mx_ka dm_X2_namesOf 30 := ⟨by decide +kernel, _, rfl, rfl⟩
theorem dd_X2_namesOf_31 : decode cX2_namesOf 31 = .ok (.ldc 104, 2) := by decide +kernel
theorem rt_X2_namesOf_33 : mx_ka dm_X2_namesOf 33 := ⟨by decide +kernel, _, rfl, rfl⟩
theorem dd_X2_namesOf_34 : decode cX2_namesOf 34 = .ok (.ldc 106, 2) := by decide +kernel
theorem rt_X2_namesOf_36 : mx_ka dm_X2_namesOf 36 := ⟨by decide +kernel, _, rfl, rfl⟩
theorem bk_X2_keyHere_0 : mx_blk 2 cX2_keyHere 0 [.inl (.aload 0), .inl (.getfield 131), .inr (.int (-2))] 6 = true := by decide +kernel
theorem br_X2_keyHere_6 : mx_brk cX2_keyHere 6 (.if_icmp .eq 5) 11 9 = true := by decide +kernel
theorem bk_X2_keyHere_9 : mx_blk 2 cX2_keyHere 9 [.inr (.int (-1))] 10 = true := by decide +kernel
theorem rt_X2_keyHere_10 : mx_kr dm_X2_keyHere 10 .int := ⟨by decide +kernel, rfl⟩
theorem bk_X2_keyHere_11 : mx_blk 2 cX2_keyHere 11 [.inl (.aload 0)] 12 = true := by decide +kernel
theorem dd_X2_keyHere_12 : decode cX2_keyHere 12 = .ok (.ldc 108, 2) := by decide +kernel
theorem kc_X2_keyHere_14 : mx_kV dm_X2_keyHere 14 dm_X2_spells 2 1 := ⟨110, by decide +kernel, md_X2_spells, cv_X2_110, by decide, by decide +kernel⟩
theorem br_X2_keyHere_17 : mx_brk cX2_keyHere 17 (.ifCond .eq 5) 22 20 = true := by decide +kernel
theorem bk_X2_keyHere_20 : mx_blk 2 cX2_keyHere 20 [.inr (.int 0)] 21 = true := by decide +kernel
theorem rt_X2_keyHere_21 : mx_kr dm_X2_keyHere 21 .int := ⟨by decide +kernel, rfl⟩
theorem bk_X2_keyHere_22 : mx_blk 2 cX2_keyHere 22 [.inl (.aload 0)] 23 = true := by decide +kernel
theorem dd_X2_keyHere_23 : decode cX2_keyHere 23 = .ok (.ldc 114, 2) := by decide +kernel
theorem kc_X2_keyHere_25 : mx_kV dm_X2_keyHere 25 dm_X2_spells 2 1 := ⟨110, by decide +kernel, md_X2_spells, cv_X2_110, by decide, by decide +kernel⟩
theorem br_X2_keyHere_28 : mx_brk cX2_keyHere 28 (.ifCond .eq 5) 33 31 = true := by decide +kernel
theorem bk_X2_keyHere_31 : mx_blk 2 cX2_keyHere 31 [.inr (.int 1)] 32 = true := by decide +kernel
theorem rt_X2_keyHere_32 : mx_kr dm_X2_keyHere 32 .int := ⟨by decide +kernel, rfl⟩
theorem bk_X2_keyHere_33 : mx_blk 2 cX2_keyHere 33 [.inl (.aload 0)] 34 = true := by decide +kernel
theorem dd_X2_keyHere_34 : decode cX2_keyHere 34 = .ok (.ldc 116, 2) := by decide +kernel
theorem kc_X2_keyHere_36 : mx_kV dm_X2_keyHere 36 dm_X2_spells 2 1 := ⟨110, by decide +kernel, md_X2_spells, cv_X2_110, by decide, by decide +kernel⟩
theorem br_X2_keyHere_39 : mx_brk cX2_keyHere 39 (.ifCond .eq 7) 46 42 = true := by decide +kernel
theorem bk_X2_keyHere_42 : mx_blk 2 cX2_keyHere 42 [.inr (.int 2)] 43 = true := by decide +kernel
theorem gt_X2_keyHere_43 : mx_jmp cX2_keyHere 43 47 = true := by decide +kernel
theorem bk_X2_keyHere_46 : mx_blk 2 cX2_keyHere 46 [.inr (.int (-1))] 47 = true := by decide +kernel
theorem rt_X2_keyHere_47 : mx_kr dm_X2_keyHere 47 .int := ⟨by decide +kernel, rfl⟩
theorem bk_X2_spells_0 : mx_blk 2 cX2_spells 0 [.inl (.aload 0), .inl (.getfield 133), .inl (.aload 0), .inl (.getfield 132), .inl .isub, .inl (.aload 1)] 10 = true := by decide +kernel
theorem kc_X2_spells_10 : mx_kT dm_X2_spells 10 dm_J0_length_8abf5 0 := ⟨118, by decide +kernel, md_J0_length_8abf5, cv_X2_118, by decide +kernel⟩
theorem br_X2_spells_13 : mx_brk cX2_spells 13 (.if_icmp .eq 5) 18 16 = true := by decide +kernel
theorem bk_X2_spells_16 : mx_blk 2 cX2_spells 16 [.inr (.int 0)] 17 = true := by decide +kernel
theorem rt_X2_spells_17 : mx_kr dm_X2_spells 17 .boolean := ⟨by decide +kernel, rfl⟩
theorem bk_X2_spells_18 : mx_blk 2 cX2_spells 18 [.inr (.int 0), .inl (.istore 2)] 20 = true := by decide +kernel
theorem bk_X2_spells_20 : mx_blk 2 cX2_spells 20 [.inl (.iload 2), .inl (.aload 1)] 22 = true := by decide +kernel
theorem kc_X2_spells_22 : mx_kT dm_X2_spells 22 dm_J0_length_8abf5 0 := ⟨118, by decide +kernel, md_J0_length_8abf5, cv_X2_118, by decide +kernel⟩
theorem br_X2_spells_25 : mx_brk cX2_spells 25 (.if_icmp .ge 29) 54 28 = true := by decide +kernel
theorem bk_X2_spells_28 : mx_blk 2 cX2_spells 28 [.inl (.aload 0), .inl (.aload 0), .inl (.getfield 132), .inl (.iload 2), .inl .iadd] 35 = true := by decide +kernel
theorem kc_X2_spells_35 : mx_kV dm_X2_spells 35 dm_X2_byteAt 2 1 := ⟨84, by decide +kernel, md_X2_byteAt, cv_X2_84, by decide, by decide +kernel⟩
theorem bk_X2_spells_38 : mx_blk 2 cX2_spells 38 [.inl (.aload 1), .inl (.iload 2)] 40 = true := by decide +kernel
theorem kc_X2_spells_40 : mx_kT dm_X2_spells 40 dm_J0_charAt_5068e 1 := ⟨120, by decide +kernel, md_J0_charAt_5068e, cv_X2_120, by decide +kernel⟩
theorem br_X2_spells_43 : mx_brk cX2_spells 43 (.if_icmp .eq 5) 48 46 = true := by decide +kernel
theorem bk_X2_spells_46 : mx_blk 2 cX2_spells 46 [.inr (.int 0)] 47 = true := by decide +kernel
theorem rt_X2_spells_47 : mx_kr dm_X2_spells 47 .boolean := ⟨by decide +kernel, rfl⟩
theorem bk_X2_spells_48 : mx_blk 2 cX2_spells 48 [.inl (.iinc 2 1)] 51 = true := by decide +kernel
theorem gt_X2_spells_51 : mx_jmp cX2_spells 51 20 = true := by decide +kernel
theorem bk_X2_spells_54 : mx_blk 2 cX2_spells 54 [.inr (.int 1)] 55 = true := by decide +kernel
theorem rt_X2_spells_55 : mx_kr dm_X2_spells 55 .boolean := ⟨by decide +kernel, rfl⟩
theorem bk_X2_goOn_0 : mx_blk 2 cX2_goOn 0 [.inl (.aload 0), .inl (.getfield 131), .inr (.int (-2))] 6 = true := by decide +kernel
theorem br_X2_goOn_6 : mx_brk cX2_goOn 6 (.if_icmp .eq 12) 18 9 = true := by decide +kernel
theorem bk_X2_goOn_9 : mx_blk 2 cX2_goOn 9 [.inl (.aload 0), .inl (.getfield 131), .inr (.int (-3))] 15 = true := by decide +kernel
theorem br_X2_goOn_15 : mx_brk cX2_goOn 15 (.if_icmp .ne 7) 22 18 = true := by decide +kernel
theorem bk_X2_goOn_18 : mx_blk 2 cX2_goOn 18 [.inr (.int 1)] 19 = true := by decide +kernel
theorem gt_X2_goOn_19 : mx_jmp cX2_goOn 19 23 = true := by decide +kernel
theorem bk_X2_goOn_22 : mx_blk 2 cX2_goOn 22 [.inr (.int 0)] 23 = true := by decide +kernel
theorem bk_X2_goOn_23 : mx_blk 2 cX2_goOn 23 [.inl (.istore 1), .inl (.aload 0), .inl (.aload 0), .inl (.getfield 133), .inl (.putfield 132)] 32 = true := by decide +kernel
theorem bk_X2_goOn_32 : mx_blk 2 cX2_goOn 32 [.inl (.aload 0), .inl (.getfield 132), .inl (.aload 0), .inl (.getfield 129)] 40 = true := by decide +kernel
theorem br_X2_goOn_40 : mx_brk cX2_goOn 40 (.if_icmp .ge 29) 69 43 = true := by decide +kernel
theorem bk_X2_goOn_43 : mx_blk 2 cX2_goOn 43 [.inl (.aload 0), .inl (.aload 0), .inl (.getfield 132)] 48 = true := by decide +kernel
theorem kc_X2_goOn_48 : mx_kV dm_X2_goOn 48 dm_X2_byteAt 2 1 := ⟨84, by decide +kernel, md_X2_byteAt, cv_X2_84, by decide, by decide +kernel⟩
theorem bk_X2_goOn_51 : mx_blk 2 cX2_goOn 51 [.inr (.int 32)] 53 = true := by decide +kernel
theorem br_X2_goOn_53 : mx_brk cX2_goOn 53 (.if_icmp .ne 16) 69 56 = true := by decide +kernel
theorem bk_X2_goOn_56 : mx_blk 2 cX2_goOn 56 [.inl (.aload 0), .inl .dup, .inl (.getfield 132), .inr (.int 1), .inl .iadd, .inl (.putfield 132)] 66 = true := by decide +kernel
theorem gt_X2_goOn_66 : mx_jmp cX2_goOn 66 32 = true := by decide +kernel
theorem bk_X2_goOn_69 : mx_blk 2 cX2_goOn 69 [.inl (.aload 0), .inl (.iload 1)] 71 = true := by decide +kernel
theorem br_X2_goOn_71 : mx_brk cX2_goOn 71 (.ifCond .eq 18) 89 74 = true := by decide +kernel
theorem bk_X2_goOn_74 : mx_blk 2 cX2_goOn 74 [.inl (.aload 0), .inl (.getfield 132), .inl (.aload 0), .inl (.getfield 133)] 82 = true := by decide +kernel
theorem br_X2_goOn_82 : mx_brk cX2_goOn 82 (.if_icmp .ne 7) 89 85 = true := by decide +kernel
theorem bk_X2_goOn_85 : mx_blk 2 cX2_goOn 85 [.inr (.int 1)] 86 = true := by decide +kernel
theorem gt_X2_goOn_86 : mx_jmp cX2_goOn 86 90 = true := by decide +kernel
theorem bk_X2_goOn_89 : mx_blk 2 cX2_goOn 89 [.inr (.int 0)] 90 = true := by decide +kernel
theorem bk_X2_goOn_90 : mx_blk 2 cX2_goOn 90 [.inl (.putfield 134), .inl (.aload 0), .inl (.aload 0), .inl (.getfield 132), .inl (.aload 0), .inl (.getfield 129)] 102 = true := by decide +kernel
theorem br_X2_goOn_102 : mx_brk cX2_goOn 102 (.if_icmp .ge 17) 119 105 = true := by decide +kernel
theorem bk_X2_goOn_105 : mx_blk 2 cX2_goOn 105 [.inl (.aload 0), .inl (.aload 0), .inl (.getfield 132)] 110 = true := by decide +kernel
theorem kc_X2_goOn_110 : mx_kV dm_X2_goOn 110 dm_X2_byteAt 2 1 := ⟨84, by decide +kernel, md_X2_byteAt, cv_X2_84, by decide, by decide +kernel⟩
theorem kc_X2_goOn_113 : mx_kS dm_X2_goOn 113 dm_X2_sortOf 1 := ⟨124, by decide +kernel, md_X2_sortOf, cs_X2_124⟩
theorem gt_X2_goOn_116 : mx_jmp cX2_goOn 116 120 = true := by decide +kernel
theorem bk_X2_goOn_119 : mx_blk 2 cX2_goOn 119 [.inr (.int (-1))] 120 = true := by decide +kernel
theorem bk_X2_goOn_120 : mx_blk 2 cX2_goOn 120 [.inl (.putfield 131), .inl (.aload 0), .inl (.aload 0), .inl (.getfield 132), .inr (.int 1), .inl .iadd, .inl (.aload 0), .inl (.getfield 129)] 134 = true := by decide +kernel
theorem kc_X2_goOn_134 : mx_km dm_X2_goOn 134 Lib.Math.min.name := ⟨39, by decide +kernel, mx_gw (i := 602) (by decide +kernel)⟩
theorem bk_X2_goOn_137 : mx_blk 2 cX2_goOn 137 [.inl (.putfield 133), .inl (.aload 0), .inl (.getfield 131), .inr (.int (-2))] 146 = true := by decide +kernel
theorem br_X2_goOn_146 : mx_brk cX2_goOn 146 (.if_icmp .eq 12) 158 149 = true := by decide +kernel
theorem bk_X2_goOn_149 : mx_blk 2 cX2_goOn 149 [.inl (.aload 0), .inl (.getfield 131), .inr (.int (-3))] 155 = true := by decide +kernel
theorem br_X2_goOn_155 : mx_brk cX2_goOn 155 (.if_icmp .ne 45) 200 158 = true := by decide +kernel
theorem bk_X2_goOn_158 : mx_blk 2 cX2_goOn 158 [.inl (.aload 0), .inl (.getfield 133), .inl (.aload 0), .inl (.getfield 129)] 166 = true := by decide +kernel
theorem br_X2_goOn_166 : mx_brk cX2_goOn 166 (.if_icmp .ge 34) 200 169 = true := by decide +kernel
theorem bk_X2_goOn_169 : mx_blk 2 cX2_goOn 169 [.inl (.aload 0), .inl (.aload 0), .inl (.getfield 133)] 174 = true := by decide +kernel
theorem kc_X2_goOn_174 : mx_kV dm_X2_goOn 174 dm_X2_byteAt 2 1 := ⟨84, by decide +kernel, md_X2_byteAt, cv_X2_84, by decide, by decide +kernel⟩
theorem kc_X2_goOn_177 : mx_kS dm_X2_goOn 177 dm_X2_sortOf 1 := ⟨124, by decide +kernel, md_X2_sortOf, cs_X2_124⟩
theorem bk_X2_goOn_180 : mx_blk 2 cX2_goOn 180 [.inl (.aload 0), .inl (.getfield 131)] 184 = true := by decide +kernel
theorem br_X2_goOn_184 : mx_brk cX2_goOn 184 (.if_icmp .ne 16) 200 187 = true := by decide +kernel
theorem bk_X2_goOn_187 : mx_blk 2 cX2_goOn 187 [.inl (.aload 0), .inl .dup, .inl (.getfield 133), .inr (.int 1), .inl .iadd, .inl (.putfield 133)] 197 = true := by decide +kernel
theorem gt_X2_goOn_197 : mx_jmp cX2_goOn 197 158 = true := by decide +kernel
theorem rt_X2_goOn_200 : mx_kv dm_X2_goOn 200 := ⟨by decide +kernel, rfl⟩
theorem bk_X2_sortOf_0 : mx_blk 2 cX2_sortOf 0 [.inl (.iload 0), .inr (.int 97)] 3 = true := by decide +kernel
theorem br_X2_sortOf_3 : mx_brk cX2_sortOf 3 (.if_icmp .lt 12) 15 6 = true := by decide +kernel
theorem bk_X2_sortOf_6 : mx_blk 2 cX2_sortOf 6 [.inl (.iload 0), .inr (.int 122)] 9 = true := by decide +kernel
theorem br_X2_sortOf_9 : mx_brk cX2_sortOf 9 (.if_icmp .gt 6) 15 12 = true := by decide +kernel
theorem bk_X2_sortOf_12 : mx_blk 2 cX2_sortOf 12 [.inr (.int (-2))] 14 = true := by decide +kernel
theorem rt_X2_sortOf_14 : mx_kr dm_X2_sortOf 14 .int := ⟨by decide +kernel, rfl⟩
theorem bk_X2_sortOf_15 : mx_blk 2 cX2_sortOf 15 [.inl (.iload 0), .inr (.int 48)] 18 = true := by decide +kernel
theorem br_X2_sortOf_18 : mx_brk cX2_sortOf 18 (.if_icmp .lt 14) 32 21 = true := by decide +kernel
theorem bk_X2_sortOf_21 : mx_blk 2 cX2_sortOf 21 [.inl (.iload 0), .inr (.int 57)] 24 = true := by decide +kernel
theorem br_X2_sortOf_24 : mx_brk cX2_sortOf 24 (.if_icmp .gt 8) 32 27 = true := by decide +kernel
theorem bk_X2_sortOf_27 : mx_blk 2 cX2_sortOf 27 [.inr (.int (-3))] 29 = true := by decide +kernel
theorem gt_X2_sortOf_29 : mx_jmp cX2_sortOf 29 33 = true := by decide +kernel
theorem bk_X2_sortOf_32 : mx_blk 2 cX2_sortOf 32 [.inl (.iload 0)] 33 = true := by decide +kernel
theorem rt_X2_sortOf_33 : mx_kr dm_X2_sortOf 33 .int := ⟨by decide +kernel, rfl⟩
theorem bk_X2_byteAt_0 : mx_blk 2 cX2_byteAt 0 [.inl (.iload 1)] 1 = true := by decide +kernel
theorem br_X2_byteAt_1 : mx_brk cX2_byteAt 1 (.ifCond .lt 25) 26 4 = true := by decide +kernel
theorem bk_X2_byteAt_4 : mx_blk 2 cX2_byteAt 4 [.inl (.iload 1), .inl (.aload 0), .inl (.getfield 128), .inl .arraylength] 10 = true := by decide +kernel
theorem br_X2_byteAt_10 : mx_brk cX2_byteAt 10 (.if_icmp .ge 16) 26 13 = true := by decide +kernel
theorem bk_X2_byteAt_13 : mx_blk 2 cX2_byteAt 13 [.inl (.aload 0), .inl (.getfield 128), .inl (.iload 1), .inl .baload, .inr (.int 255), .inl .iand] 23 = true := by decide +kernel
theorem gt_X2_byteAt_23 : mx_jmp cX2_byteAt 23 27 = true := by decide +kernel
theorem bk_X2_byteAt_26 : mx_blk 2 cX2_byteAt 26 [.inr (.int 0)] 27 = true := by decide +kernel
theorem rt_X2_byteAt_27 : mx_kr dm_X2_byteAt 27 .int := ⟨by decide +kernel, rfl⟩
theorem bk_X3_init_0 : mx_blk 3 cX3_init 0 [.inl (.aload 0)] 1 = true := by decide +kernel
theorem kc_X3_init_1 : mx_ko dm_X3_init 1 := ⟨3, by decide +kernel, mx_gw (i := 242) (by decide +kernel)⟩
theorem bk_X3_init_4 : mx_blk 3 cX3_init 4 [.inl (.aload 0), .inr (.int 96)] 7 = true := by decide +kernel
theorem dd_X3_init_7 : decode cX3_init 7 = .ok (.newarray .int, 2) := by decide +kernel
theorem bk_X3_init_9 : mx_blk 3 cX3_init 9 [.inl (.putfield 192)] 12 = true := by decide +kernel
theorem rt_X3_init_12 : mx_kv dm_X3_init 12 := ⟨by decide +kernel, rfl⟩
theorem bk_X3_gives_0 : mx_blk 3 cX3_gives 0 [.inr (.int 0), .inl (.istore 5), .inr (.int 0), .inl (.istore 6)] 6 = true := by decide +kernel
theorem bk_X3_gives_6 : mx_blk 3 cX3_gives 6 [.inl (.iload 6), .inl (.aload 1), .inl (.getfield 66)] 12 = true := by decide +kernel
theorem br_X3_gives_12 : mx_brk cX3_gives 12 (.if_icmp .ge 148) 160 15 = true := by decide +kernel
theorem bk_X3_gives_15 : mx_blk 3 cX3_gives 15 [.inl (.aload 1), .inl (.getfield 67), .inl (.iload 6), .inl .iaload, .inl (.istore 7), .inl (.iload 7), .inr (.int (-3))] 28 = true := by decide +kernel
theorem br_X3_gives_28 : mx_brk cX3_gives 28 (.if_icmp .lt 45) 73 31 = true := by decide +kernel
theorem bk_X3_gives_31 : mx_blk 3 cX3_gives 31 [.inl (.iload 5), .inl (.aload 0), .inl (.getfield 192), .inl .arraylength] 38 = true := by decide +kernel
theorem br_X3_gives_38 : mx_brk cX3_gives 38 (.if_icmp .ge 116) 154 41 = true := by decide +kernel
theorem bk_X3_gives_41 : mx_blk 3 cX3_gives 41 [.inl (.aload 0), .inl (.getfield 192), .inl (.iload 5), .inl (.iload 7)] 49 = true := by decide +kernel
theorem br_X3_gives_49 : mx_brk cX3_gives 49 (.ifCond .lt 8) 57 52 = true := by decide +kernel
theorem bk_X3_gives_52 : mx_blk 3 cX3_gives 52 [.inl (.iload 7)] 54 = true := by decide +kernel
theorem gt_X3_gives_54 : mx_jmp cX3_gives 54 66 = true := by decide +kernel
theorem bk_X3_gives_57 : mx_blk 3 cX3_gives 57 [.inl (.iload 7), .inl (.iload 2), .inl (.iload 3), .inl (.iload 4)] 63 = true := by decide +kernel
theorem kc_X3_gives_63 : mx_kS dm_X3_gives 63 dm_X3_named 4 := ⟨24, by decide +kernel, md_X3_named, cs_X3_24⟩
theorem bk_X3_gives_66 : mx_blk 3 cX3_gives 66 [.inl .iastore, .inl (.iinc 5 1)] 70 = true := by decide +kernel
theorem gt_X3_gives_70 : mx_jmp cX3_gives 70 154 = true := by decide +kernel
theorem bk_X3_gives_73 : mx_blk 3 cX3_gives 73 [.inl (.iload 7), .inr (.int (-33))] 77 = true := by decide +kernel
theorem br_X3_gives_77 : mx_brk cX3_gives 77 (.if_icmp .ne 37) 114 80 = true := by decide +kernel
theorem bk_X3_gives_80 : mx_blk 3 cX3_gives 80 [.inl (.iload 5)] 82 = true := by decide +kernel
theorem br_X3_gives_82 : mx_brk cX3_gives 82 (.ifCond .le 72) 154 85 = true := by decide +kernel
theorem bk_X3_gives_85 : mx_blk 3 cX3_gives 85 [.inl (.aload 0), .inl (.getfield 192), .inl (.iload 5), .inr (.int 1), .inl .isub, .inl (.aload 0), .inl (.getfield 192), .inl (.iload 5), .inr (.int 1), .inl .isub, .inl .iaload] 102 = true := by decide +kernel
theorem br_X3_gives_102 : mx_brk cX3_gives 102 (.ifCond .ne 7) 109 105 = true := by decide +kernel
theorem bk_X3_gives_105 : mx_blk 3 cX3_gives 105 [.inr (.int 1)] 106 = true := by decide +kernel
theorem gt_X3_gives_106 : mx_jmp cX3_gives 106 110 = true := by decide +kernel
theorem bk_X3_gives_109 : mx_blk 3 cX3_gives 109 [.inr (.int 0)] 110 = true := by decide +kernel
theorem bk_X3_gives_110 : mx_blk 3 cX3_gives 110 [.inl .iastore] 111 = true := by decide +kernel
theorem gt_X3_gives_111 : mx_jmp cX3_gives 111 154 = true := by decide +kernel
theorem bk_X3_gives_114 : mx_blk 3 cX3_gives 114 [.inl (.iload 5), .inr (.int 1)] 117 = true := by decide +kernel
theorem br_X3_gives_117 : mx_brk cX3_gives 117 (.if_icmp .le 37) 154 120 = true := by decide +kernel
theorem bk_X3_gives_120 : mx_blk 3 cX3_gives 120 [.inl (.iinc 5 (-1)), .inl (.aload 0), .inl (.getfield 192), .inl (.iload 5), .inr (.int 1), .inl .isub, .inl (.iload 7), .inl .ineg, .inl (.aload 0), .inl (.getfield 192), .inl (.iload 5), .inr (.int 1), .inl .isub, .inl .iaload, .inl (.aload 0), .inl (.getfield 192), .inl (.iload 5), .inl .iaload] 150 = true := by decide +kernel
theorem kc_X3_gives_150 : mx_kS dm_X3_gives 150 dm_X3_joined 3 := ⟨28, by decide +kernel, md_X3_joined, cs_X3_28⟩
theorem bk_X3_gives_153 : mx_blk 3 cX3_gives 153 [.inl .iastore] 154 = true := by decide +kernel
theorem bk_X3_gives_154 : mx_blk 3 cX3_gives 154 [.inl (.iinc 6 1)] 157 = true := by decide +kernel
theorem gt_X3_gives_157 : mx_jmp cX3_gives 157 6 = true := by decide +kernel
theorem bk_X3_gives_160 : mx_blk 3 cX3_gives 160 [.inl (.iload 5)] 162 = true := by decide +kernel
theorem br_X3_gives_162 : mx_brk cX3_gives 162 (.ifCond .le 12) 174 165 = true := by decide +kernel
theorem bk_X3_gives_165 : mx_blk 3 cX3_gives 165 [.inl (.aload 0), .inl (.getfield 192), .inr (.int 0), .inl .iaload] 171 = true := by decide +kernel
theorem gt_X3_gives_171 : mx_jmp cX3_gives 171 175 = true := by decide +kernel
theorem bk_X3_gives_174 : mx_blk 3 cX3_gives 174 [.inr (.int 0)] 175 = true := by decide +kernel
theorem rt_X3_gives_175 : mx_kr dm_X3_gives 175 .int := ⟨by decide +kernel, rfl⟩
theorem bk_X3_named_0 : mx_blk 3 cX3_named 0 [.inl (.iload 0), .inr (.int (-1))] 2 = true := by decide +kernel
theorem br_X3_named_2 : mx_brk cX3_named 2 (.if_icmp .ne 5) 7 5 = true := by decide +kernel
theorem bk_X3_named_5 : mx_blk 3 cX3_named 5 [.inl (.iload 1)] 6 = true := by decide +kernel
theorem rt_X3_named_6 : mx_kr dm_X3_named 6 .int := ⟨by decide +kernel, rfl⟩
theorem bk_X3_named_7 : mx_blk 3 cX3_named 7 [.inl (.iload 0), .inr (.int (-2))] 10 = true := by decide +kernel
theorem br_X3_named_10 : mx_brk cX3_named 10 (.if_icmp .ne 7) 17 13 = true := by decide +kernel
theorem bk_X3_named_13 : mx_blk 3 cX3_named 13 [.inl (.iload 2)] 14 = true := by decide +kernel
theorem gt_X3_named_14 : mx_jmp cX3_named 14 18 = true := by decide +kernel
theorem bk_X3_named_17 : mx_blk 3 cX3_named 17 [.inl (.iload 3)] 18 = true := by decide +kernel
theorem rt_X3_named_18 : mx_kr dm_X3_named 18 .int := ⟨by decide +kernel, rfl⟩
theorem bk_X3_joined_0 : mx_blk 3 cX3_joined 0 [.inl (.iload 0)] 1 = true := by decide +kernel
theorem sw_X3_joined_1 : mx_swk cX3_joined 1 [(38, 173), (39, 187), (40, 187), (41, 187), (42, 124), (43, 116), (44, 187), (45, 120), (46, 187), (47, 128), (48, 187), (49, 187), (50, 187), (51, 187), (52, 187), (53, 187), (54, 187), (55, 187), (56, 187), (57, 187), (58, 187), (59, 187), (60, 140), (61, 151), (62, 162)] 187 = true := by decide +kernel
theorem bk_X3_joined_116 : mx_blk 3 cX3_joined 116 [.inl (.iload 1), .inl (.iload 2), .inl .iadd] 119 = true := by decide +kernel
theorem rt_X3_joined_119 : mx_kr dm_X3_joined 119 .int := ⟨by decide +kernel, rfl⟩
theorem bk_X3_joined_120 : mx_blk 3 cX3_joined 120 [.inl (.iload 1), .inl (.iload 2), .inl .isub] 123 = true := by decide +kernel
theorem rt_X3_joined_123 : mx_kr dm_X3_joined 123 .int := ⟨by decide +kernel, rfl⟩
theorem bk_X3_joined_124 : mx_blk 3 cX3_joined 124 [.inl (.iload 1), .inl (.iload 2), .inl .imul] 127 = true := by decide +kernel
theorem rt_X3_joined_127 : mx_kr dm_X3_joined 127 .int := ⟨by decide +kernel, rfl⟩
theorem bk_X3_joined_128 : mx_blk 3 cX3_joined 128 [.inl (.iload 2)] 129 = true := by decide +kernel
theorem br_X3_joined_129 : mx_brk cX3_joined 129 (.ifCond .ne 7) 136 132 = true := by decide +kernel
theorem bk_X3_joined_132 : mx_blk 3 cX3_joined 132 [.inr (.int 0)] 133 = true := by decide +kernel
theorem gt_X3_joined_133 : mx_jmp cX3_joined 133 139 = true := by decide +kernel
theorem bk_X3_joined_136 : mx_blk 3 cX3_joined 136 [.inl (.iload 1), .inl (.iload 2), .inl .idiv] 139 = true := by decide +kernel
theorem rt_X3_joined_139 : mx_kr dm_X3_joined 139 .int := ⟨by decide +kernel, rfl⟩
theorem bk_X3_joined_140 : mx_blk 3 cX3_joined 140 [.inl (.iload 1), .inl (.iload 2)] 142 = true := by decide +kernel
theorem br_X3_joined_142 : mx_brk cX3_joined 142 (.if_icmp .ge 7) 149 145 = true := by decide +kernel
theorem bk_X3_joined_145 : mx_blk 3 cX3_joined 145 [.inr (.int 1)] 146 = true := by decide +kernel
theorem gt_X3_joined_146 : mx_jmp cX3_joined 146 150 = true := by decide +kernel
theorem bk_X3_joined_149 : mx_blk 3 cX3_joined 149 [.inr (.int 0)] 150 = true := by decide +kernel
theorem rt_X3_joined_150 : mx_kr dm_X3_joined 150 .int := ⟨by decide +kernel, rfl⟩
theorem bk_X3_joined_151 : mx_blk 3 cX3_joined 151 [.inl (.iload 1), .inl (.iload 2)] 153 = true := by decide +kernel
theorem br_X3_joined_153 : mx_brk cX3_joined 153 (.if_icmp .ne 7) 160 156 = true := by decide +kernel
theorem bk_X3_joined_156 : mx_blk 3 cX3_joined 156 [.inr (.int 1)] 157 = true := by decide +kernel
theorem gt_X3_joined_157 : mx_jmp cX3_joined 157 161 = true := by decide +kernel
theorem bk_X3_joined_160 : mx_blk 3 cX3_joined 160 [.inr (.int 0)] 161 = true := by decide +kernel
theorem rt_X3_joined_161 : mx_kr dm_X3_joined 161 .int := ⟨by decide +kernel, rfl⟩
theorem bk_X3_joined_162 : mx_blk 3 cX3_joined 162 [.inl (.iload 1), .inl (.iload 2)] 164 = true := by decide +kernel
theorem br_X3_joined_164 : mx_brk cX3_joined 164 (.if_icmp .le 7) 171 167 = true := by decide +kernel
theorem bk_X3_joined_167 : mx_blk 3 cX3_joined 167 [.inr (.int 1)] 168 = true := by decide +kernel
theorem gt_X3_joined_168 : mx_jmp cX3_joined 168 172 = true := by decide +kernel
theorem bk_X3_joined_171 : mx_blk 3 cX3_joined 171 [.inr (.int 0)] 172 = true := by decide +kernel
theorem rt_X3_joined_172 : mx_kr dm_X3_joined 172 .int := ⟨by decide +kernel, rfl⟩
theorem bk_X3_joined_173 : mx_blk 3 cX3_joined 173 [.inl (.iload 1)] 174 = true := by decide +kernel
theorem br_X3_joined_174 : mx_brk cX3_joined 174 (.ifCond .eq 11) 185 177 = true := by decide +kernel
theorem bk_X3_joined_177 : mx_blk 3 cX3_joined 177 [.inl (.iload 2)] 178 = true := by decide +kernel
theorem br_X3_joined_178 : mx_brk cX3_joined 178 (.ifCond .eq 7) 185 181 = true := by decide +kernel
theorem bk_X3_joined_181 : mx_blk 3 cX3_joined 181 [.inr (.int 1)] 182 = true := by decide +kernel
theorem gt_X3_joined_182 : mx_jmp cX3_joined 182 186 = true := by decide +kernel
theorem bk_X3_joined_185 : mx_blk 3 cX3_joined 185 [.inr (.int 0)] 186 = true := by decide +kernel
theorem rt_X3_joined_186 : mx_kr dm_X3_joined 186 .int := ⟨by decide +kernel, rfl⟩
theorem bk_X3_joined_187 : mx_blk 3 cX3_joined 187 [.inl (.iload 1)] 188 = true := by decide +kernel
theorem br_X3_joined_188 : mx_brk cX3_joined 188 (.ifCond .ne 7) 195 191 = true := by decide +kernel
theorem bk_X3_joined_191 : mx_blk 3 cX3_joined 191 [.inl (.iload 2)] 192 = true := by decide +kernel
theorem br_X3_joined_192 : mx_brk cX3_joined 192 (.ifCond .eq 7) 199 195 = true := by decide +kernel
theorem bk_X3_joined_195 : mx_blk 3 cX3_joined 195 [.inr (.int 1)] 196 = true := by decide +kernel
theorem gt_X3_joined_196 : mx_jmp cX3_joined 196 200 = true := by decide +kernel
theorem bk_X3_joined_199 : mx_blk 3 cX3_joined 199 [.inr (.int 0)] 200 = true := by decide +kernel
theorem rt_X3_joined_200 : mx_kr dm_X3_joined 200 .int := ⟨by decide +kernel, rfl⟩
theorem bk_X4_init_0 : mx_blk 4 cX4_init 0 [.inl (.aload 0)] 1 = true := by decide +kernel
theorem kc_X4_init_1 : mx_ko dm_X4_init 1 := ⟨3, by decide +kernel, mx_gw (i := 146) (by decide +kernel)⟩
theorem bk_X4_init_4 : mx_blk 4 cX4_init 4 [.inl (.aload 0), .inr (.int (-1)), .inl (.putfield 256), .inl (.aload 0), .inr (.int 0), .inl (.putfield 257), .inl (.aload 0), .inr (.int 24)] 17 = true := by decide +kernel
theorem dd_X4_init_17 : decode cX4_init 17 = .ok (.newarray .int, 2) := by decide +kernel
theorem bk_X4_init_19 : mx_blk 4 cX4_init 19 [.inl (.putfield 258)] 22 = true := by decide +kernel
theorem rt_X4_init_22 : mx_kv dm_X4_init 22 := ⟨by decide +kernel, rfl⟩
theorem bk_X4_become_0 : mx_blk 4 cX4_become 0 [.inl (.aload 0), .inl (.iload 1), .inl (.putfield 256), .inl (.aload 0), .inl (.iload 2), .inl (.putfield 257), .inr (.int 0), .inl (.istore 3)] 12 = true := by decide +kernel
theorem bk_X4_become_12 : mx_blk 4 cX4_become 12 [.inl (.iload 3), .inl (.aload 0), .inl (.getfield 258), .inl .arraylength] 18 = true := by decide +kernel
theorem br_X4_become_18 : mx_brk cX4_become 18 (.if_icmp .ge 16) 34 21 = true := by decide +kernel
theorem bk_X4_become_21 : mx_blk 4 cX4_become 21 [.inl (.aload 0), .inl (.getfield 258), .inl (.iload 3), .inr (.int 0), .inl .iastore, .inl (.iinc 3 1)] 31 = true := by decide +kernel
theorem gt_X4_become_31 : mx_jmp cX4_become 31 12 = true := by decide +kernel
theorem rt_X4_become_34 : mx_kv dm_X4_become 34 := ⟨by decide +kernel, rfl⟩
theorem bk_X4_becomeLike_0 : mx_blk 4 cX4_becomeLike 0 [.inl (.aload 0), .inl (.aload 1), .inl (.getfield 256), .inl (.putfield 256), .inl (.aload 0), .inl (.aload 1), .inl (.getfield 257), .inl (.putfield 257), .inl (.aload 1), .inl (.getfield 258), .inr (.int 0), .inl (.aload 0), .inl (.getfield 258), .inr (.int 0), .inl (.aload 0), .inl (.getfield 258), .inl .arraylength] 31 = true := by decide +kernel
theorem kc_X4_becomeLike_31 : mx_km dm_X4_becomeLike 31 arraycopyName := ⟨22, by decide +kernel, mx_gw (i := 843) (by decide +kernel)⟩
theorem rt_X4_becomeLike_34 : mx_kv dm_X4_becomeLike 34 := ⟨by decide +kernel, rfl⟩
theorem bk_X4_isMissing_0 : mx_blk 4 cX4_isMissing 0 [.inl (.aload 0), .inl (.getfield 256), .inr (.int (-1))] 5 = true := by decide +kernel
theorem br_X4_isMissing_5 : mx_brk cX4_isMissing 5 (.if_icmp .ne 7) 12 8 = true := by decide +kernel
theorem bk_X4_isMissing_8 : mx_blk 4 cX4_isMissing 8 [.inr (.int 1)] 9 = true := by decide +kernel
theorem gt_X4_isMissing_9 : mx_jmp cX4_isMissing 9 13 = true := by decide +kernel
theorem bk_X4_isMissing_12 : mx_blk 4 cX4_isMissing 12 [.inr (.int 0)] 13 = true := by decide +kernel
theorem rt_X4_isMissing_13 : mx_kr dm_X4_isMissing 13 .boolean := ⟨by decide +kernel, rfl⟩
theorem bk_X4_has_0 : mx_blk 4 cX4_has 0 [.inl (.iload 1)] 1 = true := by decide +kernel
theorem br_X4_has_1 : mx_brk cX4_has 1 (.ifCond .lt 15) 16 4 = true := by decide +kernel
theorem bk_X4_has_4 : mx_blk 4 cX4_has 4 [.inl (.iload 1), .inl (.aload 0), .inl (.getfield 257)] 9 = true := by decide +kernel
theorem br_X4_has_9 : mx_brk cX4_has 9 (.if_icmp .ge 7) 16 12 = true := by decide +kernel
theorem bk_X4_has_12 : mx_blk 4 cX4_has 12 [.inr (.int 1)] 13 = true := by decide +kernel
theorem gt_X4_has_13 : mx_jmp cX4_has 13 17 = true := by decide +kernel
theorem bk_X4_has_16 : mx_blk 4 cX4_has 16 [.inr (.int 0)] 17 = true := by decide +kernel
theorem rt_X4_has_17 : mx_kr dm_X4_has 17 .boolean := ⟨by decide +kernel, rfl⟩
theorem bk_X4_hasRun_0 : mx_blk 4 cX4_hasRun 0 [.inl (.iload 2)] 1 = true := by decide +kernel
theorem br_X4_hasRun_1 : mx_brk cX4_hasRun 1 (.ifCond .lt 29) 30 4 = true := by decide +kernel
theorem bk_X4_hasRun_4 : mx_blk 4 cX4_hasRun 4 [.inl (.iload 1)] 5 = true := by decide +kernel
theorem br_X4_hasRun_5 : mx_brk cX4_hasRun 5 (.ifCond .lt 25) 30 8 = true := by decide +kernel
theorem bk_X4_hasRun_8 : mx_blk 4 cX4_hasRun 8 [.inl (.iload 1), .inl (.aload 0), .inl (.getfield 257)] 13 = true := by decide +kernel
theorem br_X4_hasRun_13 : mx_brk cX4_hasRun 13 (.if_icmp .gt 17) 30 16 = true := by decide +kernel
theorem bk_X4_hasRun_16 : mx_blk 4 cX4_hasRun 16 [.inl (.iload 2), .inl (.aload 0), .inl (.getfield 257), .inl (.iload 1), .inl .isub] 23 = true := by decide +kernel
theorem br_X4_hasRun_23 : mx_brk cX4_hasRun 23 (.if_icmp .gt 7) 30 26 = true := by decide +kernel
theorem bk_X4_hasRun_26 : mx_blk 4 cX4_hasRun 26 [.inr (.int 1)] 27 = true := by decide +kernel
theorem gt_X4_hasRun_27 : mx_jmp cX4_hasRun 27 31 = true := by decide +kernel
theorem bk_X4_hasRun_30 : mx_blk 4 cX4_hasRun 30 [.inr (.int 0)] 31 = true := by decide +kernel
theorem rt_X4_hasRun_31 : mx_kr dm_X4_hasRun 31 .boolean := ⟨by decide +kernel, rfl⟩
theorem bk_X4_isNumberAt_0 : mx_blk 4 cX4_isNumberAt 0 [.inl (.aload 0), .inl (.iload 1)] 2 = true := by decide +kernel
theorem kc_X4_isNumberAt_2 : mx_kV dm_X4_isNumberAt 2 dm_X4_has 4 1 := ⟨28, by decide +kernel, md_X4_has, cv_X4_28, by decide, by decide +kernel⟩
theorem br_X4_isNumberAt_5 : mx_brk cX4_isNumberAt 5 (.ifCond .eq 18) 23 8 = true := by decide +kernel
theorem bk_X4_isNumberAt_8 : mx_blk 4 cX4_isNumberAt 8 [.inl (.aload 0), .inl (.getfield 258), .inl (.iload 1), .inl .iaload, .inr (.int (-1000000005))] 16 = true := by decide +kernel
theorem br_X4_isNumberAt_16 : mx_brk cX4_isNumberAt 16 (.if_icmp .eq 7) 23 19 = true := by decide +kernel
theorem bk_X4_isNumberAt_19 : mx_blk 4 cX4_isNumberAt 19 [.inr (.int 1)] 20 = true := by decide +kernel
theorem gt_X4_isNumberAt_20 : mx_jmp cX4_isNumberAt 20 24 = true := by decide +kernel
theorem bk_X4_isNumberAt_23 : mx_blk 4 cX4_isNumberAt 23 [.inr (.int 0)] 24 = true := by decide +kernel
theorem rt_X4_isNumberAt_24 : mx_kr dm_X4_isNumberAt 24 .boolean := ⟨by decide +kernel, rfl⟩
theorem bk_X4_hasNumberBehind_0 : mx_blk 4 cX4_hasNumberBehind 0 [.inl (.iload 1), .inr (.int 1), .inl .iadd, .inl (.istore 2)] 4 = true := by decide +kernel
theorem bk_X4_hasNumberBehind_4 : mx_blk 4 cX4_hasNumberBehind 4 [.inl (.iload 2), .inr (.int 6)] 7 = true := by decide +kernel
theorem br_X4_hasNumberBehind_7 : mx_brk cX4_hasNumberBehind 7 (.if_icmp .ge 27) 34 10 = true := by decide +kernel
theorem bk_X4_hasNumberBehind_10 : mx_blk 4 cX4_hasNumberBehind 10 [.inl (.iload 2), .inl (.aload 0), .inl (.getfield 257)] 15 = true := by decide +kernel
theorem br_X4_hasNumberBehind_15 : mx_brk cX4_hasNumberBehind 15 (.if_icmp .ge 19) 34 18 = true := by decide +kernel
theorem bk_X4_hasNumberBehind_18 : mx_blk 4 cX4_hasNumberBehind 18 [.inl (.aload 0), .inl (.iload 2)] 20 = true := by decide +kernel
theorem kc_X4_hasNumberBehind_20 : mx_kV dm_X4_hasNumberBehind 20 dm_X4_isNumberAt 4 1 := ⟨33, by decide +kernel, md_X4_isNumberAt, cv_X4_33, by decide, by decide +kernel⟩
theorem br_X4_hasNumberBehind_23 : mx_brk cX4_hasNumberBehind 23 (.ifCond .eq 5) 28 26 = true := by decide +kernel
theorem bk_X4_hasNumberBehind_26 : mx_blk 4 cX4_hasNumberBehind 26 [.inr (.int 1)] 27 = true := by decide +kernel
theorem rt_X4_hasNumberBehind_27 : mx_kr dm_X4_hasNumberBehind 27 .boolean := ⟨by decide +kernel, rfl⟩
theorem bk_X4_hasNumberBehind_28 : mx_blk 4 cX4_hasNumberBehind 28 [.inl (.iinc 2 1)] 31 = true := by decide +kernel
theorem gt_X4_hasNumberBehind_31 : mx_jmp cX4_hasNumberBehind 31 4 = true := by decide +kernel
theorem bk_X4_hasNumberBehind_34 : mx_blk 4 cX4_hasNumberBehind 34 [.inr (.int 0)] 35 = true := by decide +kernel
theorem rt_X4_hasNumberBehind_35 : mx_kr dm_X4_hasNumberBehind 35 .boolean := ⟨by decide +kernel, rfl⟩
theorem bk_X5_init_0 : mx_blk 5 cX5_init 0 [.inl (.aload 0)] 1 = true := by decide +kernel
theorem kc_X5_init_1 : mx_ko dm_X5_init 1 := ⟨3, by decide +kernel, mx_gw (i := 164) (by decide +kernel)⟩
theorem bk_X5_init_4 : mx_blk 5 cX5_init 4 [.inl (.aload 0), .inr (.int 0), .inl (.putfield 320), .inl (.aload 0), .inr (.int 0), .inl (.putfield 321), .inl (.aload 0)] 15 = true := by decide +kernel
theorem kc_X5_init_15 : mx_kn dm_X5_init 15 0 := ⟨18, by decide +kernel, by decide +kernel, by decide⟩
theorem bk_X5_init_18 : mx_blk 5 cX5_init 18 [.inl .dup] 19 = true := by decide +kernel
theorem kc_X5_init_19 : mx_kI dm_X5_init 19 dm_X0_init 0 := ⟨20, by decide +kernel, md_X0_init, ci_X5_20⟩
theorem bk_X5_init_22 : mx_blk 5 cX5_init 22 [.inl (.putfield 322), .inl (.aload 0)] 26 = true := by decide +kernel
theorem kc_X5_init_26 : mx_kn dm_X5_init 26 4 := ⟨25, by decide +kernel, by decide +kernel, by decide⟩
theorem bk_X5_init_29 : mx_blk 5 cX5_init 29 [.inl .dup] 30 = true := by decide +kernel
theorem kc_X5_init_30 : mx_kI dm_X5_init 30 dm_X4_init 0 := ⟨27, by decide +kernel, md_X4_init, ci_X5_27⟩
theorem bk_X5_init_33 : mx_blk 5 cX5_init 33 [.inl (.putfield 323)] 36 = true := by decide +kernel
theorem rt_X5_init_36 : mx_kv dm_X5_init 36 := ⟨by decide +kernel, rfl⟩
theorem bk_X6_init_0 : mx_blk 6 cX6_init 0 [.inl (.aload 0)] 1 = true := by decide +kernel
theorem kc_X6_init_1 : mx_ko dm_X6_init 1 := ⟨3, by decide +kernel, mx_gw (i := 234) (by decide +kernel)⟩
theorem bk_X6_init_4 : mx_blk 6 cX6_init 4 [.inl (.aload 0), .inr (.int 6)] 7 = true := by decide +kernel
theorem kc_X6_init_7 : mx_kq dm_X6_init 7 13 := ⟨9, by decide +kernel, by decide +kernel, by decide, by decide⟩
theorem bk_X6_init_10 : mx_blk 6 cX6_init 10 [.inl (.putfield 384), .inl (.aload 0), .inr (.int 3)] 15 = true := by decide +kernel
theorem dd_X6_init_15 : decode cX6_init 15 = .ok (.newarray .int, 2) := by decide +kernel
theorem bk_X6_init_17 : mx_blk 6 cX6_init 17 [.inl (.putfield 385), .inl (.aload 0)] 21 = true := by decide +kernel
theorem kc_X6_init_21 : mx_kn dm_X6_init 21 3 := ⟨21, by decide +kernel, by decide +kernel, by decide⟩
theorem bk_X6_init_24 : mx_blk 6 cX6_init 24 [.inl .dup] 25 = true := by decide +kernel
theorem kc_X6_init_25 : mx_kI dm_X6_init 25 dm_X3_init 0 := ⟨23, by decide +kernel, md_X3_init, ci_X6_23⟩
theorem bk_X6_init_28 : mx_blk 6 cX6_init 28 [.inl (.putfield 387), .inl (.aload 0), .inr (.int 0), .inl (.putfield 388), .inl (.aload 0), .inr (.int 0), .inl (.putfield 389), .inl (.aload 0), .inr (.int 20), .inl (.putfield 390), .inl (.aload 0), .inr (.int 2), .inl (.putfield 391), .inl (.aload 0), .inr (.int 2), .inl (.putfield 392), .inl (.aload 0), .inr (.int 1), .inl (.putfield 393), .inl (.aload 0), .inr (.int 0), .inl (.putfield 394), .inl (.aload 0), .inl (.aload 1), .inl (.putfield 386), .inr (.int 0), .inl (.istore 2)] 74 = true := by decide +kernel
theorem bk_X6_init_74 : mx_blk 6 cX6_init 74 [.inl (.iload 2), .inl (.aload 0), .inl (.getfield 384), .inl .arraylength] 80 = true := by decide +kernel
theorem br_X6_init_80 : mx_brk cX6_init 80 (.if_icmp .ge 22) 102 83 = true := by decide +kernel
theorem bk_X6_init_83 : mx_blk 6 cX6_init 83 [.inl (.aload 0), .inl (.getfield 384), .inl (.iload 2)] 88 = true := by decide +kernel
theorem kc_X6_init_88 : mx_kn dm_X6_init 88 0 := ⟨9, by decide +kernel, by decide +kernel, by decide⟩
theorem bk_X6_init_91 : mx_blk 6 cX6_init 91 [.inl .dup] 92 = true := by decide +kernel
theorem kc_X6_init_92 : mx_kI dm_X6_init 92 dm_X0_init 0 := ⟨54, by decide +kernel, md_X0_init, ci_X6_54⟩
theorem dd_X6_init_95 : decode cX6_init 95 = .ok (.aastore, 1) := by decide +kernel
theorem bk_X6_init_96 : mx_blk 6 cX6_init 96 [.inl (.iinc 2 1)] 99 = true := by decide +kernel
theorem gt_X6_init_99 : mx_jmp cX6_init 99 74 = true := by decide +kernel
theorem bk_X6_init_102 : mx_blk 6 cX6_init 102 [.inr (.int 0), .inl (.istore 2)] 104 = true := by decide +kernel
theorem bk_X6_init_104 : mx_blk 6 cX6_init 104 [.inl (.iload 2), .inl (.aload 0), .inl (.getfield 385), .inl .arraylength] 110 = true := by decide +kernel
theorem br_X6_init_110 : mx_brk cX6_init 110 (.if_icmp .ge 16) 126 113 = true := by decide +kernel
theorem bk_X6_init_113 : mx_blk 6 cX6_init 113 [.inl (.aload 0), .inl (.getfield 385), .inl (.iload 2), .inr (.int (-1)), .inl .iastore, .inl (.iinc 2 1)] 123 = true := by decide +kernel
theorem gt_X6_init_123 : mx_jmp cX6_init 123 104 = true := by decide +kernel
theorem rt_X6_init_126 : mx_kv dm_X6_init 126 := ⟨by decide +kernel, rfl⟩
theorem bk_X6_becomeLike_0 : mx_blk 6 cX6_becomeLike 0 [.inr (.int 0), .inl (.istore 2)] 2 = true := by decide +kernel
theorem bk_X6_becomeLike_2 : mx_blk 6 cX6_becomeLike 2 [.inl (.iload 2), .inl (.aload 1), .inl (.getfield 388)] 7 = true := by decide +kernel
theorem br_X6_becomeLike_7 : mx_brk cX6_becomeLike 7 (.if_icmp .ge 24) 31 10 = true := by decide +kernel
theorem bk_X6_becomeLike_10 : mx_blk 6 cX6_becomeLike 10 [.inl (.aload 0), .inl (.getfield 384), .inl (.iload 2), .inl (.anewarray 13), .inl (.aload 1), .inl (.getfield 384), .inl (.iload 2), .inl (.anewarray 13)] 22 = true := by decide +kernel
theorem kc_X6_becomeLike_22 : mx_kV dm_X6_becomeLike 22 dm_X0_becomeLike 0 1 := ⟨55, by decide +kernel, md_X0_becomeLike, cv_X6_55, by decide, by decide +kernel⟩
theorem bk_X6_becomeLike_25 : mx_blk 6 cX6_becomeLike 25 [.inl (.iinc 2 1)] 28 = true := by decide +kernel
theorem gt_X6_becomeLike_28 : mx_jmp cX6_becomeLike 28 2 = true := by decide +kernel
theorem bk_X6_becomeLike_31 : mx_blk 6 cX6_becomeLike 31 [.inr (.int 0), .inl (.istore 2)] 33 = true := by decide +kernel
theorem bk_X6_becomeLike_33 : mx_blk 6 cX6_becomeLike 33 [.inl (.iload 2), .inl (.aload 0), .inl (.getfield 385), .inl .arraylength] 39 = true := by decide +kernel
theorem br_X6_becomeLike_39 : mx_brk cX6_becomeLike 39 (.if_icmp .ge 21) 60 42 = true := by decide +kernel
theorem bk_X6_becomeLike_42 : mx_blk 6 cX6_becomeLike 42 [.inl (.aload 0), .inl (.getfield 385), .inl (.iload 2), .inl (.aload 1), .inl (.getfield 385), .inl (.iload 2), .inl .iaload, .inl .iastore, .inl (.iinc 2 1)] 57 = true := by decide +kernel
theorem gt_X6_becomeLike_57 : mx_jmp cX6_becomeLike 57 33 = true := by decide +kernel
theorem bk_X6_becomeLike_60 : mx_blk 6 cX6_becomeLike 60 [.inl (.aload 0), .inl (.aload 1), .inl (.getfield 388), .inl (.putfield 388), .inl (.aload 0), .inl (.aload 1), .inl (.getfield 389), .inl (.putfield 389), .inl (.aload 0), .inl (.aload 1), .inl (.getfield 390), .inl (.putfield 390), .inl (.aload 0), .inl (.aload 1), .inl (.getfield 391), .inl (.putfield 391), .inl (.aload 0), .inl (.aload 1), .inl (.getfield 392), .inl (.putfield 392), .inl (.aload 0), .inl (.aload 1), .inl (.getfield 393), .inl (.putfield 393), .inl (.aload 0), .inl (.aload 1), .inl (.getfield 394), .inl (.putfield 394)] 116 = true := by decide +kernel
theorem rt_X6_becomeLike_116 : mx_kv dm_X6_becomeLike 116 := ⟨by decide +kernel, rfl⟩
theorem bk_X6_has_0 : mx_blk 6 cX6_has 0 [.inl (.iload 1)] 1 = true := by decide +kernel
theorem br_X6_has_1 : mx_brk cX6_has 1 (.ifCond .lt 15) 16 4 = true := by decide +kernel
theorem bk_X6_has_4 : mx_blk 6 cX6_has 4 [.inl (.iload 1), .inl (.aload 0), .inl (.getfield 388)] 9 = true := by decide +kernel
theorem br_X6_has_9 : mx_brk cX6_has 9 (.if_icmp .ge 7) 16 12 = true := by decide +kernel
theorem bk_X6_has_12 : mx_blk 6 cX6_has 12 [.inr (.int 1)] 13 = true := by decide +kernel
theorem gt_X6_has_13 : mx_jmp cX6_has 13 17 = true := by decide +kernel
theorem bk_X6_has_16 : mx_blk 6 cX6_has 16 [.inr (.int 0)] 17 = true := by decide +kernel
theorem rt_X6_has_17 : mx_kr dm_X6_has 17 .boolean := ⟨by decide +kernel, rfl⟩
theorem bk_X6_addDistrict_0 : mx_blk 6 cX6_addDistrict 0 [.inl (.aload 0), .inl (.getfield 388), .inl (.aload 0), .inl (.getfield 384), .inl .arraylength] 9 = true := by decide +kernel
theorem br_X6_addDistrict_9 : mx_brk cX6_addDistrict 9 (.if_icmp .ge 27) 36 12 = true := by decide +kernel
theorem bk_X6_addDistrict_12 : mx_blk 6 cX6_addDistrict 12 [.inl (.aload 0), .inl (.getfield 384), .inl (.aload 0), .inl (.getfield 388), .inl (.anewarray 13), .inl (.iload 1), .inl (.iload 2)] 23 = true := by decide +kernel
theorem kc_X6_addDistrict_23 : mx_kV dm_X6_addDistrict 23 dm_X0_becomeNew 0 2 := ⟨59, by decide +kernel, md_X0_becomeNew, cv_X6_59, by decide, by decide +kernel⟩
theorem bk_X6_addDistrict_26 : mx_blk 6 cX6_addDistrict 26 [.inl (.aload 0), .inl .dup, .inl (.getfield 388), .inr (.int 1), .inl .iadd, .inl (.putfield 388)] 36 = true := by decide +kernel
theorem rt_X6_addDistrict_36 : mx_kv dm_X6_addDistrict 36 := ⟨by decide +kernel, rfl⟩
theorem bk_X6_addLaw_0 : mx_blk 6 cX6_addLaw 0 [.inl (.aload 0), .inl (.getfield 394), .inl (.istore 2), .inl (.iload 2), .inl (.aload 0), .inl (.getfield 386), .inl .arraylength] 11 = true := by decide +kernel
theorem br_X6_addLaw_11 : mx_brk cX6_addLaw 11 (.if_icmp .lt 6) 17 14 = true := by decide +kernel
theorem bk_X6_addLaw_14 : mx_blk 6 cX6_addLaw 14 [.inr (.int (-1000000003))] 16 = true := by decide +kernel
theorem rt_X6_addLaw_16 : mx_kr dm_X6_addLaw 16 .int := ⟨by decide +kernel, rfl⟩
theorem bk_X6_addLaw_17 : mx_blk 6 cX6_addLaw 17 [.inl (.aload 0), .inl (.getfield 386), .inl (.iload 2), .inl (.anewarray 14), .inl (.aload 1)] 24 = true := by decide +kernel
theorem kc_X6_addLaw_24 : mx_kV dm_X6_addLaw 24 dm_X1_becomeLike 1 1 := ⟨64, by decide +kernel, md_X1_becomeLike, cv_X6_64, by decide, by decide +kernel⟩
theorem bk_X6_addLaw_27 : mx_blk 6 cX6_addLaw 27 [.inl (.aload 0), .inl (.getfield 385), .inl (.aload 1), .inl (.getfield 64), .inl (.iload 2), .inl .iastore, .inl (.aload 0), .inl .dup, .inl (.getfield 394), .inr (.int 1), .inl .iadd, .inl (.putfield 394), .inl (.iload 2)] 48 = true := by decide +kernel
theorem rt_X6_addLaw_48 : mx_kr dm_X6_addLaw 48 .int := ⟨by decide +kernel, rfl⟩
theorem bk_X6_lawFor_0 : mx_blk 6 cX6_lawFor 0 [.inl (.aload 0), .inl (.getfield 385), .inl (.iload 1), .inl .iaload, .inl (.istore 2), .inl (.iload 2)] 8 = true := by decide +kernel
theorem br_X6_lawFor_8 : mx_brk cX6_lawFor 8 (.ifCond .lt 21) 29 11 = true := by decide +kernel
theorem bk_X6_lawFor_11 : mx_blk 6 cX6_lawFor 11 [.inl (.iload 2), .inl (.aload 0), .inl (.getfield 386), .inl .arraylength] 17 = true := by decide +kernel
theorem br_X6_lawFor_17 : mx_brk cX6_lawFor 17 (.if_icmp .ge 12) 29 20 = true := by decide +kernel
theorem bk_X6_lawFor_20 : mx_blk 6 cX6_lawFor 20 [.inl (.aload 0), .inl (.getfield 386), .inl (.iload 2), .inl (.anewarray 14)] 26 = true := by decide +kernel
theorem gt_X6_lawFor_26 : mx_jmp cX6_lawFor 26 30 = true := by decide +kernel
theorem bk_X6_lawFor_29 : mx_blk 6 cX6_lawFor 29 [.inr .null] 30 = true := by decide +kernel
theorem rt_X6_lawFor_30 : mx_ka dm_X6_lawFor 30 := ⟨by decide +kernel, _, rfl, rfl⟩
theorem bk_X6_draw_0 : mx_blk 6 cX6_draw 0 [.inl (.aload 0), .inl (.aload 0), .inl (.getfield 393), .inr (.int 1103515245), .inl .imul, .inr (.int 12345), .inl .iadd, .inl (.putfield 393), .inl (.aload 0), .inl (.getfield 393), .inr (.int 8), .inl .iushr] 22 = true := by decide +kernel
theorem rt_X6_draw_22 : mx_kr dm_X6_draw 22 .int := ⟨by decide +kernel, rfl⟩
theorem bk_X6_fairAt_0 : mx_blk 6 cX6_fairAt 0 [.inl (.aload 0), .inl (.iload 1)] 2 = true := by decide +kernel
theorem kc_X6_fairAt_2 : mx_kV dm_X6_fairAt 2 dm_X6_has 6 1 := ⟨73, by decide +kernel, md_X6_has, cv_X6_73, by decide, by decide +kernel⟩
theorem br_X6_fairAt_5 : mx_brk cX6_fairAt 5 (.ifCond .eq 23) 28 8 = true := by decide +kernel
theorem bk_X6_fairAt_8 : mx_blk 6 cX6_fairAt 8 [.inl (.aload 0), .inl (.getfield 384), .inl (.iload 1), .inl (.anewarray 13), .inl (.getfield 4), .inl (.aload 0), .inl (.getfield 392)] 21 = true := by decide +kernel
theorem br_X6_fairAt_21 : mx_brk cX6_fairAt 21 (.if_icmp .ne 7) 28 24 = true := by decide +kernel
theorem bk_X6_fairAt_24 : mx_blk 6 cX6_fairAt 24 [.inr (.int 1)] 25 = true := by decide +kernel
theorem gt_X6_fairAt_25 : mx_jmp cX6_fairAt 25 29 = true := by decide +kernel
theorem bk_X6_fairAt_28 : mx_blk 6 cX6_fairAt 28 [.inr (.int 0)] 29 = true := by decide +kernel
theorem rt_X6_fairAt_29 : mx_kr dm_X6_fairAt 29 .int := ⟨by decide +kernel, rfl⟩
theorem bk_X6_fairs_0 : mx_blk 6 cX6_fairs 0 [.inr (.int 0), .inl (.istore 1), .inr (.int 0), .inl (.istore 2)] 4 = true := by decide +kernel
theorem bk_X6_fairs_4 : mx_blk 6 cX6_fairs 4 [.inl (.iload 2), .inl (.aload 0), .inl (.getfield 388)] 9 = true := by decide +kernel
theorem br_X6_fairs_9 : mx_brk cX6_fairs 9 (.if_icmp .ge 17) 26 12 = true := by decide +kernel
theorem bk_X6_fairs_12 : mx_blk 6 cX6_fairs 12 [.inl (.iload 1), .inl (.aload 0), .inl (.iload 2)] 15 = true := by decide +kernel
theorem kc_X6_fairs_15 : mx_kV dm_X6_fairs 15 dm_X6_fairAt 6 1 := ⟨80, by decide +kernel, md_X6_fairAt, cv_X6_80, by decide, by decide +kernel⟩
theorem bk_X6_fairs_18 : mx_blk 6 cX6_fairs 18 [.inl .iadd, .inl (.istore 1), .inl (.iinc 2 1)] 23 = true := by decide +kernel
theorem gt_X6_fairs_23 : mx_jmp cX6_fairs 23 4 = true := by decide +kernel
theorem bk_X6_fairs_26 : mx_blk 6 cX6_fairs 26 [.inl (.iload 1)] 27 = true := by decide +kernel
theorem rt_X6_fairs_27 : mx_kr dm_X6_fairs 27 .int := ⟨by decide +kernel, rfl⟩
theorem bk_X6_pursesOfAll_0 : mx_blk 6 cX6_pursesOfAll 0 [.inr (.int 0), .inl (.istore 1), .inr (.int 0), .inl (.istore 2)] 4 = true := by decide +kernel
theorem bk_X6_pursesOfAll_4 : mx_blk 6 cX6_pursesOfAll 4 [.inl (.iload 2), .inl (.aload 0), .inl (.getfield 388)] 9 = true := by decide +kernel
theorem br_X6_pursesOfAll_9 : mx_brk cX6_pursesOfAll 9 (.if_icmp .ge 21) 30 12 = true := by decide +kernel
theorem bk_X6_pursesOfAll_12 : mx_blk 6 cX6_pursesOfAll 12 [.inl (.iload 1), .inl (.aload 0), .inl (.getfield 384), .inl (.iload 2), .inl (.anewarray 13), .inl (.getfield 7), .inl .iadd, .inl (.istore 1), .inl (.iinc 2 1)] 27 = true := by decide +kernel
theorem gt_X6_pursesOfAll_27 : mx_jmp cX6_pursesOfAll 27 4 = true := by decide +kernel
theorem bk_X6_pursesOfAll_30 : mx_blk 6 cX6_pursesOfAll 30 [.inl (.iload 1)] 31 = true := by decide +kernel
theorem rt_X6_pursesOfAll_31 : mx_kr dm_X6_pursesOfAll 31 .int := ⟨by decide +kernel, rfl⟩
theorem bk_X6_bornOfAll_0 : mx_blk 6 cX6_bornOfAll 0 [.inr (.int 0), .inl (.istore 1), .inr (.int 0), .inl (.istore 2)] 4 = true := by decide +kernel
theorem bk_X6_bornOfAll_4 : mx_blk 6 cX6_bornOfAll 4 [.inl (.iload 2), .inl (.aload 0), .inl (.getfield 388)] 9 = true := by decide +kernel
theorem br_X6_bornOfAll_9 : mx_brk cX6_bornOfAll 9 (.if_icmp .ge 21) 30 12 = true := by decide +kernel
theorem bk_X6_bornOfAll_12 : mx_blk 6 cX6_bornOfAll 12 [.inl (.iload 1), .inl (.aload 0), .inl (.getfield 384), .inl (.iload 2), .inl (.anewarray 13), .inl (.getfield 5), .inl .iadd, .inl (.istore 1), .inl (.iinc 2 1)] 27 = true := by decide +kernel
theorem gt_X6_bornOfAll_27 : mx_jmp cX6_bornOfAll 27 4 = true := by decide +kernel
theorem bk_X6_bornOfAll_30 : mx_blk 6 cX6_bornOfAll 30 [.inl (.iload 1)] 31 = true := by decide +kernel
theorem rt_X6_bornOfAll_31 : mx_kr dm_X6_bornOfAll 31 .int := ⟨by decide +kernel, rfl⟩
theorem bk_X6_birthsOf_0 : mx_blk 6 cX6_birthsOf 0 [.inl (.aload 0), .inr (.int 0)] 2 = true := by decide +kernel
theorem kc_X6_birthsOf_2 : mx_kV dm_X6_birthsOf 2 dm_X6_lawFor 6 1 := ⟨90, by decide +kernel, md_X6_lawFor, cv_X6_90, by decide, by decide +kernel⟩
theorem bk_X6_birthsOf_5 : mx_blk 6 cX6_birthsOf 5 [.inl (.astore 3), .inl (.aload 3)] 7 = true := by decide +kernel
theorem br_X6_birthsOf_7 : mx_brk cX6_birthsOf 7 (.ifnonnull 7) 14 10 = true := by decide +kernel
theorem bk_X6_birthsOf_10 : mx_blk 6 cX6_birthsOf 10 [.inl (.iload 2)] 11 = true := by decide +kernel
theorem gt_X6_birthsOf_11 : mx_jmp cX6_birthsOf 11 31 = true := by decide +kernel
theorem bk_X6_birthsOf_14 : mx_blk 6 cX6_birthsOf 14 [.inl (.aload 0), .inl (.getfield 387), .inl (.aload 3), .inl (.iload 2), .inl (.aload 1), .inl (.getfield 3), .inl (.aload 1), .inl (.getfield 4)] 28 = true := by decide +kernel
theorem kc_X6_birthsOf_28 : mx_kV dm_X6_birthsOf 28 dm_X3_gives 3 4 := ⟨97, by decide +kernel, md_X3_gives, cv_X6_97, by decide, by decide +kernel⟩
theorem bk_X6_birthsOf_31 : mx_blk 6 cX6_birthsOf 31 [.inl (.istore 4), .inl (.aload 1), .inl (.iload 4), .inr (.int 0), .inr (.int 30)] 39 = true := by decide +kernel
theorem kc_X6_birthsOf_39 : mx_kS dm_X6_birthsOf 39 dm_X7_held 3 := ⟨101, by decide +kernel, md_X7_held, cs_X6_101⟩
theorem kc_X6_birthsOf_42 : mx_kV dm_X6_birthsOf 42 dm_X0_birthsByKind 0 1 := ⟨105, by decide +kernel, md_X0_birthsByKind, cv_X6_105, by decide, by decide +kernel⟩
theorem rt_X6_birthsOf_45 : mx_kr dm_X6_birthsOf 45 .int := ⟨by decide +kernel, rfl⟩
theorem bk_X6_wageOf_0 : mx_blk 6 cX6_wageOf 0 [.inl (.aload 0), .inr (.int 1)] 2 = true := by decide +kernel
theorem kc_X6_wageOf_2 : mx_kV dm_X6_wageOf 2 dm_X6_lawFor 6 1 := ⟨90, by decide +kernel, md_X6_lawFor, cv_X6_90, by decide, by decide +kernel⟩
theorem bk_X6_wageOf_5 : mx_blk 6 cX6_wageOf 5 [.inl (.astore 2), .inl (.aload 2)] 7 = true := by decide +kernel
theorem br_X6_wageOf_7 : mx_brk cX6_wageOf 7 (.ifnonnull 10) 17 10 = true := by decide +kernel
theorem bk_X6_wageOf_10 : mx_blk 6 cX6_wageOf 10 [.inl (.aload 0), .inl (.getfield 390)] 14 = true := by decide +kernel
theorem gt_X6_wageOf_14 : mx_jmp cX6_wageOf 14 41 = true := by decide +kernel
theorem bk_X6_wageOf_17 : mx_blk 6 cX6_wageOf 17 [.inl (.aload 0), .inl (.getfield 387), .inl (.aload 2), .inl (.aload 1), .inl (.getfield 3), .inl (.aload 1), .inl (.getfield 2), .inr (.int 0)] 31 = true := by decide +kernel
theorem kc_X6_wageOf_31 : mx_kV dm_X6_wageOf 31 dm_X3_gives 3 4 := ⟨97, by decide +kernel, md_X3_gives, cv_X6_97, by decide, by decide +kernel⟩
theorem bk_X6_wageOf_34 : mx_blk 6 cX6_wageOf 34 [.inr (.int 0), .inr (.int 9999)] 38 = true := by decide +kernel
theorem kc_X6_wageOf_38 : mx_kS dm_X6_wageOf 38 dm_X7_held 3 := ⟨101, by decide +kernel, md_X7_held, cs_X6_101⟩
theorem rt_X6_wageOf_41 : mx_kr dm_X6_wageOf 41 .int := ⟨by decide +kernel, rfl⟩
theorem bk_X6_liveDay_0 : mx_blk 6 cX6_liveDay 0 [.inr (.int 0), .inl (.istore 2), .inr (.int 0), .inl (.istore 3)] 4 = true := by decide +kernel
theorem bk_X6_liveDay_4 : mx_blk 6 cX6_liveDay 4 [.inl (.iload 3), .inl (.aload 0), .inl (.getfield 388)] 9 = true := by decide +kernel
theorem br_X6_liveDay_9 : mx_brk cX6_liveDay 9 (.if_icmp .ge 39) 48 12 = true := by decide +kernel
theorem bk_X6_liveDay_12 : mx_blk 6 cX6_liveDay 12 [.inl (.aload 0)] 13 = true := by decide +kernel
theorem kc_X6_liveDay_13 : mx_kV dm_X6_liveDay 13 dm_X6_draw 6 0 := ⟨111, by decide +kernel, md_X6_draw, cv_X6_111, by decide, by decide +kernel⟩
theorem bk_X6_liveDay_16 : mx_blk 6 cX6_liveDay 16 [.inl (.istore 4), .inl (.iload 1), .inl (.iload 3), .inl .ishr, .inr (.int 1), .inl .iand, .inr (.int 1)] 24 = true := by decide +kernel
theorem br_X6_liveDay_24 : mx_brk cX6_liveDay 24 (.if_icmp .ne 18) 42 27 = true := by decide +kernel
theorem bk_X6_liveDay_27 : mx_blk 6 cX6_liveDay 27 [.inl (.iload 2), .inl (.aload 0), .inl (.aload 0), .inl (.getfield 384), .inl (.iload 3), .inl (.anewarray 13), .inl (.iload 4)] 37 = true := by decide +kernel
theorem kc_X6_liveDay_37 : mx_kV dm_X6_liveDay 37 dm_X6_dayOf 6 2 := ⟨115, by decide +kernel, md_X6_dayOf, cv_X6_115, by decide, by decide +kernel⟩
theorem bk_X6_liveDay_40 : mx_blk 6 cX6_liveDay 40 [.inl .iadd, .inl (.istore 2)] 42 = true := by decide +kernel
theorem bk_X6_liveDay_42 : mx_blk 6 cX6_liveDay 42 [.inl (.iinc 3 1)] 45 = true := by decide +kernel
theorem gt_X6_liveDay_45 : mx_jmp cX6_liveDay 45 4 = true := by decide +kernel
theorem bk_X6_liveDay_48 : mx_blk 6 cX6_liveDay 48 [.inl (.aload 0), .inl .dup, .inl (.getfield 389), .inr (.int 1), .inl .iadd, .inl (.putfield 389), .inl (.iload 2)] 59 = true := by decide +kernel
theorem rt_X6_liveDay_59 : mx_kr dm_X6_liveDay 59 .int := ⟨by decide +kernel, rfl⟩
theorem bk_X6_dayOf_0 : mx_blk 6 cX6_dayOf 0 [.inl (.aload 1), .inl (.getfield 1), .inr (.int 1), .inl .iadd, .inl (.istore 3), .inl (.iload 3)] 8 = true := by decide +kernel
theorem br_X6_dayOf_8 : mx_brk cX6_dayOf 8 (.ifCond .le 9) 17 11 = true := by decide +kernel
theorem bk_X6_dayOf_11 : mx_blk 6 cX6_dayOf 11 [.inl (.iload 2), .inl (.iload 3), .inl .irem] 14 = true := by decide +kernel
theorem gt_X6_dayOf_14 : mx_jmp cX6_dayOf 14 18 = true := by decide +kernel
theorem bk_X6_dayOf_17 : mx_blk 6 cX6_dayOf 17 [.inr (.int 0)] 18 = true := by decide +kernel
theorem bk_X6_dayOf_18 : mx_blk 6 cX6_dayOf 18 [.inl (.istore 4), .inl (.aload 1), .inl .dup, .inl (.getfield 5), .inl (.aload 0), .inl (.aload 1), .inl (.iload 4)] 29 = true := by decide +kernel
theorem kc_X6_dayOf_29 : mx_kV dm_X6_dayOf 29 dm_X6_birthsOf 6 2 := ⟨122, by decide +kernel, md_X6_birthsOf, cv_X6_122, by decide, by decide +kernel⟩
theorem bk_X6_dayOf_32 : mx_blk 6 cX6_dayOf 32 [.inl .iadd, .inl (.putfield 5), .inl (.aload 1), .inl .dup, .inl (.getfield 7), .inl (.aload 0), .inl (.getfield 391), .inl .isub, .inl (.putfield 7), .inl (.aload 1), .inl .dup, .inl (.getfield 4), .inr (.int 1), .inl .iadd, .inl (.putfield 4), .inl (.aload 1), .inl (.getfield 4), .inl (.aload 1), .inl (.getfield 3)] 67 = true := by decide +kernel
theorem br_X6_dayOf_67 : mx_brk cX6_dayOf 67 (.if_icmp .ge 5) 72 70 = true := by decide +kernel
theorem bk_X6_dayOf_70 : mx_blk 6 cX6_dayOf 70 [.inr (.int 0)] 71 = true := by decide +kernel
theorem rt_X6_dayOf_71 : mx_kr dm_X6_dayOf 71 .int := ⟨by decide +kernel, rfl⟩
theorem bk_X6_dayOf_72 : mx_blk 6 cX6_dayOf 72 [.inl (.aload 1), .inl .dup, .inl (.getfield 7), .inl (.aload 0), .inl (.aload 1)] 79 = true := by decide +kernel
theorem kc_X6_dayOf_79 : mx_kV dm_X6_dayOf 79 dm_X6_wageOf 6 1 := ⟨125, by decide +kernel, md_X6_wageOf, cv_X6_125, by decide, by decide +kernel⟩
theorem bk_X6_dayOf_82 : mx_blk 6 cX6_dayOf 82 [.inl .iadd, .inl (.putfield 7), .inl (.aload 1)] 87 = true := by decide +kernel
theorem kc_X6_dayOf_87 : mx_kV dm_X6_dayOf 87 dm_X0_beginWeek 0 0 := ⟨129, by decide +kernel, md_X0_beginWeek, cv_X6_129, by decide, by decide +kernel⟩
theorem bk_X6_dayOf_90 : mx_blk 6 cX6_dayOf 90 [.inr (.int 1)] 91 = true := by decide +kernel
theorem rt_X6_dayOf_91 : mx_kr dm_X6_dayOf 91 .int := ⟨by decide +kernel, rfl⟩
theorem bk_J0_length_8abf5_0 : mx_blk 10 cJ0_length_8abf5 0 [.inl (.aload 0)] 1 = true := by decide +kernel
theorem dd_J0_length_8abf5_1 : decode cJ0_length_8abf5 1 = .ok (.getfield 9, 3) := by decide +kernel
theorem dd_J0_length_8abf5_4 : decode cJ0_length_8abf5 4 = .ok (.arraylength, 1) := by decide +kernel
theorem bk_J0_length_8abf5_5 : mx_blk 10 cJ0_length_8abf5 5 [.inl (.aload 0)] 6 = true := by decide +kernel
theorem kc_J0_length_8abf5_6 : mx_kT dm_J0_length_8abf5 6 dm_J0_coder_7d493 0 := ⟨335, by decide +kernel, md_J0_coder_7d493, cv_J0_335, by decide +kernel⟩
theorem bk_J0_length_8abf5_9 : mx_blk 10 cJ0_length_8abf5 9 [.inl .ishr] 10 = true := by decide +kernel
theorem rt_J0_length_8abf5_10 : mx_kr dm_J0_length_8abf5 10 .int := ⟨by decide +kernel, rfl⟩
theorem bk_J0_charAt_5068e_0 : mx_blk 10 cJ0_charAt_5068e 0 [.inl (.aload 0)] 1 = true := by decide +kernel
theorem kc_J0_charAt_5068e_1 : mx_kT dm_J0_charAt_5068e 1 dm_J0_isLatin1_aae02 0 := ⟨492, by decide +kernel, md_J0_isLatin1_aae02, cv_J0_492, by decide +kernel⟩
theorem br_J0_charAt_5068e_4 : mx_brk cJ0_charAt_5068e 4 (.ifCond .eq 12) 16 7 = true := by decide +kernel
theorem bk_J0_charAt_5068e_7 : mx_blk 10 cJ0_charAt_5068e 7 [.inl (.aload 0)] 8 = true := by decide +kernel
theorem dd_J0_charAt_5068e_8 : decode cJ0_charAt_5068e 8 = .ok (.getfield 9, 3) := by decide +kernel
theorem bk_J0_charAt_5068e_11 : mx_blk 10 cJ0_charAt_5068e 11 [.inl (.iload 1)] 12 = true := by decide +kernel
theorem kc_J0_charAt_5068e_12 : mx_kS dm_J0_charAt_5068e 12 dm_J1_charAt_3b067 2 := ⟨495, by decide +kernel, md_J1_charAt_3b067, cs_J0_495⟩
theorem rt_J0_charAt_5068e_15 : mx_kr dm_J0_charAt_5068e 15 .char := ⟨by decide +kernel, rfl⟩
theorem bk_J0_charAt_5068e_16 : mx_blk 10 cJ0_charAt_5068e 16 [.inl (.aload 0)] 17 = true := by decide +kernel
theorem dd_J0_charAt_5068e_17 : decode cJ0_charAt_5068e 17 = .ok (.getfield 9, 3) := by decide +kernel
theorem bk_J0_charAt_5068e_20 : mx_blk 10 cJ0_charAt_5068e 20 [.inl (.iload 1)] 21 = true := by decide +kernel
theorem rt_J0_charAt_5068e_24 : mx_kr dm_J0_charAt_5068e 24 .char := ⟨by decide +kernel, rfl⟩
theorem bk_J0_indexOf_0f7a4_0 : mx_blk 10 cJ0_indexOf_0f7a4 0 [.inl (.aload 0), .inl (.iload 1), .inr (.int 0)] 3 = true := by decide +kernel
theorem kc_J0_indexOf_0f7a4_3 : mx_kT dm_J0_indexOf_0f7a4 3 dm_J0_indexOf_7cf53 2 := ⟨633, by decide +kernel, md_J0_indexOf_7cf53, cv_J0_633, by decide +kernel⟩
theorem rt_J0_indexOf_0f7a4_6 : mx_kr dm_J0_indexOf_0f7a4 6 .int := ⟨by decide +kernel, rfl⟩
theorem bk_J0_indexOf_7cf53_0 : mx_blk 10 cJ0_indexOf_7cf53 0 [.inl (.aload 0)] 1 = true := by decide +kernel
theorem kc_J0_indexOf_7cf53_1 : mx_kT dm_J0_indexOf_7cf53 1 dm_J0_isLatin1_aae02 0 := ⟨492, by decide +kernel, md_J0_isLatin1_aae02, cv_J0_492, by decide +kernel⟩
theorem br_J0_indexOf_7cf53_4 : mx_brk cJ0_indexOf_7cf53 4 (.ifCond .eq 19) 23 7 = true := by decide +kernel
theorem bk_J0_indexOf_7cf53_7 : mx_blk 10 cJ0_indexOf_7cf53 7 [.inl (.aload 0)] 8 = true := by decide +kernel
theorem dd_J0_indexOf_7cf53_8 : decode cJ0_indexOf_7cf53 8 = .ok (.getfield 9, 3) := by decide +kernel
theorem bk_J0_indexOf_7cf53_11 : mx_blk 10 cJ0_indexOf_7cf53 11 [.inl (.iload 1), .inl (.iload 2), .inl (.aload 0)] 14 = true := by decide +kernel
theorem kc_J0_indexOf_7cf53_14 : mx_kT dm_J0_indexOf_7cf53 14 dm_J0_length_8abf5 0 := ⟨505, by decide +kernel, md_J0_length_8abf5, cv_J0_505, by decide +kernel⟩
theorem kc_J0_indexOf_7cf53_17 : mx_kS dm_J0_indexOf_7cf53 17 dm_J1_indexOf_4cfef 4 := ⟨637, by decide +kernel, md_J1_indexOf_4cfef, cs_J0_637⟩
theorem gt_J0_indexOf_7cf53_20 : mx_jmp cJ0_indexOf_7cf53 20 36 = true := by decide +kernel
theorem bk_J0_indexOf_7cf53_23 : mx_blk 10 cJ0_indexOf_7cf53 23 [.inl (.aload 0)] 24 = true := by decide +kernel
theorem dd_J0_indexOf_7cf53_24 : decode cJ0_indexOf_7cf53 24 = .ok (.getfield 9, 3) := by decide +kernel
theorem bk_J0_indexOf_7cf53_27 : mx_blk 10 cJ0_indexOf_7cf53 27 [.inl (.iload 1), .inl (.iload 2), .inl (.aload 0)] 30 = true := by decide +kernel
theorem kc_J0_indexOf_7cf53_30 : mx_kT dm_J0_indexOf_7cf53 30 dm_J0_length_8abf5 0 := ⟨505, by decide +kernel, md_J0_length_8abf5, cv_J0_505, by decide +kernel⟩
theorem rt_J0_indexOf_7cf53_36 : mx_kr dm_J0_indexOf_7cf53 36 .int := ⟨by decide +kernel, rfl⟩
theorem dd_J0_coder_7d493_0 : decode cJ0_coder_7d493 0 = .ok (.getstatic 38, 3) := by decide +kernel
theorem br_J0_coder_7d493_3 : mx_brk cJ0_coder_7d493 3 (.ifCond .eq 10) 13 6 = true := by decide +kernel
theorem bk_J0_coder_7d493_6 : mx_blk 10 cJ0_coder_7d493 6 [.inl (.aload 0)] 7 = true := by decide +kernel
theorem dd_J0_coder_7d493_7 : decode cJ0_coder_7d493 7 = .ok (.getfield 15, 3) := by decide +kernel
theorem gt_J0_coder_7d493_10 : mx_jmp cJ0_coder_7d493 10 14 = true := by decide +kernel
theorem bk_J0_coder_7d493_13 : mx_blk 10 cJ0_coder_7d493 13 [.inr (.int 1)] 14 = true := by decide +kernel
theorem rt_J0_coder_7d493_14 : mx_kr dm_J0_coder_7d493 14 .byte := ⟨by decide +kernel, rfl⟩
theorem dd_J0_isLatin1_aae02_0 : decode cJ0_isLatin1_aae02 0 = .ok (.getstatic 38, 3) := by decide +kernel
theorem br_J0_isLatin1_aae02_3 : mx_brk cJ0_isLatin1_aae02 3 (.ifCond .eq 14) 17 6 = true := by decide +kernel
theorem bk_J0_isLatin1_aae02_6 : mx_blk 10 cJ0_isLatin1_aae02 6 [.inl (.aload 0)] 7 = true := by decide +kernel
theorem dd_J0_isLatin1_aae02_7 : decode cJ0_isLatin1_aae02 7 = .ok (.getfield 15, 3) := by decide +kernel
theorem br_J0_isLatin1_aae02_10 : mx_brk cJ0_isLatin1_aae02 10 (.ifCond .ne 7) 17 13 = true := by decide +kernel
theorem bk_J0_isLatin1_aae02_13 : mx_blk 10 cJ0_isLatin1_aae02 13 [.inr (.int 1)] 14 = true := by decide +kernel
theorem gt_J0_isLatin1_aae02_14 : mx_jmp cJ0_isLatin1_aae02 14 18 = true := by decide +kernel
theorem bk_J0_isLatin1_aae02_17 : mx_blk 10 cJ0_isLatin1_aae02 17 [.inr (.int 0)] 18 = true := by decide +kernel
theorem rt_J0_isLatin1_aae02_18 : mx_kr dm_J0_isLatin1_aae02 18 .boolean := ⟨by decide +kernel, rfl⟩
theorem bk_J1_charAt_3b067_0 : mx_blk 11 cJ1_charAt_3b067 0 [.inl (.iload 1), .inl (.aload 0)] 2 = true := by decide +kernel
theorem dd_J1_charAt_3b067_2 : decode cJ1_charAt_3b067 2 = .ok (.arraylength, 1) := by decide +kernel
theorem bk_J1_charAt_3b067_6 : mx_blk 11 cJ1_charAt_3b067 6 [.inl (.aload 0), .inl (.iload 1)] 8 = true := by decide +kernel
theorem dd_J1_charAt_3b067_8 : decode cJ1_charAt_3b067 8 = .ok (.baload, 1) := by decide +kernel
theorem bk_J1_charAt_3b067_9 : mx_blk 11 cJ1_charAt_3b067 9 [.inr (.int 255), .inl .iand, .inl .i2c] 14 = true := by decide +kernel
theorem rt_J1_charAt_3b067_14 : mx_kr dm_J1_charAt_3b067 14 .char := ⟨by decide +kernel, rfl⟩
theorem bk_J1_canEncode_9a6ad_0 : mx_blk 11 cJ1_canEncode_9a6ad 0 [.inl (.iload 0)] 1 = true := by decide +kernel
theorem br_J1_canEncode_9a6ad_1 : mx_brk cJ1_canEncode_9a6ad 1 (.ifCond .lt 14) 15 4 = true := by decide +kernel
theorem bk_J1_canEncode_9a6ad_4 : mx_blk 11 cJ1_canEncode_9a6ad 4 [.inl (.iload 0), .inr (.int 255)] 8 = true := by decide +kernel
theorem br_J1_canEncode_9a6ad_8 : mx_brk cJ1_canEncode_9a6ad 8 (.if_icmp .gt 7) 15 11 = true := by decide +kernel
theorem bk_J1_canEncode_9a6ad_11 : mx_blk 11 cJ1_canEncode_9a6ad 11 [.inr (.int 1)] 12 = true := by decide +kernel
theorem gt_J1_canEncode_9a6ad_12 : mx_jmp cJ1_canEncode_9a6ad 12 16 = true := by decide +kernel
theorem bk_J1_canEncode_9a6ad_15 : mx_blk 11 cJ1_canEncode_9a6ad 15 [.inr (.int 0)] 16 = true := by decide +kernel
theorem rt_J1_canEncode_9a6ad_16 : mx_kr dm_J1_canEncode_9a6ad 16 .boolean := ⟨by decide +kernel, rfl⟩
theorem bk_J1_indexOf_4cfef_0 : mx_blk 11 cJ1_indexOf_4cfef 0 [.inl (.iload 1)] 1 = true := by decide +kernel
theorem kc_J1_indexOf_4cfef_1 : mx_kS dm_J1_indexOf_4cfef 1 dm_J1_canEncode_9a6ad 1 := ⟨88, by decide +kernel, md_J1_canEncode_9a6ad, cs_J1_88⟩
theorem br_J1_indexOf_4cfef_4 : mx_brk cJ1_indexOf_4cfef 4 (.ifCond .ne 5) 9 7 = true := by decide +kernel
theorem bk_J1_indexOf_4cfef_7 : mx_blk 11 cJ1_indexOf_4cfef 7 [.inr (.int (-1))] 8 = true := by decide +kernel
theorem rt_J1_indexOf_4cfef_8 : mx_kr dm_J1_indexOf_4cfef 8 .int := ⟨by decide +kernel, rfl⟩
theorem bk_J1_indexOf_4cfef_9 : mx_blk 11 cJ1_indexOf_4cfef 9 [.inl (.iload 2), .inr (.int 0)] 11 = true := by decide +kernel
theorem kc_J1_indexOf_4cfef_11 : mx_km dm_J1_indexOf_4cfef 11 Lib.Math.max.name := ⟨92, by decide +kernel, mx_gw (i := 722) (by decide +kernel)⟩
theorem bk_J1_indexOf_4cfef_14 : mx_blk 11 cJ1_indexOf_4cfef 14 [.inl (.istore 2), .inl (.iload 3), .inl (.aload 0)] 17 = true := by decide +kernel
theorem dd_J1_indexOf_4cfef_17 : decode cJ1_indexOf_4cfef 17 = .ok (.arraylength, 1) := by decide +kernel
theorem kc_J1_indexOf_4cfef_18 : mx_km dm_J1_indexOf_4cfef 18 Lib.Math.min.name := ⟨38, by decide +kernel, mx_gw (i := 723) (by decide +kernel)⟩
theorem bk_J1_indexOf_4cfef_21 : mx_blk 11 cJ1_indexOf_4cfef 21 [.inl (.istore 3), .inl (.iload 2), .inl (.iload 3)] 24 = true := by decide +kernel
theorem br_J1_indexOf_4cfef_24 : mx_brk cJ1_indexOf_4cfef 24 (.if_icmp .lt 5) 29 27 = true := by decide +kernel
theorem bk_J1_indexOf_4cfef_27 : mx_blk 11 cJ1_indexOf_4cfef 27 [.inr (.int (-1))] 28 = true := by decide +kernel
theorem rt_J1_indexOf_4cfef_28 : mx_kr dm_J1_indexOf_4cfef 28 .int := ⟨by decide +kernel, rfl⟩
theorem bk_J1_indexOf_4cfef_29 : mx_blk 11 cJ1_indexOf_4cfef 29 [.inl (.aload 0), .inl (.iload 1), .inl (.iload 2), .inl (.iload 3)] 33 = true := by decide +kernel
theorem kc_J1_indexOf_4cfef_33 : mx_kS dm_J1_indexOf_4cfef 33 dm_J1_indexOfChar_4cfef 4 := ⟨95, by decide +kernel, md_J1_indexOfChar_4cfef, cs_J1_95⟩
theorem rt_J1_indexOf_4cfef_36 : mx_kr dm_J1_indexOf_4cfef 36 .int := ⟨by decide +kernel, rfl⟩
theorem bk_J1_indexOfChar_4cfef_0 : mx_blk 11 cJ1_indexOfChar_4cfef 0 [.inl (.iload 1), .inl .i2b, .inl (.istore 4), .inl (.iload 2), .inl (.istore 5)] 7 = true := by decide +kernel
theorem bk_J1_indexOfChar_4cfef_7 : mx_blk 11 cJ1_indexOfChar_4cfef 7 [.inl (.iload 5), .inl (.iload 3)] 10 = true := by decide +kernel
theorem br_J1_indexOfChar_4cfef_10 : mx_brk cJ1_indexOfChar_4cfef 10 (.if_icmp .ge 21) 31 13 = true := by decide +kernel
theorem bk_J1_indexOfChar_4cfef_13 : mx_blk 11 cJ1_indexOfChar_4cfef 13 [.inl (.aload 0), .inl (.iload 5)] 16 = true := by decide +kernel
theorem dd_J1_indexOfChar_4cfef_16 : decode cJ1_indexOfChar_4cfef 16 = .ok (.baload, 1) := by decide +kernel
theorem bk_J1_indexOfChar_4cfef_17 : mx_blk 11 cJ1_indexOfChar_4cfef 17 [.inl (.iload 4)] 19 = true := by decide +kernel
theorem br_J1_indexOfChar_4cfef_19 : mx_brk cJ1_indexOfChar_4cfef 19 (.if_icmp .ne 6) 25 22 = true := by decide +kernel
theorem bk_J1_indexOfChar_4cfef_22 : mx_blk 11 cJ1_indexOfChar_4cfef 22 [.inl (.iload 5)] 24 = true := by decide +kernel
theorem rt_J1_indexOfChar_4cfef_24 : mx_kr dm_J1_indexOfChar_4cfef 24 .int := ⟨by decide +kernel, rfl⟩
theorem bk_J1_indexOfChar_4cfef_25 : mx_blk 11 cJ1_indexOfChar_4cfef 25 [.inl (.iinc 5 1)] 28 = true := by decide +kernel
theorem gt_J1_indexOfChar_4cfef_28 : mx_jmp cJ1_indexOfChar_4cfef 28 7 = true := by decide +kernel
theorem bk_J1_indexOfChar_4cfef_31 : mx_blk 11 cJ1_indexOfChar_4cfef 31 [.inr (.int (-1))] 32 = true := by decide +kernel
theorem rt_J1_indexOfChar_4cfef_32 : mx_kr dm_J1_indexOfChar_4cfef 32 .int := ⟨by decide +kernel, rfl⟩
