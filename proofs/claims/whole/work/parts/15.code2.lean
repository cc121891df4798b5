theorem bk_X7_init_0 : mx_blk 7 cX7_init 0 [.inl (.aload 0)] 1 = true := by decide +kernel
theorem kc_X7_init_1 : mx_ko dm_X7_init 1 := ⟨1, by decide +kernel, mx_gw (i := 76) (by decide +kernel)⟩
theorem bk_X7_init_4 : mx_blk 7 cX7_init 4 [.inl (.aload 0), .inr (.int 0), .inl (.putfield 452), .inl (.aload 0), .inr (.int 96)] 12 = true := by decide +kernel
theorem dd_X7_init_12 : decode cX7_init 12 = .ok (.newarray .byte, 2) := by decide +kernel
theorem bk_X7_init_14 : mx_blk 7 cX7_init 14 [.inl (.putfield 453), .inl (.aload 0), .inr (.int 0), .inl (.putfield 454), .inl (.aload 0)] 23 = true := by decide +kernel
theorem kc_X7_init_23 : mx_kn dm_X7_init 23 2 := ⟨21, by decide +kernel, by decide +kernel, by decide⟩
theorem bk_X7_init_26 : mx_blk 7 cX7_init 26 [.inl .dup] 27 = true := by decide +kernel
theorem kc_X7_init_27 : mx_kI dm_X7_init 27 dm_X2_init 0 := ⟨23, by decide +kernel, md_X2_init, ci_X7_23⟩
theorem bk_X7_init_30 : mx_blk 7 cX7_init 30 [.inl (.putfield 455), .inl (.aload 0)] 34 = true := by decide +kernel
theorem kc_X7_init_34 : mx_kn dm_X7_init 34 1 := ⟨28, by decide +kernel, by decide +kernel, by decide⟩
theorem bk_X7_init_37 : mx_blk 7 cX7_init 37 [.inl .dup] 38 = true := by decide +kernel
theorem kc_X7_init_38 : mx_kI dm_X7_init 38 dm_X1_init 0 := ⟨30, by decide +kernel, md_X1_init, ci_X7_30⟩
theorem bk_X7_init_41 : mx_blk 7 cX7_init 41 [.inl (.putfield 456), .inl (.aload 0), .inr (.int 4)] 46 = true := by decide +kernel
theorem kc_X7_init_46 : mx_kq dm_X7_init 46 15 := ⟨35, by decide +kernel, by decide +kernel, by decide, by decide⟩
theorem bk_X7_init_49 : mx_blk 7 cX7_init 49 [.inl (.putfield 457), .inl (.aload 0), .inr (.int 5)] 54 = true := by decide +kernel
theorem kc_X7_init_54 : mx_kq dm_X7_init 54 16 := ⟨41, by decide +kernel, by decide +kernel, by decide, by decide⟩
theorem bk_X7_init_57 : mx_blk 7 cX7_init 57 [.inl (.putfield 458), .inl (.aload 0), .inr (.int 60)] 63 = true := by decide +kernel
theorem dd_X7_init_63 : decode cX7_init 63 = .ok (.newarray .int, 2) := by decide +kernel
theorem bk_X7_init_65 : mx_blk 7 cX7_init 65 [.inl (.putfield 459), .inl (.aload 0), .inr (.int 0), .inl (.putfield 460), .inl (.aload 0), .inr (.int 6)] 76 = true := by decide +kernel
theorem dd_X7_init_76 : decode cX7_init 76 = .ok (.newarray .int, 2) := by decide +kernel
theorem bk_X7_init_78 : mx_blk 7 cX7_init 78 [.inl (.putfield 461), .inl (.aload 0), .inr (.int 6)] 84 = true := by decide +kernel
theorem dd_X7_init_84 : decode cX7_init 84 = .ok (.newarray .int, 2) := by decide +kernel
theorem bk_X7_init_86 : mx_blk 7 cX7_init 86 [.inl (.putfield 462), .inr (.int 14)] 91 = true := by decide +kernel
theorem kc_X7_init_91 : mx_kq dm_X7_init 91 14 := ⟨28, by decide +kernel, by decide +kernel, by decide, by decide⟩
theorem bk_X7_init_94 : mx_blk 7 cX7_init 94 [.inl (.astore 1), .inr (.int 0), .inl (.istore 2)] 97 = true := by decide +kernel
theorem bk_X7_init_97 : mx_blk 7 cX7_init 97 [.inl (.iload 2), .inl (.aload 1), .inl .arraylength] 100 = true := by decide +kernel
theorem br_X7_init_100 : mx_brk cX7_init 100 (.if_icmp .ge 19) 119 103 = true := by decide +kernel
theorem bk_X7_init_103 : mx_blk 7 cX7_init 103 [.inl (.aload 1), .inl (.iload 2)] 105 = true := by decide +kernel
theorem kc_X7_init_105 : mx_kn dm_X7_init 105 1 := ⟨28, by decide +kernel, by decide +kernel, by decide⟩
theorem bk_X7_init_108 : mx_blk 7 cX7_init 108 [.inl .dup] 109 = true := by decide +kernel
theorem kc_X7_init_109 : mx_kI dm_X7_init 109 dm_X1_init 0 := ⟨30, by decide +kernel, md_X1_init, ci_X7_30⟩
theorem dd_X7_init_112 : decode cX7_init 112 = .ok (.aastore, 1) := by decide +kernel
theorem bk_X7_init_113 : mx_blk 7 cX7_init 113 [.inl (.iinc 2 1)] 116 = true := by decide +kernel
theorem gt_X7_init_116 : mx_jmp cX7_init 116 97 = true := by decide +kernel
theorem bk_X7_init_119 : mx_blk 7 cX7_init 119 [.inr (.int 0), .inl (.istore 2)] 121 = true := by decide +kernel
theorem bk_X7_init_121 : mx_blk 7 cX7_init 121 [.inl (.iload 2), .inl (.aload 0), .inl (.getfield 457), .inl .arraylength] 127 = true := by decide +kernel
theorem br_X7_init_127 : mx_brk cX7_init 127 (.if_icmp .ge 22) 149 130 = true := by decide +kernel
theorem bk_X7_init_130 : mx_blk 7 cX7_init 130 [.inl (.aload 0), .inl (.getfield 457), .inl (.iload 2)] 135 = true := by decide +kernel
theorem kc_X7_init_135 : mx_kn dm_X7_init 135 4 := ⟨35, by decide +kernel, by decide +kernel, by decide⟩
theorem bk_X7_init_138 : mx_blk 7 cX7_init 138 [.inl .dup] 139 = true := by decide +kernel
theorem kc_X7_init_139 : mx_kI dm_X7_init 139 dm_X4_init 0 := ⟨60, by decide +kernel, md_X4_init, ci_X7_60⟩
theorem dd_X7_init_142 : decode cX7_init 142 = .ok (.aastore, 1) := by decide +kernel
theorem bk_X7_init_143 : mx_blk 7 cX7_init 143 [.inl (.iinc 2 1)] 146 = true := by decide +kernel
theorem gt_X7_init_146 : mx_jmp cX7_init 146 121 = true := by decide +kernel
theorem bk_X7_init_149 : mx_blk 7 cX7_init 149 [.inr (.int 0), .inl (.istore 2)] 151 = true := by decide +kernel
theorem bk_X7_init_151 : mx_blk 7 cX7_init 151 [.inl (.iload 2), .inl (.aload 0), .inl (.getfield 458), .inl .arraylength] 157 = true := by decide +kernel
theorem br_X7_init_157 : mx_brk cX7_init 157 (.if_icmp .ge 22) 179 160 = true := by decide +kernel
theorem bk_X7_init_160 : mx_blk 7 cX7_init 160 [.inl (.aload 0), .inl (.getfield 458), .inl (.iload 2)] 165 = true := by decide +kernel
theorem kc_X7_init_165 : mx_kn dm_X7_init 165 5 := ⟨41, by decide +kernel, by decide +kernel, by decide⟩
theorem bk_X7_init_168 : mx_blk 7 cX7_init 168 [.inl .dup] 169 = true := by decide +kernel
theorem kc_X7_init_169 : mx_kI dm_X7_init 169 dm_X5_init 0 := ⟨61, by decide +kernel, md_X5_init, ci_X7_61⟩
theorem dd_X7_init_172 : decode cX7_init 172 = .ok (.aastore, 1) := by decide +kernel
theorem bk_X7_init_173 : mx_blk 7 cX7_init 173 [.inl (.iinc 2 1)] 176 = true := by decide +kernel
theorem gt_X7_init_176 : mx_jmp cX7_init 176 151 = true := by decide +kernel
theorem bk_X7_init_179 : mx_blk 7 cX7_init 179 [.inl (.aload 0), .inl (.aload 1), .inl (.putfield 448), .inl (.aload 0)] 185 = true := by decide +kernel
theorem kc_X7_init_185 : mx_kn dm_X7_init 185 6 := ⟨66, by decide +kernel, by decide +kernel, by decide⟩
theorem bk_X7_init_188 : mx_blk 7 cX7_init 188 [.inl .dup, .inl (.aload 1)] 190 = true := by decide +kernel
theorem kc_X7_init_190 : mx_kI dm_X7_init 190 dm_X6_init 1 := ⟨68, by decide +kernel, md_X6_init, ci_X7_68⟩
theorem bk_X7_init_193 : mx_blk 7 cX7_init 193 [.inl (.putfield 449), .inl (.aload 0)] 197 = true := by decide +kernel
theorem kc_X7_init_197 : mx_kn dm_X7_init 197 6 := ⟨66, by decide +kernel, by decide +kernel, by decide⟩
theorem bk_X7_init_200 : mx_blk 7 cX7_init 200 [.inl .dup, .inl (.aload 1)] 202 = true := by decide +kernel
theorem kc_X7_init_202 : mx_kI dm_X7_init 202 dm_X6_init 1 := ⟨68, by decide +kernel, md_X6_init, ci_X7_68⟩
theorem bk_X7_init_205 : mx_blk 7 cX7_init 205 [.inl (.putfield 450), .inl (.aload 0)] 209 = true := by decide +kernel
theorem kc_X7_init_209 : mx_kn dm_X7_init 209 6 := ⟨66, by decide +kernel, by decide +kernel, by decide⟩
theorem bk_X7_init_212 : mx_blk 7 cX7_init 212 [.inl .dup, .inl (.aload 1)] 214 = true := by decide +kernel
theorem kc_X7_init_214 : mx_kI dm_X7_init 214 dm_X6_init 1 := ⟨68, by decide +kernel, md_X6_init, ci_X7_68⟩
theorem bk_X7_init_217 : mx_blk 7 cX7_init 217 [.inl (.putfield 451)] 220 = true := by decide +kernel
theorem rt_X7_init_220 : mx_kv dm_X7_init 220 := ⟨by decide +kernel, rfl⟩
theorem bk_X7_district_0 : mx_blk 7 cX7_district 0 [.inl (.iload 1)] 1 = true := by decide +kernel
theorem kc_X7_district_1 : mx_kS dm_X7_district 1 dm_X7_isKind 1 := ⟨81, by decide +kernel, md_X7_isKind, cs_X7_81⟩
theorem br_X7_district_4 : mx_brk cX7_district 4 (.ifCond .eq 13) 17 7 = true := by decide +kernel
theorem bk_X7_district_7 : mx_blk 7 cX7_district 7 [.inl (.iload 2), .inr (.int 0), .inr (.int 9)] 11 = true := by decide +kernel
theorem kc_X7_district_11 : mx_kS dm_X7_district 11 dm_X7_within 3 := ⟨85, by decide +kernel, md_X7_within, cs_X7_85⟩
theorem br_X7_district_14 : mx_brk cX7_district 14 (.ifCond .ne 6) 20 17 = true := by decide +kernel
theorem bk_X7_district_17 : mx_blk 7 cX7_district 17 [.inr (.int (-1000000001))] 19 = true := by decide +kernel
theorem rt_X7_district_19 : mx_kr dm_X7_district 19 .int := ⟨by decide +kernel, rfl⟩
theorem bk_X7_district_20 : mx_blk 7 cX7_district 20 [.inl (.aload 0), .inl (.getfield 449), .inl (.getfield 388), .inr (.int 6)] 29 = true := by decide +kernel
theorem br_X7_district_29 : mx_brk cX7_district 29 (.if_icmp .lt 6) 35 32 = true := by decide +kernel
theorem bk_X7_district_32 : mx_blk 7 cX7_district 32 [.inr (.int (-1000000003))] 34 = true := by decide +kernel
theorem rt_X7_district_34 : mx_kr dm_X7_district 34 .int := ⟨by decide +kernel, rfl⟩
theorem bk_X7_district_35 : mx_blk 7 cX7_district 35 [.inl (.aload 0), .inl (.getfield 449), .inl (.iload 1), .inl (.iload 2)] 41 = true := by decide +kernel
theorem kc_X7_district_41 : mx_kV dm_X7_district 41 dm_X6_addDistrict 6 2 := ⟨94, by decide +kernel, md_X6_addDistrict, cv_X7_94, by decide, by decide +kernel⟩
theorem bk_X7_district_44 : mx_blk 7 cX7_district 44 [.inl (.aload 0), .inl (.getfield 449), .inl (.getfield 388), .inr (.int 1), .inl .isub] 53 = true := by decide +kernel
theorem rt_X7_district_53 : mx_kr dm_X7_district 53 .int := ⟨by decide +kernel, rfl⟩
theorem bk_X7_told_0 : mx_blk 7 cX7_told 0 [.inl (.aload 0), .inl (.getfield 449), .inl (.iload 1)] 5 = true := by decide +kernel
theorem kc_X7_told_5 : mx_kV dm_X7_told 5 dm_X6_has 6 1 := ⟨98, by decide +kernel, md_X6_has, cv_X7_98, by decide, by decide +kernel⟩
theorem br_X7_told_8 : mx_brk cX7_told 8 (.ifCond .ne 6) 14 11 = true := by decide +kernel
theorem bk_X7_told_11 : mx_blk 7 cX7_told 11 [.inr (.int (-1000000001))] 13 = true := by decide +kernel
theorem rt_X7_told_13 : mx_kr dm_X7_told 13 .int := ⟨by decide +kernel, rfl⟩
theorem bk_X7_told_14 : mx_blk 7 cX7_told 14 [.inl (.aload 0), .inl (.getfield 449), .inl (.getfield 384), .inl (.iload 1), .inl (.anewarray 13), .inl (.astore 3), .inl (.iload 2)] 25 = true := by decide +kernel
theorem sw_X7_told_25 : mx_swk cX7_told 25 [(0, 80), (1, 85), (2, 90), (3, 95), (4, 100), (5, 105), (6, 110), (7, 115), (8, 120), (9, 125)] 134 = true := by decide +kernel
theorem bk_X7_told_80 : mx_blk 7 cX7_told 80 [.inl (.aload 3), .inl (.getfield 0)] 84 = true := by decide +kernel
theorem rt_X7_told_84 : mx_kr dm_X7_told 84 .int := ⟨by decide +kernel, rfl⟩
theorem bk_X7_told_85 : mx_blk 7 cX7_told 85 [.inl (.aload 3), .inl (.getfield 1)] 89 = true := by decide +kernel
theorem rt_X7_told_89 : mx_kr dm_X7_told 89 .int := ⟨by decide +kernel, rfl⟩
theorem bk_X7_told_90 : mx_blk 7 cX7_told 90 [.inl (.aload 3), .inl (.getfield 2)] 94 = true := by decide +kernel
theorem rt_X7_told_94 : mx_kr dm_X7_told 94 .int := ⟨by decide +kernel, rfl⟩
theorem bk_X7_told_95 : mx_blk 7 cX7_told 95 [.inl (.aload 3), .inl (.getfield 3)] 99 = true := by decide +kernel
theorem rt_X7_told_99 : mx_kr dm_X7_told 99 .int := ⟨by decide +kernel, rfl⟩
theorem bk_X7_told_100 : mx_blk 7 cX7_told 100 [.inl (.aload 3), .inl (.getfield 4)] 104 = true := by decide +kernel
theorem rt_X7_told_104 : mx_kr dm_X7_told 104 .int := ⟨by decide +kernel, rfl⟩
theorem bk_X7_told_105 : mx_blk 7 cX7_told 105 [.inl (.aload 3), .inl (.getfield 5)] 109 = true := by decide +kernel
theorem rt_X7_told_109 : mx_kr dm_X7_told 109 .int := ⟨by decide +kernel, rfl⟩
theorem bk_X7_told_110 : mx_blk 7 cX7_told 110 [.inl (.aload 3), .inl (.getfield 6)] 114 = true := by decide +kernel
theorem rt_X7_told_114 : mx_kr dm_X7_told 114 .int := ⟨by decide +kernel, rfl⟩
theorem bk_X7_told_115 : mx_blk 7 cX7_told 115 [.inl (.aload 3), .inl (.getfield 7)] 119 = true := by decide +kernel
theorem rt_X7_told_119 : mx_kr dm_X7_told 119 .int := ⟨by decide +kernel, rfl⟩
theorem bk_X7_told_120 : mx_blk 7 cX7_told 120 [.inl (.aload 3)] 121 = true := by decide +kernel
theorem kc_X7_told_121 : mx_kV dm_X7_told 121 dm_X0_worth 0 0 := ⟨131, by decide +kernel, md_X0_worth, cv_X7_131, by decide, by decide +kernel⟩
theorem rt_X7_told_124 : mx_kr dm_X7_told 124 .int := ⟨by decide +kernel, rfl⟩
theorem bk_X7_told_125 : mx_blk 7 cX7_told 125 [.inl (.aload 0), .inl (.getfield 449), .inl (.iload 1)] 130 = true := by decide +kernel
theorem kc_X7_told_130 : mx_kV dm_X7_told 130 dm_X6_fairAt 6 1 := ⟨135, by decide +kernel, md_X6_fairAt, cv_X7_135, by decide, by decide +kernel⟩
theorem rt_X7_told_133 : mx_kr dm_X7_told 133 .int := ⟨by decide +kernel, rfl⟩
theorem bk_X7_told_134 : mx_blk 7 cX7_told 134 [.inr (.int (-1000000001))] 136 = true := by decide +kernel
theorem rt_X7_told_136 : mx_kr dm_X7_told 136 .int := ⟨by decide +kernel, rfl⟩
theorem bk_X7_births_0 : mx_blk 7 cX7_births 0 [.inl (.aload 0), .inl (.getfield 449), .inl (.iload 1)] 5 = true := by decide +kernel
theorem kc_X7_births_5 : mx_kV dm_X7_births 5 dm_X6_has 6 1 := ⟨98, by decide +kernel, md_X6_has, cv_X7_98, by decide, by decide +kernel⟩
theorem br_X7_births_8 : mx_brk cX7_births 8 (.ifCond .eq 13) 21 11 = true := by decide +kernel
theorem bk_X7_births_11 : mx_blk 7 cX7_births 11 [.inl (.iload 2), .inr (.int 0), .inr (.int 9)] 15 = true := by decide +kernel
theorem kc_X7_births_15 : mx_kS dm_X7_births 15 dm_X7_within 3 := ⟨85, by decide +kernel, md_X7_within, cs_X7_85⟩
theorem br_X7_births_18 : mx_brk cX7_births 18 (.ifCond .ne 6) 24 21 = true := by decide +kernel
theorem bk_X7_births_21 : mx_blk 7 cX7_births 21 [.inr (.int (-1000000001))] 23 = true := by decide +kernel
theorem rt_X7_births_23 : mx_kr dm_X7_births 23 .int := ⟨by decide +kernel, rfl⟩
theorem bk_X7_births_24 : mx_blk 7 cX7_births 24 [.inl (.aload 0), .inl (.getfield 449), .inl (.aload 0), .inl (.getfield 449), .inl (.getfield 384), .inl (.iload 1), .inl (.anewarray 13), .inl (.iload 2)] 38 = true := by decide +kernel
theorem kc_X7_births_38 : mx_kV dm_X7_births 38 dm_X6_birthsOf 6 2 := ⟨139, by decide +kernel, md_X6_birthsOf, cv_X7_139, by decide, by decide +kernel⟩
theorem rt_X7_births_41 : mx_kr dm_X7_births 41 .int := ⟨by decide +kernel, rfl⟩
theorem bk_X7_as_0 : mx_blk 7 cX7_as 0 [.inl (.aload 0), .inl (.getfield 449), .inl (.iload 1)] 5 = true := by decide +kernel
theorem kc_X7_as_5 : mx_kV dm_X7_as 5 dm_X6_has 6 1 := ⟨98, by decide +kernel, md_X6_has, cv_X7_98, by decide, by decide +kernel⟩
theorem br_X7_as_8 : mx_brk cX7_as 8 (.ifCond .eq 10) 18 11 = true := by decide +kernel
theorem bk_X7_as_11 : mx_blk 7 cX7_as 11 [.inl (.iload 2)] 12 = true := by decide +kernel
theorem kc_X7_as_12 : mx_kS dm_X7_as 12 dm_X7_isKind 1 := ⟨81, by decide +kernel, md_X7_isKind, cs_X7_81⟩
theorem br_X7_as_15 : mx_brk cX7_as 15 (.ifCond .ne 6) 21 18 = true := by decide +kernel
theorem bk_X7_as_18 : mx_blk 7 cX7_as 18 [.inr (.int (-1000000001))] 20 = true := by decide +kernel
theorem rt_X7_as_20 : mx_kr dm_X7_as 20 .int := ⟨by decide +kernel, rfl⟩
theorem bk_X7_as_21 : mx_blk 7 cX7_as 21 [.inl (.aload 0), .inl (.getfield 449), .inl (.getfield 384), .inl (.iload 1), .inl (.anewarray 13), .inl (.astore 3), .inl (.aload 3), .inl (.iload 2)] 33 = true := by decide +kernel
theorem kc_X7_as_33 : mx_kV dm_X7_as 33 dm_X0_isOf 0 1 := ⟨143, by decide +kernel, md_X0_isOf, cv_X7_143, by decide, by decide +kernel⟩
theorem br_X7_as_36 : mx_brk cX7_as 36 (.ifCond .eq 10) 46 39 = true := by decide +kernel
theorem bk_X7_as_39 : mx_blk 7 cX7_as 39 [.inl (.aload 3), .inl (.getfield 1)] 43 = true := by decide +kernel
theorem gt_X7_as_43 : mx_jmp cX7_as 43 48 = true := by decide +kernel
theorem bk_X7_as_46 : mx_blk 7 cX7_as 46 [.inr (.int (-1000000012))] 48 = true := by decide +kernel
theorem rt_X7_as_48 : mx_kr dm_X7_as 48 .int := ⟨by decide +kernel, rfl⟩
theorem bk_X7_turns_0 : mx_blk 7 cX7_turns 0 [.inl (.aload 0), .inl (.getfield 449), .inl (.iload 1)] 5 = true := by decide +kernel
theorem kc_X7_turns_5 : mx_kV dm_X7_turns 5 dm_X6_has 6 1 := ⟨98, by decide +kernel, md_X6_has, cv_X7_98, by decide, by decide +kernel⟩
theorem br_X7_turns_8 : mx_brk cX7_turns 8 (.ifCond .eq 10) 18 11 = true := by decide +kernel
theorem bk_X7_turns_11 : mx_blk 7 cX7_turns 11 [.inl (.iload 2)] 12 = true := by decide +kernel
theorem kc_X7_turns_12 : mx_kS dm_X7_turns 12 dm_X7_isKind 1 := ⟨81, by decide +kernel, md_X7_isKind, cs_X7_81⟩
theorem br_X7_turns_15 : mx_brk cX7_turns 15 (.ifCond .ne 6) 21 18 = true := by decide +kernel
theorem bk_X7_turns_18 : mx_blk 7 cX7_turns 18 [.inr (.int (-1000000001))] 20 = true := by decide +kernel
theorem rt_X7_turns_20 : mx_kr dm_X7_turns 20 .int := ⟨by decide +kernel, rfl⟩
theorem bk_X7_turns_21 : mx_blk 7 cX7_turns 21 [.inl (.aload 0), .inl (.getfield 449), .inl (.getfield 384), .inl (.iload 1), .inl (.anewarray 13), .inl (.astore 3), .inl (.aload 3), .inl (.getfield 0), .inl (.istore 4), .inl (.aload 3), .inl (.iload 2), .inl (.putfield 0), .inl (.iload 4)] 44 = true := by decide +kernel
theorem rt_X7_turns_44 : mx_kr dm_X7_turns 44 .int := ⟨by decide +kernel, rfl⟩
theorem bk_X7_set_0 : mx_blk 7 cX7_set 0 [.inl (.aload 0), .inl (.getfield 449), .inl (.iload 1)] 5 = true := by decide +kernel
theorem kc_X7_set_5 : mx_kV dm_X7_set 5 dm_X6_has 6 1 := ⟨98, by decide +kernel, md_X6_has, cv_X7_98, by decide, by decide +kernel⟩
theorem br_X7_set_8 : mx_brk cX7_set 8 (.ifCond .ne 6) 14 11 = true := by decide +kernel
theorem bk_X7_set_11 : mx_blk 7 cX7_set 11 [.inr (.int (-1000000001))] 13 = true := by decide +kernel
theorem rt_X7_set_13 : mx_kr dm_X7_set 13 .int := ⟨by decide +kernel, rfl⟩
theorem bk_X7_set_14 : mx_blk 7 cX7_set 14 [.inl (.aload 0), .inl (.getfield 449), .inl (.getfield 384), .inl (.iload 1), .inl (.anewarray 13), .inl (.astore 4), .inr (.int (-1000000001)), .inl (.istore 5), .inl (.iload 2), .inr (.int 1)] 31 = true := by decide +kernel
theorem br_X7_set_31 : mx_brk cX7_set 31 (.if_icmp .ne 29) 60 34 = true := by decide +kernel
theorem bk_X7_set_34 : mx_blk 7 cX7_set 34 [.inl (.iload 3), .inr (.int 0), .inr (.int 9)] 38 = true := by decide +kernel
theorem kc_X7_set_38 : mx_kS dm_X7_set 38 dm_X7_within 3 := ⟨85, by decide +kernel, md_X7_within, cs_X7_85⟩
theorem br_X7_set_41 : mx_brk cX7_set 41 (.ifCond .eq 19) 60 44 = true := by decide +kernel
theorem bk_X7_set_44 : mx_blk 7 cX7_set 44 [.inl (.aload 4), .inl (.getfield 1), .inl (.istore 5), .inl (.aload 4), .inl (.iload 3), .inl (.putfield 1)] 57 = true := by decide +kernel
theorem gt_X7_set_57 : mx_jmp cX7_set 57 126 = true := by decide +kernel
theorem bk_X7_set_60 : mx_blk 7 cX7_set 60 [.inl (.iload 2), .inr (.int 2)] 62 = true := by decide +kernel
theorem br_X7_set_62 : mx_brk cX7_set 62 (.if_icmp .ne 35) 97 65 = true := by decide +kernel
theorem bk_X7_set_65 : mx_blk 7 cX7_set 65 [.inl (.iload 3), .inr (.int 2), .inr (.int 60)] 69 = true := by decide +kernel
theorem kc_X7_set_69 : mx_kS dm_X7_set 69 dm_X7_within 3 := ⟨85, by decide +kernel, md_X7_within, cs_X7_85⟩
theorem br_X7_set_72 : mx_brk cX7_set 72 (.ifCond .eq 25) 97 75 = true := by decide +kernel
theorem bk_X7_set_75 : mx_blk 7 cX7_set 75 [.inl (.aload 4), .inl (.getfield 3), .inl (.istore 5), .inl (.aload 4), .inl (.iload 3), .inl (.putfield 3), .inl (.aload 4), .inr (.int 0), .inl (.putfield 4)] 94 = true := by decide +kernel
theorem gt_X7_set_94 : mx_jmp cX7_set 94 126 = true := by decide +kernel
theorem bk_X7_set_97 : mx_blk 7 cX7_set 97 [.inl (.iload 2), .inr (.int 3)] 99 = true := by decide +kernel
theorem br_X7_set_99 : mx_brk cX7_set 99 (.if_icmp .ne 27) 126 102 = true := by decide +kernel
theorem bk_X7_set_102 : mx_blk 7 cX7_set 102 [.inl (.iload 3), .inr (.int (-99999)), .inr (.int 99999)] 107 = true := by decide +kernel
theorem kc_X7_set_107 : mx_kS dm_X7_set 107 dm_X7_within 3 := ⟨85, by decide +kernel, md_X7_within, cs_X7_85⟩
theorem br_X7_set_110 : mx_brk cX7_set 110 (.ifCond .eq 16) 126 113 = true := by decide +kernel
theorem bk_X7_set_113 : mx_blk 7 cX7_set 113 [.inl (.aload 4), .inl (.getfield 7), .inl (.istore 5), .inl (.aload 4), .inl (.iload 3), .inl (.putfield 7)] 126 = true := by decide +kernel
theorem bk_X7_set_126 : mx_blk 7 cX7_set 126 [.inl (.iload 5)] 128 = true := by decide +kernel
theorem rt_X7_set_128 : mx_kr dm_X7_set 128 .int := ⟨by decide +kernel, rfl⟩
theorem bk_X7_hide_0 : mx_blk 7 cX7_hide 0 [.inl (.aload 0), .inl (.getfield 449), .inl (.iload 1)] 5 = true := by decide +kernel
theorem kc_X7_hide_5 : mx_kV dm_X7_hide 5 dm_X6_has 6 1 := ⟨98, by decide +kernel, md_X6_has, cv_X7_98, by decide, by decide +kernel⟩
theorem br_X7_hide_8 : mx_brk cX7_hide 8 (.ifCond .ne 6) 14 11 = true := by decide +kernel
theorem bk_X7_hide_11 : mx_blk 7 cX7_hide 11 [.inr (.int (-1000000001))] 13 = true := by decide +kernel
theorem rt_X7_hide_13 : mx_kr dm_X7_hide 13 .int := ⟨by decide +kernel, rfl⟩
theorem bk_X7_hide_14 : mx_blk 7 cX7_hide 14 [.inl (.aload 0), .inl (.getfield 449), .inl (.getfield 384), .inl (.iload 1), .inl (.anewarray 13), .inl (.astore 2), .inl (.aload 2), .inl (.getfield 5)] 28 = true := by decide +kernel
theorem br_X7_hide_28 : mx_brk cX7_hide 28 (.ifCond .ne 6) 34 31 = true := by decide +kernel
theorem bk_X7_hide_31 : mx_blk 7 cX7_hide 31 [.inr (.int (-1000000002))] 33 = true := by decide +kernel
theorem rt_X7_hide_33 : mx_kr dm_X7_hide 33 .int := ⟨by decide +kernel, rfl⟩
theorem bk_X7_hide_34 : mx_blk 7 cX7_hide 34 [.inl (.aload 2)] 35 = true := by decide +kernel
theorem kc_X7_hide_35 : mx_kV dm_X7_hide 35 dm_X0_hideOne 0 0 := ⟨150, by decide +kernel, md_X0_hideOne, cv_X7_150, by decide, by decide +kernel⟩
theorem bk_X7_hide_38 : mx_blk 7 cX7_hide 38 [.inl (.aload 2), .inl (.getfield 6)] 42 = true := by decide +kernel
theorem rt_X7_hide_42 : mx_kr dm_X7_hide 42 .int := ⟨by decide +kernel, rfl⟩
theorem bk_X7_rule_0 : mx_blk 7 cX7_rule 0 [.inr (.int (-1000000001)), .inl (.istore 3), .inl (.iload 1)] 4 = true := by decide +kernel
theorem br_X7_rule_4 : mx_brk cX7_rule 4 (.ifCond .ne 33) 37 7 = true := by decide +kernel
theorem bk_X7_rule_7 : mx_blk 7 cX7_rule 7 [.inl (.iload 2), .inr (.int 0), .inr (.int 999)] 12 = true := by decide +kernel
theorem kc_X7_rule_12 : mx_kS dm_X7_rule 12 dm_X7_within 3 := ⟨85, by decide +kernel, md_X7_within, cs_X7_85⟩
theorem br_X7_rule_15 : mx_brk cX7_rule 15 (.ifCond .eq 22) 37 18 = true := by decide +kernel
theorem bk_X7_rule_18 : mx_blk 7 cX7_rule 18 [.inl (.aload 0), .inl (.getfield 449), .inl (.getfield 390), .inl (.istore 3), .inl (.aload 0), .inl (.getfield 449), .inl (.iload 2), .inl (.putfield 390)] 34 = true := by decide +kernel
theorem gt_X7_rule_34 : mx_jmp cX7_rule 34 102 = true := by decide +kernel
theorem bk_X7_rule_37 : mx_blk 7 cX7_rule 37 [.inl (.iload 1), .inr (.int 1)] 39 = true := by decide +kernel
theorem br_X7_rule_39 : mx_brk cX7_rule 39 (.if_icmp .ne 32) 71 42 = true := by decide +kernel
theorem bk_X7_rule_42 : mx_blk 7 cX7_rule 42 [.inl (.iload 2), .inr (.int 0), .inr (.int 99)] 46 = true := by decide +kernel
theorem kc_X7_rule_46 : mx_kS dm_X7_rule 46 dm_X7_within 3 := ⟨85, by decide +kernel, md_X7_within, cs_X7_85⟩
theorem br_X7_rule_49 : mx_brk cX7_rule 49 (.ifCond .eq 22) 71 52 = true := by decide +kernel
theorem bk_X7_rule_52 : mx_blk 7 cX7_rule 52 [.inl (.aload 0), .inl (.getfield 449), .inl (.getfield 391), .inl (.istore 3), .inl (.aload 0), .inl (.getfield 449), .inl (.iload 2), .inl (.putfield 391)] 68 = true := by decide +kernel
theorem gt_X7_rule_68 : mx_jmp cX7_rule 68 102 = true := by decide +kernel
theorem bk_X7_rule_71 : mx_blk 7 cX7_rule 71 [.inl (.iload 1), .inr (.int 2)] 73 = true := by decide +kernel
theorem br_X7_rule_73 : mx_brk cX7_rule 73 (.if_icmp .ne 29) 102 76 = true := by decide +kernel
theorem bk_X7_rule_76 : mx_blk 7 cX7_rule 76 [.inl (.iload 2), .inr (.int 0), .inr (.int 59)] 80 = true := by decide +kernel
theorem kc_X7_rule_80 : mx_kS dm_X7_rule 80 dm_X7_within 3 := ⟨85, by decide +kernel, md_X7_within, cs_X7_85⟩
theorem br_X7_rule_83 : mx_brk cX7_rule 83 (.ifCond .eq 19) 102 86 = true := by decide +kernel
theorem bk_X7_rule_86 : mx_blk 7 cX7_rule 86 [.inl (.aload 0), .inl (.getfield 449), .inl (.getfield 392), .inl (.istore 3), .inl (.aload 0), .inl (.getfield 449), .inl (.iload 2), .inl (.putfield 392)] 102 = true := by decide +kernel
theorem bk_X7_rule_102 : mx_blk 7 cX7_rule 102 [.inl (.iload 3)] 103 = true := by decide +kernel
theorem rt_X7_rule_103 : mx_kr dm_X7_rule 103 .int := ⟨by decide +kernel, rfl⟩
theorem bk_X7_deal_0 : mx_blk 7 cX7_deal 0 [.inl (.iload 1), .inr (.int 1), .inr (.int 6)] 4 = true := by decide +kernel
theorem kc_X7_deal_4 : mx_kS dm_X7_deal 4 dm_X7_within 3 := ⟨85, by decide +kernel, md_X7_within, cs_X7_85⟩
theorem br_X7_deal_7 : mx_brk cX7_deal 7 (.ifCond .ne 6) 13 10 = true := by decide +kernel
theorem bk_X7_deal_10 : mx_blk 7 cX7_deal 10 [.inr (.int (-1000000001))] 12 = true := by decide +kernel
theorem rt_X7_deal_12 : mx_kr dm_X7_deal 12 .int := ⟨by decide +kernel, rfl⟩
theorem bk_X7_deal_13 : mx_blk 7 cX7_deal 13 [.inl (.iload 1), .inr (.int 6), .inl (.aload 0), .inl (.getfield 449), .inl (.getfield 388), .inl .isub] 24 = true := by decide +kernel
theorem kc_X7_deal_24 : mx_km dm_X7_deal 24 Lib.Math.min.name := ⟨162, by decide +kernel, mx_gw (i := 402) (by decide +kernel)⟩
theorem bk_X7_deal_27 : mx_blk 7 cX7_deal 27 [.inl (.istore 2), .inr (.int 0), .inl (.istore 3)] 30 = true := by decide +kernel
theorem bk_X7_deal_30 : mx_blk 7 cX7_deal 30 [.inl (.iload 3), .inl (.iload 2)] 32 = true := by decide +kernel
theorem br_X7_deal_32 : mx_brk cX7_deal 32 (.if_icmp .ge 44) 76 35 = true := by decide +kernel
theorem bk_X7_deal_35 : mx_blk 7 cX7_deal 35 [.inl (.aload 0), .inl (.getfield 449)] 39 = true := by decide +kernel
theorem kc_X7_deal_39 : mx_kV dm_X7_deal 39 dm_X6_draw 6 0 := ⟨168, by decide +kernel, md_X6_draw, cv_X7_168, by decide, by decide +kernel⟩
theorem bk_X7_deal_42 : mx_blk 7 cX7_deal 42 [.inr (.int 6), .inl .irem, .inl (.istore 4), .inl (.aload 0), .inl (.getfield 449)] 51 = true := by decide +kernel
theorem kc_X7_deal_51 : mx_kV dm_X7_deal 51 dm_X6_draw 6 0 := ⟨168, by decide +kernel, md_X6_draw, cv_X7_168, by decide, by decide +kernel⟩
theorem bk_X7_deal_54 : mx_blk 7 cX7_deal 54 [.inr (.int 10), .inl .irem, .inl (.istore 5), .inl (.aload 0), .inl (.getfield 449), .inl (.iload 4), .inl (.iload 5)] 67 = true := by decide +kernel
theorem kc_X7_deal_67 : mx_kV dm_X7_deal 67 dm_X6_addDistrict 6 2 := ⟨94, by decide +kernel, md_X6_addDistrict, cv_X7_94, by decide, by decide +kernel⟩
theorem bk_X7_deal_70 : mx_blk 7 cX7_deal 70 [.inl (.iinc 3 1)] 73 = true := by decide +kernel
theorem gt_X7_deal_73 : mx_jmp cX7_deal 73 30 = true := by decide +kernel
theorem bk_X7_deal_76 : mx_blk 7 cX7_deal 76 [.inl (.iload 2)] 77 = true := by decide +kernel
theorem rt_X7_deal_77 : mx_kr dm_X7_deal 77 .int := ⟨by decide +kernel, rfl⟩
theorem bk_X7_seed_0 : mx_blk 7 cX7_seed 0 [.inl (.aload 0), .inl (.getfield 449), .inl (.getfield 393), .inl (.istore 2), .inl (.aload 0), .inl (.getfield 449), .inl (.iload 1), .inl (.putfield 393), .inl (.iload 2)] 17 = true := by decide +kernel
theorem rt_X7_seed_17 : mx_kr dm_X7_seed 17 .int := ⟨by decide +kernel, rfl⟩
theorem bk_X7_days_0 : mx_blk 7 cX7_days 0 [.inl (.iload 1), .inr (.int 1), .inr (.int 300)] 5 = true := by decide +kernel
theorem kc_X7_days_5 : mx_kS dm_X7_days 5 dm_X7_within 3 := ⟨85, by decide +kernel, md_X7_within, cs_X7_85⟩
theorem br_X7_days_8 : mx_brk cX7_days 8 (.ifCond .ne 6) 14 11 = true := by decide +kernel
theorem bk_X7_days_11 : mx_blk 7 cX7_days 11 [.inr (.int (-1000000001))] 13 = true := by decide +kernel
theorem rt_X7_days_13 : mx_kr dm_X7_days 13 .int := ⟨by decide +kernel, rfl⟩
theorem bk_X7_days_14 : mx_blk 7 cX7_days 14 [.inl (.iload 1), .inr (.int 99999), .inl (.aload 0), .inl (.getfield 449), .inl (.getfield 389), .inl .isub] 25 = true := by decide +kernel
theorem kc_X7_days_25 : mx_km dm_X7_days 25 Lib.Math.min.name := ⟨162, by decide +kernel, mx_gw (i := 402) (by decide +kernel)⟩
theorem bk_X7_days_28 : mx_blk 7 cX7_days 28 [.inl (.istore 2), .inr (.int 0), .inl (.istore 3), .inr (.int 0), .inl (.istore 4)] 34 = true := by decide +kernel
theorem bk_X7_days_34 : mx_blk 7 cX7_days 34 [.inl (.iload 4), .inl (.iload 2)] 37 = true := by decide +kernel
theorem br_X7_days_37 : mx_brk cX7_days 37 (.if_icmp .ge 21) 58 40 = true := by decide +kernel
theorem bk_X7_days_40 : mx_blk 7 cX7_days 40 [.inl (.iload 3), .inl (.aload 0), .inl (.getfield 449), .inr (.int 63)] 47 = true := by decide +kernel
theorem kc_X7_days_47 : mx_kV dm_X7_days 47 dm_X6_liveDay 6 1 := ⟨177, by decide +kernel, md_X6_liveDay, cv_X7_177, by decide, by decide +kernel⟩
theorem bk_X7_days_50 : mx_blk 7 cX7_days 50 [.inl .iadd, .inl (.istore 3), .inl (.iinc 4 1)] 55 = true := by decide +kernel
theorem gt_X7_days_55 : mx_jmp cX7_days 55 34 = true := by decide +kernel
theorem bk_X7_days_58 : mx_blk 7 cX7_days 58 [.inl (.iload 3)] 59 = true := by decide +kernel
theorem rt_X7_days_59 : mx_kr dm_X7_days 59 .int := ⟨by decide +kernel, rfl⟩
theorem bk_X7_behind_0 : mx_blk 7 cX7_behind 0 [.inl (.aload 0), .inl (.getfield 449), .inl (.iload 1)] 5 = true := by decide +kernel
theorem kc_X7_behind_5 : mx_kV dm_X7_behind 5 dm_X6_has 6 1 := ⟨98, by decide +kernel, md_X6_has, cv_X7_98, by decide, by decide +kernel⟩
theorem br_X7_behind_8 : mx_brk cX7_behind 8 (.ifCond .eq 23) 31 11 = true := by decide +kernel
theorem bk_X7_behind_11 : mx_blk 7 cX7_behind 11 [.inl (.iload 2), .inr (.int 0), .inr (.int 300)] 16 = true := by decide +kernel
theorem kc_X7_behind_16 : mx_kS dm_X7_behind 16 dm_X7_within 3 := ⟨85, by decide +kernel, md_X7_within, cs_X7_85⟩
theorem br_X7_behind_19 : mx_brk cX7_behind 19 (.ifCond .eq 12) 31 22 = true := by decide +kernel
theorem bk_X7_behind_22 : mx_blk 7 cX7_behind 22 [.inl (.iload 3), .inr (.int 0), .inr (.int 4)] 25 = true := by decide +kernel
theorem kc_X7_behind_25 : mx_kS dm_X7_behind 25 dm_X7_within 3 := ⟨85, by decide +kernel, md_X7_within, cs_X7_85⟩
theorem br_X7_behind_28 : mx_brk cX7_behind 28 (.ifCond .ne 6) 34 31 = true := by decide +kernel
theorem bk_X7_behind_31 : mx_blk 7 cX7_behind 31 [.inr (.int (-1000000001))] 33 = true := by decide +kernel
theorem rt_X7_behind_33 : mx_kr dm_X7_behind 33 .int := ⟨by decide +kernel, rfl⟩
theorem bk_X7_behind_34 : mx_blk 7 cX7_behind 34 [.inl (.aload 0)] 35 = true := by decide +kernel
theorem kc_X7_behind_35 : mx_kV dm_X7_behind 35 dm_X7_thinkFromNow 7 0 := ⟨180, by decide +kernel, md_X7_thinkFromNow, cv_X7_180, by decide, by decide +kernel⟩
theorem bk_X7_behind_38 : mx_blk 7 cX7_behind 38 [.inl (.aload 0), .inl (.iload 2), .inl (.iload 1)] 41 = true := by decide +kernel
theorem kc_X7_behind_41 : mx_kS dm_X7_behind 41 dm_X7_only 1 := ⟨183, by decide +kernel, md_X7_only, cs_X7_183⟩
theorem kc_X7_behind_44 : mx_kV dm_X7_behind 44 dm_X7_thinkOn 7 2 := ⟨186, by decide +kernel, md_X7_thinkOn, cv_X7_186, by decide, by decide +kernel⟩
theorem bk_X7_behind_47 : mx_blk 7 cX7_behind 47 [.inl (.aload 0), .inl (.getfield 451), .inl (.getfield 384), .inl (.iload 1), .inl (.anewarray 13), .inl (.astore 4), .inl (.iload 3)] 59 = true := by decide +kernel
theorem sw_X7_behind_59 : mx_swk cX7_behind 59 [(0, 88), (1, 94), (2, 100), (3, 106)] 112 = true := by decide +kernel
theorem bk_X7_behind_88 : mx_blk 7 cX7_behind 88 [.inl (.aload 4), .inl (.getfield 2)] 93 = true := by decide +kernel
theorem rt_X7_behind_93 : mx_kr dm_X7_behind 93 .int := ⟨by decide +kernel, rfl⟩
theorem bk_X7_behind_94 : mx_blk 7 cX7_behind 94 [.inl (.aload 4), .inl (.getfield 3)] 99 = true := by decide +kernel
theorem rt_X7_behind_99 : mx_kr dm_X7_behind 99 .int := ⟨by decide +kernel, rfl⟩
theorem bk_X7_behind_100 : mx_blk 7 cX7_behind 100 [.inl (.aload 4), .inl (.getfield 4)] 105 = true := by decide +kernel
theorem rt_X7_behind_105 : mx_kr dm_X7_behind 105 .int := ⟨by decide +kernel, rfl⟩
theorem bk_X7_behind_106 : mx_blk 7 cX7_behind 106 [.inl (.aload 4), .inl (.getfield 5)] 111 = true := by decide +kernel
theorem rt_X7_behind_111 : mx_kr dm_X7_behind 111 .int := ⟨by decide +kernel, rfl⟩
theorem bk_X7_behind_112 : mx_blk 7 cX7_behind 112 [.inl (.aload 4), .inl (.getfield 7)] 117 = true := by decide +kernel
theorem rt_X7_behind_117 : mx_kr dm_X7_behind 117 .int := ⟨by decide +kernel, rfl⟩
theorem bk_X7_meets_0 : mx_blk 7 cX7_meets 0 [.inl (.aload 0), .inl (.getfield 449), .inl (.iload 1)] 5 = true := by decide +kernel
theorem kc_X7_meets_5 : mx_kV dm_X7_meets 5 dm_X6_has 6 1 := ⟨98, by decide +kernel, md_X6_has, cv_X7_98, by decide, by decide +kernel⟩
theorem br_X7_meets_8 : mx_brk cX7_meets 8 (.ifCond .eq 14) 22 11 = true := by decide +kernel
theorem bk_X7_meets_11 : mx_blk 7 cX7_meets 11 [.inl (.aload 0), .inl (.getfield 449), .inl (.iload 2)] 16 = true := by decide +kernel
theorem kc_X7_meets_16 : mx_kV dm_X7_meets 16 dm_X6_has 6 1 := ⟨98, by decide +kernel, md_X6_has, cv_X7_98, by decide, by decide +kernel⟩
theorem br_X7_meets_19 : mx_brk cX7_meets 19 (.ifCond .ne 6) 25 22 = true := by decide +kernel
theorem bk_X7_meets_22 : mx_blk 7 cX7_meets 22 [.inr (.int (-1000000001))] 24 = true := by decide +kernel
theorem rt_X7_meets_24 : mx_kr dm_X7_meets 24 .int := ⟨by decide +kernel, rfl⟩
theorem bk_X7_meets_25 : mx_blk 7 cX7_meets 25 [.inl (.aload 0)] 26 = true := by decide +kernel
theorem kc_X7_meets_26 : mx_kV dm_X7_meets 26 dm_X7_thinkFromNow 7 0 := ⟨180, by decide +kernel, md_X7_thinkFromNow, cv_X7_180, by decide, by decide +kernel⟩
theorem bk_X7_meets_29 : mx_blk 7 cX7_meets 29 [.inr (.int 0), .inl (.istore 3)] 31 = true := by decide +kernel
theorem bk_X7_meets_31 : mx_blk 7 cX7_meets 31 [.inl (.iload 3), .inr (.int 200)] 35 = true := by decide +kernel
theorem br_X7_meets_35 : mx_brk cX7_meets 35 (.if_icmp .gt 52) 87 38 = true := by decide +kernel
theorem bk_X7_meets_38 : mx_blk 7 cX7_meets 38 [.inl (.aload 0), .inl (.getfield 451), .inl (.iload 1)] 43 = true := by decide +kernel
theorem kc_X7_meets_43 : mx_kV dm_X7_meets 43 dm_X6_fairAt 6 1 := ⟨135, by decide +kernel, md_X6_fairAt, cv_X7_135, by decide, by decide +kernel⟩
theorem bk_X7_meets_46 : mx_blk 7 cX7_meets 46 [.inr (.int 1)] 47 = true := by decide +kernel
theorem br_X7_meets_47 : mx_brk cX7_meets 47 (.if_icmp .ne 17) 64 50 = true := by decide +kernel
theorem bk_X7_meets_50 : mx_blk 7 cX7_meets 50 [.inl (.aload 0), .inl (.getfield 451), .inl (.iload 2)] 55 = true := by decide +kernel
theorem kc_X7_meets_55 : mx_kV dm_X7_meets 55 dm_X6_fairAt 6 1 := ⟨135, by decide +kernel, md_X6_fairAt, cv_X7_135, by decide, by decide +kernel⟩
theorem bk_X7_meets_58 : mx_blk 7 cX7_meets 58 [.inr (.int 1)] 59 = true := by decide +kernel
theorem br_X7_meets_59 : mx_brk cX7_meets 59 (.if_icmp .ne 5) 64 62 = true := by decide +kernel
theorem bk_X7_meets_62 : mx_blk 7 cX7_meets 62 [.inl (.iload 3)] 63 = true := by decide +kernel
theorem rt_X7_meets_63 : mx_kr dm_X7_meets 63 .int := ⟨by decide +kernel, rfl⟩
theorem bk_X7_meets_64 : mx_blk 7 cX7_meets 64 [.inl (.aload 0), .inl (.getfield 451), .inl (.iload 1)] 69 = true := by decide +kernel
theorem kc_X7_meets_69 : mx_kS dm_X7_meets 69 dm_X7_only 1 := ⟨183, by decide +kernel, md_X7_only, cs_X7_183⟩
theorem bk_X7_meets_72 : mx_blk 7 cX7_meets 72 [.inl (.iload 2)] 73 = true := by decide +kernel
theorem kc_X7_meets_73 : mx_kS dm_X7_meets 73 dm_X7_only 1 := ⟨183, by decide +kernel, md_X7_only, cs_X7_183⟩
theorem bk_X7_meets_76 : mx_blk 7 cX7_meets 76 [.inl .ior] 77 = true := by decide +kernel
theorem kc_X7_meets_77 : mx_kV dm_X7_meets 77 dm_X6_liveDay 6 1 := ⟨177, by decide +kernel, md_X6_liveDay, cv_X7_177, by decide, by decide +kernel⟩
theorem bk_X7_meets_80 : mx_blk 7 cX7_meets 80 [.inl .pop, .inl (.iinc 3 1)] 84 = true := by decide +kernel
theorem gt_X7_meets_84 : mx_jmp cX7_meets 84 31 = true := by decide +kernel
theorem bk_X7_meets_87 : mx_blk 7 cX7_meets 87 [.inr (.int (-1000000005))] 89 = true := by decide +kernel
theorem rt_X7_meets_89 : mx_kr dm_X7_meets 89 .int := ⟨by decide +kernel, rfl⟩
theorem bk_X7_sundays_0 : mx_blk 7 cX7_sundays 0 [.inl (.aload 0), .inl (.getfield 449), .inl (.iload 1)] 5 = true := by decide +kernel
theorem kc_X7_sundays_5 : mx_kV dm_X7_sundays 5 dm_X6_has 6 1 := ⟨98, by decide +kernel, md_X6_has, cv_X7_98, by decide, by decide +kernel⟩
theorem br_X7_sundays_8 : mx_brk cX7_sundays 8 (.ifCond .eq 14) 22 11 = true := by decide +kernel
theorem bk_X7_sundays_11 : mx_blk 7 cX7_sundays 11 [.inl (.iload 2), .inr (.int 0), .inr (.int 300)] 16 = true := by decide +kernel
theorem kc_X7_sundays_16 : mx_kS dm_X7_sundays 16 dm_X7_within 3 := ⟨85, by decide +kernel, md_X7_within, cs_X7_85⟩
theorem br_X7_sundays_19 : mx_brk cX7_sundays 19 (.ifCond .ne 6) 25 22 = true := by decide +kernel
theorem bk_X7_sundays_22 : mx_blk 7 cX7_sundays 22 [.inr (.int (-1000000001))] 24 = true := by decide +kernel
theorem rt_X7_sundays_24 : mx_kr dm_X7_sundays 24 .int := ⟨by decide +kernel, rfl⟩
theorem bk_X7_sundays_25 : mx_blk 7 cX7_sundays 25 [.inl (.aload 0)] 26 = true := by decide +kernel
theorem kc_X7_sundays_26 : mx_kV dm_X7_sundays 26 dm_X7_thinkFromNow 7 0 := ⟨180, by decide +kernel, md_X7_thinkFromNow, cv_X7_180, by decide, by decide +kernel⟩
theorem bk_X7_sundays_29 : mx_blk 7 cX7_sundays 29 [.inr (.int 0), .inl (.istore 3), .inr (.int 1), .inl (.istore 4)] 34 = true := by decide +kernel
theorem bk_X7_sundays_34 : mx_blk 7 cX7_sundays 34 [.inl (.iload 4), .inl (.iload 2)] 37 = true := by decide +kernel
theorem br_X7_sundays_37 : mx_brk cX7_sundays 37 (.if_icmp .gt 23) 60 40 = true := by decide +kernel
theorem bk_X7_sundays_40 : mx_blk 7 cX7_sundays 40 [.inl (.iload 3), .inl (.aload 0), .inl (.getfield 451), .inl (.iload 1)] 46 = true := by decide +kernel
theorem kc_X7_sundays_46 : mx_kS dm_X7_sundays 46 dm_X7_only 1 := ⟨183, by decide +kernel, md_X7_only, cs_X7_183⟩
theorem kc_X7_sundays_49 : mx_kV dm_X7_sundays 49 dm_X6_liveDay 6 1 := ⟨177, by decide +kernel, md_X6_liveDay, cv_X7_177, by decide, by decide +kernel⟩
theorem bk_X7_sundays_52 : mx_blk 7 cX7_sundays 52 [.inl .iadd, .inl (.istore 3), .inl (.iinc 4 1)] 57 = true := by decide +kernel
theorem gt_X7_sundays_57 : mx_jmp cX7_sundays 57 34 = true := by decide +kernel
theorem bk_X7_sundays_60 : mx_blk 7 cX7_sundays 60 [.inl (.iload 3)] 61 = true := by decide +kernel
theorem rt_X7_sundays_61 : mx_kr dm_X7_sundays 61 .int := ⟨by decide +kernel, rfl⟩
theorem bk_X7_trader_0 : mx_blk 7 cX7_trader 0 [.inl (.aload 0), .inl (.getfield 449), .inl (.iload 1)] 5 = true := by decide +kernel
theorem kc_X7_trader_5 : mx_kV dm_X7_trader 5 dm_X6_has 6 1 := ⟨98, by decide +kernel, md_X6_has, cv_X7_98, by decide, by decide +kernel⟩
theorem br_X7_trader_8 : mx_brk cX7_trader 8 (.ifCond .eq 13) 21 11 = true := by decide +kernel
theorem bk_X7_trader_11 : mx_blk 7 cX7_trader 11 [.inl (.iload 2), .inr (.int 0), .inr (.int 100)] 15 = true := by decide +kernel
theorem kc_X7_trader_15 : mx_kS dm_X7_trader 15 dm_X7_within 3 := ⟨85, by decide +kernel, md_X7_within, cs_X7_85⟩
theorem br_X7_trader_18 : mx_brk cX7_trader 18 (.ifCond .ne 6) 24 21 = true := by decide +kernel
theorem bk_X7_trader_21 : mx_blk 7 cX7_trader 21 [.inr (.int (-1000000001))] 23 = true := by decide +kernel
theorem rt_X7_trader_23 : mx_kr dm_X7_trader 23 .int := ⟨by decide +kernel, rfl⟩
theorem bk_X7_trader_24 : mx_blk 7 cX7_trader 24 [.inl (.aload 0)] 25 = true := by decide +kernel
theorem kc_X7_trader_25 : mx_kV dm_X7_trader 25 dm_X7_thinkFromNow 7 0 := ⟨180, by decide +kernel, md_X7_thinkFromNow, cv_X7_180, by decide, by decide +kernel⟩
theorem bk_X7_trader_28 : mx_blk 7 cX7_trader 28 [.inr (.int 0), .inl (.istore 3)] 30 = true := by decide +kernel
theorem bk_X7_trader_30 : mx_blk 7 cX7_trader 30 [.inl (.iload 3), .inl (.aload 0), .inl (.getfield 461), .inl .arraylength] 36 = true := by decide +kernel
theorem br_X7_trader_36 : mx_brk cX7_trader 36 (.if_icmp .ge 33) 69 39 = true := by decide +kernel
theorem bk_X7_trader_39 : mx_blk 7 cX7_trader 39 [.inl (.aload 0), .inl (.getfield 461), .inl (.iload 3), .inl (.iload 3), .inl (.iload 1)] 46 = true := by decide +kernel
theorem br_X7_trader_46 : mx_brk cX7_trader 46 (.if_icmp .ne 14) 60 49 = true := by decide +kernel
theorem bk_X7_trader_49 : mx_blk 7 cX7_trader 49 [.inl (.aload 0), .inl (.getfield 451), .inl (.iload 3)] 54 = true := by decide +kernel
theorem kc_X7_trader_54 : mx_kV dm_X7_trader 54 dm_X6_fairAt 6 1 := ⟨135, by decide +kernel, md_X6_fairAt, cv_X7_135, by decide, by decide +kernel⟩
theorem gt_X7_trader_57 : mx_jmp cX7_trader 57 62 = true := by decide +kernel
theorem bk_X7_trader_60 : mx_blk 7 cX7_trader 60 [.inr (.int (-1000000005))] 62 = true := by decide +kernel
theorem bk_X7_trader_62 : mx_blk 7 cX7_trader 62 [.inl .iastore, .inl (.iinc 3 1)] 66 = true := by decide +kernel
theorem gt_X7_trader_66 : mx_jmp cX7_trader 66 30 = true := by decide +kernel
theorem bk_X7_trader_69 : mx_blk 7 cX7_trader 69 [.inr (.int 1), .inl (.istore 3)] 71 = true := by decide +kernel
theorem bk_X7_trader_71 : mx_blk 7 cX7_trader 71 [.inl (.iload 3), .inl (.iload 2)] 73 = true := by decide +kernel
theorem br_X7_trader_73 : mx_brk cX7_trader 73 (.if_icmp .gt 23) 96 76 = true := by decide +kernel
theorem bk_X7_trader_76 : mx_blk 7 cX7_trader 76 [.inl (.aload 0), .inl (.getfield 451), .inr (.int 63)] 82 = true := by decide +kernel
theorem kc_X7_trader_82 : mx_kV dm_X7_trader 82 dm_X6_liveDay 6 1 := ⟨177, by decide +kernel, md_X6_liveDay, cv_X7_177, by decide, by decide +kernel⟩
theorem bk_X7_trader_85 : mx_blk 7 cX7_trader 85 [.inl .pop, .inl (.aload 0)] 87 = true := by decide +kernel
theorem kc_X7_trader_87 : mx_kV dm_X7_trader 87 dm_X7_tradeOneDay 7 0 := ⟨190, by decide +kernel, md_X7_tradeOneDay, cv_X7_190, by decide, by decide +kernel⟩
theorem bk_X7_trader_90 : mx_blk 7 cX7_trader 90 [.inl (.iinc 3 1)] 93 = true := by decide +kernel
theorem gt_X7_trader_93 : mx_jmp cX7_trader 93 71 = true := by decide +kernel
theorem bk_X7_trader_96 : mx_blk 7 cX7_trader 96 [.inl (.aload 0), .inl (.getfield 461), .inl (.aload 0)] 101 = true := by decide +kernel
theorem kc_X7_trader_101 : mx_kV dm_X7_trader 101 dm_X7_mostSeenAt 7 0 := ⟨193, by decide +kernel, md_X7_mostSeenAt, cv_X7_193, by decide, by decide +kernel⟩
theorem bk_X7_trader_104 : mx_blk 7 cX7_trader 104 [.inl .iaload] 105 = true := by decide +kernel
theorem rt_X7_trader_105 : mx_kr dm_X7_trader 105 .int := ⟨by decide +kernel, rfl⟩
theorem bk_X7_richest_0 : mx_blk 7 cX7_richest 0 [.inl (.iload 1), .inr (.int 0), .inr (.int 300)] 5 = true := by decide +kernel
theorem kc_X7_richest_5 : mx_kS dm_X7_richest 5 dm_X7_within 3 := ⟨85, by decide +kernel, md_X7_within, cs_X7_85⟩
theorem br_X7_richest_8 : mx_brk cX7_richest 8 (.ifCond .ne 6) 14 11 = true := by decide +kernel
theorem bk_X7_richest_11 : mx_blk 7 cX7_richest 11 [.inr (.int (-1000000001))] 13 = true := by decide +kernel
theorem rt_X7_richest_13 : mx_kr dm_X7_richest 13 .int := ⟨by decide +kernel, rfl⟩
theorem bk_X7_richest_14 : mx_blk 7 cX7_richest 14 [.inl (.aload 0), .inl (.getfield 449), .inl (.getfield 388)] 21 = true := by decide +kernel
theorem br_X7_richest_21 : mx_brk cX7_richest 21 (.ifCond .ne 6) 27 24 = true := by decide +kernel
theorem bk_X7_richest_24 : mx_blk 7 cX7_richest 24 [.inr (.int (-1000000005))] 26 = true := by decide +kernel
theorem rt_X7_richest_26 : mx_kr dm_X7_richest 26 .int := ⟨by decide +kernel, rfl⟩
theorem bk_X7_richest_27 : mx_blk 7 cX7_richest 27 [.inl (.aload 0)] 28 = true := by decide +kernel
theorem kc_X7_richest_28 : mx_kV dm_X7_richest 28 dm_X7_thinkFromNow 7 0 := ⟨180, by decide +kernel, md_X7_thinkFromNow, cv_X7_180, by decide, by decide +kernel⟩
theorem bk_X7_richest_31 : mx_blk 7 cX7_richest 31 [.inl (.aload 0), .inl (.iload 1), .inr (.int 63)] 35 = true := by decide +kernel
theorem kc_X7_richest_35 : mx_kV dm_X7_richest 35 dm_X7_thinkOn 7 2 := ⟨186, by decide +kernel, md_X7_thinkOn, cv_X7_186, by decide, by decide +kernel⟩
theorem bk_X7_richest_38 : mx_blk 7 cX7_richest 38 [.inr (.int 0), .inl (.istore 2), .inr (.int 1), .inl (.istore 3)] 42 = true := by decide +kernel
theorem bk_X7_richest_42 : mx_blk 7 cX7_richest 42 [.inl (.iload 3), .inl (.aload 0), .inl (.getfield 451), .inl (.getfield 388)] 50 = true := by decide +kernel
theorem br_X7_richest_50 : mx_brk cX7_richest 50 (.if_icmp .ge 38) 88 53 = true := by decide +kernel
theorem bk_X7_richest_53 : mx_blk 7 cX7_richest 53 [.inl (.aload 0), .inl (.getfield 451), .inl (.getfield 384), .inl (.iload 3), .inl (.anewarray 13), .inl (.getfield 7), .inl (.aload 0), .inl (.getfield 451), .inl (.getfield 384), .inl (.iload 2), .inl (.anewarray 13), .inl (.getfield 7)] 77 = true := by decide +kernel
theorem br_X7_richest_77 : mx_brk cX7_richest 77 (.if_icmp .le 5) 82 80 = true := by decide +kernel
theorem bk_X7_richest_80 : mx_blk 7 cX7_richest 80 [.inl (.iload 3), .inl (.istore 2)] 82 = true := by decide +kernel
theorem bk_X7_richest_82 : mx_blk 7 cX7_richest 82 [.inl (.iinc 3 1)] 85 = true := by decide +kernel
theorem gt_X7_richest_85 : mx_jmp cX7_richest 85 42 = true := by decide +kernel
theorem bk_X7_richest_88 : mx_blk 7 cX7_richest 88 [.inl (.iload 2)] 89 = true := by decide +kernel
theorem rt_X7_richest_89 : mx_kr dm_X7_richest 89 .int := ⟨by decide +kernel, rfl⟩
theorem bk_X7_brings_0 : mx_blk 7 cX7_brings 0 [.inl (.aload 0), .inl (.getfield 449), .inl (.iload 1)] 5 = true := by decide +kernel
theorem kc_X7_brings_5 : mx_kV dm_X7_brings 5 dm_X6_has 6 1 := ⟨98, by decide +kernel, md_X6_has, cv_X7_98, by decide, by decide +kernel⟩
theorem br_X7_brings_8 : mx_brk cX7_brings 8 (.ifCond .eq 14) 22 11 = true := by decide +kernel
theorem bk_X7_brings_11 : mx_blk 7 cX7_brings 11 [.inl (.iload 2), .inr (.int 0), .inr (.int 300)] 16 = true := by decide +kernel
theorem kc_X7_brings_16 : mx_kS dm_X7_brings 16 dm_X7_within 3 := ⟨85, by decide +kernel, md_X7_within, cs_X7_85⟩
theorem br_X7_brings_19 : mx_brk cX7_brings 19 (.ifCond .ne 6) 25 22 = true := by decide +kernel
theorem bk_X7_brings_22 : mx_blk 7 cX7_brings 22 [.inr (.int (-1000000001))] 24 = true := by decide +kernel
theorem rt_X7_brings_24 : mx_kr dm_X7_brings 24 .int := ⟨by decide +kernel, rfl⟩
theorem bk_X7_brings_25 : mx_blk 7 cX7_brings 25 [.inl (.aload 0), .inl (.getfield 449), .inl (.getfield 384), .inl (.iload 1), .inl (.anewarray 13), .inl (.getfield 5)] 37 = true := by decide +kernel
theorem br_X7_brings_37 : mx_brk cX7_brings 37 (.ifCond .ne 6) 43 40 = true := by decide +kernel
theorem bk_X7_brings_40 : mx_blk 7 cX7_brings 40 [.inr (.int (-1000000002))] 42 = true := by decide +kernel
theorem rt_X7_brings_42 : mx_kr dm_X7_brings 42 .int := ⟨by decide +kernel, rfl⟩
theorem bk_X7_brings_43 : mx_blk 7 cX7_brings 43 [.inl (.aload 0)] 44 = true := by decide +kernel
theorem kc_X7_brings_44 : mx_kV dm_X7_brings 44 dm_X7_thinkFromNow 7 0 := ⟨180, by decide +kernel, md_X7_thinkFromNow, cv_X7_180, by decide, by decide +kernel⟩
theorem bk_X7_brings_47 : mx_blk 7 cX7_brings 47 [.inl (.aload 0), .inl (.iload 2), .inl (.iload 1)] 50 = true := by decide +kernel
theorem kc_X7_brings_50 : mx_kS dm_X7_brings 50 dm_X7_only 1 := ⟨183, by decide +kernel, md_X7_only, cs_X7_183⟩
theorem kc_X7_brings_53 : mx_kV dm_X7_brings 53 dm_X7_thinkOn 7 2 := ⟨186, by decide +kernel, md_X7_thinkOn, cv_X7_186, by decide, by decide +kernel⟩
theorem bk_X7_brings_56 : mx_blk 7 cX7_brings 56 [.inl (.aload 0), .inl (.getfield 451), .inl (.getfield 384), .inl (.iload 1), .inl (.anewarray 13), .inl (.getfield 7), .inl (.istore 3), .inl (.aload 0)] 70 = true := by decide +kernel
theorem kc_X7_brings_70 : mx_kV dm_X7_brings 70 dm_X7_thinkFromNow 7 0 := ⟨180, by decide +kernel, md_X7_thinkFromNow, cv_X7_180, by decide, by decide +kernel⟩
theorem bk_X7_brings_73 : mx_blk 7 cX7_brings 73 [.inl (.aload 0), .inl (.getfield 451), .inl (.getfield 384), .inl (.iload 1), .inl (.anewarray 13)] 82 = true := by decide +kernel
theorem kc_X7_brings_82 : mx_kV dm_X7_brings 82 dm_X0_hideOne 0 0 := ⟨150, by decide +kernel, md_X0_hideOne, cv_X7_150, by decide, by decide +kernel⟩
theorem bk_X7_brings_85 : mx_blk 7 cX7_brings 85 [.inl (.aload 0), .inl (.iload 2), .inl (.iload 1)] 88 = true := by decide +kernel
theorem kc_X7_brings_88 : mx_kS dm_X7_brings 88 dm_X7_only 1 := ⟨183, by decide +kernel, md_X7_only, cs_X7_183⟩
theorem kc_X7_brings_91 : mx_kV dm_X7_brings 91 dm_X7_thinkOn 7 2 := ⟨186, by decide +kernel, md_X7_thinkOn, cv_X7_186, by decide, by decide +kernel⟩
theorem bk_X7_brings_94 : mx_blk 7 cX7_brings 94 [.inl (.aload 0), .inl (.getfield 451), .inl (.getfield 384), .inl (.iload 1), .inl (.anewarray 13), .inl (.getfield 7), .inl (.iload 3), .inl .isub] 108 = true := by decide +kernel
theorem rt_X7_brings_108 : mx_kr dm_X7_brings 108 .int := ⟨by decide +kernel, rfl⟩
theorem bk_X7_rated_0 : mx_blk 7 cX7_rated 0 [.inl (.aload 0), .inl (.iload 1)] 2 = true := by decide +kernel
theorem kc_X7_rated_2 : mx_kV dm_X7_rated 2 dm_X7_isSheet 7 1 := ⟨196, by decide +kernel, md_X7_isSheet, cv_X7_196, by decide, by decide +kernel⟩
theorem br_X7_rated_5 : mx_brk cX7_rated 5 (.ifCond .eq 23) 28 8 = true := by decide +kernel
theorem bk_X7_rated_8 : mx_blk 7 cX7_rated 8 [.inl (.aload 0), .inl (.getfield 449), .inl (.iload 2)] 13 = true := by decide +kernel
theorem kc_X7_rated_13 : mx_kV dm_X7_rated 13 dm_X6_has 6 1 := ⟨98, by decide +kernel, md_X6_has, cv_X7_98, by decide, by decide +kernel⟩
theorem br_X7_rated_16 : mx_brk cX7_rated 16 (.ifCond .eq 12) 28 19 = true := by decide +kernel
theorem bk_X7_rated_19 : mx_blk 7 cX7_rated 19 [.inl (.iload 3), .inr (.int 0), .inr (.int 1)] 22 = true := by decide +kernel
theorem kc_X7_rated_22 : mx_kS dm_X7_rated 22 dm_X7_within 3 := ⟨85, by decide +kernel, md_X7_within, cs_X7_85⟩
theorem br_X7_rated_25 : mx_brk cX7_rated 25 (.ifCond .ne 6) 31 28 = true := by decide +kernel
theorem bk_X7_rated_28 : mx_blk 7 cX7_rated 28 [.inr (.int (-1000000001))] 30 = true := by decide +kernel
theorem rt_X7_rated_30 : mx_kr dm_X7_rated 30 .int := ⟨by decide +kernel, rfl⟩
theorem bk_X7_rated_31 : mx_blk 7 cX7_rated 31 [.inl (.aload 0), .inl (.getfield 457), .inl (.iload 1), .inl (.anewarray 15), .inl (.astore 4), .inl (.aload 4)] 41 = true := by decide +kernel
theorem kc_X7_rated_41 : mx_kV dm_X7_rated 41 dm_X4_isMissing 4 0 := ⟨199, by decide +kernel, md_X4_isMissing, cv_X7_199, by decide, by decide +kernel⟩
theorem br_X7_rated_44 : mx_brk cX7_rated 44 (.ifCond .eq 6) 50 47 = true := by decide +kernel
theorem bk_X7_rated_47 : mx_blk 7 cX7_rated 47 [.inr (.int (-1000000011))] 49 = true := by decide +kernel
theorem rt_X7_rated_49 : mx_kr dm_X7_rated 49 .int := ⟨by decide +kernel, rfl⟩
theorem bk_X7_rated_50 : mx_blk 7 cX7_rated 50 [.inr (.int 0), .inl (.istore 5), .inl (.aload 0), .inl (.aload 4), .inl (.iload 2), .inr (.int 0)] 58 = true := by decide +kernel
theorem kc_X7_rated_58 : mx_kV dm_X7_rated 58 dm_X7_differences 7 3 := ⟨204, by decide +kernel, md_X7_differences, cv_X7_204, by decide, by decide +kernel⟩
theorem bk_X7_rated_61 : mx_blk 7 cX7_rated 61 [.inl (.istore 6), .inr (.int 1), .inl (.istore 7)] 66 = true := by decide +kernel
theorem bk_X7_rated_66 : mx_blk 7 cX7_rated 66 [.inl (.iload 7), .inr (.int 9)] 70 = true := by decide +kernel
theorem br_X7_rated_70 : mx_brk cX7_rated 70 (.if_icmp .gt 35) 105 73 = true := by decide +kernel
theorem bk_X7_rated_73 : mx_blk 7 cX7_rated 73 [.inl (.aload 0), .inl (.aload 4), .inl (.iload 2), .inl (.iload 7)] 79 = true := by decide +kernel
theorem kc_X7_rated_79 : mx_kV dm_X7_rated 79 dm_X7_differences 7 3 := ⟨204, by decide +kernel, md_X7_differences, cv_X7_204, by decide, by decide +kernel⟩
theorem bk_X7_rated_82 : mx_blk 7 cX7_rated 82 [.inl (.istore 8), .inl (.iload 8), .inl (.iload 6)] 88 = true := by decide +kernel
theorem br_X7_rated_88 : mx_brk cX7_rated 88 (.if_icmp .ge 11) 99 91 = true := by decide +kernel
theorem bk_X7_rated_91 : mx_blk 7 cX7_rated 91 [.inl (.iload 8), .inl (.istore 6), .inl (.iload 7), .inl (.istore 5)] 99 = true := by decide +kernel
theorem bk_X7_rated_99 : mx_blk 7 cX7_rated 99 [.inl (.iinc 7 1)] 102 = true := by decide +kernel
theorem gt_X7_rated_102 : mx_jmp cX7_rated 102 66 = true := by decide +kernel
theorem bk_X7_rated_105 : mx_blk 7 cX7_rated 105 [.inl (.iload 3)] 106 = true := by decide +kernel
theorem br_X7_rated_106 : mx_brk cX7_rated 106 (.ifCond .ne 8) 114 109 = true := by decide +kernel
theorem bk_X7_rated_109 : mx_blk 7 cX7_rated 109 [.inl (.iload 5)] 111 = true := by decide +kernel
theorem gt_X7_rated_111 : mx_jmp cX7_rated 111 116 = true := by decide +kernel
theorem bk_X7_rated_114 : mx_blk 7 cX7_rated 114 [.inl (.iload 6)] 116 = true := by decide +kernel
theorem rt_X7_rated_116 : mx_kr dm_X7_rated 116 .int := ⟨by decide +kernel, rfl⟩
theorem bk_X7_fine_0 : mx_blk 7 cX7_fine 0 [.inl (.aload 0), .inl (.getfield 449), .inr (.int 2)] 5 = true := by decide +kernel
theorem kc_X7_fine_5 : mx_kV dm_X7_fine 5 dm_X6_lawFor 6 1 := ⟨208, by decide +kernel, md_X6_lawFor, cv_X7_208, by decide, by decide +kernel⟩
theorem bk_X7_fine_8 : mx_blk 7 cX7_fine 8 [.inl (.astore 1), .inl (.aload 1)] 10 = true := by decide +kernel
theorem br_X7_fine_10 : mx_brk cX7_fine 10 (.ifnonnull 5) 15 13 = true := by decide +kernel
theorem bk_X7_fine_13 : mx_blk 7 cX7_fine 13 [.inr (.int 0)] 14 = true := by decide +kernel
theorem rt_X7_fine_14 : mx_kr dm_X7_fine 14 .int := ⟨by decide +kernel, rfl⟩
theorem bk_X7_fine_15 : mx_blk 7 cX7_fine 15 [.inl (.aload 0), .inl (.getfield 449), .inl (.getfield 387), .inl (.aload 1), .inl (.aload 0), .inl (.getfield 449), .inl (.getfield 389), .inl (.aload 0), .inl (.getfield 449)] 34 = true := by decide +kernel
theorem kc_X7_fine_34 : mx_kV dm_X7_fine 34 dm_X6_bornOfAll 6 0 := ⟨216, by decide +kernel, md_X6_bornOfAll, cv_X7_216, by decide, by decide +kernel⟩
theorem bk_X7_fine_37 : mx_blk 7 cX7_fine 37 [.inr (.int 0)] 38 = true := by decide +kernel
theorem kc_X7_fine_38 : mx_kV dm_X7_fine 38 dm_X3_gives 3 4 := ⟨219, by decide +kernel, md_X3_gives, cv_X7_219, by decide, by decide +kernel⟩
theorem rt_X7_fine_41 : mx_kr dm_X7_fine 41 .int := ⟨by decide +kernel, rfl⟩
theorem bk_X7_feed_0 : mx_blk 7 cX7_feed 0 [.inl (.aload 0), .inl (.getfield 454), .inr (.int 84)] 6 = true := by decide +kernel
theorem br_X7_feed_6 : mx_brk cX7_feed 6 (.if_icmp .le 6) 12 9 = true := by decide +kernel
theorem bk_X7_feed_9 : mx_blk 7 cX7_feed 9 [.inr (.int (-1000000003))] 11 = true := by decide +kernel
theorem rt_X7_feed_11 : mx_kr dm_X7_feed 11 .int := ⟨by decide +kernel, rfl⟩
theorem bk_X7_feed_12 : mx_blk 7 cX7_feed 12 [.inl (.aload 0), .inl (.iload 1)] 14 = true := by decide +kernel
theorem kc_X7_feed_14 : mx_kV dm_X7_feed 14 dm_X7_feedOne 7 1 := ⟨225, by decide +kernel, md_X7_feedOne, cv_X7_225, by decide, by decide +kernel⟩
theorem bk_X7_feed_17 : mx_blk 7 cX7_feed 17 [.inl (.aload 0), .inl (.iload 2)] 19 = true := by decide +kernel
theorem kc_X7_feed_19 : mx_kV dm_X7_feed 19 dm_X7_feedOne 7 1 := ⟨225, by decide +kernel, md_X7_feedOne, cv_X7_225, by decide, by decide +kernel⟩
theorem bk_X7_feed_22 : mx_blk 7 cX7_feed 22 [.inl (.aload 0), .inl (.iload 3)] 24 = true := by decide +kernel
theorem kc_X7_feed_24 : mx_kV dm_X7_feed 24 dm_X7_feedOne 7 1 := ⟨225, by decide +kernel, md_X7_feedOne, cv_X7_225, by decide, by decide +kernel⟩
theorem bk_X7_feed_27 : mx_blk 7 cX7_feed 27 [.inl (.aload 0), .inl (.getfield 454)] 31 = true := by decide +kernel
theorem rt_X7_feed_31 : mx_kr dm_X7_feed 31 .int := ⟨by decide +kernel, rfl⟩
theorem bk_X7_trim_0 : mx_blk 7 cX7_trim 0 [.inl (.iload 1), .inr (.int 0), .inl (.aload 0), .inl (.getfield 454)] 6 = true := by decide +kernel
theorem kc_X7_trim_6 : mx_kS dm_X7_trim 6 dm_X7_within 3 := ⟨85, by decide +kernel, md_X7_within, cs_X7_85⟩
theorem br_X7_trim_9 : mx_brk cX7_trim 9 (.ifCond .ne 6) 15 12 = true := by decide +kernel
theorem bk_X7_trim_12 : mx_blk 7 cX7_trim 12 [.inr (.int (-1000000001))] 14 = true := by decide +kernel
theorem rt_X7_trim_14 : mx_kr dm_X7_trim 14 .int := ⟨by decide +kernel, rfl⟩
theorem bk_X7_trim_15 : mx_blk 7 cX7_trim 15 [.inl (.aload 0), .inl (.iload 1), .inl (.putfield 454), .inl (.iload 1)] 21 = true := by decide +kernel
theorem rt_X7_trim_21 : mx_kr dm_X7_trim 21 .int := ⟨by decide +kernel, rfl⟩
theorem bk_X7_text_0 : mx_blk 7 cX7_text 0 [.inl (.aload 0), .inl (.getfield 455), .inl (.aload 0), .inl (.getfield 453), .inl (.aload 0), .inl (.getfield 454), .inl (.aload 0), .inl (.getfield 456)] 16 = true := by decide +kernel
theorem kc_X7_text_16 : mx_kV dm_X7_text 16 dm_X2_understands 2 3 := ⟨229, by decide +kernel, md_X2_understands, cv_X7_229, by decide, by decide +kernel⟩
theorem bk_X7_text_19 : mx_blk 7 cX7_text 19 [.inl (.istore 1), .inl (.aload 0), .inr (.int 0), .inl (.putfield 454), .inl (.iload 1)] 26 = true := by decide +kernel
theorem br_X7_text_26 : mx_brk cX7_text 26 (.ifCond .ne 14) 40 29 = true := by decide +kernel
theorem bk_X7_text_29 : mx_blk 7 cX7_text 29 [.inr (.int (-100)), .inl (.aload 0), .inl (.getfield 455), .inl (.getfield 132), .inl .isub] 39 = true := by decide +kernel
theorem rt_X7_text_39 : mx_kr dm_X7_text 39 .int := ⟨by decide +kernel, rfl⟩
theorem bk_X7_text_40 : mx_blk 7 cX7_text 40 [.inl (.aload 0), .inl (.getfield 449), .inl (.getfield 394), .inr (.int 14)] 49 = true := by decide +kernel
theorem br_X7_text_49 : mx_brk cX7_text 49 (.if_icmp .lt 6) 55 52 = true := by decide +kernel
theorem bk_X7_text_52 : mx_blk 7 cX7_text 52 [.inr (.int (-1000000003))] 54 = true := by decide +kernel
theorem rt_X7_text_54 : mx_kr dm_X7_text 54 .int := ⟨by decide +kernel, rfl⟩
theorem bk_X7_text_55 : mx_blk 7 cX7_text 55 [.inl (.aload 0), .inl (.getfield 449), .inl (.aload 0), .inl (.getfield 456)] 63 = true := by decide +kernel
theorem kc_X7_text_63 : mx_kV dm_X7_text 63 dm_X6_addLaw 6 1 := ⟨239, by decide +kernel, md_X6_addLaw, cv_X7_239, by decide, by decide +kernel⟩
theorem rt_X7_text_66 : mx_kr dm_X7_text 66 .int := ⟨by decide +kernel, rfl⟩
theorem bk_X7_textTold_0 : mx_blk 7 cX7_textTold 0 [.inl (.iload 1), .inr (.int 0), .inl (.aload 0), .inl (.getfield 449), .inl (.getfield 394), .inr (.int 1), .inl .isub] 11 = true := by decide +kernel
theorem kc_X7_textTold_11 : mx_kS dm_X7_textTold 11 dm_X7_within 3 := ⟨85, by decide +kernel, md_X7_within, cs_X7_85⟩
theorem br_X7_textTold_14 : mx_brk cX7_textTold 14 (.ifCond .eq 12) 26 17 = true := by decide +kernel
theorem bk_X7_textTold_17 : mx_blk 7 cX7_textTold 17 [.inl (.iload 2), .inr (.int 0), .inr (.int 1)] 20 = true := by decide +kernel
theorem kc_X7_textTold_20 : mx_kS dm_X7_textTold 20 dm_X7_within 3 := ⟨85, by decide +kernel, md_X7_within, cs_X7_85⟩
theorem br_X7_textTold_23 : mx_brk cX7_textTold 23 (.ifCond .ne 6) 29 26 = true := by decide +kernel
theorem bk_X7_textTold_26 : mx_blk 7 cX7_textTold 26 [.inr (.int (-1000000001))] 28 = true := by decide +kernel
theorem rt_X7_textTold_28 : mx_kr dm_X7_textTold 28 .int := ⟨by decide +kernel, rfl⟩
theorem bk_X7_textTold_29 : mx_blk 7 cX7_textTold 29 [.inl (.iload 2)] 30 = true := by decide +kernel
theorem br_X7_textTold_30 : mx_brk cX7_textTold 30 (.ifCond .ne 15) 45 33 = true := by decide +kernel
theorem bk_X7_textTold_33 : mx_blk 7 cX7_textTold 33 [.inl (.aload 0), .inl (.getfield 448), .inl (.iload 1), .inl (.anewarray 14), .inl (.getfield 64)] 42 = true := by decide +kernel
theorem gt_X7_textTold_42 : mx_jmp cX7_textTold 42 54 = true := by decide +kernel
theorem bk_X7_textTold_45 : mx_blk 7 cX7_textTold 45 [.inl (.aload 0), .inl (.getfield 448), .inl (.iload 1), .inl (.anewarray 14), .inl (.getfield 65)] 54 = true := by decide +kernel
theorem rt_X7_textTold_54 : mx_kr dm_X7_textTold 54 .int := ⟨by decide +kernel, rfl⟩
theorem bk_X7_why_0 : mx_blk 7 cX7_why 0 [.inl (.iload 1), .inr (.int 0), .inr (.int 2)] 3 = true := by decide +kernel
theorem kc_X7_why_3 : mx_kS dm_X7_why 3 dm_X7_within 3 := ⟨85, by decide +kernel, md_X7_within, cs_X7_85⟩
theorem br_X7_why_6 : mx_brk cX7_why 6 (.ifCond .ne 6) 12 9 = true := by decide +kernel
theorem bk_X7_why_9 : mx_blk 7 cX7_why 9 [.inr (.int (-1000000001))] 11 = true := by decide +kernel
theorem rt_X7_why_11 : mx_kr dm_X7_why 11 .int := ⟨by decide +kernel, rfl⟩
theorem bk_X7_why_12 : mx_blk 7 cX7_why 12 [.inl (.aload 0), .inl (.getfield 449), .inl (.getfield 385), .inl (.iload 1), .inl .iaload, .inl (.istore 2), .inl (.iload 2)] 23 = true := by decide +kernel
theorem br_X7_why_23 : mx_brk cX7_why 23 (.ifCond .ge 8) 31 26 = true := by decide +kernel
theorem bk_X7_why_26 : mx_blk 7 cX7_why 26 [.inr (.int (-1000000005))] 28 = true := by decide +kernel
theorem gt_X7_why_28 : mx_jmp cX7_why 28 32 = true := by decide +kernel
theorem bk_X7_why_31 : mx_blk 7 cX7_why 31 [.inl (.iload 2)] 32 = true := by decide +kernel
theorem rt_X7_why_32 : mx_kr dm_X7_why 32 .int := ⟨by decide +kernel, rfl⟩
theorem bk_X7_sheet_0 : mx_blk 7 cX7_sheet 0 [.inl (.aload 0), .inl (.iload 1)] 2 = true := by decide +kernel
theorem kc_X7_sheet_2 : mx_kV dm_X7_sheet 2 dm_X7_isSheet 7 1 := ⟨196, by decide +kernel, md_X7_isSheet, cv_X7_196, by decide, by decide +kernel⟩
theorem br_X7_sheet_5 : mx_brk cX7_sheet 5 (.ifCond .eq 12) 17 8 = true := by decide +kernel
theorem bk_X7_sheet_8 : mx_blk 7 cX7_sheet 8 [.inl (.iload 2), .inr (.int (-1)), .inr (.int 1)] 11 = true := by decide +kernel
theorem kc_X7_sheet_11 : mx_kS dm_X7_sheet 11 dm_X7_within 3 := ⟨85, by decide +kernel, md_X7_within, cs_X7_85⟩
theorem br_X7_sheet_14 : mx_brk cX7_sheet 14 (.ifCond .ne 6) 20 17 = true := by decide +kernel
theorem bk_X7_sheet_17 : mx_blk 7 cX7_sheet 17 [.inr (.int (-1000000001))] 19 = true := by decide +kernel
theorem rt_X7_sheet_19 : mx_kr dm_X7_sheet 19 .int := ⟨by decide +kernel, rfl⟩
theorem bk_X7_sheet_20 : mx_blk 7 cX7_sheet 20 [.inl (.iload 2), .inr (.int (-1))] 22 = true := by decide +kernel
theorem br_X7_sheet_22 : mx_brk cX7_sheet 22 (.if_icmp .ne 16) 38 25 = true := by decide +kernel
theorem bk_X7_sheet_25 : mx_blk 7 cX7_sheet 25 [.inl (.aload 0), .inl (.getfield 457), .inl (.iload 1), .inl (.anewarray 15), .inr (.int (-1)), .inr (.int 0)] 33 = true := by decide +kernel
theorem kc_X7_sheet_33 : mx_kV dm_X7_sheet 33 dm_X4_become 4 2 := ⟨252, by decide +kernel, md_X4_become, cv_X7_252, by decide, by decide +kernel⟩
theorem bk_X7_sheet_36 : mx_blk 7 cX7_sheet 36 [.inr (.int 0)] 37 = true := by decide +kernel
theorem rt_X7_sheet_37 : mx_kr dm_X7_sheet 37 .int := ⟨by decide +kernel, rfl⟩
theorem bk_X7_sheet_38 : mx_blk 7 cX7_sheet 38 [.inl (.iload 3), .inr (.int 24)] 41 = true := by decide +kernel
theorem br_X7_sheet_41 : mx_brk cX7_sheet 41 (.if_icmp .le 6) 47 44 = true := by decide +kernel
theorem bk_X7_sheet_44 : mx_blk 7 cX7_sheet 44 [.inr (.int (-1000000001))] 46 = true := by decide +kernel
theorem rt_X7_sheet_46 : mx_kr dm_X7_sheet 46 .int := ⟨by decide +kernel, rfl⟩
theorem bk_X7_sheet_47 : mx_blk 7 cX7_sheet 47 [.inl (.iload 3)] 48 = true := by decide +kernel
theorem br_X7_sheet_48 : mx_brk cX7_sheet 48 (.ifCond .ge 6) 54 51 = true := by decide +kernel
theorem bk_X7_sheet_51 : mx_blk 7 cX7_sheet 51 [.inr (.int (-1000000014))] 53 = true := by decide +kernel
theorem rt_X7_sheet_53 : mx_kr dm_X7_sheet 53 .int := ⟨by decide +kernel, rfl⟩
theorem bk_X7_sheet_54 : mx_blk 7 cX7_sheet 54 [.inl (.aload 0), .inl (.getfield 457), .inl (.iload 1), .inl (.anewarray 15), .inl (.iload 2), .inl (.iload 3)] 62 = true := by decide +kernel
theorem kc_X7_sheet_62 : mx_kV dm_X7_sheet 62 dm_X4_become 4 2 := ⟨252, by decide +kernel, md_X4_become, cv_X7_252, by decide, by decide +kernel⟩
theorem bk_X7_sheet_65 : mx_blk 7 cX7_sheet 65 [.inl (.iload 3)] 66 = true := by decide +kernel
theorem rt_X7_sheet_66 : mx_kr dm_X7_sheet 66 .int := ⟨by decide +kernel, rfl⟩
theorem bk_X7_mark_0 : mx_blk 7 cX7_mark 0 [.inl (.aload 0), .inl (.iload 1)] 2 = true := by decide +kernel
theorem kc_X7_mark_2 : mx_kV dm_X7_mark 2 dm_X7_isSheet 7 1 := ⟨196, by decide +kernel, md_X7_isSheet, cv_X7_196, by decide, by decide +kernel⟩
theorem br_X7_mark_5 : mx_brk cX7_mark 5 (.ifCond .ne 6) 11 8 = true := by decide +kernel
theorem bk_X7_mark_8 : mx_blk 7 cX7_mark 8 [.inr (.int (-1000000001))] 10 = true := by decide +kernel
theorem rt_X7_mark_10 : mx_kr dm_X7_mark 10 .int := ⟨by decide +kernel, rfl⟩
theorem bk_X7_mark_11 : mx_blk 7 cX7_mark 11 [.inl (.aload 0), .inl (.getfield 457), .inl (.iload 1), .inl (.anewarray 15), .inl (.astore 4), .inl (.aload 4)] 21 = true := by decide +kernel
theorem kc_X7_mark_21 : mx_kV dm_X7_mark 21 dm_X4_isMissing 4 0 := ⟨199, by decide +kernel, md_X4_isMissing, cv_X7_199, by decide, by decide +kernel⟩
theorem br_X7_mark_24 : mx_brk cX7_mark 24 (.ifCond .eq 6) 30 27 = true := by decide +kernel
theorem bk_X7_mark_27 : mx_blk 7 cX7_mark 27 [.inr (.int (-1000000011))] 29 = true := by decide +kernel
theorem rt_X7_mark_29 : mx_kr dm_X7_mark 29 .int := ⟨by decide +kernel, rfl⟩
theorem bk_X7_mark_30 : mx_blk 7 cX7_mark 30 [.inl (.aload 4), .inl (.iload 2)] 33 = true := by decide +kernel
theorem kc_X7_mark_33 : mx_kV dm_X7_mark 33 dm_X4_has 4 1 := ⟨256, by decide +kernel, md_X4_has, cv_X7_256, by decide, by decide +kernel⟩
theorem br_X7_mark_36 : mx_brk cX7_mark 36 (.ifCond .ne 7) 43 39 = true := by decide +kernel
theorem bk_X7_mark_39 : mx_blk 7 cX7_mark 39 [.inr (.int (-1000000013))] 42 = true := by decide +kernel
theorem rt_X7_mark_42 : mx_kr dm_X7_mark 42 .int := ⟨by decide +kernel, rfl⟩
theorem bk_X7_mark_43 : mx_blk 7 cX7_mark 43 [.inl (.aload 4), .inl (.getfield 256)] 48 = true := by decide +kernel
theorem br_X7_mark_48 : mx_brk cX7_mark 48 (.ifCond .ne 12) 60 51 = true := by decide +kernel
theorem bk_X7_mark_51 : mx_blk 7 cX7_mark 51 [.inl (.iload 3), .inr (.int (-1000000005))] 54 = true := by decide +kernel
theorem br_X7_mark_54 : mx_brk cX7_mark 54 (.if_icmp .ne 6) 60 57 = true := by decide +kernel
theorem bk_X7_mark_57 : mx_blk 7 cX7_mark 57 [.inr (.int (-1000000012))] 59 = true := by decide +kernel
theorem rt_X7_mark_59 : mx_kr dm_X7_mark 59 .int := ⟨by decide +kernel, rfl⟩
theorem bk_X7_mark_60 : mx_blk 7 cX7_mark 60 [.inl (.aload 4), .inl (.getfield 256), .inr (.int 1)] 66 = true := by decide +kernel
theorem br_X7_mark_66 : mx_brk cX7_mark 66 (.if_icmp .ne 23) 89 69 = true := by decide +kernel
theorem bk_X7_mark_69 : mx_blk 7 cX7_mark 69 [.inl (.iload 3), .inr (.int (-1000000005))] 72 = true := by decide +kernel
theorem br_X7_mark_72 : mx_brk cX7_mark 72 (.if_icmp .eq 17) 89 75 = true := by decide +kernel
theorem bk_X7_mark_75 : mx_blk 7 cX7_mark 75 [.inl (.iload 3), .inr (.int (-99999)), .inr (.int 99999)] 80 = true := by decide +kernel
theorem kc_X7_mark_80 : mx_kS dm_X7_mark 80 dm_X7_within 3 := ⟨85, by decide +kernel, md_X7_within, cs_X7_85⟩
theorem br_X7_mark_83 : mx_brk cX7_mark 83 (.ifCond .ne 6) 89 86 = true := by decide +kernel
theorem bk_X7_mark_86 : mx_blk 7 cX7_mark 86 [.inr (.int (-1000000001))] 88 = true := by decide +kernel
theorem rt_X7_mark_88 : mx_kr dm_X7_mark 88 .int := ⟨by decide +kernel, rfl⟩
theorem bk_X7_mark_89 : mx_blk 7 cX7_mark 89 [.inl (.aload 4), .inl (.getfield 258), .inl (.iload 2), .inl (.aload 4), .inl (.getfield 256)] 100 = true := by decide +kernel
theorem br_X7_mark_100 : mx_brk cX7_mark 100 (.ifCond .ne 8) 108 103 = true := by decide +kernel
theorem bk_X7_mark_103 : mx_blk 7 cX7_mark 103 [.inl (.iload 3), .inl .i2s] 105 = true := by decide +kernel
theorem gt_X7_mark_105 : mx_jmp cX7_mark 105 109 = true := by decide +kernel
theorem bk_X7_mark_108 : mx_blk 7 cX7_mark 108 [.inl (.iload 3)] 109 = true := by decide +kernel
theorem bk_X7_mark_109 : mx_blk 7 cX7_mark 109 [.inl .iastore, .inr (.int 1)] 111 = true := by decide +kernel
theorem rt_X7_mark_111 : mx_kr dm_X7_mark 111 .int := ⟨by decide +kernel, rfl⟩
theorem bk_X7_pour_0 : mx_blk 7 cX7_pour 0 [.inl (.aload 0), .inl (.iload 1)] 2 = true := by decide +kernel
theorem kc_X7_pour_2 : mx_kV dm_X7_pour 2 dm_X7_isSheet 7 1 := ⟨196, by decide +kernel, md_X7_isSheet, cv_X7_196, by decide, by decide +kernel⟩
theorem br_X7_pour_5 : mx_brk cX7_pour 5 (.ifCond .ne 6) 11 8 = true := by decide +kernel
theorem bk_X7_pour_8 : mx_blk 7 cX7_pour 8 [.inr (.int (-1000000001))] 10 = true := by decide +kernel
theorem rt_X7_pour_10 : mx_kr dm_X7_pour 10 .int := ⟨by decide +kernel, rfl⟩
theorem bk_X7_pour_11 : mx_blk 7 cX7_pour 11 [.inl (.aload 0), .inl (.getfield 457), .inl (.iload 1), .inl (.anewarray 15), .inl (.astore 2), .inl (.aload 2)] 19 = true := by decide +kernel
theorem kc_X7_pour_19 : mx_kV dm_X7_pour 19 dm_X4_isMissing 4 0 := ⟨199, by decide +kernel, md_X4_isMissing, cv_X7_199, by decide, by decide +kernel⟩
theorem br_X7_pour_22 : mx_brk cX7_pour 22 (.ifCond .eq 6) 28 25 = true := by decide +kernel
theorem bk_X7_pour_25 : mx_blk 7 cX7_pour 25 [.inr (.int (-1000000011))] 27 = true := by decide +kernel
theorem rt_X7_pour_27 : mx_kr dm_X7_pour 27 .int := ⟨by decide +kernel, rfl⟩
theorem bk_X7_pour_28 : mx_blk 7 cX7_pour 28 [.inr (.int 0), .inl (.istore 3), .inr (.int 0), .inl (.istore 4)] 33 = true := by decide +kernel
theorem bk_X7_pour_33 : mx_blk 7 cX7_pour 33 [.inl (.iload 4), .inl (.aload 0), .inl (.getfield 449), .inl (.getfield 388)] 42 = true := by decide +kernel
theorem br_X7_pour_42 : mx_brk cX7_pour 42 (.if_icmp .ge 73) 115 45 = true := by decide +kernel
theorem bk_X7_pour_45 : mx_blk 7 cX7_pour 45 [.inl (.aload 0), .inl (.getfield 449), .inl (.getfield 384), .inl (.iload 4), .inl (.anewarray 13), .inl (.astore 5), .inl (.aload 2), .inl (.iload 4)] 60 = true := by decide +kernel
theorem kc_X7_pour_60 : mx_kV dm_X7_pour 60 dm_X4_isNumberAt 4 1 := ⟨264, by decide +kernel, md_X4_isNumberAt, cv_X7_264, by decide, by decide +kernel⟩
theorem br_X7_pour_63 : mx_brk cX7_pour 63 (.ifCond .eq 19) 82 66 = true := by decide +kernel
theorem bk_X7_pour_66 : mx_blk 7 cX7_pour 66 [.inl (.aload 2), .inl (.getfield 258), .inl (.iload 4), .inl .iaload, .inr (.int 0), .inr (.int 9)] 76 = true := by decide +kernel
theorem kc_X7_pour_76 : mx_kS dm_X7_pour 76 dm_X7_held 3 := ⟨267, by decide +kernel, md_X7_held, cs_X7_267⟩
theorem gt_X7_pour_79 : mx_jmp cX7_pour 79 87 = true := by decide +kernel
theorem bk_X7_pour_82 : mx_blk 7 cX7_pour 82 [.inl (.aload 5), .inl (.getfield 1)] 87 = true := by decide +kernel
theorem bk_X7_pour_87 : mx_blk 7 cX7_pour 87 [.inl (.istore 6), .inl (.iload 6), .inl (.aload 5), .inl (.getfield 1)] 96 = true := by decide +kernel
theorem br_X7_pour_96 : mx_brk cX7_pour 96 (.if_icmp .eq 6) 102 99 = true := by decide +kernel
theorem bk_X7_pour_99 : mx_blk 7 cX7_pour 99 [.inl (.iinc 3 1)] 102 = true := by decide +kernel
theorem bk_X7_pour_102 : mx_blk 7 cX7_pour 102 [.inl (.aload 5), .inl (.iload 6), .inl (.putfield 1), .inl (.iinc 4 1)] 112 = true := by decide +kernel
theorem gt_X7_pour_112 : mx_jmp cX7_pour 112 33 = true := by decide +kernel
theorem bk_X7_pour_115 : mx_blk 7 cX7_pour 115 [.inl (.iload 3)] 116 = true := by decide +kernel
theorem rt_X7_pour_116 : mx_kr dm_X7_pour 116 .int := ⟨by decide +kernel, rfl⟩
theorem bk_X7_reads_0 : mx_blk 7 cX7_reads 0 [.inl (.aload 0), .inl (.iload 1)] 2 = true := by decide +kernel
theorem kc_X7_reads_2 : mx_kV dm_X7_reads 2 dm_X7_isSheet 7 1 := ⟨196, by decide +kernel, md_X7_isSheet, cv_X7_196, by decide, by decide +kernel⟩
theorem br_X7_reads_5 : mx_brk cX7_reads 5 (.ifCond .eq 14) 19 8 = true := by decide +kernel
theorem bk_X7_reads_8 : mx_blk 7 cX7_reads 8 [.inl (.aload 0), .inl (.getfield 449), .inl (.iload 2)] 13 = true := by decide +kernel
theorem kc_X7_reads_13 : mx_kV dm_X7_reads 13 dm_X6_has 6 1 := ⟨98, by decide +kernel, md_X6_has, cv_X7_98, by decide, by decide +kernel⟩
theorem br_X7_reads_16 : mx_brk cX7_reads 16 (.ifCond .ne 6) 22 19 = true := by decide +kernel
theorem bk_X7_reads_19 : mx_blk 7 cX7_reads 19 [.inr (.int (-1000000001))] 21 = true := by decide +kernel
theorem rt_X7_reads_21 : mx_kr dm_X7_reads 21 .int := ⟨by decide +kernel, rfl⟩
theorem bk_X7_reads_22 : mx_blk 7 cX7_reads 22 [.inl (.aload 0), .inl (.getfield 457), .inl (.iload 1), .inl (.anewarray 15), .inl (.astore 3), .inl (.aload 3)] 30 = true := by decide +kernel
theorem kc_X7_reads_30 : mx_kV dm_X7_reads 30 dm_X4_isMissing 4 0 := ⟨199, by decide +kernel, md_X4_isMissing, cv_X7_199, by decide, by decide +kernel⟩
theorem br_X7_reads_33 : mx_brk cX7_reads 33 (.ifCond .eq 6) 39 36 = true := by decide +kernel
theorem bk_X7_reads_36 : mx_blk 7 cX7_reads 36 [.inr (.int (-1000000011))] 38 = true := by decide +kernel
theorem rt_X7_reads_38 : mx_kr dm_X7_reads 38 .int := ⟨by decide +kernel, rfl⟩
theorem bk_X7_reads_39 : mx_blk 7 cX7_reads 39 [.inl (.aload 0)] 40 = true := by decide +kernel
theorem kc_X7_reads_40 : mx_kV dm_X7_reads 40 dm_X7_thinkFromNow 7 0 := ⟨180, by decide +kernel, md_X7_thinkFromNow, cv_X7_180, by decide, by decide +kernel⟩
theorem bk_X7_reads_43 : mx_blk 7 cX7_reads 43 [.inr (.int 0), .inl (.istore 4)] 46 = true := by decide +kernel
theorem bk_X7_reads_46 : mx_blk 7 cX7_reads 46 [.inl (.iload 4), .inl (.aload 3), .inl (.getfield 257)] 52 = true := by decide +kernel
theorem br_X7_reads_52 : mx_brk cX7_reads 52 (.if_icmp .ge 55) 107 55 = true := by decide +kernel
theorem bk_X7_reads_55 : mx_blk 7 cX7_reads 55 [.inl (.aload 3), .inl (.iload 4)] 58 = true := by decide +kernel
theorem kc_X7_reads_58 : mx_kV dm_X7_reads 58 dm_X4_isNumberAt 4 1 := ⟨264, by decide +kernel, md_X4_isNumberAt, cv_X7_264, by decide, by decide +kernel⟩
theorem br_X7_reads_61 : mx_brk cX7_reads 61 (.ifCond .eq 28) 89 64 = true := by decide +kernel
theorem bk_X7_reads_64 : mx_blk 7 cX7_reads 64 [.inl (.aload 3), .inl (.getfield 258), .inl (.iload 4), .inl .iaload, .inl (.aload 0), .inl (.getfield 451), .inl (.getfield 384), .inl (.iload 2), .inl (.anewarray 13), .inl (.getfield 4)] 83 = true := by decide +kernel
theorem br_X7_reads_83 : mx_brk cX7_reads 83 (.if_icmp .eq 6) 89 86 = true := by decide +kernel
theorem bk_X7_reads_86 : mx_blk 7 cX7_reads 86 [.inl (.iload 4)] 88 = true := by decide +kernel
theorem rt_X7_reads_88 : mx_kr dm_X7_reads 88 .int := ⟨by decide +kernel, rfl⟩
theorem bk_X7_reads_89 : mx_blk 7 cX7_reads 89 [.inl (.aload 0), .inl (.getfield 451), .inl (.iload 2)] 94 = true := by decide +kernel
theorem kc_X7_reads_94 : mx_kS dm_X7_reads 94 dm_X7_only 1 := ⟨183, by decide +kernel, md_X7_only, cs_X7_183⟩
theorem kc_X7_reads_97 : mx_kV dm_X7_reads 97 dm_X6_liveDay 6 1 := ⟨177, by decide +kernel, md_X6_liveDay, cv_X7_177, by decide, by decide +kernel⟩
theorem bk_X7_reads_100 : mx_blk 7 cX7_reads 100 [.inl .pop, .inl (.iinc 4 1)] 104 = true := by decide +kernel
theorem gt_X7_reads_104 : mx_jmp cX7_reads 104 46 = true := by decide +kernel
theorem bk_X7_reads_107 : mx_blk 7 cX7_reads 107 [.inr (.int (-1000000005))] 109 = true := by decide +kernel
theorem rt_X7_reads_109 : mx_kr dm_X7_reads 109 .int := ⟨by decide +kernel, rfl⟩
theorem bk_X7_copy_0 : mx_blk 7 cX7_copy 0 [.inl (.aload 0), .inl (.iload 1)] 2 = true := by decide +kernel
theorem kc_X7_copy_2 : mx_kV dm_X7_copy 2 dm_X7_isSheet 7 1 := ⟨196, by decide +kernel, md_X7_isSheet, cv_X7_196, by decide, by decide +kernel⟩
theorem br_X7_copy_5 : mx_brk cX7_copy 5 (.ifCond .eq 11) 16 8 = true := by decide +kernel
theorem bk_X7_copy_8 : mx_blk 7 cX7_copy 8 [.inl (.aload 0), .inl (.iload 3)] 10 = true := by decide +kernel
theorem kc_X7_copy_10 : mx_kV dm_X7_copy 10 dm_X7_isSheet 7 1 := ⟨196, by decide +kernel, md_X7_isSheet, cv_X7_196, by decide, by decide +kernel⟩
theorem br_X7_copy_13 : mx_brk cX7_copy 13 (.ifCond .ne 6) 19 16 = true := by decide +kernel
theorem bk_X7_copy_16 : mx_blk 7 cX7_copy 16 [.inr (.int (-1000000001))] 18 = true := by decide +kernel
theorem rt_X7_copy_18 : mx_kr dm_X7_copy 18 .int := ⟨by decide +kernel, rfl⟩
theorem bk_X7_copy_19 : mx_blk 7 cX7_copy 19 [.inl (.aload 0), .inl (.getfield 457), .inl (.iload 1), .inl (.anewarray 15), .inl (.astore 6), .inl (.aload 0), .inl (.getfield 457), .inl (.iload 3), .inl (.anewarray 15), .inl (.astore 7), .inl (.aload 6)] 37 = true := by decide +kernel
theorem kc_X7_copy_37 : mx_kV dm_X7_copy 37 dm_X4_isMissing 4 0 := ⟨199, by decide +kernel, md_X4_isMissing, cv_X7_199, by decide, by decide +kernel⟩
theorem br_X7_copy_40 : mx_brk cX7_copy 40 (.ifCond .ne 11) 51 43 = true := by decide +kernel
theorem bk_X7_copy_43 : mx_blk 7 cX7_copy 43 [.inl (.aload 7)] 45 = true := by decide +kernel
theorem kc_X7_copy_45 : mx_kV dm_X7_copy 45 dm_X4_isMissing 4 0 := ⟨199, by decide +kernel, md_X4_isMissing, cv_X7_199, by decide, by decide +kernel⟩
theorem br_X7_copy_48 : mx_brk cX7_copy 48 (.ifCond .eq 6) 54 51 = true := by decide +kernel
theorem bk_X7_copy_51 : mx_blk 7 cX7_copy 51 [.inr (.int (-1000000011))] 53 = true := by decide +kernel
theorem rt_X7_copy_53 : mx_kr dm_X7_copy 53 .int := ⟨by decide +kernel, rfl⟩
theorem bk_X7_copy_54 : mx_blk 7 cX7_copy 54 [.inl (.aload 6), .inl (.getfield 256), .inl (.aload 7), .inl (.getfield 256)] 64 = true := by decide +kernel
theorem br_X7_copy_64 : mx_brk cX7_copy 64 (.if_icmp .eq 6) 70 67 = true := by decide +kernel
theorem bk_X7_copy_67 : mx_blk 7 cX7_copy 67 [.inr (.int (-1000000012))] 69 = true := by decide +kernel
theorem rt_X7_copy_69 : mx_kr dm_X7_copy 69 .int := ⟨by decide +kernel, rfl⟩
theorem bk_X7_copy_70 : mx_blk 7 cX7_copy 70 [.inl (.aload 6), .inl (.iload 2), .inl (.iload 5)] 75 = true := by decide +kernel
theorem kc_X7_copy_75 : mx_kV dm_X7_copy 75 dm_X4_hasRun 4 2 := ⟨274, by decide +kernel, md_X4_hasRun, cv_X7_274, by decide, by decide +kernel⟩
theorem br_X7_copy_78 : mx_brk cX7_copy 78 (.ifCond .eq 15) 93 81 = true := by decide +kernel
theorem bk_X7_copy_81 : mx_blk 7 cX7_copy 81 [.inl (.aload 7), .inl (.iload 4), .inl (.iload 5)] 87 = true := by decide +kernel
theorem kc_X7_copy_87 : mx_kV dm_X7_copy 87 dm_X4_hasRun 4 2 := ⟨274, by decide +kernel, md_X4_hasRun, cv_X7_274, by decide, by decide +kernel⟩
theorem br_X7_copy_90 : mx_brk cX7_copy 90 (.ifCond .ne 7) 97 93 = true := by decide +kernel
theorem bk_X7_copy_93 : mx_blk 7 cX7_copy 93 [.inr (.int (-1000000013))] 96 = true := by decide +kernel
theorem rt_X7_copy_96 : mx_kr dm_X7_copy 96 .int := ⟨by decide +kernel, rfl⟩
theorem bk_X7_copy_97 : mx_blk 7 cX7_copy 97 [.inl (.aload 6), .inl (.getfield 258), .inl (.iload 2), .inl (.aload 7), .inl (.getfield 258), .inl (.iload 4), .inl (.iload 5)] 112 = true := by decide +kernel
theorem kc_X7_copy_112 : mx_km dm_X7_copy 112 arraycopyName := ⟨278, by decide +kernel, mx_gw (i := 829) (by decide +kernel)⟩
theorem bk_X7_copy_115 : mx_blk 7 cX7_copy 115 [.inl (.iload 5)] 117 = true := by decide +kernel
theorem rt_X7_copy_117 : mx_kr dm_X7_copy 117 .int := ⟨by decide +kernel, rfl⟩
theorem bk_X7_lay_0 : mx_blk 7 cX7_lay 0 [.inl (.aload 0), .inl (.iload 1)] 2 = true := by decide +kernel
theorem kc_X7_lay_2 : mx_kV dm_X7_lay 2 dm_X7_isSlot 7 1 := ⟨284, by decide +kernel, md_X7_isSlot, cv_X7_284, by decide, by decide +kernel⟩
theorem br_X7_lay_5 : mx_brk cX7_lay 5 (.ifCond .eq 12) 17 8 = true := by decide +kernel
theorem bk_X7_lay_8 : mx_blk 7 cX7_lay 8 [.inl (.iload 2), .inr (.int 0), .inr (.int 3)] 11 = true := by decide +kernel
theorem kc_X7_lay_11 : mx_kS dm_X7_lay 11 dm_X7_within 3 := ⟨85, by decide +kernel, md_X7_within, cs_X7_85⟩
theorem br_X7_lay_14 : mx_brk cX7_lay 14 (.ifCond .ne 6) 20 17 = true := by decide +kernel
theorem bk_X7_lay_17 : mx_blk 7 cX7_lay 17 [.inr (.int (-1000000001))] 19 = true := by decide +kernel
theorem rt_X7_lay_19 : mx_kr dm_X7_lay 19 .int := ⟨by decide +kernel, rfl⟩
theorem bk_X7_lay_20 : mx_blk 7 cX7_lay 20 [.inl (.iload 2), .inr (.int 1)] 22 = true := by decide +kernel
theorem br_X7_lay_22 : mx_brk cX7_lay 22 (.if_icmp .ne 17) 39 25 = true := by decide +kernel
theorem bk_X7_lay_25 : mx_blk 7 cX7_lay 25 [.inl (.aload 0), .inl (.getfield 449), .inl (.iload 3)] 30 = true := by decide +kernel
theorem kc_X7_lay_30 : mx_kV dm_X7_lay 30 dm_X6_has 6 1 := ⟨98, by decide +kernel, md_X6_has, cv_X7_98, by decide, by decide +kernel⟩
theorem br_X7_lay_33 : mx_brk cX7_lay 33 (.ifCond .ne 6) 39 36 = true := by decide +kernel
theorem bk_X7_lay_36 : mx_blk 7 cX7_lay 36 [.inr (.int (-1000000001))] 38 = true := by decide +kernel
theorem rt_X7_lay_38 : mx_kr dm_X7_lay 38 .int := ⟨by decide +kernel, rfl⟩
theorem bk_X7_lay_39 : mx_blk 7 cX7_lay 39 [.inl (.iload 2), .inr (.int 2)] 41 = true := by decide +kernel
theorem br_X7_lay_41 : mx_brk cX7_lay 41 (.if_icmp .ne 14) 55 44 = true := by decide +kernel
theorem bk_X7_lay_44 : mx_blk 7 cX7_lay 44 [.inl (.aload 0), .inl (.iload 3)] 46 = true := by decide +kernel
theorem kc_X7_lay_46 : mx_kV dm_X7_lay 46 dm_X7_isSheet 7 1 := ⟨196, by decide +kernel, md_X7_isSheet, cv_X7_196, by decide, by decide +kernel⟩
theorem br_X7_lay_49 : mx_brk cX7_lay 49 (.ifCond .ne 6) 55 52 = true := by decide +kernel
theorem bk_X7_lay_52 : mx_blk 7 cX7_lay 52 [.inr (.int (-1000000001))] 54 = true := by decide +kernel
theorem rt_X7_lay_54 : mx_kr dm_X7_lay 54 .int := ⟨by decide +kernel, rfl⟩
theorem bk_X7_lay_55 : mx_blk 7 cX7_lay 55 [.inl (.iload 2), .inr (.int 2)] 57 = true := by decide +kernel
theorem br_X7_lay_57 : mx_brk cX7_lay 57 (.if_icmp .ne 18) 75 60 = true := by decide +kernel
theorem bk_X7_lay_60 : mx_blk 7 cX7_lay 60 [.inl (.aload 0), .inl (.getfield 457), .inl (.iload 3), .inl (.anewarray 15)] 66 = true := by decide +kernel
theorem kc_X7_lay_66 : mx_kV dm_X7_lay 66 dm_X4_isMissing 4 0 := ⟨199, by decide +kernel, md_X4_isMissing, cv_X7_199, by decide, by decide +kernel⟩
theorem br_X7_lay_69 : mx_brk cX7_lay 69 (.ifCond .eq 6) 75 72 = true := by decide +kernel
theorem bk_X7_lay_72 : mx_blk 7 cX7_lay 72 [.inr (.int (-1000000011))] 74 = true := by decide +kernel
theorem rt_X7_lay_74 : mx_kr dm_X7_lay 74 .int := ⟨by decide +kernel, rfl⟩
theorem bk_X7_lay_75 : mx_blk 7 cX7_lay 75 [.inl (.aload 0), .inl (.getfield 458), .inl (.iload 1), .inl (.anewarray 16), .inl (.astore 4), .inl (.aload 4), .inl (.getfield 320), .inl (.istore 5), .inl (.aload 4), .inl (.iload 2), .inl (.putfield 320), .inl (.iload 2), .inr (.int 1)] 98 = true := by decide +kernel
theorem br_X7_lay_98 : mx_brk cX7_lay 98 (.if_icmp .ne 23) 121 101 = true := by decide +kernel
theorem bk_X7_lay_101 : mx_blk 7 cX7_lay 101 [.inl (.aload 4), .inl (.getfield 322), .inl (.aload 0), .inl (.getfield 449), .inl (.getfield 384), .inl (.iload 3), .inl (.anewarray 13)] 115 = true := by decide +kernel
theorem kc_X7_lay_115 : mx_kV dm_X7_lay 115 dm_X0_becomeLike 0 1 := ⟨294, by decide +kernel, md_X0_becomeLike, cv_X7_294, by decide, by decide +kernel⟩
theorem gt_X7_lay_118 : mx_jmp cX7_lay 118 149 = true := by decide +kernel
theorem bk_X7_lay_121 : mx_blk 7 cX7_lay 121 [.inl (.iload 2), .inr (.int 2)] 123 = true := by decide +kernel
theorem br_X7_lay_123 : mx_brk cX7_lay 123 (.if_icmp .ne 20) 143 126 = true := by decide +kernel
theorem bk_X7_lay_126 : mx_blk 7 cX7_lay 126 [.inl (.aload 4), .inl (.getfield 323), .inl (.aload 0), .inl (.getfield 457), .inl (.iload 3), .inl (.anewarray 15)] 137 = true := by decide +kernel
theorem kc_X7_lay_137 : mx_kV dm_X7_lay 137 dm_X4_becomeLike 4 1 := ⟨302, by decide +kernel, md_X4_becomeLike, cv_X7_302, by decide, by decide +kernel⟩
theorem gt_X7_lay_140 : mx_jmp cX7_lay 140 149 = true := by decide +kernel
theorem bk_X7_lay_143 : mx_blk 7 cX7_lay 143 [.inl (.aload 4), .inl (.iload 3), .inl (.putfield 321)] 149 = true := by decide +kernel
theorem bk_X7_lay_149 : mx_blk 7 cX7_lay 149 [.inl (.iload 5)] 151 = true := by decide +kernel
theorem rt_X7_lay_151 : mx_kr dm_X7_lay 151 .int := ⟨by decide +kernel, rfl⟩
theorem bk_X7_ask_0 : mx_blk 7 cX7_ask 0 [.inl (.aload 0), .inl (.iload 1)] 2 = true := by decide +kernel
theorem kc_X7_ask_2 : mx_kV dm_X7_ask 2 dm_X7_isSlot 7 1 := ⟨284, by decide +kernel, md_X7_isSlot, cv_X7_284, by decide, by decide +kernel⟩
theorem br_X7_ask_5 : mx_brk cX7_ask 5 (.ifCond .eq 10) 15 8 = true := by decide +kernel
theorem bk_X7_ask_8 : mx_blk 7 cX7_ask 8 [.inl (.iload 2)] 9 = true := by decide +kernel
theorem kc_X7_ask_9 : mx_kS dm_X7_ask 9 dm_X7_isKind 1 := ⟨81, by decide +kernel, md_X7_isKind, cs_X7_81⟩
theorem br_X7_ask_12 : mx_brk cX7_ask 12 (.ifCond .ne 6) 18 15 = true := by decide +kernel
theorem bk_X7_ask_15 : mx_blk 7 cX7_ask 15 [.inr (.int (-1000000001))] 17 = true := by decide +kernel
theorem rt_X7_ask_17 : mx_kr dm_X7_ask 17 .int := ⟨by decide +kernel, rfl⟩
theorem bk_X7_ask_18 : mx_blk 7 cX7_ask 18 [.inl (.aload 0), .inl (.getfield 458), .inl (.iload 1), .inl (.anewarray 16), .inl (.astore 3), .inl (.aload 3), .inl (.getfield 320)] 29 = true := by decide +kernel
theorem br_X7_ask_29 : mx_brk cX7_ask 29 (.ifCond .ne 6) 35 32 = true := by decide +kernel
theorem bk_X7_ask_32 : mx_blk 7 cX7_ask 32 [.inr (.int (-1000000011))] 34 = true := by decide +kernel
theorem rt_X7_ask_34 : mx_kr dm_X7_ask 34 .int := ⟨by decide +kernel, rfl⟩
theorem bk_X7_ask_35 : mx_blk 7 cX7_ask 35 [.inl (.aload 3), .inl (.getfield 320), .inr (.int 1)] 40 = true := by decide +kernel
theorem br_X7_ask_40 : mx_brk cX7_ask 40 (.if_icmp .ne 14) 54 43 = true := by decide +kernel
theorem bk_X7_ask_43 : mx_blk 7 cX7_ask 43 [.inl (.aload 3), .inl (.getfield 322), .inl (.iload 2)] 48 = true := by decide +kernel
theorem kc_X7_ask_48 : mx_kV dm_X7_ask 48 dm_X0_isOf 0 1 := ⟨143, by decide +kernel, md_X0_isOf, cv_X7_143, by decide, by decide +kernel⟩
theorem br_X7_ask_51 : mx_brk cX7_ask 51 (.ifCond .ne 6) 57 54 = true := by decide +kernel
theorem bk_X7_ask_54 : mx_blk 7 cX7_ask 54 [.inr (.int (-1000000012))] 56 = true := by decide +kernel
theorem rt_X7_ask_56 : mx_kr dm_X7_ask 56 .int := ⟨by decide +kernel, rfl⟩
theorem bk_X7_ask_57 : mx_blk 7 cX7_ask 57 [.inl (.aload 3), .inl (.getfield 322)] 61 = true := by decide +kernel
theorem kc_X7_ask_61 : mx_kV dm_X7_ask 61 dm_X0_worth 0 0 := ⟨131, by decide +kernel, md_X0_worth, cv_X7_131, by decide, by decide +kernel⟩
theorem rt_X7_ask_64 : mx_kr dm_X7_ask 64 .int := ⟨by decide +kernel, rfl⟩
theorem bk_X7_item_0 : mx_blk 7 cX7_item 0 [.inl (.aload 0), .inl (.iload 1)] 2 = true := by decide +kernel
theorem kc_X7_item_2 : mx_kV dm_X7_item 2 dm_X7_isSlot 7 1 := ⟨284, by decide +kernel, md_X7_isSlot, cv_X7_284, by decide, by decide +kernel⟩
theorem br_X7_item_5 : mx_brk cX7_item 5 (.ifCond .ne 6) 11 8 = true := by decide +kernel
theorem bk_X7_item_8 : mx_blk 7 cX7_item 8 [.inr (.int (-1000000001))] 10 = true := by decide +kernel
theorem rt_X7_item_10 : mx_kr dm_X7_item 10 .int := ⟨by decide +kernel, rfl⟩
theorem bk_X7_item_11 : mx_blk 7 cX7_item 11 [.inl (.aload 0), .inl (.getfield 458), .inl (.iload 1), .inl (.anewarray 16), .inl (.astore 3), .inl (.aload 3), .inl (.getfield 320)] 22 = true := by decide +kernel
theorem br_X7_item_22 : mx_brk cX7_item 22 (.ifCond .ne 6) 28 25 = true := by decide +kernel
theorem bk_X7_item_25 : mx_blk 7 cX7_item 25 [.inr (.int (-1000000011))] 27 = true := by decide +kernel
theorem rt_X7_item_27 : mx_kr dm_X7_item 27 .int := ⟨by decide +kernel, rfl⟩
theorem bk_X7_item_28 : mx_blk 7 cX7_item 28 [.inl (.aload 3), .inl (.getfield 320), .inr (.int 2)] 33 = true := by decide +kernel
theorem br_X7_item_33 : mx_brk cX7_item 33 (.if_icmp .eq 6) 39 36 = true := by decide +kernel
theorem bk_X7_item_36 : mx_blk 7 cX7_item 36 [.inr (.int (-1000000012))] 38 = true := by decide +kernel
theorem rt_X7_item_38 : mx_kr dm_X7_item 38 .int := ⟨by decide +kernel, rfl⟩
theorem bk_X7_item_39 : mx_blk 7 cX7_item 39 [.inl (.aload 3), .inl (.getfield 323), .inl (.iload 2)] 44 = true := by decide +kernel
theorem kc_X7_item_44 : mx_kV dm_X7_item 44 dm_X4_has 4 1 := ⟨256, by decide +kernel, md_X4_has, cv_X7_256, by decide, by decide +kernel⟩
theorem br_X7_item_47 : mx_brk cX7_item 47 (.ifCond .ne 7) 54 50 = true := by decide +kernel
theorem bk_X7_item_50 : mx_blk 7 cX7_item 50 [.inr (.int (-1000000013))] 53 = true := by decide +kernel
theorem rt_X7_item_53 : mx_kr dm_X7_item 53 .int := ⟨by decide +kernel, rfl⟩
theorem bk_X7_item_54 : mx_blk 7 cX7_item 54 [.inl (.aload 3), .inl (.getfield 323), .inl (.iload 2)] 59 = true := by decide +kernel
theorem kc_X7_item_59 : mx_kV dm_X7_item 59 dm_X4_isNumberAt 4 1 := ⟨264, by decide +kernel, md_X4_isNumberAt, cv_X7_264, by decide, by decide +kernel⟩
theorem br_X7_item_62 : mx_brk cX7_item 62 (.ifCond .eq 15) 77 65 = true := by decide +kernel
theorem bk_X7_item_65 : mx_blk 7 cX7_item 65 [.inl (.aload 3), .inl (.getfield 323), .inl (.getfield 258), .inl (.iload 2), .inl .iaload] 74 = true := by decide +kernel
theorem gt_X7_item_74 : mx_jmp cX7_item 74 79 = true := by decide +kernel
theorem bk_X7_item_77 : mx_blk 7 cX7_item 77 [.inr (.int (-1000000012))] 79 = true := by decide +kernel
theorem rt_X7_item_79 : mx_kr dm_X7_item 79 .int := ⟨by decide +kernel, rfl⟩
theorem bk_X7_rest_0 : mx_blk 7 cX7_rest 0 [.inl (.aload 0), .inl (.iload 1)] 2 = true := by decide +kernel
theorem kc_X7_rest_2 : mx_kV dm_X7_rest 2 dm_X7_isSlot 7 1 := ⟨284, by decide +kernel, md_X7_isSlot, cv_X7_284, by decide, by decide +kernel⟩
theorem br_X7_rest_5 : mx_brk cX7_rest 5 (.ifCond .ne 6) 11 8 = true := by decide +kernel
theorem bk_X7_rest_8 : mx_blk 7 cX7_rest 8 [.inr (.int (-1000000001))] 10 = true := by decide +kernel
theorem rt_X7_rest_10 : mx_kr dm_X7_rest 10 .int := ⟨by decide +kernel, rfl⟩
theorem bk_X7_rest_11 : mx_blk 7 cX7_rest 11 [.inl (.aload 0), .inl (.getfield 458), .inl (.iload 1), .inl (.anewarray 16), .inl (.astore 3), .inl (.aload 3), .inl (.getfield 320)] 22 = true := by decide +kernel
theorem br_X7_rest_22 : mx_brk cX7_rest 22 (.ifCond .ne 6) 28 25 = true := by decide +kernel
theorem bk_X7_rest_25 : mx_blk 7 cX7_rest 25 [.inr (.int (-1000000011))] 27 = true := by decide +kernel
theorem rt_X7_rest_27 : mx_kr dm_X7_rest 27 .int := ⟨by decide +kernel, rfl⟩
theorem bk_X7_rest_28 : mx_blk 7 cX7_rest 28 [.inl (.aload 3), .inl (.getfield 320), .inr (.int 3)] 33 = true := by decide +kernel
theorem br_X7_rest_33 : mx_brk cX7_rest 33 (.if_icmp .eq 6) 39 36 = true := by decide +kernel
theorem bk_X7_rest_36 : mx_blk 7 cX7_rest 36 [.inr (.int (-1000000012))] 38 = true := by decide +kernel
theorem rt_X7_rest_38 : mx_kr dm_X7_rest 38 .int := ⟨by decide +kernel, rfl⟩
theorem bk_X7_rest_39 : mx_blk 7 cX7_rest 39 [.inl (.iload 2)] 40 = true := by decide +kernel
theorem br_X7_rest_40 : mx_brk cX7_rest 40 (.ifCond .ne 8) 48 43 = true := by decide +kernel
theorem bk_X7_rest_43 : mx_blk 7 cX7_rest 43 [.inr (.int (-1000000002))] 45 = true := by decide +kernel
theorem gt_X7_rest_45 : mx_jmp cX7_rest 45 54 = true := by decide +kernel
theorem bk_X7_rest_48 : mx_blk 7 cX7_rest 48 [.inl (.aload 3), .inl (.getfield 321), .inl (.iload 2), .inl .irem] 54 = true := by decide +kernel
theorem rt_X7_rest_54 : mx_kr dm_X7_rest 54 .int := ⟨by decide +kernel, rfl⟩
theorem bk_X7_tell_0 : mx_blk 7 cX7_tell 0 [.inl (.aload 0), .inl (.getfield 460), .inr (.int 60)] 6 = true := by decide +kernel
theorem br_X7_tell_6 : mx_brk cX7_tell 6 (.if_icmp .lt 6) 12 9 = true := by decide +kernel
theorem bk_X7_tell_9 : mx_blk 7 cX7_tell 9 [.inr (.int (-1000000003))] 11 = true := by decide +kernel
theorem rt_X7_tell_11 : mx_kr dm_X7_tell 11 .int := ⟨by decide +kernel, rfl⟩
theorem bk_X7_tell_12 : mx_blk 7 cX7_tell 12 [.inl (.aload 0), .inl (.getfield 459), .inl (.aload 0), .inl (.getfield 460), .inl (.iload 1), .inl .iastore, .inl (.aload 0), .inl .dup, .inl (.getfield 460), .inr (.int 1), .inl .iadd, .inl (.putfield 460), .inl (.aload 0), .inl (.getfield 460)] 36 = true := by decide +kernel
theorem rt_X7_tell_36 : mx_kr dm_X7_tell 36 .int := ⟨by decide +kernel, rfl⟩
theorem bk_X7_check_0 : mx_blk 7 cX7_check 0 [.inl (.aload 0), .inl (.getfield 460), .inl (.istore 2), .inl (.aload 0), .inr (.int 0), .inl (.putfield 460), .inl (.iload 1), .inr (.int 1), .inr (.int 30)] 14 = true := by decide +kernel
theorem kc_X7_check_14 : mx_kS dm_X7_check 14 dm_X7_within 3 := ⟨85, by decide +kernel, md_X7_within, cs_X7_85⟩
theorem br_X7_check_17 : mx_brk cX7_check 17 (.ifCond .ne 6) 23 20 = true := by decide +kernel
theorem bk_X7_check_20 : mx_blk 7 cX7_check 20 [.inr (.int (-1000000001))] 22 = true := by decide +kernel
theorem rt_X7_check_22 : mx_kr dm_X7_check 22 .int := ⟨by decide +kernel, rfl⟩
theorem bk_X7_check_23 : mx_blk 7 cX7_check 23 [.inl (.aload 0), .inl (.getfield 452)] 27 = true := by decide +kernel
theorem br_X7_check_27 : mx_brk cX7_check 27 (.ifCond .ne 6) 33 30 = true := by decide +kernel
theorem bk_X7_check_30 : mx_blk 7 cX7_check 30 [.inr (.int (-1000000002))] 32 = true := by decide +kernel
theorem rt_X7_check_32 : mx_kr dm_X7_check 32 .int := ⟨by decide +kernel, rfl⟩
theorem bk_X7_check_33 : mx_blk 7 cX7_check 33 [.inl (.aload 0), .inl (.getfield 451), .inl (.aload 0), .inl (.getfield 450)] 41 = true := by decide +kernel
theorem kc_X7_check_41 : mx_kV dm_X7_check 41 dm_X6_becomeLike 6 1 := ⟨308, by decide +kernel, md_X6_becomeLike, cv_X7_308, by decide, by decide +kernel⟩
theorem bk_X7_check_44 : mx_blk 7 cX7_check 44 [.inl (.iload 1), .inr (.int 99999), .inl (.aload 0), .inl (.getfield 450), .inl (.getfield 389), .inl .isub] 55 = true := by decide +kernel
theorem kc_X7_check_55 : mx_km dm_X7_check 55 Lib.Math.min.name := ⟨162, by decide +kernel, mx_gw (i := 402) (by decide +kernel)⟩
theorem bk_X7_check_58 : mx_blk 7 cX7_check 58 [.inl (.istore 3), .inr (.int 0), .inl (.istore 4), .inr (.int 1), .inl (.istore 5)] 65 = true := by decide +kernel
theorem bk_X7_check_65 : mx_blk 7 cX7_check 65 [.inl (.iload 5), .inl (.iload 3)] 68 = true := by decide +kernel
theorem br_X7_check_68 : mx_brk cX7_check 68 (.if_icmp .gt 69) 137 71 = true := by decide +kernel
theorem bk_X7_check_71 : mx_blk 7 cX7_check 71 [.inl (.aload 0), .inl (.getfield 451), .inr (.int 63)] 77 = true := by decide +kernel
theorem kc_X7_check_77 : mx_kV dm_X7_check 77 dm_X6_liveDay 6 1 := ⟨177, by decide +kernel, md_X6_liveDay, cv_X7_177, by decide, by decide +kernel⟩
theorem bk_X7_check_80 : mx_blk 7 cX7_check 80 [.inl .pop, .inl (.aload 0), .inl (.iload 4), .inl (.iload 2), .inl (.aload 0), .inl (.getfield 451)] 89 = true := by decide +kernel
theorem kc_X7_check_89 : mx_kV dm_X7_check 89 dm_X6_fairs 6 0 := ⟨311, by decide +kernel, md_X6_fairs, cv_X7_311, by decide, by decide +kernel⟩
theorem kc_X7_check_92 : mx_kV dm_X7_check 92 dm_X7_stands 7 3 := ⟨314, by decide +kernel, md_X7_stands, cv_X7_314, by decide, by decide +kernel⟩
theorem br_X7_check_95 : mx_brk cX7_check 95 (.ifCond .ne 8) 103 98 = true := by decide +kernel
theorem bk_X7_check_98 : mx_blk 7 cX7_check 98 [.inr (.int 1), .inl (.iload 4), .inl .iadd] 102 = true := by decide +kernel
theorem rt_X7_check_102 : mx_kr dm_X7_check 102 .int := ⟨by decide +kernel, rfl⟩
theorem bk_X7_check_103 : mx_blk 7 cX7_check 103 [.inl (.iinc 4 1), .inl (.aload 0), .inl (.iload 4), .inl (.iload 2), .inl (.aload 0), .inl (.getfield 451)] 114 = true := by decide +kernel
theorem kc_X7_check_114 : mx_kV dm_X7_check 114 dm_X6_pursesOfAll 6 0 := ⟨317, by decide +kernel, md_X6_pursesOfAll, cv_X7_317, by decide, by decide +kernel⟩
theorem kc_X7_check_117 : mx_kV dm_X7_check 117 dm_X7_stands 7 3 := ⟨314, by decide +kernel, md_X7_stands, cv_X7_314, by decide, by decide +kernel⟩
theorem br_X7_check_120 : mx_brk cX7_check 120 (.ifCond .ne 8) 128 123 = true := by decide +kernel
theorem bk_X7_check_123 : mx_blk 7 cX7_check 123 [.inr (.int 1), .inl (.iload 4), .inl .iadd] 127 = true := by decide +kernel
theorem rt_X7_check_127 : mx_kr dm_X7_check 127 .int := ⟨by decide +kernel, rfl⟩
theorem bk_X7_check_128 : mx_blk 7 cX7_check 128 [.inl (.iinc 4 1), .inl (.iinc 5 1)] 134 = true := by decide +kernel
theorem gt_X7_check_134 : mx_jmp cX7_check 134 65 = true := by decide +kernel
theorem bk_X7_check_137 : mx_blk 7 cX7_check 137 [.inl (.iload 2), .inl (.iload 4)] 140 = true := by decide +kernel
theorem br_X7_check_140 : mx_brk cX7_check 140 (.if_icmp .le 10) 150 143 = true := by decide +kernel
theorem bk_X7_check_143 : mx_blk 7 cX7_check 143 [.inr (.int 1), .inl (.iload 4), .inl .iadd] 147 = true := by decide +kernel
theorem gt_X7_check_147 : mx_jmp cX7_check 147 151 = true := by decide +kernel
theorem bk_X7_check_150 : mx_blk 7 cX7_check 150 [.inr (.int 0)] 151 = true := by decide +kernel
theorem rt_X7_check_151 : mx_kr dm_X7_check 151 .int := ⟨by decide +kernel, rfl⟩
theorem bk_X7_keep_0 : mx_blk 7 cX7_keep 0 [.inl (.aload 0), .inl (.getfield 450), .inl (.aload 0), .inl (.getfield 449)] 8 = true := by decide +kernel
theorem kc_X7_keep_8 : mx_kV dm_X7_keep 8 dm_X6_becomeLike 6 1 := ⟨308, by decide +kernel, md_X6_becomeLike, cv_X7_308, by decide, by decide +kernel⟩
theorem bk_X7_keep_11 : mx_blk 7 cX7_keep 11 [.inl (.aload 0), .inr (.int 1), .inl (.putfield 452), .inl (.aload 0), .inl (.getfield 449), .inl (.getfield 388)] 23 = true := by decide +kernel
theorem rt_X7_keep_23 : mx_kr dm_X7_keep 23 .int := ⟨by decide +kernel, rfl⟩
theorem bk_X7_back_0 : mx_blk 7 cX7_back 0 [.inl (.aload 0), .inl (.getfield 452)] 4 = true := by decide +kernel
theorem br_X7_back_4 : mx_brk cX7_back 4 (.ifCond .ne 6) 10 7 = true := by decide +kernel
theorem bk_X7_back_7 : mx_blk 7 cX7_back 7 [.inr (.int (-1000000002))] 9 = true := by decide +kernel
theorem rt_X7_back_9 : mx_kr dm_X7_back 9 .int := ⟨by decide +kernel, rfl⟩
theorem bk_X7_back_10 : mx_blk 7 cX7_back 10 [.inl (.aload 0), .inl (.getfield 449), .inl (.aload 0), .inl (.getfield 450)] 18 = true := by decide +kernel
theorem kc_X7_back_18 : mx_kV dm_X7_back 18 dm_X6_becomeLike 6 1 := ⟨308, by decide +kernel, md_X6_becomeLike, cv_X7_308, by decide, by decide +kernel⟩
theorem bk_X7_back_21 : mx_blk 7 cX7_back 21 [.inl (.aload 0), .inl (.getfield 449), .inl (.getfield 388)] 28 = true := by decide +kernel
theorem rt_X7_back_28 : mx_kr dm_X7_back 28 .int := ⟨by decide +kernel, rfl⟩
theorem bk_X7_count_0 : mx_blk 7 cX7_count 0 [.inl (.iload 1)] 1 = true := by decide +kernel
theorem sw_X7_count_1 : mx_swk cX7_count 1 [(0, 56), (1, 64), (2, 72), (3, 80), (4, 88), (5, 96), (6, 104), (7, 112), (8, 117), (9, 122)] 130 = true := by decide +kernel
theorem bk_X7_count_56 : mx_blk 7 cX7_count 56 [.inl (.aload 0), .inl (.getfield 449), .inl (.getfield 388)] 63 = true := by decide +kernel
theorem rt_X7_count_63 : mx_kr dm_X7_count 63 .int := ⟨by decide +kernel, rfl⟩
theorem bk_X7_count_64 : mx_blk 7 cX7_count 64 [.inl (.aload 0), .inl (.getfield 449), .inl (.getfield 389)] 71 = true := by decide +kernel
theorem rt_X7_count_71 : mx_kr dm_X7_count 71 .int := ⟨by decide +kernel, rfl⟩
theorem bk_X7_count_72 : mx_blk 7 cX7_count 72 [.inl (.aload 0), .inl (.getfield 449), .inl (.getfield 390)] 79 = true := by decide +kernel
theorem rt_X7_count_79 : mx_kr dm_X7_count 79 .int := ⟨by decide +kernel, rfl⟩
theorem bk_X7_count_80 : mx_blk 7 cX7_count 80 [.inl (.aload 0), .inl (.getfield 449), .inl (.getfield 391)] 87 = true := by decide +kernel
theorem rt_X7_count_87 : mx_kr dm_X7_count 87 .int := ⟨by decide +kernel, rfl⟩
theorem bk_X7_count_88 : mx_blk 7 cX7_count 88 [.inl (.aload 0), .inl (.getfield 449), .inl (.getfield 392)] 95 = true := by decide +kernel
theorem rt_X7_count_95 : mx_kr dm_X7_count 95 .int := ⟨by decide +kernel, rfl⟩
theorem bk_X7_count_96 : mx_blk 7 cX7_count 96 [.inl (.aload 0), .inl (.getfield 449)] 100 = true := by decide +kernel
theorem kc_X7_count_100 : mx_kV dm_X7_count 100 dm_X6_pursesOfAll 6 0 := ⟨317, by decide +kernel, md_X6_pursesOfAll, cv_X7_317, by decide, by decide +kernel⟩
theorem rt_X7_count_103 : mx_kr dm_X7_count 103 .int := ⟨by decide +kernel, rfl⟩
theorem bk_X7_count_104 : mx_blk 7 cX7_count 104 [.inl (.aload 0), .inl (.getfield 449), .inl (.getfield 394)] 111 = true := by decide +kernel
theorem rt_X7_count_111 : mx_kr dm_X7_count 111 .int := ⟨by decide +kernel, rfl⟩
theorem bk_X7_count_112 : mx_blk 7 cX7_count 112 [.inl (.aload 0), .inl (.getfield 460)] 116 = true := by decide +kernel
theorem rt_X7_count_116 : mx_kr dm_X7_count 116 .int := ⟨by decide +kernel, rfl⟩
theorem bk_X7_count_117 : mx_blk 7 cX7_count 117 [.inl (.aload 0), .inl (.getfield 454)] 121 = true := by decide +kernel
theorem rt_X7_count_121 : mx_kr dm_X7_count 121 .int := ⟨by decide +kernel, rfl⟩
theorem bk_X7_count_122 : mx_blk 7 cX7_count 122 [.inl (.aload 0), .inl (.getfield 449), .inl (.getfield 393)] 129 = true := by decide +kernel
theorem rt_X7_count_129 : mx_kr dm_X7_count 129 .int := ⟨by decide +kernel, rfl⟩
theorem bk_X7_count_130 : mx_blk 7 cX7_count 130 [.inr (.int (-1000000001))] 132 = true := by decide +kernel
theorem rt_X7_count_132 : mx_kr dm_X7_count 132 .int := ⟨by decide +kernel, rfl⟩
theorem bk_X7_within_0 : mx_blk 7 cX7_within 0 [.inl (.iload 0), .inl (.iload 1)] 2 = true := by decide +kernel
theorem br_X7_within_2 : mx_brk cX7_within 2 (.if_icmp .lt 12) 14 5 = true := by decide +kernel
theorem bk_X7_within_5 : mx_blk 7 cX7_within 5 [.inl (.iload 0), .inl (.iload 2)] 7 = true := by decide +kernel
theorem br_X7_within_7 : mx_brk cX7_within 7 (.if_icmp .gt 7) 14 10 = true := by decide +kernel
theorem bk_X7_within_10 : mx_blk 7 cX7_within 10 [.inr (.int 1)] 11 = true := by decide +kernel
theorem gt_X7_within_11 : mx_jmp cX7_within 11 15 = true := by decide +kernel
theorem bk_X7_within_14 : mx_blk 7 cX7_within 14 [.inr (.int 0)] 15 = true := by decide +kernel
theorem rt_X7_within_15 : mx_kr dm_X7_within 15 .boolean := ⟨by decide +kernel, rfl⟩
theorem bk_X7_held_0 : mx_blk 7 cX7_held 0 [.inl (.iload 1), .inl (.iload 2), .inl (.iload 0)] 3 = true := by decide +kernel
theorem kc_X7_held_3 : mx_km dm_X7_held 3 Lib.Math.min.name := ⟨162, by decide +kernel, mx_gw (i := 402) (by decide +kernel)⟩
theorem kc_X7_held_6 : mx_km dm_X7_held 6 Lib.Math.max.name := ⟨320, by decide +kernel, mx_gw (i := 405) (by decide +kernel)⟩
theorem rt_X7_held_9 : mx_kr dm_X7_held 9 .int := ⟨by decide +kernel, rfl⟩
theorem bk_X7_isKind_0 : mx_blk 7 cX7_isKind 0 [.inl (.iload 0)] 1 = true := by decide +kernel
theorem br_X7_isKind_1 : mx_brk cX7_isKind 1 (.ifCond .lt 15) 16 4 = true := by decide +kernel
theorem bk_X7_isKind_4 : mx_blk 7 cX7_isKind 4 [.inl (.iload 0)] 5 = true := by decide +kernel
theorem dd_X7_isKind_5 : decode cX7_isKind 5 = .ok (.getstatic 323, 3) := by decide +kernel
theorem dd_X7_isKind_8 : decode cX7_isKind 8 = .ok (.arraylength, 1) := by decide +kernel
theorem br_X7_isKind_9 : mx_brk cX7_isKind 9 (.if_icmp .ge 7) 16 12 = true := by decide +kernel
theorem bk_X7_isKind_12 : mx_blk 7 cX7_isKind 12 [.inr (.int 1)] 13 = true := by decide +kernel
theorem gt_X7_isKind_13 : mx_jmp cX7_isKind 13 17 = true := by decide +kernel
theorem bk_X7_isKind_16 : mx_blk 7 cX7_isKind 16 [.inr (.int 0)] 17 = true := by decide +kernel
theorem rt_X7_isKind_17 : mx_kr dm_X7_isKind 17 .boolean := ⟨by decide +kernel, rfl⟩
theorem bk_X7_isSheet_0 : mx_blk 7 cX7_isSheet 0 [.inl (.iload 1)] 1 = true := by decide +kernel
theorem br_X7_isSheet_1 : mx_brk cX7_isSheet 1 (.ifCond .lt 16) 17 4 = true := by decide +kernel
theorem bk_X7_isSheet_4 : mx_blk 7 cX7_isSheet 4 [.inl (.iload 1), .inl (.aload 0), .inl (.getfield 457), .inl .arraylength] 10 = true := by decide +kernel
theorem br_X7_isSheet_10 : mx_brk cX7_isSheet 10 (.if_icmp .ge 7) 17 13 = true := by decide +kernel
theorem bk_X7_isSheet_13 : mx_blk 7 cX7_isSheet 13 [.inr (.int 1)] 14 = true := by decide +kernel
theorem gt_X7_isSheet_14 : mx_jmp cX7_isSheet 14 18 = true := by decide +kernel
theorem bk_X7_isSheet_17 : mx_blk 7 cX7_isSheet 17 [.inr (.int 0)] 18 = true := by decide +kernel
theorem rt_X7_isSheet_18 : mx_kr dm_X7_isSheet 18 .boolean := ⟨by decide +kernel, rfl⟩
theorem bk_X7_isSlot_0 : mx_blk 7 cX7_isSlot 0 [.inl (.iload 1)] 1 = true := by decide +kernel
theorem br_X7_isSlot_1 : mx_brk cX7_isSlot 1 (.ifCond .lt 16) 17 4 = true := by decide +kernel
theorem bk_X7_isSlot_4 : mx_blk 7 cX7_isSlot 4 [.inl (.iload 1), .inl (.aload 0), .inl (.getfield 458), .inl .arraylength] 10 = true := by decide +kernel
theorem br_X7_isSlot_10 : mx_brk cX7_isSlot 10 (.if_icmp .ge 7) 17 13 = true := by decide +kernel
theorem bk_X7_isSlot_13 : mx_blk 7 cX7_isSlot 13 [.inr (.int 1)] 14 = true := by decide +kernel
theorem gt_X7_isSlot_14 : mx_jmp cX7_isSlot 14 18 = true := by decide +kernel
theorem bk_X7_isSlot_17 : mx_blk 7 cX7_isSlot 17 [.inr (.int 0)] 18 = true := by decide +kernel
theorem rt_X7_isSlot_18 : mx_kr dm_X7_isSlot 18 .boolean := ⟨by decide +kernel, rfl⟩
theorem bk_X7_only_0 : mx_blk 7 cX7_only 0 [.inr (.int 1), .inl (.iload 0), .inl .ishl] 3 = true := by decide +kernel
theorem rt_X7_only_3 : mx_kr dm_X7_only 3 .int := ⟨by decide +kernel, rfl⟩
theorem bk_X7_thinkFromNow_0 : mx_blk 7 cX7_thinkFromNow 0 [.inl (.aload 0), .inl (.getfield 451), .inl (.aload 0), .inl (.getfield 449)] 8 = true := by decide +kernel
theorem kc_X7_thinkFromNow_8 : mx_kV dm_X7_thinkFromNow 8 dm_X6_becomeLike 6 1 := ⟨308, by decide +kernel, md_X6_becomeLike, cv_X7_308, by decide, by decide +kernel⟩
theorem rt_X7_thinkFromNow_11 : mx_kv dm_X7_thinkFromNow 11 := ⟨by decide +kernel, rfl⟩
theorem bk_X7_thinkOn_0 : mx_blk 7 cX7_thinkOn 0 [.inr (.int 0), .inl (.istore 3)] 2 = true := by decide +kernel
theorem bk_X7_thinkOn_2 : mx_blk 7 cX7_thinkOn 2 [.inl (.iload 3), .inl (.iload 1)] 4 = true := by decide +kernel
theorem br_X7_thinkOn_4 : mx_brk cX7_thinkOn 4 (.if_icmp .ge 18) 22 7 = true := by decide +kernel
theorem bk_X7_thinkOn_7 : mx_blk 7 cX7_thinkOn 7 [.inl (.aload 0), .inl (.getfield 451), .inl (.iload 2)] 12 = true := by decide +kernel
theorem kc_X7_thinkOn_12 : mx_kV dm_X7_thinkOn 12 dm_X6_liveDay 6 1 := ⟨177, by decide +kernel, md_X6_liveDay, cv_X7_177, by decide, by decide +kernel⟩
theorem bk_X7_thinkOn_15 : mx_blk 7 cX7_thinkOn 15 [.inl .pop, .inl (.iinc 3 1)] 19 = true := by decide +kernel
theorem gt_X7_thinkOn_19 : mx_jmp cX7_thinkOn 19 2 = true := by decide +kernel
theorem rt_X7_thinkOn_22 : mx_kv dm_X7_thinkOn 22 := ⟨by decide +kernel, rfl⟩
theorem bk_X7_tradeOneDay_0 : mx_blk 7 cX7_tradeOneDay 0 [.inr (.int 0), .inl (.istore 1)] 2 = true := by decide +kernel
theorem bk_X7_tradeOneDay_2 : mx_blk 7 cX7_tradeOneDay 2 [.inl (.iload 1), .inl (.aload 0), .inl (.getfield 451), .inl (.getfield 388)] 10 = true := by decide +kernel
theorem br_X7_tradeOneDay_10 : mx_brk cX7_tradeOneDay 10 (.if_icmp .ge 84) 94 13 = true := by decide +kernel
theorem bk_X7_tradeOneDay_13 : mx_blk 7 cX7_tradeOneDay 13 [.inl (.aload 0), .inl (.getfield 461), .inl (.iload 1), .inl .iaload, .inl (.istore 2), .inl (.iload 1)] 21 = true := by decide +kernel
theorem br_X7_tradeOneDay_21 : mx_brk cX7_tradeOneDay 21 (.ifCond .le 16) 37 24 = true := by decide +kernel
theorem bk_X7_tradeOneDay_24 : mx_blk 7 cX7_tradeOneDay 24 [.inl (.iload 2), .inl (.aload 0), .inl (.getfield 461), .inl (.iload 1), .inr (.int 1), .inl .isub, .inl .iaload] 33 = true := by decide +kernel
theorem kc_X7_tradeOneDay_33 : mx_km dm_X7_tradeOneDay 33 Lib.Math.max.name := ⟨320, by decide +kernel, mx_gw (i := 405) (by decide +kernel)⟩
theorem bk_X7_tradeOneDay_36 : mx_blk 7 cX7_tradeOneDay 36 [.inl (.istore 2)] 37 = true := by decide +kernel
theorem bk_X7_tradeOneDay_37 : mx_blk 7 cX7_tradeOneDay 37 [.inl (.iload 1), .inr (.int 1), .inl .iadd, .inl (.aload 0), .inl (.getfield 451), .inl (.getfield 388)] 47 = true := by decide +kernel
theorem br_X7_tradeOneDay_47 : mx_brk cX7_tradeOneDay 47 (.if_icmp .ge 16) 63 50 = true := by decide +kernel
theorem bk_X7_tradeOneDay_50 : mx_blk 7 cX7_tradeOneDay 50 [.inl (.iload 2), .inl (.aload 0), .inl (.getfield 461), .inl (.iload 1), .inr (.int 1), .inl .iadd, .inl .iaload] 59 = true := by decide +kernel
theorem kc_X7_tradeOneDay_59 : mx_km dm_X7_tradeOneDay 59 Lib.Math.max.name := ⟨320, by decide +kernel, mx_gw (i := 405) (by decide +kernel)⟩
theorem bk_X7_tradeOneDay_62 : mx_blk 7 cX7_tradeOneDay 62 [.inl (.istore 2)] 63 = true := by decide +kernel
theorem bk_X7_tradeOneDay_63 : mx_blk 7 cX7_tradeOneDay 63 [.inl (.aload 0), .inl (.getfield 462), .inl (.iload 1), .inl (.iload 2)] 69 = true := by decide +kernel
theorem br_X7_tradeOneDay_69 : mx_brk cX7_tradeOneDay 69 (.ifCond .ge 8) 77 72 = true := by decide +kernel
theorem bk_X7_tradeOneDay_72 : mx_blk 7 cX7_tradeOneDay 72 [.inr (.int (-1000000005))] 74 = true := by decide +kernel
theorem gt_X7_tradeOneDay_74 : mx_jmp cX7_tradeOneDay 74 87 = true := by decide +kernel
theorem bk_X7_tradeOneDay_77 : mx_blk 7 cX7_tradeOneDay 77 [.inl (.iload 2), .inl (.aload 0), .inl (.getfield 451), .inl (.iload 1)] 83 = true := by decide +kernel
theorem kc_X7_tradeOneDay_83 : mx_kV dm_X7_tradeOneDay 83 dm_X6_fairAt 6 1 := ⟨135, by decide +kernel, md_X6_fairAt, cv_X7_135, by decide, by decide +kernel⟩
theorem bk_X7_tradeOneDay_86 : mx_blk 7 cX7_tradeOneDay 86 [.inl .iadd] 87 = true := by decide +kernel
theorem bk_X7_tradeOneDay_87 : mx_blk 7 cX7_tradeOneDay 87 [.inl .iastore, .inl (.iinc 1 1)] 91 = true := by decide +kernel
theorem gt_X7_tradeOneDay_91 : mx_jmp cX7_tradeOneDay 91 2 = true := by decide +kernel
theorem bk_X7_tradeOneDay_94 : mx_blk 7 cX7_tradeOneDay 94 [.inl (.aload 0), .inl (.getfield 461), .inl (.astore 1), .inl (.aload 0), .inl (.aload 0), .inl (.getfield 462), .inl (.putfield 461), .inl (.aload 0), .inl (.aload 1), .inl (.putfield 462)] 112 = true := by decide +kernel
theorem rt_X7_tradeOneDay_112 : mx_kv dm_X7_tradeOneDay 112 := ⟨by decide +kernel, rfl⟩
theorem bk_X7_mostSeenAt_0 : mx_blk 7 cX7_mostSeenAt 0 [.inr (.int 0), .inl (.istore 1), .inr (.int 1), .inl (.istore 2)] 4 = true := by decide +kernel
theorem bk_X7_mostSeenAt_4 : mx_blk 7 cX7_mostSeenAt 4 [.inl (.iload 2), .inl (.aload 0), .inl (.getfield 451), .inl (.getfield 388)] 12 = true := by decide +kernel
theorem br_X7_mostSeenAt_12 : mx_brk cX7_mostSeenAt 12 (.if_icmp .ge 26) 38 15 = true := by decide +kernel
theorem bk_X7_mostSeenAt_15 : mx_blk 7 cX7_mostSeenAt 15 [.inl (.aload 0), .inl (.getfield 461), .inl (.iload 2), .inl .iaload, .inl (.aload 0), .inl (.getfield 461), .inl (.iload 1), .inl .iaload] 27 = true := by decide +kernel
theorem br_X7_mostSeenAt_27 : mx_brk cX7_mostSeenAt 27 (.if_icmp .le 5) 32 30 = true := by decide +kernel
theorem bk_X7_mostSeenAt_30 : mx_blk 7 cX7_mostSeenAt 30 [.inl (.iload 2), .inl (.istore 1)] 32 = true := by decide +kernel
theorem bk_X7_mostSeenAt_32 : mx_blk 7 cX7_mostSeenAt 32 [.inl (.iinc 2 1)] 35 = true := by decide +kernel
theorem gt_X7_mostSeenAt_35 : mx_jmp cX7_mostSeenAt 35 4 = true := by decide +kernel
theorem bk_X7_mostSeenAt_38 : mx_blk 7 cX7_mostSeenAt 38 [.inl (.iload 1)] 39 = true := by decide +kernel
theorem rt_X7_mostSeenAt_39 : mx_kr dm_X7_mostSeenAt 39 .int := ⟨by decide +kernel, rfl⟩
theorem bk_X7_differences_0 : mx_blk 7 cX7_differences 0 [.inl (.aload 0)] 1 = true := by decide +kernel
theorem kc_X7_differences_1 : mx_kV dm_X7_differences 1 dm_X7_thinkFromNow 7 0 := ⟨180, by decide +kernel, md_X7_thinkFromNow, cv_X7_180, by decide, by decide +kernel⟩
theorem bk_X7_differences_4 : mx_blk 7 cX7_differences 4 [.inl (.aload 0), .inl (.getfield 451), .inl (.getfield 384), .inl (.iload 2), .inl (.anewarray 13), .inl (.astore 4), .inl (.aload 4), .inl (.iload 3), .inl (.putfield 1), .inr (.int 0), .inl (.istore 5), .inr (.int 0), .inl (.istore 6)] 27 = true := by decide +kernel
theorem bk_X7_differences_27 : mx_blk 7 cX7_differences 27 [.inl (.iload 6), .inr (.int 6)] 31 = true := by decide +kernel
theorem br_X7_differences_31 : mx_brk cX7_differences 31 (.if_icmp .ge 62) 93 34 = true := by decide +kernel
theorem bk_X7_differences_34 : mx_blk 7 cX7_differences 34 [.inl (.iload 6), .inl (.aload 1), .inl (.getfield 257)] 40 = true := by decide +kernel
theorem br_X7_differences_40 : mx_brk cX7_differences 40 (.if_icmp .ge 53) 93 43 = true := by decide +kernel
theorem bk_X7_differences_43 : mx_blk 7 cX7_differences 43 [.inl (.aload 1), .inl (.iload 6)] 46 = true := by decide +kernel
theorem kc_X7_differences_46 : mx_kV dm_X7_differences 46 dm_X4_isNumberAt 4 1 := ⟨264, by decide +kernel, md_X4_isNumberAt, cv_X7_264, by decide, by decide +kernel⟩
theorem br_X7_differences_49 : mx_brk cX7_differences 49 (.ifCond .eq 24) 73 52 = true := by decide +kernel
theorem bk_X7_differences_52 : mx_blk 7 cX7_differences 52 [.inl (.iload 5), .inl (.aload 4), .inl (.getfield 3), .inl (.aload 1), .inl (.getfield 258), .inl (.iload 6), .inl .iaload, .inl .isub] 67 = true := by decide +kernel
theorem kc_X7_differences_67 : mx_km dm_X7_differences 67 Lib.Math.abs.name := ⟨326, by decide +kernel, mx_gw (i := 560) (by decide +kernel)⟩
theorem bk_X7_differences_70 : mx_blk 7 cX7_differences 70 [.inl .iadd, .inl (.istore 5)] 73 = true := by decide +kernel
theorem bk_X7_differences_73 : mx_blk 7 cX7_differences 73 [.inl (.aload 1), .inl (.iload 6)] 76 = true := by decide +kernel
theorem kc_X7_differences_76 : mx_kV dm_X7_differences 76 dm_X4_hasNumberBehind 4 1 := ⟨329, by decide +kernel, md_X4_hasNumberBehind, cv_X7_329, by decide, by decide +kernel⟩
theorem br_X7_differences_79 : mx_brk cX7_differences 79 (.ifCond .eq 8) 87 82 = true := by decide +kernel
theorem bk_X7_differences_82 : mx_blk 7 cX7_differences 82 [.inl (.aload 0), .inl (.iload 2)] 84 = true := by decide +kernel
theorem kc_X7_differences_84 : mx_kV dm_X7_differences 84 dm_X7_thinkTillNextWeek 7 1 := ⟨332, by decide +kernel, md_X7_thinkTillNextWeek, cv_X7_332, by decide, by decide +kernel⟩
theorem bk_X7_differences_87 : mx_blk 7 cX7_differences 87 [.inl (.iinc 6 1)] 90 = true := by decide +kernel
theorem gt_X7_differences_90 : mx_jmp cX7_differences 90 27 = true := by decide +kernel
theorem bk_X7_differences_93 : mx_blk 7 cX7_differences 93 [.inl (.iload 5)] 95 = true := by decide +kernel
theorem rt_X7_differences_95 : mx_kr dm_X7_differences 95 .int := ⟨by decide +kernel, rfl⟩
theorem bk_X7_thinkTillNextWeek_0 : mx_blk 7 cX7_thinkTillNextWeek 0 [.inr (.int 0), .inl (.istore 2), .inr (.int 0), .inl (.istore 3)] 4 = true := by decide +kernel
theorem bk_X7_thinkTillNextWeek_4 : mx_blk 7 cX7_thinkTillNextWeek 4 [.inl (.iload 3), .inr (.int 60)] 7 = true := by decide +kernel
theorem br_X7_thinkTillNextWeek_7 : mx_brk cX7_thinkTillNextWeek 7 (.if_icmp .ge 25) 32 10 = true := by decide +kernel
theorem bk_X7_thinkTillNextWeek_10 : mx_blk 7 cX7_thinkTillNextWeek 10 [.inl (.iload 2)] 11 = true := by decide +kernel
theorem br_X7_thinkTillNextWeek_11 : mx_brk cX7_thinkTillNextWeek 11 (.ifCond .ne 21) 32 14 = true := by decide +kernel
theorem bk_X7_thinkTillNextWeek_14 : mx_blk 7 cX7_thinkTillNextWeek 14 [.inl (.aload 0), .inl (.getfield 451), .inl (.iload 1)] 19 = true := by decide +kernel
theorem kc_X7_thinkTillNextWeek_19 : mx_kS dm_X7_thinkTillNextWeek 19 dm_X7_only 1 := ⟨183, by decide +kernel, md_X7_only, cs_X7_183⟩
theorem kc_X7_thinkTillNextWeek_22 : mx_kV dm_X7_thinkTillNextWeek 22 dm_X6_liveDay 6 1 := ⟨177, by decide +kernel, md_X6_liveDay, cv_X7_177, by decide, by decide +kernel⟩
theorem bk_X7_thinkTillNextWeek_25 : mx_blk 7 cX7_thinkTillNextWeek 25 [.inl (.istore 2), .inl (.iinc 3 1)] 29 = true := by decide +kernel
theorem gt_X7_thinkTillNextWeek_29 : mx_jmp cX7_thinkTillNextWeek 29 4 = true := by decide +kernel
theorem rt_X7_thinkTillNextWeek_32 : mx_kv dm_X7_thinkTillNextWeek 32 := ⟨by decide +kernel, rfl⟩
theorem bk_X7_feedOne_0 : mx_blk 7 cX7_feedOne 0 [.inr (.int 24), .inl (.istore 2)] 3 = true := by decide +kernel
theorem bk_X7_feedOne_3 : mx_blk 7 cX7_feedOne 3 [.inl (.iload 2)] 4 = true := by decide +kernel
theorem br_X7_feedOne_4 : mx_brk cX7_feedOne 4 (.ifCond .lt 41) 45 7 = true := by decide +kernel
theorem bk_X7_feedOne_7 : mx_blk 7 cX7_feedOne 7 [.inl (.aload 0), .inl (.getfield 454), .inr (.int 96)] 13 = true := by decide +kernel
theorem br_X7_feedOne_13 : mx_brk cX7_feedOne 13 (.if_icmp .ge 32) 45 16 = true := by decide +kernel
theorem bk_X7_feedOne_16 : mx_blk 7 cX7_feedOne 16 [.inl (.aload 0), .inl (.getfield 453), .inl (.aload 0), .inl (.getfield 454), .inl (.iload 1), .inl (.iload 2), .inl .iushr, .inl .i2b, .inl .bastore, .inl (.aload 0), .inl .dup, .inl (.getfield 454), .inr (.int 1), .inl .iadd, .inl (.putfield 454), .inl (.iinc 2 (-8))] 42 = true := by decide +kernel
theorem gt_X7_feedOne_42 : mx_jmp cX7_feedOne 42 3 = true := by decide +kernel
theorem rt_X7_feedOne_45 : mx_kv dm_X7_feedOne 45 := ⟨by decide +kernel, rfl⟩
theorem bk_X7_stands_0 : mx_blk 7 cX7_stands 0 [.inl (.iload 1), .inl (.iload 2)] 2 = true := by decide +kernel
theorem br_X7_stands_2 : mx_brk cX7_stands 2 (.if_icmp .ge 26) 28 5 = true := by decide +kernel
theorem bk_X7_stands_5 : mx_blk 7 cX7_stands 5 [.inl (.iload 1), .inl (.aload 0), .inl (.getfield 459), .inl .arraylength] 11 = true := by decide +kernel
theorem br_X7_stands_11 : mx_brk cX7_stands 11 (.if_icmp .ge 17) 28 14 = true := by decide +kernel
theorem bk_X7_stands_14 : mx_blk 7 cX7_stands 14 [.inl (.aload 0), .inl (.getfield 459), .inl (.iload 1), .inl .iaload, .inl (.iload 3)] 21 = true := by decide +kernel
theorem br_X7_stands_21 : mx_brk cX7_stands 21 (.if_icmp .ne 7) 28 24 = true := by decide +kernel
theorem bk_X7_stands_24 : mx_blk 7 cX7_stands 24 [.inr (.int 1)] 25 = true := by decide +kernel
theorem gt_X7_stands_25 : mx_jmp cX7_stands 25 29 = true := by decide +kernel
theorem bk_X7_stands_28 : mx_blk 7 cX7_stands 28 [.inr (.int 0)] 29 = true := by decide +kernel
theorem rt_X7_stands_29 : mx_kr dm_X7_stands 29 .boolean := ⟨by decide +kernel, rfl⟩
