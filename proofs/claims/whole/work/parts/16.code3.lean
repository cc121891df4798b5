theorem bk_X8_init_0 : mx_blk 8 cX8_init 0 [.inl (.aload 0)] 1 = true := by decide +kernel
theorem kc_X8_init_1 : mx_ko dm_X8_init 1 := ⟨1, by decide +kernel, mx_gw (i := 894) (by decide +kernel)⟩
theorem bk_X8_init_4 : mx_blk 8 cX8_init 4 [.inl (.aload 0), .inr (.int 1427)] 8 = true := by decide +kernel
theorem dd_X8_init_8 : decode cX8_init 8 = .ok (.newarray .int, 2) := by decide +kernel
theorem bk_X8_init_10 : mx_blk 8 cX8_init 10 [.inl (.putfield 512), .inl (.aload 0), .inr (.int 1427)] 17 = true := by decide +kernel
theorem dd_X8_init_17 : decode cX8_init 17 = .ok (.newarray .int, 2) := by decide +kernel
theorem bk_X8_init_19 : mx_blk 8 cX8_init 19 [.inl (.putfield 513), .inl (.aload 0), .inr (.int 1427)] 26 = true := by decide +kernel
theorem dd_X8_init_26 : decode cX8_init 26 = .ok (.newarray .int, 2) := by decide +kernel
theorem bk_X8_init_28 : mx_blk 8 cX8_init 28 [.inl (.putfield 514), .inl (.aload 0), .inr (.int 55)] 34 = true := by decide +kernel
theorem dd_X8_init_34 : decode cX8_init 34 = .ok (.newarray .int, 2) := by decide +kernel
theorem bk_X8_init_36 : mx_blk 8 cX8_init 36 [.inl (.putfield 516), .inl (.aload 0), .inr (.int 6)] 42 = true := by decide +kernel
theorem dd_X8_init_42 : decode cX8_init 42 = .ok (.newarray .int, 2) := by decide +kernel
theorem bk_X8_init_44 : mx_blk 8 cX8_init 44 [.inl (.putfield 517), .inl (.aload 0), .inr (.int 6)] 50 = true := by decide +kernel
theorem dd_X8_init_50 : decode cX8_init 50 = .ok (.newarray .int, 2) := by decide +kernel
theorem bk_X8_init_52 : mx_blk 8 cX8_init 52 [.inl (.putfield 518), .inl (.aload 0), .inr (.int 96)] 58 = true := by decide +kernel
theorem dd_X8_init_58 : decode cX8_init 58 = .ok (.newarray .int, 2) := by decide +kernel
theorem bk_X8_init_60 : mx_blk 8 cX8_init 60 [.inl (.putfield 519), .inl (.aload 0), .inr (.int 13)] 66 = true := by decide +kernel
theorem dd_X8_init_66 : decode cX8_init 66 = .ok (.newarray .char, 2) := by decide +kernel
theorem bk_X8_init_68 : mx_blk 8 cX8_init 68 [.inl .dup, .inr (.int 0), .inr (.int 98), .inl .castore, .inl .dup, .inr (.int 1), .inr (.int 105), .inl .castore, .inl .dup, .inr (.int 2), .inr (.int 114), .inl .castore, .inl .dup, .inr (.int 3), .inr (.int 116), .inl .castore, .inl .dup, .inr (.int 4), .inr (.int 104), .inl .castore, .inl .dup, .inr (.int 5), .inr (.int 119), .inl .castore, .inl .dup, .inr (.int 6), .inr (.int 97), .inl .castore, .inl .dup, .inr (.int 7), .inr (.int 103), .inl .castore, .inl .dup, .inr (.int 8), .inr (.int 101), .inl .castore, .inl .dup, .inr (.int 9), .inr (.int 102), .inl .castore, .inl .dup, .inr (.int 10), .inr (.int 105), .inl .castore, .inl .dup, .inr (.int 11), .inr (.int 110), .inl .castore, .inl .dup, .inr (.int 12), .inr (.int 101), .inl .castore, .inl (.putfield 527), .inl (.aload 0), .inr (.int 4)] 145 = true := by decide +kernel
theorem dd_X8_init_145 : decode cX8_init 145 = .ok (.newarray .int, 2) := by decide +kernel
theorem bk_X8_init_147 : mx_blk 8 cX8_init 147 [.inl .dup, .inr (.int 0), .inr (.int 0), .inl .iastore, .inl .dup, .inr (.int 1), .inr (.int 5), .inl .iastore, .inl .dup, .inr (.int 2), .inr (.int 9), .inl .iastore, .inl .dup, .inr (.int 3), .inr (.int 13), .inl .iastore, .inl (.putfield 528), .inl (.aload 0), .inr (.int 96)] 171 = true := by decide +kernel
theorem dd_X8_init_171 : decode cX8_init 171 = .ok (.newarray .int, 2) := by decide +kernel
theorem bk_X8_init_173 : mx_blk 8 cX8_init 173 [.inl (.putfield 529), .inl (.aload 0), .inr (.int 96)] 179 = true := by decide +kernel
theorem dd_X8_init_179 : decode cX8_init 179 = .ok (.newarray .int, 2) := by decide +kernel
theorem bk_X8_init_181 : mx_blk 8 cX8_init 181 [.inl (.putfield 532), .inl (.aload 0), .inr (.int 10)] 187 = true := by decide +kernel
theorem dd_X8_init_187 : decode cX8_init 187 = .ok (.newarray .boolean, 2) := by decide +kernel
theorem bk_X8_init_189 : mx_blk 8 cX8_init 189 [.inl (.putfield 534), .inl (.aload 0), .inr (.int 96)] 195 = true := by decide +kernel
theorem dd_X8_init_195 : decode cX8_init 195 = .ok (.newarray .int, 2) := by decide +kernel
theorem bk_X8_init_197 : mx_blk 8 cX8_init 197 [.inl (.putfield 535), .inl (.aload 0), .inr (.int 4)] 202 = true := by decide +kernel
theorem dd_X8_init_202 : decode cX8_init 202 = .ok (.newarray .int, 2) := by decide +kernel
theorem bk_X8_init_204 : mx_blk 8 cX8_init 204 [.inl (.putfield 536), .inl (.aload 0), .inr (.int 4)] 209 = true := by decide +kernel
theorem dd_X8_init_209 : decode cX8_init 209 = .ok (.newarray .int, 2) := by decide +kernel
theorem bk_X8_init_211 : mx_blk 8 cX8_init 211 [.inl .dup, .inr (.int 0), .inr (.int (-1)), .inl .iastore, .inl .dup, .inr (.int 1), .inr (.int (-1)), .inl .iastore, .inl .dup, .inr (.int 2), .inr (.int (-1)), .inl .iastore, .inl .dup, .inr (.int 3), .inr (.int (-1)), .inl .iastore, .inl (.putfield 537), .inl (.aload 0), .inr (.int 4)] 232 = true := by decide +kernel
theorem dd_X8_init_232 : decode cX8_init 232 = .ok (.newarray .int, 2) := by decide +kernel
theorem bk_X8_init_234 : mx_blk 8 cX8_init 234 [.inl (.putfield 538), .inl (.aload 0), .inr (.int 96)] 240 = true := by decide +kernel
theorem dd_X8_init_240 : decode cX8_init 240 = .ok (.newarray .int, 2) := by decide +kernel
theorem bk_X8_init_242 : mx_blk 8 cX8_init 242 [.inl (.putfield 539), .inl (.aload 0), .inr (.int 5)] 247 = true := by decide +kernel
theorem dd_X8_init_247 : decode cX8_init 247 = .ok (.newarray .int, 2) := by decide +kernel
theorem bk_X8_init_249 : mx_blk 8 cX8_init 249 [.inl (.putfield 540), .inl (.aload 0), .inr (.int 5)] 254 = true := by decide +kernel
theorem dd_X8_init_254 : decode cX8_init 254 = .ok (.newarray .int, 2) := by decide +kernel
theorem bk_X8_init_256 : mx_blk 8 cX8_init 256 [.inl (.putfield 541), .inl (.aload 0), .inr (.int 5)] 261 = true := by decide +kernel
theorem dd_X8_init_261 : decode cX8_init 261 = .ok (.newarray .int, 2) := by decide +kernel
theorem bk_X8_init_263 : mx_blk 8 cX8_init 263 [.inl (.putfield 542), .inl (.aload 0), .inr (.int 120)] 269 = true := by decide +kernel
theorem dd_X8_init_269 : decode cX8_init 269 = .ok (.newarray .int, 2) := by decide +kernel
theorem bk_X8_init_271 : mx_blk 8 cX8_init 271 [.inl (.putfield 543), .inl (.aload 0), .inr (.int 24)] 277 = true := by decide +kernel
theorem dd_X8_init_277 : decode cX8_init 277 = .ok (.newarray .int, 2) := by decide +kernel
theorem bk_X8_init_279 : mx_blk 8 cX8_init 279 [.inl (.putfield 544), .inl (.aload 0), .inr (.int 60)] 285 = true := by decide +kernel
theorem dd_X8_init_285 : decode cX8_init 285 = .ok (.newarray .int, 2) := by decide +kernel
theorem bk_X8_init_287 : mx_blk 8 cX8_init 287 [.inl (.putfield 545), .inl (.aload 0), .inl (.getfield 512), .inr (.int 0), .inr (.int 1), .inl .iastore, .inl (.aload 0), .inl (.getfield 512), .inr (.int 3), .inr (.int 20), .inl .iastore, .inl (.aload 0), .inl (.getfield 512), .inr (.int 4), .inr (.int 2), .inl .iastore, .inl (.aload 0), .inl (.getfield 512), .inr (.int 5), .inr (.int 2), .inl .iastore] 319 = true := by decide +kernel
theorem rt_X8_init_319 : mx_kv dm_X8_init 319 := ⟨by decide +kernel, rfl⟩
theorem bk_X8_in_0 : mx_blk 8 cX8_in 0 [.inl (.iload 0), .inl (.iload 1)] 2 = true := by decide +kernel
theorem br_X8_in_2 : mx_brk cX8_in 2 (.if_icmp .lt 12) 14 5 = true := by decide +kernel
theorem bk_X8_in_5 : mx_blk 8 cX8_in 5 [.inl (.iload 0), .inl (.iload 2)] 7 = true := by decide +kernel
theorem br_X8_in_7 : mx_brk cX8_in 7 (.if_icmp .gt 7) 14 10 = true := by decide +kernel
theorem bk_X8_in_10 : mx_blk 8 cX8_in 10 [.inr (.int 1)] 11 = true := by decide +kernel
theorem gt_X8_in_11 : mx_jmp cX8_in 11 15 = true := by decide +kernel
theorem bk_X8_in_14 : mx_blk 8 cX8_in 14 [.inr (.int 0)] 15 = true := by decide +kernel
theorem rt_X8_in_15 : mx_kr dm_X8_in 15 .boolean := ⟨by decide +kernel, rfl⟩
theorem bk_X8_within_0 : mx_blk 8 cX8_within 0 [.inl (.iload 0), .inl (.iload 1)] 2 = true := by decide +kernel
theorem br_X8_within_2 : mx_brk cX8_within 2 (.if_icmp .ge 7) 9 5 = true := by decide +kernel
theorem bk_X8_within_5 : mx_blk 8 cX8_within 5 [.inl (.iload 1)] 6 = true := by decide +kernel
theorem gt_X8_within_6 : mx_jmp cX8_within 6 19 = true := by decide +kernel
theorem bk_X8_within_9 : mx_blk 8 cX8_within 9 [.inl (.iload 0), .inl (.iload 2)] 11 = true := by decide +kernel
theorem br_X8_within_11 : mx_brk cX8_within 11 (.if_icmp .le 7) 18 14 = true := by decide +kernel
theorem bk_X8_within_14 : mx_blk 8 cX8_within 14 [.inl (.iload 2)] 15 = true := by decide +kernel
theorem gt_X8_within_15 : mx_jmp cX8_within 15 19 = true := by decide +kernel
theorem bk_X8_within_18 : mx_blk 8 cX8_within 18 [.inl (.iload 0)] 19 = true := by decide +kernel
theorem rt_X8_within_19 : mx_kr dm_X8_within 19 .int := ⟨by decide +kernel, rfl⟩
theorem bk_X8_copyAll_0 : mx_blk 8 cX8_copyAll 0 [.inr (.int 0), .inl (.istore 2)] 2 = true := by decide +kernel
theorem bk_X8_copyAll_2 : mx_blk 8 cX8_copyAll 2 [.inl (.iload 2), .inr (.int 1427)] 6 = true := by decide +kernel
theorem br_X8_copyAll_6 : mx_brk cX8_copyAll 6 (.if_icmp .ge 15) 21 9 = true := by decide +kernel
theorem bk_X8_copyAll_9 : mx_blk 8 cX8_copyAll 9 [.inl (.aload 1), .inl (.iload 2), .inl (.aload 0), .inl (.iload 2), .inl .iaload, .inl .iastore, .inl (.iinc 2 1)] 18 = true := by decide +kernel
theorem gt_X8_copyAll_18 : mx_jmp cX8_copyAll 18 2 = true := by decide +kernel
theorem rt_X8_copyAll_21 : mx_kv dm_X8_copyAll 21 := ⟨by decide +kernel, rfl⟩
theorem bk_X8_isDistrict_0 : mx_blk 8 cX8_isDistrict 0 [.inl (.iload 1), .inr (.int 0), .inl (.aload 0), .inl (.getfield 512), .inr (.int 1), .inl .iaload, .inr (.int 1), .inl .isub] 10 = true := by decide +kernel
theorem kc_X8_isDistrict_10 : mx_kS dm_X8_isDistrict 10 dm_X8_in 3 := ⟨81, by decide +kernel, md_X8_in, cs_X8_81⟩
theorem rt_X8_isDistrict_13 : mx_kr dm_X8_isDistrict 13 .boolean := ⟨by decide +kernel, rfl⟩
theorem bk_X8_of_0 : mx_blk 8 cX8_of 0 [.inl (.aload 0), .inl (.getfield 512), .inr (.int 7), .inr (.int 8), .inl (.iload 1), .inl .imul, .inl .iadd, .inl (.iload 2), .inl .iadd, .inl .iaload] 14 = true := by decide +kernel
theorem rt_X8_of_14 : mx_kr dm_X8_of 14 .int := ⟨by decide +kernel, rfl⟩
theorem bk_X8_put_0 : mx_blk 8 cX8_put 0 [.inl (.aload 0), .inl (.getfield 512), .inr (.int 7), .inr (.int 8), .inl (.iload 1), .inl .imul, .inl .iadd, .inl (.iload 2), .inl .iadd, .inl (.iload 3), .inl .iastore] 15 = true := by decide +kernel
theorem rt_X8_put_15 : mx_kv dm_X8_put 15 := ⟨by decide +kernel, rfl⟩
theorem bk_X8_becomes_0 : mx_blk 8 cX8_becomes 0 [.inl (.aload 0), .inl (.getfield 512), .inl (.iload 1), .inl .iaload, .inl (.istore 3), .inl (.aload 0), .inl (.getfield 512), .inl (.iload 1), .inl (.iload 2), .inl .iastore, .inl (.iload 3)] 15 = true := by decide +kernel
theorem rt_X8_becomes_15 : mx_kr dm_X8_becomes 15 .int := ⟨by decide +kernel, rfl⟩
theorem bk_X8_comes_0 : mx_blk 8 cX8_comes 0 [.inl (.aload 0), .inl (.getfield 512), .inr (.int 1), .inl .iaload, .inl (.istore 3), .inr (.int 0), .inl (.istore 4)] 10 = true := by decide +kernel
theorem bk_X8_comes_10 : mx_blk 8 cX8_comes 10 [.inl (.iload 4), .inr (.int 8)] 14 = true := by decide +kernel
theorem br_X8_comes_14 : mx_brk cX8_comes 14 (.if_icmp .ge 17) 31 17 = true := by decide +kernel
theorem bk_X8_comes_17 : mx_blk 8 cX8_comes 17 [.inl (.aload 0), .inl (.iload 3), .inl (.iload 4), .inr (.int 0)] 22 = true := by decide +kernel
theorem kc_X8_comes_22 : mx_kV dm_X8_comes 22 dm_X8_put 8 3 := ⟨85, by decide +kernel, md_X8_put, cv_X8_85, by decide, by decide +kernel⟩
theorem bk_X8_comes_25 : mx_blk 8 cX8_comes 25 [.inl (.iinc 4 1)] 28 = true := by decide +kernel
theorem gt_X8_comes_28 : mx_jmp cX8_comes 28 10 = true := by decide +kernel
theorem bk_X8_comes_31 : mx_blk 8 cX8_comes 31 [.inl (.aload 0), .inl (.iload 3), .inr (.int 0), .inl (.iload 1)] 35 = true := by decide +kernel
theorem kc_X8_comes_35 : mx_kV dm_X8_comes 35 dm_X8_put 8 3 := ⟨85, by decide +kernel, md_X8_put, cv_X8_85, by decide, by decide +kernel⟩
theorem bk_X8_comes_38 : mx_blk 8 cX8_comes 38 [.inl (.aload 0), .inl (.iload 3), .inr (.int 1), .inl (.iload 2)] 42 = true := by decide +kernel
theorem kc_X8_comes_42 : mx_kV dm_X8_comes 42 dm_X8_put 8 3 := ⟨85, by decide +kernel, md_X8_put, cv_X8_85, by decide, by decide +kernel⟩
theorem bk_X8_comes_45 : mx_blk 8 cX8_comes 45 [.inl (.aload 0), .inl (.iload 3), .inr (.int 3), .inr (.int 7)] 50 = true := by decide +kernel
theorem kc_X8_comes_50 : mx_kV dm_X8_comes 50 dm_X8_put 8 3 := ⟨85, by decide +kernel, md_X8_put, cv_X8_85, by decide, by decide +kernel⟩
theorem bk_X8_comes_53 : mx_blk 8 cX8_comes 53 [.inl (.aload 0), .inl (.getfield 512), .inr (.int 1), .inl .dup2, .inl .iaload, .inr (.int 1), .inl .iadd, .inl .iastore, .inl (.iload 3)] 64 = true := by decide +kernel
theorem rt_X8_comes_64 : mx_kr dm_X8_comes 64 .int := ⟨by decide +kernel, rfl⟩
theorem bk_X8_district_0 : mx_blk 8 cX8_district 0 [.inl (.iload 1), .inr (.int 0), .inr (.int 5)] 3 = true := by decide +kernel
theorem kc_X8_district_3 : mx_kS dm_X8_district 3 dm_X8_in 3 := ⟨81, by decide +kernel, md_X8_in, cs_X8_81⟩
theorem br_X8_district_6 : mx_brk cX8_district 6 (.ifCond .eq 13) 19 9 = true := by decide +kernel
theorem bk_X8_district_9 : mx_blk 8 cX8_district 9 [.inl (.iload 2), .inr (.int 0), .inr (.int 9)] 13 = true := by decide +kernel
theorem kc_X8_district_13 : mx_kS dm_X8_district 13 dm_X8_in 3 := ⟨81, by decide +kernel, md_X8_in, cs_X8_81⟩
theorem br_X8_district_16 : mx_brk cX8_district 16 (.ifCond .ne 6) 22 19 = true := by decide +kernel
theorem bk_X8_district_19 : mx_blk 8 cX8_district 19 [.inr (.int (-1000000001))] 21 = true := by decide +kernel
theorem rt_X8_district_21 : mx_kr dm_X8_district 21 .int := ⟨by decide +kernel, rfl⟩
theorem bk_X8_district_22 : mx_blk 8 cX8_district 22 [.inl (.aload 0), .inl (.getfield 512), .inr (.int 1), .inl .iaload, .inr (.int 6)] 30 = true := by decide +kernel
theorem br_X8_district_30 : mx_brk cX8_district 30 (.if_icmp .ne 8) 38 33 = true := by decide +kernel
theorem bk_X8_district_33 : mx_blk 8 cX8_district 33 [.inr (.int (-1000000003))] 35 = true := by decide +kernel
theorem gt_X8_district_35 : mx_jmp cX8_district 35 44 = true := by decide +kernel
theorem bk_X8_district_38 : mx_blk 8 cX8_district 38 [.inl (.aload 0), .inl (.iload 1), .inl (.iload 2)] 41 = true := by decide +kernel
theorem kc_X8_district_41 : mx_kV dm_X8_district 41 dm_X8_comes 8 2 := ⟨91, by decide +kernel, md_X8_comes, cv_X8_91, by decide, by decide +kernel⟩
theorem rt_X8_district_44 : mx_kr dm_X8_district 44 .int := ⟨by decide +kernel, rfl⟩
theorem bk_X8_worthOf_0 : mx_blk 8 cX8_worthOf 0 [.inl (.aload 0), .inl (.iload 1), .inr (.int 1)] 3 = true := by decide +kernel
theorem kc_X8_worthOf_3 : mx_kV dm_X8_worthOf 3 dm_X8_of 8 2 := ⟨95, by decide +kernel, md_X8_of, cv_X8_95, by decide, by decide +kernel⟩
theorem bk_X8_worthOf_6 : mx_blk 8 cX8_worthOf 6 [.inl (.istore 2), .inl (.aload 0), .inl (.iload 1), .inr (.int 0)] 10 = true := by decide +kernel
theorem kc_X8_worthOf_10 : mx_kV dm_X8_worthOf 10 dm_X8_of 8 2 := ⟨95, by decide +kernel, md_X8_of, cv_X8_95, by decide, by decide +kernel⟩
theorem sw_X8_worthOf_13 : mx_swk cX8_worthOf 13 [(1, 48), (2, 52), (3, 57), (4, 63), (5, 68)] 71 = true := by decide +kernel
theorem bk_X8_worthOf_48 : mx_blk 8 cX8_worthOf 48 [.inl (.iload 2), .inr (.int 2), .inl .iadd] 51 = true := by decide +kernel
theorem rt_X8_worthOf_51 : mx_kr dm_X8_worthOf 51 .int := ⟨by decide +kernel, rfl⟩
theorem bk_X8_worthOf_52 : mx_blk 8 cX8_worthOf 52 [.inr (.int 30), .inl (.iload 2), .inl .isub] 56 = true := by decide +kernel
theorem rt_X8_worthOf_56 : mx_kr dm_X8_worthOf 56 .int := ⟨by decide +kernel, rfl⟩
theorem bk_X8_worthOf_57 : mx_blk 8 cX8_worthOf 57 [.inr (.int 2), .inl (.iload 2), .inr (.int 2), .inl .iadd, .inl .imul] 62 = true := by decide +kernel
theorem rt_X8_worthOf_62 : mx_kr dm_X8_worthOf 62 .int := ⟨by decide +kernel, rfl⟩
theorem bk_X8_worthOf_63 : mx_blk 8 cX8_worthOf 63 [.inr (.int 26), .inl (.iload 2), .inl .isub] 67 = true := by decide +kernel
theorem rt_X8_worthOf_67 : mx_kr dm_X8_worthOf 67 .int := ⟨by decide +kernel, rfl⟩
theorem bk_X8_worthOf_68 : mx_blk 8 cX8_worthOf 68 [.inr (.int 11)] 70 = true := by decide +kernel
theorem rt_X8_worthOf_70 : mx_kr dm_X8_worthOf 70 .int := ⟨by decide +kernel, rfl⟩
theorem bk_X8_worthOf_71 : mx_blk 8 cX8_worthOf 71 [.inl (.iload 2)] 72 = true := by decide +kernel
theorem rt_X8_worthOf_72 : mx_kr dm_X8_worthOf 72 .int := ⟨by decide +kernel, rfl⟩
theorem bk_X8_isFair_0 : mx_blk 8 cX8_isFair 0 [.inl (.aload 0), .inl (.iload 1), .inr (.int 4)] 3 = true := by decide +kernel
theorem kc_X8_isFair_3 : mx_kV dm_X8_isFair 3 dm_X8_of 8 2 := ⟨95, by decide +kernel, md_X8_of, cv_X8_95, by decide, by decide +kernel⟩
theorem bk_X8_isFair_6 : mx_blk 8 cX8_isFair 6 [.inl (.aload 0), .inl (.getfield 512), .inr (.int 5), .inl .iaload] 12 = true := by decide +kernel
theorem br_X8_isFair_12 : mx_brk cX8_isFair 12 (.if_icmp .ne 7) 19 15 = true := by decide +kernel
theorem bk_X8_isFair_15 : mx_blk 8 cX8_isFair 15 [.inr (.int 1)] 16 = true := by decide +kernel
theorem gt_X8_isFair_16 : mx_jmp cX8_isFair 16 20 = true := by decide +kernel
theorem bk_X8_isFair_19 : mx_blk 8 cX8_isFair 19 [.inr (.int 0)] 20 = true := by decide +kernel
theorem rt_X8_isFair_20 : mx_kr dm_X8_isFair 20 .boolean := ⟨by decide +kernel, rfl⟩
theorem bk_X8_told_0 : mx_blk 8 cX8_told 0 [.inl (.aload 0), .inl (.iload 1)] 2 = true := by decide +kernel
theorem kc_X8_told_2 : mx_kV dm_X8_told 2 dm_X8_isDistrict 8 1 := ⟨98, by decide +kernel, md_X8_isDistrict, cv_X8_98, by decide, by decide +kernel⟩
theorem br_X8_told_5 : mx_brk cX8_told 5 (.ifCond .eq 13) 18 8 = true := by decide +kernel
theorem bk_X8_told_8 : mx_blk 8 cX8_told 8 [.inl (.iload 2), .inr (.int 0), .inr (.int 9)] 12 = true := by decide +kernel
theorem kc_X8_told_12 : mx_kS dm_X8_told 12 dm_X8_in 3 := ⟨81, by decide +kernel, md_X8_in, cs_X8_81⟩
theorem br_X8_told_15 : mx_brk cX8_told 15 (.ifCond .ne 6) 21 18 = true := by decide +kernel
theorem bk_X8_told_18 : mx_blk 8 cX8_told 18 [.inr (.int (-1000000001))] 20 = true := by decide +kernel
theorem rt_X8_told_20 : mx_kr dm_X8_told 20 .int := ⟨by decide +kernel, rfl⟩
theorem bk_X8_told_21 : mx_blk 8 cX8_told 21 [.inl (.iload 2), .inr (.int 8)] 24 = true := by decide +kernel
theorem br_X8_told_24 : mx_brk cX8_told 24 (.if_icmp .ge 12) 36 27 = true := by decide +kernel
theorem bk_X8_told_27 : mx_blk 8 cX8_told 27 [.inl (.aload 0), .inl (.iload 1), .inl (.iload 2)] 30 = true := by decide +kernel
theorem kc_X8_told_30 : mx_kV dm_X8_told 30 dm_X8_of 8 2 := ⟨95, by decide +kernel, md_X8_of, cv_X8_95, by decide, by decide +kernel⟩
theorem gt_X8_told_33 : mx_jmp cX8_told 33 63 = true := by decide +kernel
theorem bk_X8_told_36 : mx_blk 8 cX8_told 36 [.inl (.iload 2), .inr (.int 8)] 39 = true := by decide +kernel
theorem br_X8_told_39 : mx_brk cX8_told 39 (.if_icmp .ne 11) 50 42 = true := by decide +kernel
theorem bk_X8_told_42 : mx_blk 8 cX8_told 42 [.inl (.aload 0), .inl (.iload 1)] 44 = true := by decide +kernel
theorem kc_X8_told_44 : mx_kV dm_X8_told 44 dm_X8_worthOf 8 1 := ⟨102, by decide +kernel, md_X8_worthOf, cv_X8_102, by decide, by decide +kernel⟩
theorem gt_X8_told_47 : mx_jmp cX8_told 47 63 = true := by decide +kernel
theorem bk_X8_told_50 : mx_blk 8 cX8_told 50 [.inl (.aload 0), .inl (.iload 1)] 52 = true := by decide +kernel
theorem kc_X8_told_52 : mx_kV dm_X8_told 52 dm_X8_isFair 8 1 := ⟨106, by decide +kernel, md_X8_isFair, cv_X8_106, by decide, by decide +kernel⟩
theorem br_X8_told_55 : mx_brk cX8_told 55 (.ifCond .eq 7) 62 58 = true := by decide +kernel
theorem bk_X8_told_58 : mx_blk 8 cX8_told 58 [.inr (.int 1)] 59 = true := by decide +kernel
theorem gt_X8_told_59 : mx_jmp cX8_told 59 63 = true := by decide +kernel
theorem bk_X8_told_62 : mx_blk 8 cX8_told 62 [.inr (.int 0)] 63 = true := by decide +kernel
theorem rt_X8_told_63 : mx_kr dm_X8_told 63 .int := ⟨by decide +kernel, rfl⟩
theorem bk_X8_birthsOf_0 : mx_blk 8 cX8_birthsOf 0 [.inl (.aload 0), .inr (.int 0)] 2 = true := by decide +kernel
theorem kc_X8_birthsOf_2 : mx_kV dm_X8_birthsOf 2 dm_X8_counts 8 1 := ⟨109, by decide +kernel, md_X8_counts, cv_X8_109, by decide, by decide +kernel⟩
theorem bk_X8_birthsOf_5 : mx_blk 8 cX8_birthsOf 5 [.inl (.istore 3), .inl (.aload 0), .inl (.getfield 536), .inr (.int 0), .inl (.iload 2), .inl .iastore, .inl (.aload 0), .inl (.getfield 536), .inr (.int 1), .inl (.aload 0), .inl (.iload 1), .inr (.int 3)] 21 = true := by decide +kernel
theorem kc_X8_birthsOf_21 : mx_kV dm_X8_birthsOf 21 dm_X8_of 8 2 := ⟨95, by decide +kernel, md_X8_of, cv_X8_95, by decide, by decide +kernel⟩
theorem bk_X8_birthsOf_24 : mx_blk 8 cX8_birthsOf 24 [.inl .iastore, .inl (.aload 0), .inl (.getfield 536), .inr (.int 2), .inl (.aload 0), .inl (.iload 1), .inr (.int 4)] 33 = true := by decide +kernel
theorem kc_X8_birthsOf_33 : mx_kV dm_X8_birthsOf 33 dm_X8_of 8 2 := ⟨95, by decide +kernel, md_X8_of, cv_X8_95, by decide, by decide +kernel⟩
theorem bk_X8_birthsOf_36 : mx_blk 8 cX8_birthsOf 36 [.inl .iastore, .inl (.iload 3)] 38 = true := by decide +kernel
theorem br_X8_birthsOf_38 : mx_brk cX8_birthsOf 38 (.ifCond .ge 7) 45 41 = true := by decide +kernel
theorem bk_X8_birthsOf_41 : mx_blk 8 cX8_birthsOf 41 [.inl (.iload 2)] 42 = true := by decide +kernel
theorem gt_X8_birthsOf_42 : mx_jmp cX8_birthsOf 42 56 = true := by decide +kernel
theorem bk_X8_birthsOf_45 : mx_blk 8 cX8_birthsOf 45 [.inl (.aload 0), .inl (.iload 3)] 47 = true := by decide +kernel
theorem kc_X8_birthsOf_47 : mx_kV dm_X8_birthsOf 47 dm_X8_worksOut 8 1 := ⟨112, by decide +kernel, md_X8_worksOut, cv_X8_112, by decide, by decide +kernel⟩
theorem bk_X8_birthsOf_50 : mx_blk 8 cX8_birthsOf 50 [.inr (.int 0), .inr (.int 30)] 53 = true := by decide +kernel
theorem kc_X8_birthsOf_53 : mx_kS dm_X8_birthsOf 53 dm_X8_within 3 := ⟨115, by decide +kernel, md_X8_within, cs_X8_115⟩
theorem bk_X8_birthsOf_56 : mx_blk 8 cX8_birthsOf 56 [.inl (.istore 4), .inl (.aload 0), .inl (.iload 1), .inr (.int 0)] 61 = true := by decide +kernel
theorem kc_X8_birthsOf_61 : mx_kV dm_X8_birthsOf 61 dm_X8_of 8 2 := ⟨95, by decide +kernel, md_X8_of, cv_X8_95, by decide, by decide +kernel⟩
theorem sw_X8_birthsOf_64 : mx_swk cX8_birthsOf 64 [(1, 100), (2, 105), (3, 110), (4, 128), (5, 159)] 166 = true := by decide +kernel
theorem bk_X8_birthsOf_100 : mx_blk 8 cX8_birthsOf 100 [.inl (.iload 4), .inr (.int 2), .inl .idiv] 104 = true := by decide +kernel
theorem rt_X8_birthsOf_104 : mx_kr dm_X8_birthsOf 104 .int := ⟨by decide +kernel, rfl⟩
theorem bk_X8_birthsOf_105 : mx_blk 8 cX8_birthsOf 105 [.inl (.iload 4), .inr (.int 1), .inl .iadd] 109 = true := by decide +kernel
theorem rt_X8_birthsOf_109 : mx_kr dm_X8_birthsOf 109 .int := ⟨by decide +kernel, rfl⟩
theorem bk_X8_birthsOf_110 : mx_blk 8 cX8_birthsOf 110 [.inl (.aload 0), .inl (.iload 1), .inr (.int 4)] 113 = true := by decide +kernel
theorem kc_X8_birthsOf_113 : mx_kV dm_X8_birthsOf 113 dm_X8_of 8 2 := ⟨95, by decide +kernel, md_X8_of, cv_X8_95, by decide, by decide +kernel⟩
theorem br_X8_birthsOf_116 : mx_brk cX8_birthsOf 116 (.ifCond .ne 7) 123 119 = true := by decide +kernel
theorem bk_X8_birthsOf_119 : mx_blk 8 cX8_birthsOf 119 [.inr (.int 0)] 120 = true := by decide +kernel
theorem gt_X8_birthsOf_120 : mx_jmp cX8_birthsOf 120 127 = true := by decide +kernel
theorem bk_X8_birthsOf_123 : mx_blk 8 cX8_birthsOf 123 [.inl (.iload 4), .inr (.int 2), .inl .idiv] 127 = true := by decide +kernel
theorem rt_X8_birthsOf_127 : mx_kr dm_X8_birthsOf 127 .int := ⟨by decide +kernel, rfl⟩
theorem bk_X8_birthsOf_128 : mx_blk 8 cX8_birthsOf 128 [.inl (.aload 0), .inl (.iload 1), .inr (.int 4)] 131 = true := by decide +kernel
theorem kc_X8_birthsOf_131 : mx_kV dm_X8_birthsOf 131 dm_X8_of 8 2 := ⟨95, by decide +kernel, md_X8_of, cv_X8_95, by decide, by decide +kernel⟩
theorem bk_X8_birthsOf_134 : mx_blk 8 cX8_birthsOf 134 [.inl (.aload 0), .inl (.iload 1), .inr (.int 3)] 137 = true := by decide +kernel
theorem kc_X8_birthsOf_137 : mx_kV dm_X8_birthsOf 137 dm_X8_of 8 2 := ⟨95, by decide +kernel, md_X8_of, cv_X8_95, by decide, by decide +kernel⟩
theorem bk_X8_birthsOf_140 : mx_blk 8 cX8_birthsOf 140 [.inr (.int 1), .inl .isub] 142 = true := by decide +kernel
theorem br_X8_birthsOf_142 : mx_brk cX8_birthsOf 142 (.if_icmp .ne 12) 154 145 = true := by decide +kernel
theorem bk_X8_birthsOf_145 : mx_blk 8 cX8_birthsOf 145 [.inr (.int 2), .inl (.iload 4), .inr (.int 1), .inl .iadd, .inl .imul] 151 = true := by decide +kernel
theorem gt_X8_birthsOf_151 : mx_jmp cX8_birthsOf 151 158 = true := by decide +kernel
theorem bk_X8_birthsOf_154 : mx_blk 8 cX8_birthsOf 154 [.inl (.iload 4), .inr (.int 1), .inl .iadd] 158 = true := by decide +kernel
theorem rt_X8_birthsOf_158 : mx_kr dm_X8_birthsOf 158 .int := ⟨by decide +kernel, rfl⟩
theorem bk_X8_birthsOf_159 : mx_blk 8 cX8_birthsOf 159 [.inl (.aload 0), .inl (.iload 1), .inr (.int 1)] 162 = true := by decide +kernel
theorem kc_X8_birthsOf_162 : mx_kV dm_X8_birthsOf 162 dm_X8_of 8 2 := ⟨95, by decide +kernel, md_X8_of, cv_X8_95, by decide, by decide +kernel⟩
theorem rt_X8_birthsOf_165 : mx_kr dm_X8_birthsOf 165 .int := ⟨by decide +kernel, rfl⟩
theorem bk_X8_birthsOf_166 : mx_blk 8 cX8_birthsOf 166 [.inl (.iload 4)] 168 = true := by decide +kernel
theorem rt_X8_birthsOf_168 : mx_kr dm_X8_birthsOf 168 .int := ⟨by decide +kernel, rfl⟩
theorem bk_X8_births_0 : mx_blk 8 cX8_births 0 [.inl (.aload 0), .inl (.iload 1)] 2 = true := by decide +kernel
theorem kc_X8_births_2 : mx_kV dm_X8_births 2 dm_X8_isDistrict 8 1 := ⟨98, by decide +kernel, md_X8_isDistrict, cv_X8_98, by decide, by decide +kernel⟩
theorem br_X8_births_5 : mx_brk cX8_births 5 (.ifCond .eq 22) 27 8 = true := by decide +kernel
theorem bk_X8_births_8 : mx_blk 8 cX8_births 8 [.inl (.iload 2), .inr (.int 0), .inr (.int 9)] 12 = true := by decide +kernel
theorem kc_X8_births_12 : mx_kS dm_X8_births 12 dm_X8_in 3 := ⟨81, by decide +kernel, md_X8_in, cs_X8_81⟩
theorem br_X8_births_15 : mx_brk cX8_births 15 (.ifCond .eq 12) 27 18 = true := by decide +kernel
theorem bk_X8_births_18 : mx_blk 8 cX8_births 18 [.inl (.aload 0), .inl (.iload 1), .inl (.iload 2)] 21 = true := by decide +kernel
theorem kc_X8_births_21 : mx_kV dm_X8_births 21 dm_X8_birthsOf 8 2 := ⟨119, by decide +kernel, md_X8_birthsOf, cv_X8_119, by decide, by decide +kernel⟩
theorem gt_X8_births_24 : mx_jmp cX8_births 24 29 = true := by decide +kernel
theorem bk_X8_births_27 : mx_blk 8 cX8_births 27 [.inr (.int (-1000000001))] 29 = true := by decide +kernel
theorem rt_X8_births_29 : mx_kr dm_X8_births 29 .int := ⟨by decide +kernel, rfl⟩
theorem bk_X8_isUnder_0 : mx_blk 8 cX8_isUnder 0 [.inl (.iload 1)] 1 = true := by decide +kernel
theorem br_X8_isUnder_1 : mx_brk cX8_isUnder 1 (.ifCond .eq 28) 29 4 = true := by decide +kernel
theorem bk_X8_isUnder_4 : mx_blk 8 cX8_isUnder 4 [.inl (.iload 0), .inl (.iload 1)] 6 = true := by decide +kernel
theorem br_X8_isUnder_6 : mx_brk cX8_isUnder 6 (.if_icmp .eq 23) 29 9 = true := by decide +kernel
theorem bk_X8_isUnder_9 : mx_blk 8 cX8_isUnder 9 [.inl (.iload 1), .inr (.int 1)] 11 = true := by decide +kernel
theorem br_X8_isUnder_11 : mx_brk cX8_isUnder 11 (.if_icmp .ne 8) 19 14 = true := by decide +kernel
theorem bk_X8_isUnder_14 : mx_blk 8 cX8_isUnder 14 [.inl (.iload 0), .inr (.int 3)] 16 = true := by decide +kernel
theorem br_X8_isUnder_16 : mx_brk cX8_isUnder 16 (.if_icmp .eq 13) 29 19 = true := by decide +kernel
theorem bk_X8_isUnder_19 : mx_blk 8 cX8_isUnder 19 [.inl (.iload 1), .inr (.int 2)] 21 = true := by decide +kernel
theorem br_X8_isUnder_21 : mx_brk cX8_isUnder 21 (.if_icmp .ne 12) 33 24 = true := by decide +kernel
theorem bk_X8_isUnder_24 : mx_blk 8 cX8_isUnder 24 [.inl (.iload 0), .inr (.int 4)] 26 = true := by decide +kernel
theorem br_X8_isUnder_26 : mx_brk cX8_isUnder 26 (.if_icmp .ne 7) 33 29 = true := by decide +kernel
theorem bk_X8_isUnder_29 : mx_blk 8 cX8_isUnder 29 [.inr (.int 1)] 30 = true := by decide +kernel
theorem gt_X8_isUnder_30 : mx_jmp cX8_isUnder 30 34 = true := by decide +kernel
theorem bk_X8_isUnder_33 : mx_blk 8 cX8_isUnder 33 [.inr (.int 0)] 34 = true := by decide +kernel
theorem rt_X8_isUnder_34 : mx_kr dm_X8_isUnder 34 .boolean := ⟨by decide +kernel, rfl⟩
theorem bk_X8_as_0 : mx_blk 8 cX8_as 0 [.inl (.aload 0), .inl (.iload 1)] 2 = true := by decide +kernel
theorem kc_X8_as_2 : mx_kV dm_X8_as 2 dm_X8_isDistrict 8 1 := ⟨98, by decide +kernel, md_X8_isDistrict, cv_X8_98, by decide, by decide +kernel⟩
theorem br_X8_as_5 : mx_brk cX8_as 5 (.ifCond .eq 12) 17 8 = true := by decide +kernel
theorem bk_X8_as_8 : mx_blk 8 cX8_as 8 [.inl (.iload 2), .inr (.int 0), .inr (.int 5)] 11 = true := by decide +kernel
theorem kc_X8_as_11 : mx_kS dm_X8_as 11 dm_X8_in 3 := ⟨81, by decide +kernel, md_X8_in, cs_X8_81⟩
theorem br_X8_as_14 : mx_brk cX8_as 14 (.ifCond .ne 6) 20 17 = true := by decide +kernel
theorem bk_X8_as_17 : mx_blk 8 cX8_as 17 [.inr (.int (-1000000001))] 19 = true := by decide +kernel
theorem rt_X8_as_19 : mx_kr dm_X8_as 19 .int := ⟨by decide +kernel, rfl⟩
theorem bk_X8_as_20 : mx_blk 8 cX8_as 20 [.inl (.aload 0), .inl (.iload 1), .inr (.int 0)] 23 = true := by decide +kernel
theorem kc_X8_as_23 : mx_kV dm_X8_as 23 dm_X8_of 8 2 := ⟨95, by decide +kernel, md_X8_of, cv_X8_95, by decide, by decide +kernel⟩
theorem bk_X8_as_26 : mx_blk 8 cX8_as 26 [.inl (.iload 2)] 27 = true := by decide +kernel
theorem kc_X8_as_27 : mx_kS dm_X8_as 27 dm_X8_isUnder 2 := ⟨122, by decide +kernel, md_X8_isUnder, cs_X8_122⟩
theorem br_X8_as_30 : mx_brk cX8_as 30 (.ifCond .eq 12) 42 33 = true := by decide +kernel
theorem bk_X8_as_33 : mx_blk 8 cX8_as 33 [.inl (.aload 0), .inl (.iload 1), .inr (.int 1)] 36 = true := by decide +kernel
theorem kc_X8_as_36 : mx_kV dm_X8_as 36 dm_X8_of 8 2 := ⟨95, by decide +kernel, md_X8_of, cv_X8_95, by decide, by decide +kernel⟩
theorem gt_X8_as_39 : mx_jmp cX8_as 39 44 = true := by decide +kernel
theorem bk_X8_as_42 : mx_blk 8 cX8_as 42 [.inr (.int (-1000000012))] 44 = true := by decide +kernel
theorem rt_X8_as_44 : mx_kr dm_X8_as 44 .int := ⟨by decide +kernel, rfl⟩
theorem bk_X8_turns_0 : mx_blk 8 cX8_turns 0 [.inl (.aload 0), .inl (.iload 1)] 2 = true := by decide +kernel
theorem kc_X8_turns_2 : mx_kV dm_X8_turns 2 dm_X8_isDistrict 8 1 := ⟨98, by decide +kernel, md_X8_isDistrict, cv_X8_98, by decide, by decide +kernel⟩
theorem br_X8_turns_5 : mx_brk cX8_turns 5 (.ifCond .eq 27) 32 8 = true := by decide +kernel
theorem bk_X8_turns_8 : mx_blk 8 cX8_turns 8 [.inl (.iload 2), .inr (.int 0), .inr (.int 5)] 11 = true := by decide +kernel
theorem kc_X8_turns_11 : mx_kS dm_X8_turns 11 dm_X8_in 3 := ⟨81, by decide +kernel, md_X8_in, cs_X8_81⟩
theorem br_X8_turns_14 : mx_brk cX8_turns 14 (.ifCond .eq 18) 32 17 = true := by decide +kernel
theorem bk_X8_turns_17 : mx_blk 8 cX8_turns 17 [.inl (.aload 0), .inr (.int 7), .inr (.int 8), .inl (.iload 1), .inl .imul, .inl .iadd, .inl (.iload 2)] 26 = true := by decide +kernel
theorem kc_X8_turns_26 : mx_kV dm_X8_turns 26 dm_X8_becomes 8 2 := ⟨127, by decide +kernel, md_X8_becomes, cv_X8_127, by decide, by decide +kernel⟩
theorem gt_X8_turns_29 : mx_jmp cX8_turns 29 34 = true := by decide +kernel
theorem bk_X8_turns_32 : mx_blk 8 cX8_turns 32 [.inr (.int (-1000000001))] 34 = true := by decide +kernel
theorem rt_X8_turns_34 : mx_kr dm_X8_turns 34 .int := ⟨by decide +kernel, rfl⟩
theorem bk_X8_set_0 : mx_blk 8 cX8_set 0 [.inl (.aload 0), .inl (.iload 1)] 2 = true := by decide +kernel
theorem kc_X8_set_2 : mx_kV dm_X8_set 2 dm_X8_isDistrict 8 1 := ⟨98, by decide +kernel, md_X8_isDistrict, cv_X8_98, by decide, by decide +kernel⟩
theorem br_X8_set_5 : mx_brk cX8_set 5 (.ifCond .eq 12) 17 8 = true := by decide +kernel
theorem bk_X8_set_8 : mx_blk 8 cX8_set 8 [.inl (.iload 2), .inr (.int 1), .inr (.int 3)] 11 = true := by decide +kernel
theorem kc_X8_set_11 : mx_kS dm_X8_set 11 dm_X8_in 3 := ⟨81, by decide +kernel, md_X8_in, cs_X8_81⟩
theorem br_X8_set_14 : mx_brk cX8_set 14 (.ifCond .ne 6) 20 17 = true := by decide +kernel
theorem bk_X8_set_17 : mx_blk 8 cX8_set 17 [.inr (.int (-1000000001))] 19 = true := by decide +kernel
theorem rt_X8_set_19 : mx_kr dm_X8_set 19 .int := ⟨by decide +kernel, rfl⟩
theorem bk_X8_set_20 : mx_blk 8 cX8_set 20 [.inl (.iload 3), .inl (.iload 2), .inr (.int 1)] 23 = true := by decide +kernel
theorem br_X8_set_23 : mx_brk cX8_set 23 (.if_icmp .ne 7) 30 26 = true := by decide +kernel
theorem bk_X8_set_26 : mx_blk 8 cX8_set 26 [.inr (.int 0)] 27 = true := by decide +kernel
theorem gt_X8_set_27 : mx_jmp cX8_set 27 41 = true := by decide +kernel
theorem bk_X8_set_30 : mx_blk 8 cX8_set 30 [.inl (.iload 2), .inr (.int 2)] 32 = true := by decide +kernel
theorem br_X8_set_32 : mx_brk cX8_set 32 (.if_icmp .ne 7) 39 35 = true := by decide +kernel
theorem bk_X8_set_35 : mx_blk 8 cX8_set 35 [.inr (.int 2)] 36 = true := by decide +kernel
theorem gt_X8_set_36 : mx_jmp cX8_set 36 41 = true := by decide +kernel
theorem bk_X8_set_39 : mx_blk 8 cX8_set 39 [.inr (.int (-99999))] 41 = true := by decide +kernel
theorem bk_X8_set_41 : mx_blk 8 cX8_set 41 [.inl (.iload 2), .inr (.int 1)] 43 = true := by decide +kernel
theorem br_X8_set_43 : mx_brk cX8_set 43 (.if_icmp .ne 8) 51 46 = true := by decide +kernel
theorem bk_X8_set_46 : mx_blk 8 cX8_set 46 [.inr (.int 9)] 48 = true := by decide +kernel
theorem gt_X8_set_48 : mx_jmp cX8_set 48 63 = true := by decide +kernel
theorem bk_X8_set_51 : mx_blk 8 cX8_set 51 [.inl (.iload 2), .inr (.int 2)] 53 = true := by decide +kernel
theorem br_X8_set_53 : mx_brk cX8_set 53 (.if_icmp .ne 8) 61 56 = true := by decide +kernel
theorem bk_X8_set_56 : mx_blk 8 cX8_set 56 [.inr (.int 60)] 58 = true := by decide +kernel
theorem gt_X8_set_58 : mx_jmp cX8_set 58 63 = true := by decide +kernel
theorem bk_X8_set_61 : mx_blk 8 cX8_set 61 [.inr (.int 99999)] 63 = true := by decide +kernel
theorem kc_X8_set_63 : mx_kS dm_X8_set 63 dm_X8_in 3 := ⟨81, by decide +kernel, md_X8_in, cs_X8_81⟩
theorem br_X8_set_66 : mx_brk cX8_set 66 (.ifCond .ne 6) 72 69 = true := by decide +kernel
theorem bk_X8_set_69 : mx_blk 8 cX8_set 69 [.inr (.int (-1000000001))] 71 = true := by decide +kernel
theorem rt_X8_set_71 : mx_kr dm_X8_set 71 .int := ⟨by decide +kernel, rfl⟩
theorem bk_X8_set_72 : mx_blk 8 cX8_set 72 [.inl (.aload 0), .inl (.iload 1), .inr (.int 4), .inl (.iload 2), .inr (.int 2)] 77 = true := by decide +kernel
theorem br_X8_set_77 : mx_brk cX8_set 77 (.if_icmp .ne 7) 84 80 = true := by decide +kernel
theorem bk_X8_set_80 : mx_blk 8 cX8_set 80 [.inr (.int 0)] 81 = true := by decide +kernel
theorem gt_X8_set_81 : mx_jmp cX8_set 81 90 = true := by decide +kernel
theorem bk_X8_set_84 : mx_blk 8 cX8_set 84 [.inl (.aload 0), .inl (.iload 1), .inr (.int 4)] 87 = true := by decide +kernel
theorem kc_X8_set_87 : mx_kV dm_X8_set 87 dm_X8_of 8 2 := ⟨95, by decide +kernel, md_X8_of, cv_X8_95, by decide, by decide +kernel⟩
theorem kc_X8_set_90 : mx_kV dm_X8_set 90 dm_X8_put 8 3 := ⟨85, by decide +kernel, md_X8_put, cv_X8_85, by decide, by decide +kernel⟩
theorem bk_X8_set_93 : mx_blk 8 cX8_set 93 [.inl (.aload 0), .inr (.int 7), .inr (.int 8), .inl (.iload 1), .inl .imul, .inl .iadd, .inl (.iload 2), .inr (.int 1)] 103 = true := by decide +kernel
theorem br_X8_set_103 : mx_brk cX8_set 103 (.if_icmp .ne 7) 110 106 = true := by decide +kernel
theorem bk_X8_set_106 : mx_blk 8 cX8_set 106 [.inr (.int 1)] 107 = true := by decide +kernel
theorem gt_X8_set_107 : mx_jmp cX8_set 107 121 = true := by decide +kernel
theorem bk_X8_set_110 : mx_blk 8 cX8_set 110 [.inl (.iload 2), .inr (.int 2)] 112 = true := by decide +kernel
theorem br_X8_set_112 : mx_brk cX8_set 112 (.if_icmp .ne 7) 119 115 = true := by decide +kernel
theorem bk_X8_set_115 : mx_blk 8 cX8_set 115 [.inr (.int 3)] 116 = true := by decide +kernel
theorem gt_X8_set_116 : mx_jmp cX8_set 116 121 = true := by decide +kernel
theorem bk_X8_set_119 : mx_blk 8 cX8_set 119 [.inr (.int 7)] 121 = true := by decide +kernel
theorem bk_X8_set_121 : mx_blk 8 cX8_set 121 [.inl .iadd, .inl (.iload 3)] 123 = true := by decide +kernel
theorem kc_X8_set_123 : mx_kV dm_X8_set 123 dm_X8_becomes 8 2 := ⟨127, by decide +kernel, md_X8_becomes, cv_X8_127, by decide, by decide +kernel⟩
theorem rt_X8_set_126 : mx_kr dm_X8_set 126 .int := ⟨by decide +kernel, rfl⟩
theorem bk_X8_hides_0 : mx_blk 8 cX8_hides 0 [.inl (.aload 0), .inl (.iload 1), .inr (.int 5), .inl (.aload 0), .inl (.iload 1), .inr (.int 5)] 6 = true := by decide +kernel
theorem kc_X8_hides_6 : mx_kV dm_X8_hides 6 dm_X8_of 8 2 := ⟨95, by decide +kernel, md_X8_of, cv_X8_95, by decide, by decide +kernel⟩
theorem bk_X8_hides_9 : mx_blk 8 cX8_hides 9 [.inr (.int 1), .inl .isub] 11 = true := by decide +kernel
theorem kc_X8_hides_11 : mx_kV dm_X8_hides 11 dm_X8_put 8 3 := ⟨85, by decide +kernel, md_X8_put, cv_X8_85, by decide, by decide +kernel⟩
theorem bk_X8_hides_14 : mx_blk 8 cX8_hides 14 [.inl (.aload 0), .inl (.iload 1), .inr (.int 6), .inl (.aload 0), .inl (.iload 1), .inr (.int 6)] 22 = true := by decide +kernel
theorem kc_X8_hides_22 : mx_kV dm_X8_hides 22 dm_X8_of 8 2 := ⟨95, by decide +kernel, md_X8_of, cv_X8_95, by decide, by decide +kernel⟩
theorem bk_X8_hides_25 : mx_blk 8 cX8_hides 25 [.inr (.int 1), .inl .iadd] 27 = true := by decide +kernel
theorem kc_X8_hides_27 : mx_kV dm_X8_hides 27 dm_X8_put 8 3 := ⟨85, by decide +kernel, md_X8_put, cv_X8_85, by decide, by decide +kernel⟩
theorem rt_X8_hides_30 : mx_kv dm_X8_hides 30 := ⟨by decide +kernel, rfl⟩
theorem bk_X8_hide_0 : mx_blk 8 cX8_hide 0 [.inl (.aload 0), .inl (.iload 1)] 2 = true := by decide +kernel
theorem kc_X8_hide_2 : mx_kV dm_X8_hide 2 dm_X8_isDistrict 8 1 := ⟨98, by decide +kernel, md_X8_isDistrict, cv_X8_98, by decide, by decide +kernel⟩
theorem br_X8_hide_5 : mx_brk cX8_hide 5 (.ifCond .ne 6) 11 8 = true := by decide +kernel
theorem bk_X8_hide_8 : mx_blk 8 cX8_hide 8 [.inr (.int (-1000000001))] 10 = true := by decide +kernel
theorem rt_X8_hide_10 : mx_kr dm_X8_hide 10 .int := ⟨by decide +kernel, rfl⟩
theorem bk_X8_hide_11 : mx_blk 8 cX8_hide 11 [.inl (.aload 0), .inl (.iload 1), .inr (.int 5)] 14 = true := by decide +kernel
theorem kc_X8_hide_14 : mx_kV dm_X8_hide 14 dm_X8_of 8 2 := ⟨95, by decide +kernel, md_X8_of, cv_X8_95, by decide, by decide +kernel⟩
theorem br_X8_hide_17 : mx_brk cX8_hide 17 (.ifCond .ne 6) 23 20 = true := by decide +kernel
theorem bk_X8_hide_20 : mx_blk 8 cX8_hide 20 [.inr (.int (-1000000002))] 22 = true := by decide +kernel
theorem rt_X8_hide_22 : mx_kr dm_X8_hide 22 .int := ⟨by decide +kernel, rfl⟩
theorem bk_X8_hide_23 : mx_blk 8 cX8_hide 23 [.inl (.aload 0), .inl (.iload 1)] 25 = true := by decide +kernel
theorem kc_X8_hide_25 : mx_kV dm_X8_hide 25 dm_X8_hides 8 1 := ⟨133, by decide +kernel, md_X8_hides, cv_X8_133, by decide, by decide +kernel⟩
theorem bk_X8_hide_28 : mx_blk 8 cX8_hide 28 [.inl (.aload 0), .inl (.iload 1), .inr (.int 6)] 32 = true := by decide +kernel
theorem kc_X8_hide_32 : mx_kV dm_X8_hide 32 dm_X8_of 8 2 := ⟨95, by decide +kernel, md_X8_of, cv_X8_95, by decide, by decide +kernel⟩
theorem rt_X8_hide_35 : mx_kr dm_X8_hide 35 .int := ⟨by decide +kernel, rfl⟩
theorem bk_X8_rule_0 : mx_blk 8 cX8_rule 0 [.inl (.iload 1), .inr (.int 0), .inr (.int 2)] 3 = true := by decide +kernel
theorem kc_X8_rule_3 : mx_kS dm_X8_rule 3 dm_X8_in 3 := ⟨81, by decide +kernel, md_X8_in, cs_X8_81⟩
theorem br_X8_rule_6 : mx_brk cX8_rule 6 (.ifCond .eq 44) 50 9 = true := by decide +kernel
theorem bk_X8_rule_9 : mx_blk 8 cX8_rule 9 [.inl (.iload 2), .inr (.int 0), .inl (.iload 1)] 12 = true := by decide +kernel
theorem br_X8_rule_12 : mx_brk cX8_rule 12 (.ifCond .ne 9) 21 15 = true := by decide +kernel
theorem bk_X8_rule_15 : mx_blk 8 cX8_rule 15 [.inr (.int 999)] 18 = true := by decide +kernel
theorem gt_X8_rule_18 : mx_jmp cX8_rule 18 33 = true := by decide +kernel
theorem bk_X8_rule_21 : mx_blk 8 cX8_rule 21 [.inl (.iload 1), .inr (.int 1)] 23 = true := by decide +kernel
theorem br_X8_rule_23 : mx_brk cX8_rule 23 (.if_icmp .ne 8) 31 26 = true := by decide +kernel
theorem bk_X8_rule_26 : mx_blk 8 cX8_rule 26 [.inr (.int 99)] 28 = true := by decide +kernel
theorem gt_X8_rule_28 : mx_jmp cX8_rule 28 33 = true := by decide +kernel
theorem bk_X8_rule_31 : mx_blk 8 cX8_rule 31 [.inr (.int 59)] 33 = true := by decide +kernel
theorem kc_X8_rule_33 : mx_kS dm_X8_rule 33 dm_X8_in 3 := ⟨81, by decide +kernel, md_X8_in, cs_X8_81⟩
theorem br_X8_rule_36 : mx_brk cX8_rule 36 (.ifCond .eq 14) 50 39 = true := by decide +kernel
theorem bk_X8_rule_39 : mx_blk 8 cX8_rule 39 [.inl (.aload 0), .inr (.int 3), .inl (.iload 1), .inl .iadd, .inl (.iload 2)] 44 = true := by decide +kernel
theorem kc_X8_rule_44 : mx_kV dm_X8_rule 44 dm_X8_becomes 8 2 := ⟨127, by decide +kernel, md_X8_becomes, cv_X8_127, by decide, by decide +kernel⟩
theorem gt_X8_rule_47 : mx_jmp cX8_rule 47 52 = true := by decide +kernel
theorem bk_X8_rule_50 : mx_blk 8 cX8_rule 50 [.inr (.int (-1000000001))] 52 = true := by decide +kernel
theorem rt_X8_rule_52 : mx_kr dm_X8_rule 52 .int := ⟨by decide +kernel, rfl⟩
theorem bk_X8_draw_0 : mx_blk 8 cX8_draw 0 [.inl (.aload 0), .inl (.getfield 512), .inr (.int 0), .inl (.aload 0), .inl (.getfield 512), .inr (.int 0), .inl .iaload, .inr (.int 1103515245), .inl .imul, .inr (.int 12345), .inl .iadd, .inl .iastore, .inl (.aload 0), .inl (.getfield 512), .inr (.int 0), .inl .iaload, .inr (.int 8), .inl .iushr] 28 = true := by decide +kernel
theorem rt_X8_draw_28 : mx_kr dm_X8_draw 28 .int := ⟨by decide +kernel, rfl⟩
theorem bk_X8_deal_0 : mx_blk 8 cX8_deal 0 [.inl (.iload 1), .inr (.int 1), .inr (.int 6)] 4 = true := by decide +kernel
theorem kc_X8_deal_4 : mx_kS dm_X8_deal 4 dm_X8_in 3 := ⟨81, by decide +kernel, md_X8_in, cs_X8_81⟩
theorem br_X8_deal_7 : mx_brk cX8_deal 7 (.ifCond .ne 6) 13 10 = true := by decide +kernel
theorem bk_X8_deal_10 : mx_blk 8 cX8_deal 10 [.inr (.int (-1000000001))] 12 = true := by decide +kernel
theorem rt_X8_deal_12 : mx_kr dm_X8_deal 12 .int := ⟨by decide +kernel, rfl⟩
theorem bk_X8_deal_13 : mx_blk 8 cX8_deal 13 [.inr (.int 0), .inl (.istore 2)] 15 = true := by decide +kernel
theorem bk_X8_deal_15 : mx_blk 8 cX8_deal 15 [.inl (.iload 2), .inl (.iload 1)] 17 = true := by decide +kernel
theorem br_X8_deal_17 : mx_brk cX8_deal 17 (.if_icmp .ge 42) 59 20 = true := by decide +kernel
theorem bk_X8_deal_20 : mx_blk 8 cX8_deal 20 [.inl (.aload 0), .inl (.getfield 512), .inr (.int 1), .inl .iaload, .inr (.int 6)] 28 = true := by decide +kernel
theorem br_X8_deal_28 : mx_brk cX8_deal 28 (.if_icmp .ge 31) 59 31 = true := by decide +kernel
theorem bk_X8_deal_31 : mx_blk 8 cX8_deal 31 [.inl (.aload 0)] 32 = true := by decide +kernel
theorem kc_X8_deal_32 : mx_kV dm_X8_deal 32 dm_X8_draw 8 0 := ⟨138, by decide +kernel, md_X8_draw, cv_X8_138, by decide, by decide +kernel⟩
theorem bk_X8_deal_35 : mx_blk 8 cX8_deal 35 [.inr (.int 6), .inl .irem, .inl (.istore 3), .inl (.aload 0), .inl (.iload 3), .inl (.aload 0)] 42 = true := by decide +kernel
theorem kc_X8_deal_42 : mx_kV dm_X8_deal 42 dm_X8_draw 8 0 := ⟨138, by decide +kernel, md_X8_draw, cv_X8_138, by decide, by decide +kernel⟩
theorem bk_X8_deal_45 : mx_blk 8 cX8_deal 45 [.inr (.int 10), .inl .irem] 48 = true := by decide +kernel
theorem kc_X8_deal_48 : mx_kV dm_X8_deal 48 dm_X8_comes 8 2 := ⟨91, by decide +kernel, md_X8_comes, cv_X8_91, by decide, by decide +kernel⟩
theorem bk_X8_deal_51 : mx_blk 8 cX8_deal 51 [.inl (.istore 4), .inl (.iinc 2 1)] 56 = true := by decide +kernel
theorem gt_X8_deal_56 : mx_jmp cX8_deal 56 15 = true := by decide +kernel
theorem bk_X8_deal_59 : mx_blk 8 cX8_deal 59 [.inl (.iload 2)] 60 = true := by decide +kernel
theorem rt_X8_deal_60 : mx_kr dm_X8_deal 60 .int := ⟨by decide +kernel, rfl⟩
theorem bk_X8_seed_0 : mx_blk 8 cX8_seed 0 [.inl (.aload 0), .inr (.int 0), .inl (.iload 1)] 3 = true := by decide +kernel
theorem kc_X8_seed_3 : mx_kV dm_X8_seed 3 dm_X8_becomes 8 2 := ⟨127, by decide +kernel, md_X8_becomes, cv_X8_127, by decide, by decide +kernel⟩
theorem rt_X8_seed_6 : mx_kr dm_X8_seed 6 .int := ⟨by decide +kernel, rfl⟩
theorem bk_X8_wageOf_0 : mx_blk 8 cX8_wageOf 0 [.inl (.aload 0), .inr (.int 1)] 2 = true := by decide +kernel
theorem kc_X8_wageOf_2 : mx_kV dm_X8_wageOf 2 dm_X8_counts 8 1 := ⟨109, by decide +kernel, md_X8_counts, cv_X8_109, by decide, by decide +kernel⟩
theorem bk_X8_wageOf_5 : mx_blk 8 cX8_wageOf 5 [.inl (.istore 2), .inl (.aload 0), .inl (.getfield 536), .inr (.int 0), .inl (.aload 0), .inl (.iload 1), .inr (.int 3)] 14 = true := by decide +kernel
theorem kc_X8_wageOf_14 : mx_kV dm_X8_wageOf 14 dm_X8_of 8 2 := ⟨95, by decide +kernel, md_X8_of, cv_X8_95, by decide, by decide +kernel⟩
theorem bk_X8_wageOf_17 : mx_blk 8 cX8_wageOf 17 [.inl .iastore, .inl (.aload 0), .inl (.getfield 536), .inr (.int 1), .inl (.aload 0), .inl (.iload 1), .inr (.int 2)] 26 = true := by decide +kernel
theorem kc_X8_wageOf_26 : mx_kV dm_X8_wageOf 26 dm_X8_of 8 2 := ⟨95, by decide +kernel, md_X8_of, cv_X8_95, by decide, by decide +kernel⟩
theorem bk_X8_wageOf_29 : mx_blk 8 cX8_wageOf 29 [.inl .iastore, .inl (.iload 2)] 31 = true := by decide +kernel
theorem br_X8_wageOf_31 : mx_brk cX8_wageOf 31 (.ifCond .ge 12) 43 34 = true := by decide +kernel
theorem bk_X8_wageOf_34 : mx_blk 8 cX8_wageOf 34 [.inl (.aload 0), .inl (.getfield 512), .inr (.int 3), .inl .iaload] 40 = true := by decide +kernel
theorem gt_X8_wageOf_40 : mx_jmp cX8_wageOf 40 55 = true := by decide +kernel
theorem bk_X8_wageOf_43 : mx_blk 8 cX8_wageOf 43 [.inl (.aload 0), .inl (.iload 2)] 45 = true := by decide +kernel
theorem kc_X8_wageOf_45 : mx_kV dm_X8_wageOf 45 dm_X8_worksOut 8 1 := ⟨112, by decide +kernel, md_X8_worksOut, cv_X8_112, by decide, by decide +kernel⟩
theorem bk_X8_wageOf_48 : mx_blk 8 cX8_wageOf 48 [.inr (.int 0), .inr (.int 9999)] 52 = true := by decide +kernel
theorem kc_X8_wageOf_52 : mx_kS dm_X8_wageOf 52 dm_X8_within 3 := ⟨115, by decide +kernel, md_X8_within, cs_X8_115⟩
theorem rt_X8_wageOf_55 : mx_kr dm_X8_wageOf 55 .int := ⟨by decide +kernel, rfl⟩
theorem bk_X8_weekEnds_0 : mx_blk 8 cX8_weekEnds 0 [.inl (.aload 0), .inl (.iload 1), .inr (.int 7), .inl (.aload 0), .inl (.iload 1), .inr (.int 7)] 8 = true := by decide +kernel
theorem kc_X8_weekEnds_8 : mx_kV dm_X8_weekEnds 8 dm_X8_of 8 2 := ⟨95, by decide +kernel, md_X8_of, cv_X8_95, by decide, by decide +kernel⟩
theorem bk_X8_weekEnds_11 : mx_blk 8 cX8_weekEnds 11 [.inl (.aload 0), .inl (.iload 1)] 13 = true := by decide +kernel
theorem kc_X8_weekEnds_13 : mx_kV dm_X8_weekEnds 13 dm_X8_wageOf 8 1 := ⟨142, by decide +kernel, md_X8_wageOf, cv_X8_142, by decide, by decide +kernel⟩
theorem bk_X8_weekEnds_16 : mx_blk 8 cX8_weekEnds 16 [.inl .iadd] 17 = true := by decide +kernel
theorem kc_X8_weekEnds_17 : mx_kV dm_X8_weekEnds 17 dm_X8_put 8 3 := ⟨85, by decide +kernel, md_X8_put, cv_X8_85, by decide, by decide +kernel⟩
theorem bk_X8_weekEnds_20 : mx_blk 8 cX8_weekEnds 20 [.inl (.aload 0), .inl (.iload 1), .inr (.int 2), .inl (.aload 0), .inl (.iload 1), .inr (.int 2)] 26 = true := by decide +kernel
theorem kc_X8_weekEnds_26 : mx_kV dm_X8_weekEnds 26 dm_X8_of 8 2 := ⟨95, by decide +kernel, md_X8_of, cv_X8_95, by decide, by decide +kernel⟩
theorem bk_X8_weekEnds_29 : mx_blk 8 cX8_weekEnds 29 [.inr (.int 1), .inl .iadd] 31 = true := by decide +kernel
theorem kc_X8_weekEnds_31 : mx_kV dm_X8_weekEnds 31 dm_X8_put 8 3 := ⟨85, by decide +kernel, md_X8_put, cv_X8_85, by decide, by decide +kernel⟩
theorem bk_X8_weekEnds_34 : mx_blk 8 cX8_weekEnds 34 [.inl (.aload 0), .inl (.iload 1), .inr (.int 3), .inl (.aload 0), .inl (.iload 1), .inr (.int 5)] 40 = true := by decide +kernel
theorem kc_X8_weekEnds_40 : mx_kV dm_X8_weekEnds 40 dm_X8_of 8 2 := ⟨95, by decide +kernel, md_X8_of, cv_X8_95, by decide, by decide +kernel⟩
theorem bk_X8_weekEnds_43 : mx_blk 8 cX8_weekEnds 43 [.inr (.int 2), .inr (.int 60)] 46 = true := by decide +kernel
theorem kc_X8_weekEnds_46 : mx_kS dm_X8_weekEnds 46 dm_X8_within 3 := ⟨115, by decide +kernel, md_X8_within, cs_X8_115⟩
theorem kc_X8_weekEnds_49 : mx_kV dm_X8_weekEnds 49 dm_X8_put 8 3 := ⟨85, by decide +kernel, md_X8_put, cv_X8_85, by decide, by decide +kernel⟩
theorem bk_X8_weekEnds_52 : mx_blk 8 cX8_weekEnds 52 [.inl (.aload 0), .inl (.iload 1), .inr (.int 5), .inl (.aload 0), .inl (.iload 1), .inr (.int 6)] 59 = true := by decide +kernel
theorem kc_X8_weekEnds_59 : mx_kV dm_X8_weekEnds 59 dm_X8_of 8 2 := ⟨95, by decide +kernel, md_X8_of, cv_X8_95, by decide, by decide +kernel⟩
theorem kc_X8_weekEnds_62 : mx_kV dm_X8_weekEnds 62 dm_X8_put 8 3 := ⟨85, by decide +kernel, md_X8_put, cv_X8_85, by decide, by decide +kernel⟩
theorem bk_X8_weekEnds_65 : mx_blk 8 cX8_weekEnds 65 [.inl (.aload 0), .inl (.iload 1), .inr (.int 6), .inr (.int 0)] 70 = true := by decide +kernel
theorem kc_X8_weekEnds_70 : mx_kV dm_X8_weekEnds 70 dm_X8_put 8 3 := ⟨85, by decide +kernel, md_X8_put, cv_X8_85, by decide, by decide +kernel⟩
theorem bk_X8_weekEnds_73 : mx_blk 8 cX8_weekEnds 73 [.inl (.aload 0), .inl (.iload 1), .inr (.int 4), .inr (.int 0)] 77 = true := by decide +kernel
theorem kc_X8_weekEnds_77 : mx_kV dm_X8_weekEnds 77 dm_X8_put 8 3 := ⟨85, by decide +kernel, md_X8_put, cv_X8_85, by decide, by decide +kernel⟩
theorem rt_X8_weekEnds_80 : mx_kv dm_X8_weekEnds 80 := ⟨by decide +kernel, rfl⟩
theorem bk_X8_day_0 : mx_blk 8 cX8_day 0 [.inr (.int 0), .inl (.istore 1), .inr (.int 0), .inl (.istore 2)] 4 = true := by decide +kernel
theorem bk_X8_day_4 : mx_blk 8 cX8_day 4 [.inl (.iload 2), .inl (.aload 0), .inl (.getfield 512), .inr (.int 1), .inl .iaload] 11 = true := by decide +kernel
theorem br_X8_day_11 : mx_brk cX8_day 11 (.if_icmp .ge 100) 111 14 = true := by decide +kernel
theorem bk_X8_day_14 : mx_blk 8 cX8_day 14 [.inl (.aload 0)] 15 = true := by decide +kernel
theorem kc_X8_day_15 : mx_kV dm_X8_day 15 dm_X8_draw 8 0 := ⟨138, by decide +kernel, md_X8_draw, cv_X8_138, by decide, by decide +kernel⟩
theorem bk_X8_day_18 : mx_blk 8 cX8_day 18 [.inl (.aload 0), .inl (.iload 2), .inr (.int 1)] 21 = true := by decide +kernel
theorem kc_X8_day_21 : mx_kV dm_X8_day 21 dm_X8_of 8 2 := ⟨95, by decide +kernel, md_X8_of, cv_X8_95, by decide, by decide +kernel⟩
theorem bk_X8_day_24 : mx_blk 8 cX8_day 24 [.inr (.int 1), .inl .iadd, .inl .irem, .inl (.istore 3), .inl (.aload 0), .inl (.iload 2), .inr (.int 5), .inl (.aload 0), .inl (.iload 2), .inr (.int 5)] 34 = true := by decide +kernel
theorem kc_X8_day_34 : mx_kV dm_X8_day 34 dm_X8_of 8 2 := ⟨95, by decide +kernel, md_X8_of, cv_X8_95, by decide, by decide +kernel⟩
theorem bk_X8_day_37 : mx_blk 8 cX8_day 37 [.inl (.aload 0), .inl (.iload 2), .inl (.iload 3)] 40 = true := by decide +kernel
theorem kc_X8_day_40 : mx_kV dm_X8_day 40 dm_X8_birthsOf 8 2 := ⟨119, by decide +kernel, md_X8_birthsOf, cv_X8_119, by decide, by decide +kernel⟩
theorem bk_X8_day_43 : mx_blk 8 cX8_day 43 [.inl .iadd] 44 = true := by decide +kernel
theorem kc_X8_day_44 : mx_kV dm_X8_day 44 dm_X8_put 8 3 := ⟨85, by decide +kernel, md_X8_put, cv_X8_85, by decide, by decide +kernel⟩
theorem bk_X8_day_47 : mx_blk 8 cX8_day 47 [.inl (.aload 0), .inl (.iload 2), .inr (.int 7), .inl (.aload 0), .inl (.iload 2), .inr (.int 7)] 55 = true := by decide +kernel
theorem kc_X8_day_55 : mx_kV dm_X8_day 55 dm_X8_of 8 2 := ⟨95, by decide +kernel, md_X8_of, cv_X8_95, by decide, by decide +kernel⟩
theorem bk_X8_day_58 : mx_blk 8 cX8_day 58 [.inl (.aload 0), .inl (.getfield 512), .inr (.int 4), .inl .iaload, .inl .isub] 65 = true := by decide +kernel
theorem kc_X8_day_65 : mx_kV dm_X8_day 65 dm_X8_put 8 3 := ⟨85, by decide +kernel, md_X8_put, cv_X8_85, by decide, by decide +kernel⟩
theorem bk_X8_day_68 : mx_blk 8 cX8_day 68 [.inl (.aload 0), .inl (.iload 2), .inr (.int 4), .inl (.aload 0), .inl (.iload 2), .inr (.int 4)] 74 = true := by decide +kernel
theorem kc_X8_day_74 : mx_kV dm_X8_day 74 dm_X8_of 8 2 := ⟨95, by decide +kernel, md_X8_of, cv_X8_95, by decide, by decide +kernel⟩
theorem bk_X8_day_77 : mx_blk 8 cX8_day 77 [.inr (.int 1), .inl .iadd] 79 = true := by decide +kernel
theorem kc_X8_day_79 : mx_kV dm_X8_day 79 dm_X8_put 8 3 := ⟨85, by decide +kernel, md_X8_put, cv_X8_85, by decide, by decide +kernel⟩
theorem bk_X8_day_82 : mx_blk 8 cX8_day 82 [.inl (.aload 0), .inl (.iload 2), .inr (.int 4)] 85 = true := by decide +kernel
theorem kc_X8_day_85 : mx_kV dm_X8_day 85 dm_X8_of 8 2 := ⟨95, by decide +kernel, md_X8_of, cv_X8_95, by decide, by decide +kernel⟩
theorem bk_X8_day_88 : mx_blk 8 cX8_day 88 [.inl (.aload 0), .inl (.iload 2), .inr (.int 3)] 91 = true := by decide +kernel
theorem kc_X8_day_91 : mx_kV dm_X8_day 91 dm_X8_of 8 2 := ⟨95, by decide +kernel, md_X8_of, cv_X8_95, by decide, by decide +kernel⟩
theorem br_X8_day_94 : mx_brk cX8_day 94 (.if_icmp .ne 11) 105 97 = true := by decide +kernel
theorem bk_X8_day_97 : mx_blk 8 cX8_day 97 [.inl (.aload 0), .inl (.iload 2)] 99 = true := by decide +kernel
theorem kc_X8_day_99 : mx_kV dm_X8_day 99 dm_X8_weekEnds 8 1 := ⟨145, by decide +kernel, md_X8_weekEnds, cv_X8_145, by decide, by decide +kernel⟩
theorem bk_X8_day_102 : mx_blk 8 cX8_day 102 [.inl (.iinc 1 1)] 105 = true := by decide +kernel
theorem bk_X8_day_105 : mx_blk 8 cX8_day 105 [.inl (.iinc 2 1)] 108 = true := by decide +kernel
theorem gt_X8_day_108 : mx_jmp cX8_day 108 4 = true := by decide +kernel
theorem bk_X8_day_111 : mx_blk 8 cX8_day 111 [.inl (.aload 0), .inl (.getfield 512), .inr (.int 2), .inl .dup2, .inl .iaload, .inr (.int 1), .inl .iadd, .inl .iastore, .inl (.iload 1)] 122 = true := by decide +kernel
theorem rt_X8_day_122 : mx_kr dm_X8_day 122 .int := ⟨by decide +kernel, rfl⟩
theorem bk_X8_goesOn_0 : mx_blk 8 cX8_goesOn 0 [.inr (.int 0), .inl (.istore 2), .inr (.int 0), .inl (.istore 3)] 4 = true := by decide +kernel
theorem bk_X8_goesOn_4 : mx_blk 8 cX8_goesOn 4 [.inl (.iload 3), .inl (.iload 1)] 6 = true := by decide +kernel
theorem br_X8_goesOn_6 : mx_brk cX8_goesOn 6 (.if_icmp .ge 16) 22 9 = true := by decide +kernel
theorem bk_X8_goesOn_9 : mx_blk 8 cX8_goesOn 9 [.inl (.iload 2), .inl (.aload 0)] 11 = true := by decide +kernel
theorem kc_X8_goesOn_11 : mx_kV dm_X8_goesOn 11 dm_X8_day 8 0 := ⟨148, by decide +kernel, md_X8_day, cv_X8_148, by decide, by decide +kernel⟩
theorem bk_X8_goesOn_14 : mx_blk 8 cX8_goesOn 14 [.inl .iadd, .inl (.istore 2), .inl (.iinc 3 1)] 19 = true := by decide +kernel
theorem gt_X8_goesOn_19 : mx_jmp cX8_goesOn 19 4 = true := by decide +kernel
theorem bk_X8_goesOn_22 : mx_blk 8 cX8_goesOn 22 [.inl (.iload 2)] 23 = true := by decide +kernel
theorem rt_X8_goesOn_23 : mx_kr dm_X8_goesOn 23 .int := ⟨by decide +kernel, rfl⟩
theorem bk_X8_days_0 : mx_blk 8 cX8_days 0 [.inl (.iload 1), .inr (.int 1), .inr (.int 300)] 5 = true := by decide +kernel
theorem kc_X8_days_5 : mx_kS dm_X8_days 5 dm_X8_in 3 := ⟨81, by decide +kernel, md_X8_in, cs_X8_81⟩
theorem br_X8_days_8 : mx_brk cX8_days 8 (.ifCond .eq 24) 32 11 = true := by decide +kernel
theorem bk_X8_days_11 : mx_blk 8 cX8_days 11 [.inl (.aload 0), .inr (.int 99999), .inl (.aload 0), .inl (.getfield 512), .inr (.int 2), .inl .iaload, .inl .isub, .inr (.int 0), .inl (.iload 1)] 23 = true := by decide +kernel
theorem kc_X8_days_23 : mx_kS dm_X8_days 23 dm_X8_within 3 := ⟨115, by decide +kernel, md_X8_within, cs_X8_115⟩
theorem kc_X8_days_26 : mx_kV dm_X8_days 26 dm_X8_goesOn 8 1 := ⟨151, by decide +kernel, md_X8_goesOn, cv_X8_151, by decide, by decide +kernel⟩
theorem gt_X8_days_29 : mx_jmp cX8_days 29 34 = true := by decide +kernel
theorem bk_X8_days_32 : mx_blk 8 cX8_days 32 [.inr (.int (-1000000001))] 34 = true := by decide +kernel
theorem rt_X8_days_34 : mx_kr dm_X8_days 34 .int := ⟨by decide +kernel, rfl⟩
theorem bk_X8_thinks_0 : mx_blk 8 cX8_thinks 0 [.inr (.int 0), .inl (.istore 1)] 2 = true := by decide +kernel
theorem bk_X8_thinks_2 : mx_blk 8 cX8_thinks 2 [.inl (.iload 1), .inr (.int 55)] 5 = true := by decide +kernel
theorem br_X8_thinks_5 : mx_brk cX8_thinks 5 (.if_icmp .ge 21) 26 8 = true := by decide +kernel
theorem bk_X8_thinks_8 : mx_blk 8 cX8_thinks 8 [.inl (.aload 0), .inl (.getfield 516), .inl (.iload 1), .inl (.aload 0), .inl (.getfield 512), .inl (.iload 1), .inl .iaload, .inl .iastore, .inl (.iinc 1 1)] 23 = true := by decide +kernel
theorem gt_X8_thinks_23 : mx_jmp cX8_thinks 23 2 = true := by decide +kernel
theorem rt_X8_thinks_26 : mx_kv dm_X8_thinks 26 := ⟨by decide +kernel, rfl⟩
theorem bk_X8_putsBack_0 : mx_blk 8 cX8_putsBack 0 [.inr (.int 0), .inl (.istore 1)] 2 = true := by decide +kernel
theorem bk_X8_putsBack_2 : mx_blk 8 cX8_putsBack 2 [.inl (.iload 1), .inr (.int 55)] 5 = true := by decide +kernel
theorem br_X8_putsBack_5 : mx_brk cX8_putsBack 5 (.if_icmp .ge 21) 26 8 = true := by decide +kernel
theorem bk_X8_putsBack_8 : mx_blk 8 cX8_putsBack 8 [.inl (.aload 0), .inl (.getfield 512), .inl (.iload 1), .inl (.aload 0), .inl (.getfield 516), .inl (.iload 1), .inl .iaload, .inl .iastore, .inl (.iinc 1 1)] 23 = true := by decide +kernel
theorem gt_X8_putsBack_23 : mx_jmp cX8_putsBack 23 2 = true := by decide +kernel
theorem rt_X8_putsBack_26 : mx_kv dm_X8_putsBack 26 := ⟨by decide +kernel, rfl⟩
theorem bk_X8_behind_0 : mx_blk 8 cX8_behind 0 [.inl (.aload 0), .inl (.iload 1)] 2 = true := by decide +kernel
theorem kc_X8_behind_2 : mx_kV dm_X8_behind 2 dm_X8_isDistrict 8 1 := ⟨98, by decide +kernel, md_X8_isDistrict, cv_X8_98, by decide, by decide +kernel⟩
theorem br_X8_behind_5 : mx_brk cX8_behind 5 (.ifCond .eq 23) 28 8 = true := by decide +kernel
theorem bk_X8_behind_8 : mx_blk 8 cX8_behind 8 [.inl (.iload 2), .inr (.int 0), .inr (.int 300)] 13 = true := by decide +kernel
theorem kc_X8_behind_13 : mx_kS dm_X8_behind 13 dm_X8_in 3 := ⟨81, by decide +kernel, md_X8_in, cs_X8_81⟩
theorem br_X8_behind_16 : mx_brk cX8_behind 16 (.ifCond .eq 12) 28 19 = true := by decide +kernel
theorem bk_X8_behind_19 : mx_blk 8 cX8_behind 19 [.inl (.iload 3), .inr (.int 0), .inr (.int 4)] 22 = true := by decide +kernel
theorem kc_X8_behind_22 : mx_kS dm_X8_behind 22 dm_X8_in 3 := ⟨81, by decide +kernel, md_X8_in, cs_X8_81⟩
theorem br_X8_behind_25 : mx_brk cX8_behind 25 (.ifCond .ne 6) 31 28 = true := by decide +kernel
theorem bk_X8_behind_28 : mx_blk 8 cX8_behind 28 [.inr (.int (-1000000001))] 30 = true := by decide +kernel
theorem rt_X8_behind_30 : mx_kr dm_X8_behind 30 .int := ⟨by decide +kernel, rfl⟩
theorem bk_X8_behind_31 : mx_blk 8 cX8_behind 31 [.inl (.aload 0)] 32 = true := by decide +kernel
theorem kc_X8_behind_32 : mx_kV dm_X8_behind 32 dm_X8_thinks 8 0 := ⟨154, by decide +kernel, md_X8_thinks, cv_X8_154, by decide, by decide +kernel⟩
theorem bk_X8_behind_35 : mx_blk 8 cX8_behind 35 [.inl (.aload 0), .inl (.iload 2)] 37 = true := by decide +kernel
theorem kc_X8_behind_37 : mx_kV dm_X8_behind 37 dm_X8_goesOn 8 1 := ⟨151, by decide +kernel, md_X8_goesOn, cv_X8_151, by decide, by decide +kernel⟩
theorem bk_X8_behind_40 : mx_blk 8 cX8_behind 40 [.inl (.istore 4), .inl (.aload 0), .inl (.iload 1), .inl (.iload 3), .inr (.int 4)] 46 = true := by decide +kernel
theorem br_X8_behind_46 : mx_brk cX8_behind 46 (.if_icmp .ge 9) 55 49 = true := by decide +kernel
theorem bk_X8_behind_49 : mx_blk 8 cX8_behind 49 [.inr (.int 2), .inl (.iload 3), .inl .iadd] 52 = true := by decide +kernel
theorem gt_X8_behind_52 : mx_jmp cX8_behind 52 57 = true := by decide +kernel
theorem bk_X8_behind_55 : mx_blk 8 cX8_behind 55 [.inr (.int 7)] 57 = true := by decide +kernel
theorem kc_X8_behind_57 : mx_kV dm_X8_behind 57 dm_X8_of 8 2 := ⟨95, by decide +kernel, md_X8_of, cv_X8_95, by decide, by decide +kernel⟩
theorem bk_X8_behind_60 : mx_blk 8 cX8_behind 60 [.inl (.istore 5), .inl (.aload 0)] 63 = true := by decide +kernel
theorem kc_X8_behind_63 : mx_kV dm_X8_behind 63 dm_X8_putsBack 8 0 := ⟨157, by decide +kernel, md_X8_putsBack, cv_X8_157, by decide, by decide +kernel⟩
theorem bk_X8_behind_66 : mx_blk 8 cX8_behind 66 [.inl (.iload 5)] 68 = true := by decide +kernel
theorem rt_X8_behind_68 : mx_kr dm_X8_behind 68 .int := ⟨by decide +kernel, rfl⟩
theorem bk_X8_meets_0 : mx_blk 8 cX8_meets 0 [.inl (.aload 0), .inl (.iload 1)] 2 = true := by decide +kernel
theorem kc_X8_meets_2 : mx_kV dm_X8_meets 2 dm_X8_isDistrict 8 1 := ⟨98, by decide +kernel, md_X8_isDistrict, cv_X8_98, by decide, by decide +kernel⟩
theorem br_X8_meets_5 : mx_brk cX8_meets 5 (.ifCond .eq 11) 16 8 = true := by decide +kernel
theorem bk_X8_meets_8 : mx_blk 8 cX8_meets 8 [.inl (.aload 0), .inl (.iload 2)] 10 = true := by decide +kernel
theorem kc_X8_meets_10 : mx_kV dm_X8_meets 10 dm_X8_isDistrict 8 1 := ⟨98, by decide +kernel, md_X8_isDistrict, cv_X8_98, by decide, by decide +kernel⟩
theorem br_X8_meets_13 : mx_brk cX8_meets 13 (.ifCond .ne 6) 19 16 = true := by decide +kernel
theorem bk_X8_meets_16 : mx_blk 8 cX8_meets 16 [.inr (.int (-1000000001))] 18 = true := by decide +kernel
theorem rt_X8_meets_18 : mx_kr dm_X8_meets 18 .int := ⟨by decide +kernel, rfl⟩
theorem bk_X8_meets_19 : mx_blk 8 cX8_meets 19 [.inl (.aload 0)] 20 = true := by decide +kernel
theorem kc_X8_meets_20 : mx_kV dm_X8_meets 20 dm_X8_thinks 8 0 := ⟨154, by decide +kernel, md_X8_thinks, cv_X8_154, by decide, by decide +kernel⟩
theorem bk_X8_meets_23 : mx_blk 8 cX8_meets 23 [.inr (.int 0), .inl (.istore 3)] 25 = true := by decide +kernel
theorem bk_X8_meets_25 : mx_blk 8 cX8_meets 25 [.inl (.iload 3), .inr (.int 200)] 29 = true := by decide +kernel
theorem br_X8_meets_29 : mx_brk cX8_meets 29 (.if_icmp .gt 31) 60 32 = true := by decide +kernel
theorem bk_X8_meets_32 : mx_blk 8 cX8_meets 32 [.inl (.aload 0), .inl (.iload 1)] 34 = true := by decide +kernel
theorem kc_X8_meets_34 : mx_kV dm_X8_meets 34 dm_X8_isFair 8 1 := ⟨106, by decide +kernel, md_X8_isFair, cv_X8_106, by decide, by decide +kernel⟩
theorem br_X8_meets_37 : mx_brk cX8_meets 37 (.ifCond .eq 11) 48 40 = true := by decide +kernel
theorem bk_X8_meets_40 : mx_blk 8 cX8_meets 40 [.inl (.aload 0), .inl (.iload 2)] 42 = true := by decide +kernel
theorem kc_X8_meets_42 : mx_kV dm_X8_meets 42 dm_X8_isFair 8 1 := ⟨106, by decide +kernel, md_X8_isFair, cv_X8_106, by decide, by decide +kernel⟩
theorem br_X8_meets_45 : mx_brk cX8_meets 45 (.ifCond .ne 15) 60 48 = true := by decide +kernel
theorem bk_X8_meets_48 : mx_blk 8 cX8_meets 48 [.inl (.aload 0)] 49 = true := by decide +kernel
theorem kc_X8_meets_49 : mx_kV dm_X8_meets 49 dm_X8_day 8 0 := ⟨148, by decide +kernel, md_X8_day, cv_X8_148, by decide, by decide +kernel⟩
theorem bk_X8_meets_52 : mx_blk 8 cX8_meets 52 [.inl (.istore 4), .inl (.iinc 3 1)] 57 = true := by decide +kernel
theorem gt_X8_meets_57 : mx_jmp cX8_meets 57 25 = true := by decide +kernel
theorem bk_X8_meets_60 : mx_blk 8 cX8_meets 60 [.inl (.aload 0)] 61 = true := by decide +kernel
theorem kc_X8_meets_61 : mx_kV dm_X8_meets 61 dm_X8_putsBack 8 0 := ⟨157, by decide +kernel, md_X8_putsBack, cv_X8_157, by decide, by decide +kernel⟩
theorem bk_X8_meets_64 : mx_blk 8 cX8_meets 64 [.inl (.iload 3), .inr (.int 200)] 68 = true := by decide +kernel
theorem br_X8_meets_68 : mx_brk cX8_meets 68 (.if_icmp .gt 7) 75 71 = true := by decide +kernel
theorem bk_X8_meets_71 : mx_blk 8 cX8_meets 71 [.inl (.iload 3)] 72 = true := by decide +kernel
theorem gt_X8_meets_72 : mx_jmp cX8_meets 72 77 = true := by decide +kernel
theorem bk_X8_meets_75 : mx_blk 8 cX8_meets 75 [.inr (.int (-1000000005))] 77 = true := by decide +kernel
theorem rt_X8_meets_77 : mx_kr dm_X8_meets 77 .int := ⟨by decide +kernel, rfl⟩
theorem bk_X8_sundays_0 : mx_blk 8 cX8_sundays 0 [.inl (.aload 0), .inl (.iload 1)] 2 = true := by decide +kernel
theorem kc_X8_sundays_2 : mx_kV dm_X8_sundays 2 dm_X8_isDistrict 8 1 := ⟨98, by decide +kernel, md_X8_isDistrict, cv_X8_98, by decide, by decide +kernel⟩
theorem br_X8_sundays_5 : mx_brk cX8_sundays 5 (.ifCond .eq 14) 19 8 = true := by decide +kernel
theorem bk_X8_sundays_8 : mx_blk 8 cX8_sundays 8 [.inl (.iload 2), .inr (.int 0), .inr (.int 300)] 13 = true := by decide +kernel
theorem kc_X8_sundays_13 : mx_kS dm_X8_sundays 13 dm_X8_in 3 := ⟨81, by decide +kernel, md_X8_in, cs_X8_81⟩
theorem br_X8_sundays_16 : mx_brk cX8_sundays 16 (.ifCond .ne 6) 22 19 = true := by decide +kernel
theorem bk_X8_sundays_19 : mx_blk 8 cX8_sundays 19 [.inr (.int (-1000000001))] 21 = true := by decide +kernel
theorem rt_X8_sundays_21 : mx_kr dm_X8_sundays 21 .int := ⟨by decide +kernel, rfl⟩
theorem bk_X8_sundays_22 : mx_blk 8 cX8_sundays 22 [.inl (.aload 0)] 23 = true := by decide +kernel
theorem kc_X8_sundays_23 : mx_kV dm_X8_sundays 23 dm_X8_thinks 8 0 := ⟨154, by decide +kernel, md_X8_thinks, cv_X8_154, by decide, by decide +kernel⟩
theorem bk_X8_sundays_26 : mx_blk 8 cX8_sundays 26 [.inr (.int 0), .inl (.istore 3), .inr (.int 0), .inl (.istore 4)] 31 = true := by decide +kernel
theorem bk_X8_sundays_31 : mx_blk 8 cX8_sundays 31 [.inl (.iload 4), .inl (.iload 2)] 34 = true := by decide +kernel
theorem br_X8_sundays_34 : mx_brk cX8_sundays 34 (.if_icmp .ge 32) 66 37 = true := by decide +kernel
theorem bk_X8_sundays_37 : mx_blk 8 cX8_sundays 37 [.inl (.aload 0)] 38 = true := by decide +kernel
theorem kc_X8_sundays_38 : mx_kV dm_X8_sundays 38 dm_X8_day 8 0 := ⟨148, by decide +kernel, md_X8_day, cv_X8_148, by decide, by decide +kernel⟩
theorem bk_X8_sundays_41 : mx_blk 8 cX8_sundays 41 [.inl (.istore 5), .inl (.iload 3), .inl (.aload 0), .inl (.iload 1), .inr (.int 4)] 47 = true := by decide +kernel
theorem kc_X8_sundays_47 : mx_kV dm_X8_sundays 47 dm_X8_of 8 2 := ⟨95, by decide +kernel, md_X8_of, cv_X8_95, by decide, by decide +kernel⟩
theorem br_X8_sundays_50 : mx_brk cX8_sundays 50 (.ifCond .ne 7) 57 53 = true := by decide +kernel
theorem bk_X8_sundays_53 : mx_blk 8 cX8_sundays 53 [.inr (.int 1)] 54 = true := by decide +kernel
theorem gt_X8_sundays_54 : mx_jmp cX8_sundays 54 58 = true := by decide +kernel
theorem bk_X8_sundays_57 : mx_blk 8 cX8_sundays 57 [.inr (.int 0)] 58 = true := by decide +kernel
theorem bk_X8_sundays_58 : mx_blk 8 cX8_sundays 58 [.inl .iadd, .inl (.istore 3), .inl (.iinc 4 1)] 63 = true := by decide +kernel
theorem gt_X8_sundays_63 : mx_jmp cX8_sundays 63 31 = true := by decide +kernel
theorem bk_X8_sundays_66 : mx_blk 8 cX8_sundays 66 [.inl (.aload 0)] 67 = true := by decide +kernel
theorem kc_X8_sundays_67 : mx_kV dm_X8_sundays 67 dm_X8_putsBack 8 0 := ⟨157, by decide +kernel, md_X8_putsBack, cv_X8_157, by decide, by decide +kernel⟩
theorem bk_X8_sundays_70 : mx_blk 8 cX8_sundays 70 [.inl (.iload 3)] 71 = true := by decide +kernel
theorem rt_X8_sundays_71 : mx_kr dm_X8_sundays 71 .int := ⟨by decide +kernel, rfl⟩
theorem bk_X8_trades_0 : mx_blk 8 cX8_trades 0 [.inr (.int 0), .inl (.istore 1)] 2 = true := by decide +kernel
theorem bk_X8_trades_2 : mx_blk 8 cX8_trades 2 [.inl (.iload 1), .inl (.aload 0), .inl (.getfield 512), .inr (.int 1), .inl .iaload] 9 = true := by decide +kernel
theorem br_X8_trades_9 : mx_brk cX8_trades 9 (.if_icmp .ge 111) 120 12 = true := by decide +kernel
theorem bk_X8_trades_12 : mx_blk 8 cX8_trades 12 [.inl (.aload 0), .inl (.getfield 517), .inl (.iload 1), .inl .iaload, .inl (.istore 2), .inl (.iload 1)] 20 = true := by decide +kernel
theorem br_X8_trades_20 : mx_brk cX8_trades 20 (.ifCond .le 26) 46 23 = true := by decide +kernel
theorem bk_X8_trades_23 : mx_blk 8 cX8_trades 23 [.inl (.aload 0), .inl (.getfield 517), .inl (.iload 1), .inr (.int 1), .inl .isub, .inl .iaload, .inl (.iload 2)] 32 = true := by decide +kernel
theorem br_X8_trades_32 : mx_brk cX8_trades 32 (.if_icmp .le 14) 46 35 = true := by decide +kernel
theorem bk_X8_trades_35 : mx_blk 8 cX8_trades 35 [.inl (.aload 0), .inl (.getfield 517), .inl (.iload 1), .inr (.int 1), .inl .isub, .inl .iaload] 43 = true := by decide +kernel
theorem gt_X8_trades_43 : mx_jmp cX8_trades 43 47 = true := by decide +kernel
theorem bk_X8_trades_46 : mx_blk 8 cX8_trades 46 [.inl (.iload 2)] 47 = true := by decide +kernel
theorem bk_X8_trades_47 : mx_blk 8 cX8_trades 47 [.inl (.istore 2), .inl (.iload 1), .inr (.int 1), .inl .iadd, .inl (.aload 0), .inl (.getfield 512), .inr (.int 1), .inl .iaload] 57 = true := by decide +kernel
theorem br_X8_trades_57 : mx_brk cX8_trades 57 (.if_icmp .ge 26) 83 60 = true := by decide +kernel
theorem bk_X8_trades_60 : mx_blk 8 cX8_trades 60 [.inl (.aload 0), .inl (.getfield 517), .inl (.iload 1), .inr (.int 1), .inl .iadd, .inl .iaload, .inl (.iload 2)] 69 = true := by decide +kernel
theorem br_X8_trades_69 : mx_brk cX8_trades 69 (.if_icmp .le 14) 83 72 = true := by decide +kernel
theorem bk_X8_trades_72 : mx_blk 8 cX8_trades 72 [.inl (.aload 0), .inl (.getfield 517), .inl (.iload 1), .inr (.int 1), .inl .iadd, .inl .iaload] 80 = true := by decide +kernel
theorem gt_X8_trades_80 : mx_jmp cX8_trades 80 84 = true := by decide +kernel
theorem bk_X8_trades_83 : mx_blk 8 cX8_trades 83 [.inl (.iload 2)] 84 = true := by decide +kernel
theorem bk_X8_trades_84 : mx_blk 8 cX8_trades 84 [.inl (.istore 2), .inl (.aload 0), .inl (.getfield 518), .inl (.iload 1), .inl (.iload 2)] 91 = true := by decide +kernel
theorem br_X8_trades_91 : mx_brk cX8_trades 91 (.ifCond .ge 7) 98 94 = true := by decide +kernel
theorem bk_X8_trades_94 : mx_blk 8 cX8_trades 94 [.inr (.int (-1))] 95 = true := by decide +kernel
theorem gt_X8_trades_95 : mx_jmp cX8_trades 95 113 = true := by decide +kernel
theorem bk_X8_trades_98 : mx_blk 8 cX8_trades 98 [.inl (.iload 2), .inl (.aload 0), .inl (.iload 1)] 101 = true := by decide +kernel
theorem kc_X8_trades_101 : mx_kV dm_X8_trades 101 dm_X8_isFair 8 1 := ⟨106, by decide +kernel, md_X8_isFair, cv_X8_106, by decide, by decide +kernel⟩
theorem br_X8_trades_104 : mx_brk cX8_trades 104 (.ifCond .eq 7) 111 107 = true := by decide +kernel
theorem bk_X8_trades_107 : mx_blk 8 cX8_trades 107 [.inr (.int 1)] 108 = true := by decide +kernel
theorem gt_X8_trades_108 : mx_jmp cX8_trades 108 112 = true := by decide +kernel
theorem bk_X8_trades_111 : mx_blk 8 cX8_trades 111 [.inr (.int 0)] 112 = true := by decide +kernel
theorem bk_X8_trades_112 : mx_blk 8 cX8_trades 112 [.inl .iadd] 113 = true := by decide +kernel
theorem bk_X8_trades_113 : mx_blk 8 cX8_trades 113 [.inl .iastore, .inl (.iinc 1 1)] 117 = true := by decide +kernel
theorem gt_X8_trades_117 : mx_jmp cX8_trades 117 2 = true := by decide +kernel
theorem bk_X8_trades_120 : mx_blk 8 cX8_trades 120 [.inr (.int 0), .inl (.istore 1)] 122 = true := by decide +kernel
theorem bk_X8_trades_122 : mx_blk 8 cX8_trades 122 [.inl (.iload 1), .inl (.aload 0), .inl (.getfield 512), .inr (.int 1), .inl .iaload] 129 = true := by decide +kernel
theorem br_X8_trades_129 : mx_brk cX8_trades 129 (.if_icmp .ge 21) 150 132 = true := by decide +kernel
theorem bk_X8_trades_132 : mx_blk 8 cX8_trades 132 [.inl (.aload 0), .inl (.getfield 517), .inl (.iload 1), .inl (.aload 0), .inl (.getfield 518), .inl (.iload 1), .inl .iaload, .inl .iastore, .inl (.iinc 1 1)] 147 = true := by decide +kernel
theorem gt_X8_trades_147 : mx_jmp cX8_trades 147 122 = true := by decide +kernel
theorem rt_X8_trades_150 : mx_kv dm_X8_trades 150 := ⟨by decide +kernel, rfl⟩
theorem bk_X8_trader_0 : mx_blk 8 cX8_trader 0 [.inl (.aload 0), .inl (.iload 1)] 2 = true := by decide +kernel
theorem kc_X8_trader_2 : mx_kV dm_X8_trader 2 dm_X8_isDistrict 8 1 := ⟨98, by decide +kernel, md_X8_isDistrict, cv_X8_98, by decide, by decide +kernel⟩
theorem br_X8_trader_5 : mx_brk cX8_trader 5 (.ifCond .eq 13) 18 8 = true := by decide +kernel
theorem bk_X8_trader_8 : mx_blk 8 cX8_trader 8 [.inl (.iload 2), .inr (.int 0), .inr (.int 100)] 12 = true := by decide +kernel
theorem kc_X8_trader_12 : mx_kS dm_X8_trader 12 dm_X8_in 3 := ⟨81, by decide +kernel, md_X8_in, cs_X8_81⟩
theorem br_X8_trader_15 : mx_brk cX8_trader 15 (.ifCond .ne 6) 21 18 = true := by decide +kernel
theorem bk_X8_trader_18 : mx_blk 8 cX8_trader 18 [.inr (.int (-1000000001))] 20 = true := by decide +kernel
theorem rt_X8_trader_20 : mx_kr dm_X8_trader 20 .int := ⟨by decide +kernel, rfl⟩
theorem bk_X8_trader_21 : mx_blk 8 cX8_trader 21 [.inl (.aload 0)] 22 = true := by decide +kernel
theorem kc_X8_trader_22 : mx_kV dm_X8_trader 22 dm_X8_thinks 8 0 := ⟨154, by decide +kernel, md_X8_thinks, cv_X8_154, by decide, by decide +kernel⟩
theorem bk_X8_trader_25 : mx_blk 8 cX8_trader 25 [.inr (.int 0), .inl (.istore 3)] 27 = true := by decide +kernel
theorem bk_X8_trader_27 : mx_blk 8 cX8_trader 27 [.inl (.iload 3), .inr (.int 6)] 30 = true := by decide +kernel
theorem br_X8_trader_30 : mx_brk cX8_trader 30 (.if_icmp .ge 37) 67 33 = true := by decide +kernel
theorem bk_X8_trader_33 : mx_blk 8 cX8_trader 33 [.inl (.aload 0), .inl (.getfield 517), .inl (.iload 3), .inl (.iload 3), .inl (.iload 1)] 40 = true := by decide +kernel
theorem br_X8_trader_40 : mx_brk cX8_trader 40 (.if_icmp .ne 19) 59 43 = true := by decide +kernel
theorem bk_X8_trader_43 : mx_blk 8 cX8_trader 43 [.inl (.aload 0), .inl (.iload 3)] 45 = true := by decide +kernel
theorem kc_X8_trader_45 : mx_kV dm_X8_trader 45 dm_X8_isFair 8 1 := ⟨106, by decide +kernel, md_X8_isFair, cv_X8_106, by decide, by decide +kernel⟩
theorem br_X8_trader_48 : mx_brk cX8_trader 48 (.ifCond .eq 7) 55 51 = true := by decide +kernel
theorem bk_X8_trader_51 : mx_blk 8 cX8_trader 51 [.inr (.int 1)] 52 = true := by decide +kernel
theorem gt_X8_trader_52 : mx_jmp cX8_trader 52 60 = true := by decide +kernel
theorem bk_X8_trader_55 : mx_blk 8 cX8_trader 55 [.inr (.int 0)] 56 = true := by decide +kernel
theorem gt_X8_trader_56 : mx_jmp cX8_trader 56 60 = true := by decide +kernel
theorem bk_X8_trader_59 : mx_blk 8 cX8_trader 59 [.inr (.int (-1))] 60 = true := by decide +kernel
theorem bk_X8_trader_60 : mx_blk 8 cX8_trader 60 [.inl .iastore, .inl (.iinc 3 1)] 64 = true := by decide +kernel
theorem gt_X8_trader_64 : mx_jmp cX8_trader 64 27 = true := by decide +kernel
theorem bk_X8_trader_67 : mx_blk 8 cX8_trader 67 [.inr (.int 0), .inl (.istore 3)] 69 = true := by decide +kernel
theorem bk_X8_trader_69 : mx_blk 8 cX8_trader 69 [.inl (.iload 3), .inl (.iload 2)] 71 = true := by decide +kernel
theorem br_X8_trader_71 : mx_brk cX8_trader 71 (.if_icmp .ge 19) 90 74 = true := by decide +kernel
theorem bk_X8_trader_74 : mx_blk 8 cX8_trader 74 [.inl (.aload 0)] 75 = true := by decide +kernel
theorem kc_X8_trader_75 : mx_kV dm_X8_trader 75 dm_X8_day 8 0 := ⟨148, by decide +kernel, md_X8_day, cv_X8_148, by decide, by decide +kernel⟩
theorem bk_X8_trader_78 : mx_blk 8 cX8_trader 78 [.inl (.istore 4), .inl (.aload 0)] 81 = true := by decide +kernel
theorem kc_X8_trader_81 : mx_kV dm_X8_trader 81 dm_X8_trades 8 0 := ⟨161, by decide +kernel, md_X8_trades, cv_X8_161, by decide, by decide +kernel⟩
theorem bk_X8_trader_84 : mx_blk 8 cX8_trader 84 [.inl (.iinc 3 1)] 87 = true := by decide +kernel
theorem gt_X8_trader_87 : mx_jmp cX8_trader 87 69 = true := by decide +kernel
theorem bk_X8_trader_90 : mx_blk 8 cX8_trader 90 [.inl (.aload 0)] 91 = true := by decide +kernel
theorem kc_X8_trader_91 : mx_kV dm_X8_trader 91 dm_X8_putsBack 8 0 := ⟨157, by decide +kernel, md_X8_putsBack, cv_X8_157, by decide, by decide +kernel⟩
theorem bk_X8_trader_94 : mx_blk 8 cX8_trader 94 [.inr (.int 0), .inl (.istore 3), .inr (.int 0), .inl (.istore 4)] 99 = true := by decide +kernel
theorem bk_X8_trader_99 : mx_blk 8 cX8_trader 99 [.inl (.iload 4), .inl (.aload 0), .inl (.getfield 512), .inr (.int 1), .inl .iaload] 107 = true := by decide +kernel
theorem br_X8_trader_107 : mx_brk cX8_trader 107 (.if_icmp .ge 32) 139 110 = true := by decide +kernel
theorem bk_X8_trader_110 : mx_blk 8 cX8_trader 110 [.inl (.aload 0), .inl (.getfield 517), .inl (.iload 4), .inl .iaload, .inl (.iload 3)] 118 = true := by decide +kernel
theorem br_X8_trader_118 : mx_brk cX8_trader 118 (.if_icmp .le 13) 131 121 = true := by decide +kernel
theorem bk_X8_trader_121 : mx_blk 8 cX8_trader 121 [.inl (.aload 0), .inl (.getfield 517), .inl (.iload 4), .inl .iaload] 128 = true := by decide +kernel
theorem gt_X8_trader_128 : mx_jmp cX8_trader 128 132 = true := by decide +kernel
theorem bk_X8_trader_131 : mx_blk 8 cX8_trader 131 [.inl (.iload 3)] 132 = true := by decide +kernel
theorem bk_X8_trader_132 : mx_blk 8 cX8_trader 132 [.inl (.istore 3), .inl (.iinc 4 1)] 136 = true := by decide +kernel
theorem gt_X8_trader_136 : mx_jmp cX8_trader 136 99 = true := by decide +kernel
theorem bk_X8_trader_139 : mx_blk 8 cX8_trader 139 [.inl (.iload 3)] 140 = true := by decide +kernel
theorem rt_X8_trader_140 : mx_kr dm_X8_trader 140 .int := ⟨by decide +kernel, rfl⟩
theorem bk_X8_richest_0 : mx_blk 8 cX8_richest 0 [.inl (.iload 1), .inr (.int 0), .inr (.int 300)] 5 = true := by decide +kernel
theorem kc_X8_richest_5 : mx_kS dm_X8_richest 5 dm_X8_in 3 := ⟨81, by decide +kernel, md_X8_in, cs_X8_81⟩
theorem br_X8_richest_8 : mx_brk cX8_richest 8 (.ifCond .ne 6) 14 11 = true := by decide +kernel
theorem bk_X8_richest_11 : mx_blk 8 cX8_richest 11 [.inr (.int (-1000000001))] 13 = true := by decide +kernel
theorem rt_X8_richest_13 : mx_kr dm_X8_richest 13 .int := ⟨by decide +kernel, rfl⟩
theorem bk_X8_richest_14 : mx_blk 8 cX8_richest 14 [.inl (.aload 0)] 15 = true := by decide +kernel
theorem kc_X8_richest_15 : mx_kV dm_X8_richest 15 dm_X8_thinks 8 0 := ⟨154, by decide +kernel, md_X8_thinks, cv_X8_154, by decide, by decide +kernel⟩
theorem bk_X8_richest_18 : mx_blk 8 cX8_richest 18 [.inl (.aload 0), .inl (.iload 1)] 20 = true := by decide +kernel
theorem kc_X8_richest_20 : mx_kV dm_X8_richest 20 dm_X8_goesOn 8 1 := ⟨151, by decide +kernel, md_X8_goesOn, cv_X8_151, by decide, by decide +kernel⟩
theorem bk_X8_richest_23 : mx_blk 8 cX8_richest 23 [.inl (.istore 2), .inr (.int (-1000000005)), .inl (.istore 3), .inr (.int 0), .inl (.istore 4)] 30 = true := by decide +kernel
theorem bk_X8_richest_30 : mx_blk 8 cX8_richest 30 [.inl (.iload 4), .inl (.aload 0), .inl (.getfield 512), .inr (.int 1), .inl .iaload] 38 = true := by decide +kernel
theorem br_X8_richest_38 : mx_brk cX8_richest 38 (.if_icmp .ge 40) 78 41 = true := by decide +kernel
theorem bk_X8_richest_41 : mx_blk 8 cX8_richest 41 [.inl (.iload 3), .inr (.int (-1000000005))] 44 = true := by decide +kernel
theorem br_X8_richest_44 : mx_brk cX8_richest 44 (.if_icmp .eq 21) 65 47 = true := by decide +kernel
theorem bk_X8_richest_47 : mx_blk 8 cX8_richest 47 [.inl (.aload 0), .inl (.iload 4), .inr (.int 7)] 52 = true := by decide +kernel
theorem kc_X8_richest_52 : mx_kV dm_X8_richest 52 dm_X8_of 8 2 := ⟨95, by decide +kernel, md_X8_of, cv_X8_95, by decide, by decide +kernel⟩
theorem bk_X8_richest_55 : mx_blk 8 cX8_richest 55 [.inl (.aload 0), .inl (.iload 3), .inr (.int 7)] 59 = true := by decide +kernel
theorem kc_X8_richest_59 : mx_kV dm_X8_richest 59 dm_X8_of 8 2 := ⟨95, by decide +kernel, md_X8_of, cv_X8_95, by decide, by decide +kernel⟩
theorem br_X8_richest_62 : mx_brk cX8_richest 62 (.if_icmp .le 8) 70 65 = true := by decide +kernel
theorem bk_X8_richest_65 : mx_blk 8 cX8_richest 65 [.inl (.iload 4)] 67 = true := by decide +kernel
theorem gt_X8_richest_67 : mx_jmp cX8_richest 67 71 = true := by decide +kernel
theorem bk_X8_richest_70 : mx_blk 8 cX8_richest 70 [.inl (.iload 3)] 71 = true := by decide +kernel
theorem bk_X8_richest_71 : mx_blk 8 cX8_richest 71 [.inl (.istore 3), .inl (.iinc 4 1)] 75 = true := by decide +kernel
theorem gt_X8_richest_75 : mx_jmp cX8_richest 75 30 = true := by decide +kernel
theorem bk_X8_richest_78 : mx_blk 8 cX8_richest 78 [.inl (.aload 0)] 79 = true := by decide +kernel
theorem kc_X8_richest_79 : mx_kV dm_X8_richest 79 dm_X8_putsBack 8 0 := ⟨157, by decide +kernel, md_X8_putsBack, cv_X8_157, by decide, by decide +kernel⟩
theorem bk_X8_richest_82 : mx_blk 8 cX8_richest 82 [.inl (.iload 3)] 83 = true := by decide +kernel
theorem rt_X8_richest_83 : mx_kr dm_X8_richest 83 .int := ⟨by decide +kernel, rfl⟩
theorem bk_X8_brings_0 : mx_blk 8 cX8_brings 0 [.inl (.aload 0), .inl (.iload 1)] 2 = true := by decide +kernel
theorem kc_X8_brings_2 : mx_kV dm_X8_brings 2 dm_X8_isDistrict 8 1 := ⟨98, by decide +kernel, md_X8_isDistrict, cv_X8_98, by decide, by decide +kernel⟩
theorem br_X8_brings_5 : mx_brk cX8_brings 5 (.ifCond .eq 14) 19 8 = true := by decide +kernel
theorem bk_X8_brings_8 : mx_blk 8 cX8_brings 8 [.inl (.iload 2), .inr (.int 0), .inr (.int 300)] 13 = true := by decide +kernel
theorem kc_X8_brings_13 : mx_kS dm_X8_brings 13 dm_X8_in 3 := ⟨81, by decide +kernel, md_X8_in, cs_X8_81⟩
theorem br_X8_brings_16 : mx_brk cX8_brings 16 (.ifCond .ne 6) 22 19 = true := by decide +kernel
theorem bk_X8_brings_19 : mx_blk 8 cX8_brings 19 [.inr (.int (-1000000001))] 21 = true := by decide +kernel
theorem rt_X8_brings_21 : mx_kr dm_X8_brings 21 .int := ⟨by decide +kernel, rfl⟩
theorem bk_X8_brings_22 : mx_blk 8 cX8_brings 22 [.inl (.aload 0), .inl (.iload 1), .inr (.int 5)] 25 = true := by decide +kernel
theorem kc_X8_brings_25 : mx_kV dm_X8_brings 25 dm_X8_of 8 2 := ⟨95, by decide +kernel, md_X8_of, cv_X8_95, by decide, by decide +kernel⟩
theorem br_X8_brings_28 : mx_brk cX8_brings 28 (.ifCond .ne 6) 34 31 = true := by decide +kernel
theorem bk_X8_brings_31 : mx_blk 8 cX8_brings 31 [.inr (.int (-1000000002))] 33 = true := by decide +kernel
theorem rt_X8_brings_33 : mx_kr dm_X8_brings 33 .int := ⟨by decide +kernel, rfl⟩
theorem bk_X8_brings_34 : mx_blk 8 cX8_brings 34 [.inl (.aload 0)] 35 = true := by decide +kernel
theorem kc_X8_brings_35 : mx_kV dm_X8_brings 35 dm_X8_thinks 8 0 := ⟨154, by decide +kernel, md_X8_thinks, cv_X8_154, by decide, by decide +kernel⟩
theorem bk_X8_brings_38 : mx_blk 8 cX8_brings 38 [.inl (.aload 0), .inl (.iload 2)] 40 = true := by decide +kernel
theorem kc_X8_brings_40 : mx_kV dm_X8_brings 40 dm_X8_goesOn 8 1 := ⟨151, by decide +kernel, md_X8_goesOn, cv_X8_151, by decide, by decide +kernel⟩
theorem bk_X8_brings_43 : mx_blk 8 cX8_brings 43 [.inl (.istore 3), .inl (.aload 0), .inl (.iload 1), .inr (.int 7)] 48 = true := by decide +kernel
theorem kc_X8_brings_48 : mx_kV dm_X8_brings 48 dm_X8_of 8 2 := ⟨95, by decide +kernel, md_X8_of, cv_X8_95, by decide, by decide +kernel⟩
theorem bk_X8_brings_51 : mx_blk 8 cX8_brings 51 [.inl (.istore 4), .inl (.aload 0)] 54 = true := by decide +kernel
theorem kc_X8_brings_54 : mx_kV dm_X8_brings 54 dm_X8_putsBack 8 0 := ⟨157, by decide +kernel, md_X8_putsBack, cv_X8_157, by decide, by decide +kernel⟩
theorem bk_X8_brings_57 : mx_blk 8 cX8_brings 57 [.inl (.aload 0), .inl (.iload 1)] 59 = true := by decide +kernel
theorem kc_X8_brings_59 : mx_kV dm_X8_brings 59 dm_X8_hides 8 1 := ⟨133, by decide +kernel, md_X8_hides, cv_X8_133, by decide, by decide +kernel⟩
theorem bk_X8_brings_62 : mx_blk 8 cX8_brings 62 [.inl (.aload 0), .inl (.iload 2)] 64 = true := by decide +kernel
theorem kc_X8_brings_64 : mx_kV dm_X8_brings 64 dm_X8_goesOn 8 1 := ⟨151, by decide +kernel, md_X8_goesOn, cv_X8_151, by decide, by decide +kernel⟩
theorem bk_X8_brings_67 : mx_blk 8 cX8_brings 67 [.inl (.istore 3), .inl (.aload 0), .inl (.iload 1), .inr (.int 7)] 72 = true := by decide +kernel
theorem kc_X8_brings_72 : mx_kV dm_X8_brings 72 dm_X8_of 8 2 := ⟨95, by decide +kernel, md_X8_of, cv_X8_95, by decide, by decide +kernel⟩
theorem bk_X8_brings_75 : mx_blk 8 cX8_brings 75 [.inl (.istore 5), .inl (.aload 0)] 78 = true := by decide +kernel
theorem kc_X8_brings_78 : mx_kV dm_X8_brings 78 dm_X8_putsBack 8 0 := ⟨157, by decide +kernel, md_X8_putsBack, cv_X8_157, by decide, by decide +kernel⟩
theorem bk_X8_brings_81 : mx_blk 8 cX8_brings 81 [.inl (.iload 5), .inl (.iload 4), .inl .isub] 86 = true := by decide +kernel
theorem rt_X8_brings_86 : mx_kr dm_X8_brings 86 .int := ⟨by decide +kernel, rfl⟩
theorem bk_X8_offBy_0 : mx_blk 8 cX8_offBy 0 [.inl (.aload 0), .inl (.iload 2), .inr (.int 1), .inl (.iload 3)] 4 = true := by decide +kernel
theorem kc_X8_offBy_4 : mx_kV dm_X8_offBy 4 dm_X8_put 8 3 := ⟨85, by decide +kernel, md_X8_put, cv_X8_85, by decide, by decide +kernel⟩
theorem bk_X8_offBy_7 : mx_blk 8 cX8_offBy 7 [.inl (.aload 0), .inl (.iload 2), .inr (.int 2)] 10 = true := by decide +kernel
theorem kc_X8_offBy_10 : mx_kV dm_X8_offBy 10 dm_X8_of 8 2 := ⟨95, by decide +kernel, md_X8_of, cv_X8_95, by decide, by decide +kernel⟩
theorem bk_X8_offBy_13 : mx_blk 8 cX8_offBy 13 [.inl (.istore 4), .inr (.long 0), .inl (.lstore 5), .inr (.int 0), .inl (.istore 7)] 21 = true := by decide +kernel
theorem bk_X8_offBy_21 : mx_blk 8 cX8_offBy 21 [.inl (.iload 7), .inr (.int 6)] 25 = true := by decide +kernel
theorem br_X8_offBy_25 : mx_brk cX8_offBy 25 (.if_icmp .ge 101) 126 28 = true := by decide +kernel
theorem bk_X8_offBy_28 : mx_blk 8 cX8_offBy 28 [.inl (.iload 7), .inl (.aload 0), .inl (.getfield 538), .inl (.iload 1), .inl .iaload] 36 = true := by decide +kernel
theorem br_X8_offBy_36 : mx_brk cX8_offBy 36 (.if_icmp .ge 90) 126 39 = true := by decide +kernel
theorem bk_X8_offBy_39 : mx_blk 8 cX8_offBy 39 [.inl (.aload 0), .inl (.iload 2), .inr (.int 2)] 42 = true := by decide +kernel
theorem kc_X8_offBy_42 : mx_kV dm_X8_offBy 42 dm_X8_of 8 2 := ⟨95, by decide +kernel, md_X8_of, cv_X8_95, by decide, by decide +kernel⟩
theorem bk_X8_offBy_45 : mx_blk 8 cX8_offBy 45 [.inl (.iload 4), .inl .isub, .inl (.iload 7)] 50 = true := by decide +kernel
theorem br_X8_offBy_50 : mx_brk cX8_offBy 50 (.if_icmp .ge 12) 62 53 = true := by decide +kernel
theorem bk_X8_offBy_53 : mx_blk 8 cX8_offBy 53 [.inl (.aload 0)] 54 = true := by decide +kernel
theorem kc_X8_offBy_54 : mx_kV dm_X8_offBy 54 dm_X8_day 8 0 := ⟨148, by decide +kernel, md_X8_day, cv_X8_148, by decide, by decide +kernel⟩
theorem bk_X8_offBy_57 : mx_blk 8 cX8_offBy 57 [.inl (.istore 8)] 59 = true := by decide +kernel
theorem gt_X8_offBy_59 : mx_jmp cX8_offBy 59 39 = true := by decide +kernel
theorem bk_X8_offBy_62 : mx_blk 8 cX8_offBy 62 [.inl (.aload 0), .inl (.getfield 539), .inr (.int 24), .inl (.iload 1), .inl .imul, .inl (.iload 7), .inl .iadd, .inl .iaload, .inl (.istore 8), .inl (.iload 8), .inl .i2l, .inl (.aload 0), .inl (.iload 2), .inr (.int 3)] 82 = true := by decide +kernel
theorem kc_X8_offBy_82 : mx_kV dm_X8_offBy 82 dm_X8_of 8 2 := ⟨95, by decide +kernel, md_X8_of, cv_X8_95, by decide, by decide +kernel⟩
theorem bk_X8_offBy_85 : mx_blk 8 cX8_offBy 85 [.inl .i2l, .inl .lsub, .inl (.lstore 9), .inl (.lload 5), .inl (.iload 8), .inr (.int (-1000000005))] 95 = true := by decide +kernel
theorem br_X8_offBy_95 : mx_brk cX8_offBy 95 (.if_icmp .ne 7) 102 98 = true := by decide +kernel
theorem bk_X8_offBy_98 : mx_blk 8 cX8_offBy 98 [.inr (.long 0)] 99 = true := by decide +kernel
theorem gt_X8_offBy_99 : mx_jmp cX8_offBy 99 117 = true := by decide +kernel
theorem bk_X8_offBy_102 : mx_blk 8 cX8_offBy 102 [.inl (.lload 9), .inr (.long 0), .inl .lcmp] 106 = true := by decide +kernel
theorem br_X8_offBy_106 : mx_brk cX8_offBy 106 (.ifCond .ge 9) 115 109 = true := by decide +kernel
theorem bk_X8_offBy_109 : mx_blk 8 cX8_offBy 109 [.inl (.lload 9), .inl .lneg] 112 = true := by decide +kernel
theorem gt_X8_offBy_112 : mx_jmp cX8_offBy 112 117 = true := by decide +kernel
theorem bk_X8_offBy_115 : mx_blk 8 cX8_offBy 115 [.inl (.lload 9)] 117 = true := by decide +kernel
theorem bk_X8_offBy_117 : mx_blk 8 cX8_offBy 117 [.inl .ladd, .inl (.lstore 5), .inl (.iinc 7 1)] 123 = true := by decide +kernel
theorem gt_X8_offBy_123 : mx_jmp cX8_offBy 123 21 = true := by decide +kernel
theorem bk_X8_offBy_126 : mx_blk 8 cX8_offBy 126 [.inl (.aload 0)] 127 = true := by decide +kernel
theorem kc_X8_offBy_127 : mx_kV dm_X8_offBy 127 dm_X8_putsBack 8 0 := ⟨157, by decide +kernel, md_X8_putsBack, cv_X8_157, by decide, by decide +kernel⟩
theorem bk_X8_offBy_130 : mx_blk 8 cX8_offBy 130 [.inl (.lload 5)] 132 = true := by decide +kernel
theorem rt_X8_offBy_132 : mx_kl dm_X8_offBy 132 := ⟨by decide +kernel, rfl⟩
theorem bk_X8_rated_0 : mx_blk 8 cX8_rated 0 [.inl (.iload 1)] 1 = true := by decide +kernel
theorem kc_X8_rated_1 : mx_kS dm_X8_rated 1 dm_X8_isSheet 1 := ⟨164, by decide +kernel, md_X8_isSheet, cs_X8_164⟩
theorem br_X8_rated_4 : mx_brk cX8_rated 4 (.ifCond .eq 20) 24 7 = true := by decide +kernel
theorem bk_X8_rated_7 : mx_blk 8 cX8_rated 7 [.inl (.aload 0), .inl (.iload 2)] 9 = true := by decide +kernel
theorem kc_X8_rated_9 : mx_kV dm_X8_rated 9 dm_X8_isDistrict 8 1 := ⟨98, by decide +kernel, md_X8_isDistrict, cv_X8_98, by decide, by decide +kernel⟩
theorem br_X8_rated_12 : mx_brk cX8_rated 12 (.ifCond .eq 12) 24 15 = true := by decide +kernel
theorem bk_X8_rated_15 : mx_blk 8 cX8_rated 15 [.inl (.iload 3), .inr (.int 0), .inr (.int 1)] 18 = true := by decide +kernel
theorem kc_X8_rated_18 : mx_kS dm_X8_rated 18 dm_X8_in 3 := ⟨81, by decide +kernel, md_X8_in, cs_X8_81⟩
theorem br_X8_rated_21 : mx_brk cX8_rated 21 (.ifCond .ne 6) 27 24 = true := by decide +kernel
theorem bk_X8_rated_24 : mx_blk 8 cX8_rated 24 [.inr (.int (-1000000001))] 26 = true := by decide +kernel
theorem rt_X8_rated_26 : mx_kr dm_X8_rated 26 .int := ⟨by decide +kernel, rfl⟩
theorem bk_X8_rated_27 : mx_blk 8 cX8_rated 27 [.inl (.aload 0), .inl (.getfield 537), .inl (.iload 1), .inl .iaload] 33 = true := by decide +kernel
theorem br_X8_rated_33 : mx_brk cX8_rated 33 (.ifCond .ge 6) 39 36 = true := by decide +kernel
theorem bk_X8_rated_36 : mx_blk 8 cX8_rated 36 [.inr (.int (-1000000011))] 38 = true := by decide +kernel
theorem rt_X8_rated_38 : mx_kr dm_X8_rated 38 .int := ⟨by decide +kernel, rfl⟩
theorem bk_X8_rated_39 : mx_blk 8 cX8_rated 39 [.inl (.aload 0)] 40 = true := by decide +kernel
theorem kc_X8_rated_40 : mx_kV dm_X8_rated 40 dm_X8_thinks 8 0 := ⟨154, by decide +kernel, md_X8_thinks, cv_X8_154, by decide, by decide +kernel⟩
theorem bk_X8_rated_43 : mx_blk 8 cX8_rated 43 [.inr (.int 0), .inl (.istore 4), .inl (.aload 0), .inl (.iload 1), .inl (.iload 2), .inr (.int 0)] 50 = true := by decide +kernel
theorem kc_X8_rated_50 : mx_kV dm_X8_rated 50 dm_X8_offBy 8 3 := ⟨168, by decide +kernel, md_X8_offBy, cv_X8_168, by decide, by decide +kernel⟩
theorem bk_X8_rated_53 : mx_blk 8 cX8_rated 53 [.inl (.lstore 5), .inr (.int 1), .inl (.istore 7)] 58 = true := by decide +kernel
theorem bk_X8_rated_58 : mx_blk 8 cX8_rated 58 [.inl (.iload 7), .inr (.int 10)] 62 = true := by decide +kernel
theorem br_X8_rated_62 : mx_brk cX8_rated 62 (.if_icmp .ge 53) 115 65 = true := by decide +kernel
theorem bk_X8_rated_65 : mx_blk 8 cX8_rated 65 [.inl (.aload 0), .inl (.iload 1), .inl (.iload 2), .inl (.iload 7)] 70 = true := by decide +kernel
theorem kc_X8_rated_70 : mx_kV dm_X8_rated 70 dm_X8_offBy 8 3 := ⟨168, by decide +kernel, md_X8_offBy, cv_X8_168, by decide, by decide +kernel⟩
theorem bk_X8_rated_73 : mx_blk 8 cX8_rated 73 [.inl (.lstore 8), .inl (.lload 8), .inl (.lload 5), .inl .lcmp] 80 = true := by decide +kernel
theorem br_X8_rated_80 : mx_brk cX8_rated 80 (.ifCond .ge 8) 88 83 = true := by decide +kernel
theorem bk_X8_rated_83 : mx_blk 8 cX8_rated 83 [.inl (.iload 7)] 85 = true := by decide +kernel
theorem gt_X8_rated_85 : mx_jmp cX8_rated 85 90 = true := by decide +kernel
theorem bk_X8_rated_88 : mx_blk 8 cX8_rated 88 [.inl (.iload 4)] 90 = true := by decide +kernel
theorem bk_X8_rated_90 : mx_blk 8 cX8_rated 90 [.inl (.istore 4), .inl (.lload 8), .inl (.lload 5), .inl .lcmp] 97 = true := by decide +kernel
theorem br_X8_rated_97 : mx_brk cX8_rated 97 (.ifCond .ge 8) 105 100 = true := by decide +kernel
theorem bk_X8_rated_100 : mx_blk 8 cX8_rated 100 [.inl (.lload 8)] 102 = true := by decide +kernel
theorem gt_X8_rated_102 : mx_jmp cX8_rated 102 107 = true := by decide +kernel
theorem bk_X8_rated_105 : mx_blk 8 cX8_rated 105 [.inl (.lload 5)] 107 = true := by decide +kernel
theorem bk_X8_rated_107 : mx_blk 8 cX8_rated 107 [.inl (.lstore 5), .inl (.iinc 7 1)] 112 = true := by decide +kernel
theorem gt_X8_rated_112 : mx_jmp cX8_rated 112 58 = true := by decide +kernel
theorem bk_X8_rated_115 : mx_blk 8 cX8_rated 115 [.inl (.iload 3)] 116 = true := by decide +kernel
theorem br_X8_rated_116 : mx_brk cX8_rated 116 (.ifCond .ne 8) 124 119 = true := by decide +kernel
theorem bk_X8_rated_119 : mx_blk 8 cX8_rated 119 [.inl (.iload 4)] 121 = true := by decide +kernel
theorem gt_X8_rated_121 : mx_jmp cX8_rated 121 127 = true := by decide +kernel
theorem bk_X8_rated_124 : mx_blk 8 cX8_rated 124 [.inl (.lload 5), .inl .l2i] 127 = true := by decide +kernel
theorem rt_X8_rated_127 : mx_kr dm_X8_rated 127 .int := ⟨by decide +kernel, rfl⟩
theorem bk_X8_sumOf_0 : mx_blk 8 cX8_sumOf 0 [.inr (.int 0), .inl (.istore 2), .inr (.int 0), .inl (.istore 3)] 4 = true := by decide +kernel
theorem bk_X8_sumOf_4 : mx_blk 8 cX8_sumOf 4 [.inl (.iload 3), .inl (.aload 0), .inl (.getfield 512), .inr (.int 1), .inl .iaload] 11 = true := by decide +kernel
theorem br_X8_sumOf_11 : mx_brk cX8_sumOf 11 (.if_icmp .ge 18) 29 14 = true := by decide +kernel
theorem bk_X8_sumOf_14 : mx_blk 8 cX8_sumOf 14 [.inl (.iload 2), .inl (.aload 0), .inl (.iload 3), .inl (.iload 1)] 18 = true := by decide +kernel
theorem kc_X8_sumOf_18 : mx_kV dm_X8_sumOf 18 dm_X8_of 8 2 := ⟨95, by decide +kernel, md_X8_of, cv_X8_95, by decide, by decide +kernel⟩
theorem bk_X8_sumOf_21 : mx_blk 8 cX8_sumOf 21 [.inl .iadd, .inl (.istore 2), .inl (.iinc 3 1)] 26 = true := by decide +kernel
theorem gt_X8_sumOf_26 : mx_jmp cX8_sumOf 26 4 = true := by decide +kernel
theorem bk_X8_sumOf_29 : mx_blk 8 cX8_sumOf 29 [.inl (.iload 2)] 30 = true := by decide +kernel
theorem rt_X8_sumOf_30 : mx_kr dm_X8_sumOf 30 .int := ⟨by decide +kernel, rfl⟩
theorem bk_X8_fine_0 : mx_blk 8 cX8_fine 0 [.inl (.aload 0), .inr (.int 2)] 2 = true := by decide +kernel
theorem kc_X8_fine_2 : mx_kV dm_X8_fine 2 dm_X8_counts 8 1 := ⟨109, by decide +kernel, md_X8_counts, cv_X8_109, by decide, by decide +kernel⟩
theorem bk_X8_fine_5 : mx_blk 8 cX8_fine 5 [.inl (.istore 1), .inl (.aload 0), .inl (.getfield 536), .inr (.int 0), .inl (.aload 0), .inl (.getfield 512), .inr (.int 2), .inl .iaload, .inl .iastore, .inl (.aload 0), .inl (.getfield 536), .inr (.int 1), .inl (.aload 0), .inr (.int 5)] 25 = true := by decide +kernel
theorem kc_X8_fine_25 : mx_kV dm_X8_fine 25 dm_X8_sumOf 8 1 := ⟨172, by decide +kernel, md_X8_sumOf, cv_X8_172, by decide, by decide +kernel⟩
theorem bk_X8_fine_28 : mx_blk 8 cX8_fine 28 [.inl .iastore, .inl (.iload 1)] 30 = true := by decide +kernel
theorem br_X8_fine_30 : mx_brk cX8_fine 30 (.ifCond .ge 7) 37 33 = true := by decide +kernel
theorem bk_X8_fine_33 : mx_blk 8 cX8_fine 33 [.inr (.int 0)] 34 = true := by decide +kernel
theorem gt_X8_fine_34 : mx_jmp cX8_fine 34 42 = true := by decide +kernel
theorem bk_X8_fine_37 : mx_blk 8 cX8_fine 37 [.inl (.aload 0), .inl (.iload 1)] 39 = true := by decide +kernel
theorem kc_X8_fine_39 : mx_kV dm_X8_fine 39 dm_X8_worksOut 8 1 := ⟨112, by decide +kernel, md_X8_worksOut, cv_X8_112, by decide, by decide +kernel⟩
theorem rt_X8_fine_42 : mx_kr dm_X8_fine 42 .int := ⟨by decide +kernel, rfl⟩
theorem bk_X8_feed_0 : mx_blk 8 cX8_feed 0 [.inl (.aload 0), .inl (.getfield 520), .inr (.int 12), .inl .iadd, .inr (.int 96)] 9 = true := by decide +kernel
theorem br_X8_feed_9 : mx_brk cX8_feed 9 (.if_icmp .le 6) 15 12 = true := by decide +kernel
theorem bk_X8_feed_12 : mx_blk 8 cX8_feed 12 [.inr (.int (-1000000003))] 14 = true := by decide +kernel
theorem rt_X8_feed_14 : mx_kr dm_X8_feed 14 .int := ⟨by decide +kernel, rfl⟩
theorem bk_X8_feed_15 : mx_blk 8 cX8_feed 15 [.inr (.int 0), .inl (.istore 4)] 18 = true := by decide +kernel
theorem bk_X8_feed_18 : mx_blk 8 cX8_feed 18 [.inl (.iload 4), .inr (.int 12)] 22 = true := by decide +kernel
theorem br_X8_feed_22 : mx_brk cX8_feed 22 (.if_icmp .ge 62) 84 25 = true := by decide +kernel
theorem bk_X8_feed_25 : mx_blk 8 cX8_feed 25 [.inl (.iload 4), .inr (.int 4)] 28 = true := by decide +kernel
theorem br_X8_feed_28 : mx_brk cX8_feed 28 (.if_icmp .ge 7) 35 31 = true := by decide +kernel
theorem bk_X8_feed_31 : mx_blk 8 cX8_feed 31 [.inl (.iload 1)] 32 = true := by decide +kernel
theorem gt_X8_feed_32 : mx_jmp cX8_feed 32 47 = true := by decide +kernel
theorem bk_X8_feed_35 : mx_blk 8 cX8_feed 35 [.inl (.iload 4), .inr (.int 8)] 39 = true := by decide +kernel
theorem br_X8_feed_39 : mx_brk cX8_feed 39 (.if_icmp .ge 7) 46 42 = true := by decide +kernel
theorem bk_X8_feed_42 : mx_blk 8 cX8_feed 42 [.inl (.iload 2)] 43 = true := by decide +kernel
theorem gt_X8_feed_43 : mx_jmp cX8_feed 43 47 = true := by decide +kernel
theorem bk_X8_feed_46 : mx_blk 8 cX8_feed 46 [.inl (.iload 3)] 47 = true := by decide +kernel
theorem bk_X8_feed_47 : mx_blk 8 cX8_feed 47 [.inl (.istore 5), .inl (.aload 0), .inl (.getfield 519), .inl (.aload 0), .inl (.getfield 520), .inl (.iload 4), .inl .iadd, .inl (.iload 5), .inr (.int 24), .inr (.int 8), .inl (.iload 4), .inr (.int 4), .inl .irem, .inl .imul, .inl .isub, .inl .ishr, .inr (.int 255), .inl .iand, .inl .iastore, .inl (.iinc 4 1)] 81 = true := by decide +kernel
theorem gt_X8_feed_81 : mx_jmp cX8_feed 81 18 = true := by decide +kernel
theorem bk_X8_feed_84 : mx_blk 8 cX8_feed 84 [.inl (.aload 0), .inl .dup, .inl (.getfield 520), .inr (.int 12), .inl .iadd, .inl (.putfield 520), .inl (.aload 0), .inl (.getfield 520)] 99 = true := by decide +kernel
theorem rt_X8_feed_99 : mx_kr dm_X8_feed 99 .int := ⟨by decide +kernel, rfl⟩
theorem bk_X8_trim_0 : mx_blk 8 cX8_trim 0 [.inl (.iload 1), .inr (.int 0), .inl (.aload 0), .inl (.getfield 520)] 6 = true := by decide +kernel
theorem kc_X8_trim_6 : mx_kS dm_X8_trim 6 dm_X8_in 3 := ⟨81, by decide +kernel, md_X8_in, cs_X8_81⟩
theorem br_X8_trim_9 : mx_brk cX8_trim 9 (.ifCond .ne 6) 15 12 = true := by decide +kernel
theorem bk_X8_trim_12 : mx_blk 8 cX8_trim 12 [.inr (.int (-1000000001))] 14 = true := by decide +kernel
theorem rt_X8_trim_14 : mx_kr dm_X8_trim 14 .int := ⟨by decide +kernel, rfl⟩
theorem bk_X8_trim_15 : mx_blk 8 cX8_trim 15 [.inl (.aload 0), .inl (.iload 1), .inl (.putfield 520), .inl (.iload 1)] 21 = true := by decide +kernel
theorem rt_X8_trim_21 : mx_kr dm_X8_trim 21 .int := ⟨by decide +kernel, rfl⟩
theorem bk_X8_isLetter_0 : mx_blk 8 cX8_isLetter 0 [.inl (.iload 1), .inl (.aload 0), .inl (.getfield 520)] 5 = true := by decide +kernel
theorem br_X8_isLetter_5 : mx_brk cX8_isLetter 5 (.if_icmp .ge 29) 34 8 = true := by decide +kernel
theorem bk_X8_isLetter_8 : mx_blk 8 cX8_isLetter 8 [.inl (.aload 0), .inl (.getfield 519), .inl (.iload 1), .inl .iaload, .inr (.int 97)] 16 = true := by decide +kernel
theorem br_X8_isLetter_16 : mx_brk cX8_isLetter 16 (.if_icmp .lt 18) 34 19 = true := by decide +kernel
theorem bk_X8_isLetter_19 : mx_blk 8 cX8_isLetter 19 [.inl (.aload 0), .inl (.getfield 519), .inl (.iload 1), .inl .iaload, .inr (.int 122)] 27 = true := by decide +kernel
theorem br_X8_isLetter_27 : mx_brk cX8_isLetter 27 (.if_icmp .gt 7) 34 30 = true := by decide +kernel
theorem bk_X8_isLetter_30 : mx_blk 8 cX8_isLetter 30 [.inr (.int 1)] 31 = true := by decide +kernel
theorem gt_X8_isLetter_31 : mx_jmp cX8_isLetter 31 35 = true := by decide +kernel
theorem bk_X8_isLetter_34 : mx_blk 8 cX8_isLetter 34 [.inr (.int 0)] 35 = true := by decide +kernel
theorem rt_X8_isLetter_35 : mx_kr dm_X8_isLetter 35 .boolean := ⟨by decide +kernel, rfl⟩
theorem bk_X8_isFigure_0 : mx_blk 8 cX8_isFigure 0 [.inl (.iload 1), .inl (.aload 0), .inl (.getfield 520)] 5 = true := by decide +kernel
theorem br_X8_isFigure_5 : mx_brk cX8_isFigure 5 (.if_icmp .ge 29) 34 8 = true := by decide +kernel
theorem bk_X8_isFigure_8 : mx_blk 8 cX8_isFigure 8 [.inl (.aload 0), .inl (.getfield 519), .inl (.iload 1), .inl .iaload, .inr (.int 48)] 16 = true := by decide +kernel
theorem br_X8_isFigure_16 : mx_brk cX8_isFigure 16 (.if_icmp .lt 18) 34 19 = true := by decide +kernel
theorem bk_X8_isFigure_19 : mx_blk 8 cX8_isFigure 19 [.inl (.aload 0), .inl (.getfield 519), .inl (.iload 1), .inl .iaload, .inr (.int 57)] 27 = true := by decide +kernel
theorem br_X8_isFigure_27 : mx_brk cX8_isFigure 27 (.if_icmp .gt 7) 34 30 = true := by decide +kernel
theorem bk_X8_isFigure_30 : mx_blk 8 cX8_isFigure 30 [.inr (.int 1)] 31 = true := by decide +kernel
theorem gt_X8_isFigure_31 : mx_jmp cX8_isFigure 31 35 = true := by decide +kernel
theorem bk_X8_isFigure_34 : mx_blk 8 cX8_isFigure 34 [.inr (.int 0)] 35 = true := by decide +kernel
theorem rt_X8_isFigure_35 : mx_kr dm_X8_isFigure 35 .boolean := ⟨by decide +kernel, rfl⟩
theorem bk_X8_go_0 : mx_blk 8 cX8_go 0 [.inl (.aload 0), .inl (.getfield 521), .inl (.aload 0), .inl (.getfield 520)] 8 = true := by decide +kernel
theorem br_X8_go_8 : mx_brk cX8_go 8 (.if_icmp .ge 30) 38 11 = true := by decide +kernel
theorem bk_X8_go_11 : mx_blk 8 cX8_go 11 [.inl (.aload 0), .inl (.getfield 519), .inl (.aload 0), .inl (.getfield 521), .inl .iaload, .inr (.int 32)] 22 = true := by decide +kernel
theorem br_X8_go_22 : mx_brk cX8_go 22 (.if_icmp .ne 16) 38 25 = true := by decide +kernel
theorem bk_X8_go_25 : mx_blk 8 cX8_go 25 [.inl (.aload 0), .inl .dup, .inl (.getfield 521), .inr (.int 1), .inl .iadd, .inl (.putfield 521)] 35 = true := by decide +kernel
theorem gt_X8_go_35 : mx_jmp cX8_go 35 0 = true := by decide +kernel
theorem bk_X8_go_38 : mx_blk 8 cX8_go 38 [.inl (.aload 0), .inl (.aload 0), .inl (.getfield 521), .inl (.putfield 522), .inl (.aload 0), .inl (.getfield 522), .inl (.aload 0), .inl (.getfield 525)] 54 = true := by decide +kernel
theorem br_X8_go_54 : mx_brk cX8_go 54 (.if_icmp .ne 7) 61 57 = true := by decide +kernel
theorem bk_X8_go_57 : mx_blk 8 cX8_go 57 [.inr (.int 1)] 58 = true := by decide +kernel
theorem gt_X8_go_58 : mx_jmp cX8_go 58 62 = true := by decide +kernel
theorem bk_X8_go_61 : mx_blk 8 cX8_go 61 [.inr (.int 0)] 62 = true := by decide +kernel
theorem bk_X8_go_62 : mx_blk 8 cX8_go 62 [.inl (.istore 1), .inl (.aload 0), .inl (.getfield 522), .inl (.aload 0), .inl (.getfield 520)] 71 = true := by decide +kernel
theorem br_X8_go_71 : mx_brk cX8_go 71 (.if_icmp .ne 11) 82 74 = true := by decide +kernel
theorem bk_X8_go_74 : mx_blk 8 cX8_go 74 [.inl (.aload 0), .inr (.int 0), .inl (.putfield 523)] 79 = true := by decide +kernel
theorem gt_X8_go_79 : mx_jmp cX8_go 79 303 = true := by decide +kernel
theorem bk_X8_go_82 : mx_blk 8 cX8_go 82 [.inl (.aload 0), .inl (.aload 0), .inl (.getfield 522)] 87 = true := by decide +kernel
theorem kc_X8_go_87 : mx_kV dm_X8_go 87 dm_X8_isLetter 8 1 := ⟨191, by decide +kernel, md_X8_isLetter, cv_X8_191, by decide, by decide +kernel⟩
theorem br_X8_go_90 : mx_brk cX8_go 90 (.ifCond .eq 64) 154 93 = true := by decide +kernel
theorem bk_X8_go_93 : mx_blk 8 cX8_go 93 [.inl (.aload 0), .inl (.aload 0), .inl (.getfield 521)] 98 = true := by decide +kernel
theorem kc_X8_go_98 : mx_kV dm_X8_go 98 dm_X8_isLetter 8 1 := ⟨191, by decide +kernel, md_X8_isLetter, cv_X8_191, by decide, by decide +kernel⟩
theorem br_X8_go_101 : mx_brk cX8_go 101 (.ifCond .eq 16) 117 104 = true := by decide +kernel
theorem bk_X8_go_104 : mx_blk 8 cX8_go 104 [.inl (.aload 0), .inl .dup, .inl (.getfield 521), .inr (.int 1), .inl .iadd, .inl (.putfield 521)] 114 = true := by decide +kernel
theorem gt_X8_go_114 : mx_jmp cX8_go 114 93 = true := by decide +kernel
theorem bk_X8_go_117 : mx_blk 8 cX8_go 117 [.inl (.aload 0), .inl (.iload 1)] 119 = true := by decide +kernel
theorem br_X8_go_119 : mx_brk cX8_go 119 (.ifCond .eq 7) 126 122 = true := by decide +kernel
theorem bk_X8_go_122 : mx_blk 8 cX8_go 122 [.inr (.int 4)] 123 = true := by decide +kernel
theorem gt_X8_go_123 : mx_jmp cX8_go 123 127 = true := by decide +kernel
theorem bk_X8_go_126 : mx_blk 8 cX8_go 126 [.inr (.int 1)] 127 = true := by decide +kernel
theorem bk_X8_go_127 : mx_blk 8 cX8_go 127 [.inl (.putfield 523), .inl (.aload 0), .inl (.aload 0), .inl (.getfield 519), .inl (.aload 0), .inl (.getfield 522), .inl .iaload, .inl (.putfield 524), .inl (.aload 0), .inl (.aload 0), .inl (.getfield 521), .inl (.putfield 525)] 151 = true := by decide +kernel
theorem gt_X8_go_151 : mx_jmp cX8_go 151 303 = true := by decide +kernel
theorem bk_X8_go_154 : mx_blk 8 cX8_go 154 [.inl (.aload 0), .inl (.aload 0), .inl (.getfield 522)] 159 = true := by decide +kernel
theorem kc_X8_go_159 : mx_kV dm_X8_go 159 dm_X8_isFigure 8 1 := ⟨197, by decide +kernel, md_X8_isFigure, cv_X8_197, by decide, by decide +kernel⟩
theorem br_X8_go_162 : mx_brk cX8_go 162 (.ifCond .eq 113) 275 165 = true := by decide +kernel
theorem bk_X8_go_165 : mx_blk 8 cX8_go 165 [.inl (.aload 0), .inr (.int 0), .inl (.putfield 524)] 170 = true := by decide +kernel
theorem bk_X8_go_170 : mx_blk 8 cX8_go 170 [.inl (.aload 0), .inl (.aload 0), .inl (.getfield 521)] 175 = true := by decide +kernel
theorem kc_X8_go_175 : mx_kV dm_X8_go 175 dm_X8_isFigure 8 1 := ⟨197, by decide +kernel, md_X8_isFigure, cv_X8_197, by decide, by decide +kernel⟩
theorem br_X8_go_178 : mx_brk cX8_go 178 (.ifCond .eq 60) 238 181 = true := by decide +kernel
theorem bk_X8_go_181 : mx_blk 8 cX8_go 181 [.inl (.aload 0), .inl (.aload 0), .inl (.getfield 521), .inl (.aload 0), .inl (.getfield 522), .inl .isub, .inr (.int 4)] 192 = true := by decide +kernel
theorem br_X8_go_192 : mx_brk cX8_go 192 (.if_icmp .ge 26) 218 195 = true := by decide +kernel
theorem bk_X8_go_195 : mx_blk 8 cX8_go 195 [.inr (.int 10), .inl (.aload 0), .inl (.getfield 524), .inl .imul, .inl (.aload 0), .inl (.getfield 519), .inl (.aload 0), .inl (.getfield 521), .inl .iaload, .inl .iadd, .inr (.int 48), .inl .isub] 215 = true := by decide +kernel
theorem gt_X8_go_215 : mx_jmp cX8_go 215 222 = true := by decide +kernel
theorem bk_X8_go_218 : mx_blk 8 cX8_go 218 [.inl (.aload 0), .inl (.getfield 524)] 222 = true := by decide +kernel
theorem bk_X8_go_222 : mx_blk 8 cX8_go 222 [.inl (.putfield 524), .inl (.aload 0), .inl .dup, .inl (.getfield 521), .inr (.int 1), .inl .iadd, .inl (.putfield 521)] 235 = true := by decide +kernel
theorem gt_X8_go_235 : mx_jmp cX8_go 235 170 = true := by decide +kernel
theorem bk_X8_go_238 : mx_blk 8 cX8_go 238 [.inl (.aload 0), .inl (.iload 1)] 240 = true := by decide +kernel
theorem br_X8_go_240 : mx_brk cX8_go 240 (.ifCond .ne 16) 256 243 = true := by decide +kernel
theorem bk_X8_go_243 : mx_blk 8 cX8_go 243 [.inl (.aload 0), .inl (.getfield 521), .inl (.aload 0), .inl (.getfield 522), .inl .isub, .inr (.int 4)] 253 = true := by decide +kernel
theorem br_X8_go_253 : mx_brk cX8_go 253 (.if_icmp .le 7) 260 256 = true := by decide +kernel
theorem bk_X8_go_256 : mx_blk 8 cX8_go 256 [.inr (.int 4)] 257 = true := by decide +kernel
theorem gt_X8_go_257 : mx_jmp cX8_go 257 261 = true := by decide +kernel
theorem bk_X8_go_260 : mx_blk 8 cX8_go 260 [.inr (.int 2)] 261 = true := by decide +kernel
theorem bk_X8_go_261 : mx_blk 8 cX8_go 261 [.inl (.putfield 523), .inl (.aload 0), .inl (.aload 0), .inl (.getfield 521), .inl (.putfield 525)] 272 = true := by decide +kernel
theorem gt_X8_go_272 : mx_jmp cX8_go 272 303 = true := by decide +kernel
theorem bk_X8_go_275 : mx_blk 8 cX8_go 275 [.inl (.aload 0), .inr (.int 3), .inl (.putfield 523), .inl (.aload 0), .inl (.aload 0), .inl (.getfield 519), .inl (.aload 0), .inl (.getfield 522), .inl .iaload, .inl (.putfield 524), .inl (.aload 0), .inl .dup, .inl (.getfield 521), .inr (.int 1), .inl .iadd, .inl (.putfield 521)] 303 = true := by decide +kernel
theorem rt_X8_go_303 : mx_kv dm_X8_go 303 := ⟨by decide +kernel, rfl⟩
theorem bk_X8_takesKey_0 : mx_blk 8 cX8_takesKey 0 [.inl (.aload 0), .inl (.getfield 523), .inr (.int 1)] 5 = true := by decide +kernel
theorem br_X8_takesKey_5 : mx_brk cX8_takesKey 5 (.if_icmp .eq 5) 10 8 = true := by decide +kernel
theorem bk_X8_takesKey_8 : mx_blk 8 cX8_takesKey 8 [.inr (.int 0)] 9 = true := by decide +kernel
theorem rt_X8_takesKey_9 : mx_kr dm_X8_takesKey 9 .boolean := ⟨by decide +kernel, rfl⟩
theorem bk_X8_takesKey_10 : mx_blk 8 cX8_takesKey 10 [.inr (.int 0), .inl (.istore 1)] 12 = true := by decide +kernel
theorem bk_X8_takesKey_12 : mx_blk 8 cX8_takesKey 12 [.inl (.iload 1), .inr (.int 3)] 14 = true := by decide +kernel
theorem br_X8_takesKey_14 : mx_brk cX8_takesKey 14 (.if_icmp .ge 113) 127 17 = true := by decide +kernel
theorem bk_X8_takesKey_17 : mx_blk 8 cX8_takesKey 17 [.inl (.aload 0), .inl (.getfield 528), .inl (.iload 1), .inr (.int 1), .inl .iadd, .inl .iaload, .inl (.aload 0), .inl (.getfield 528), .inl (.iload 1), .inl .iaload, .inl .isub, .inl (.istore 2), .inl (.iload 2), .inl (.aload 0), .inl (.getfield 521), .inl (.aload 0), .inl (.getfield 522), .inl .isub] 43 = true := by decide +kernel
theorem br_X8_takesKey_43 : mx_brk cX8_takesKey 43 (.if_icmp .ne 7) 50 46 = true := by decide +kernel
theorem bk_X8_takesKey_46 : mx_blk 8 cX8_takesKey 46 [.inr (.int 1)] 47 = true := by decide +kernel
theorem gt_X8_takesKey_47 : mx_jmp cX8_takesKey 47 51 = true := by decide +kernel
theorem bk_X8_takesKey_50 : mx_blk 8 cX8_takesKey 50 [.inr (.int 0)] 51 = true := by decide +kernel
theorem bk_X8_takesKey_51 : mx_blk 8 cX8_takesKey 51 [.inl (.istore 3), .inr (.int 0), .inl (.istore 4)] 55 = true := by decide +kernel
theorem bk_X8_takesKey_55 : mx_blk 8 cX8_takesKey 55 [.inl (.iload 4), .inl (.iload 2)] 58 = true := by decide +kernel
theorem br_X8_takesKey_58 : mx_brk cX8_takesKey 58 (.if_icmp .ge 48) 106 61 = true := by decide +kernel
theorem bk_X8_takesKey_61 : mx_blk 8 cX8_takesKey 61 [.inl (.iload 3)] 62 = true := by decide +kernel
theorem br_X8_takesKey_62 : mx_brk cX8_takesKey 62 (.ifCond .eq 44) 106 65 = true := by decide +kernel
theorem bk_X8_takesKey_65 : mx_blk 8 cX8_takesKey 65 [.inl (.aload 0), .inl (.getfield 519), .inl (.aload 0), .inl (.getfield 522), .inl (.iload 4), .inl .iadd, .inl .iaload, .inl (.aload 0), .inl (.getfield 527), .inl (.aload 0), .inl (.getfield 528), .inl (.iload 1), .inl .iaload, .inl (.iload 4), .inl .iadd, .inl .caload] 91 = true := by decide +kernel
theorem br_X8_takesKey_91 : mx_brk cX8_takesKey 91 (.if_icmp .ne 7) 98 94 = true := by decide +kernel
theorem bk_X8_takesKey_94 : mx_blk 8 cX8_takesKey 94 [.inr (.int 1)] 95 = true := by decide +kernel
theorem gt_X8_takesKey_95 : mx_jmp cX8_takesKey 95 99 = true := by decide +kernel
theorem bk_X8_takesKey_98 : mx_blk 8 cX8_takesKey 98 [.inr (.int 0)] 99 = true := by decide +kernel
theorem bk_X8_takesKey_99 : mx_blk 8 cX8_takesKey 99 [.inl (.istore 3), .inl (.iinc 4 1)] 103 = true := by decide +kernel
theorem gt_X8_takesKey_103 : mx_jmp cX8_takesKey 103 55 = true := by decide +kernel
theorem bk_X8_takesKey_106 : mx_blk 8 cX8_takesKey 106 [.inl (.iload 3)] 107 = true := by decide +kernel
theorem br_X8_takesKey_107 : mx_brk cX8_takesKey 107 (.ifCond .eq 14) 121 110 = true := by decide +kernel
theorem bk_X8_takesKey_110 : mx_blk 8 cX8_takesKey 110 [.inl (.aload 0), .inl (.iload 1), .inl (.putfield 526), .inl (.aload 0)] 116 = true := by decide +kernel
theorem kc_X8_takesKey_116 : mx_kV dm_X8_takesKey 116 dm_X8_go 8 0 := ⟨203, by decide +kernel, md_X8_go, cv_X8_203, by decide, by decide +kernel⟩
theorem bk_X8_takesKey_119 : mx_blk 8 cX8_takesKey 119 [.inr (.int 1)] 120 = true := by decide +kernel
theorem rt_X8_takesKey_120 : mx_kr dm_X8_takesKey 120 .boolean := ⟨by decide +kernel, rfl⟩
theorem bk_X8_takesKey_121 : mx_blk 8 cX8_takesKey 121 [.inl (.iinc 1 1)] 124 = true := by decide +kernel
theorem gt_X8_takesKey_124 : mx_jmp cX8_takesKey 124 12 = true := by decide +kernel
theorem bk_X8_takesKey_127 : mx_blk 8 cX8_takesKey 127 [.inr (.int 0)] 128 = true := by decide +kernel
theorem rt_X8_takesKey_128 : mx_kr dm_X8_takesKey 128 .boolean := ⟨by decide +kernel, rfl⟩
theorem bk_X8_nameOf_0 : mx_blk 8 cX8_nameOf 0 [.inl (.aload 0), .inl (.getfield 526)] 4 = true := by decide +kernel
theorem sw_X8_nameOf_4 : mx_swk cX8_nameOf 4 [(0, 32), (1, 64)] 86 = true := by decide +kernel
theorem bk_X8_nameOf_32 : mx_blk 8 cX8_nameOf 32 [.inl (.iload 1), .inr (.int 120)] 35 = true := by decide +kernel
theorem br_X8_nameOf_35 : mx_brk cX8_nameOf 35 (.if_icmp .ne 7) 42 38 = true := by decide +kernel
theorem bk_X8_nameOf_38 : mx_blk 8 cX8_nameOf 38 [.inr (.int 0)] 39 = true := by decide +kernel
theorem gt_X8_nameOf_39 : mx_jmp cX8_nameOf 39 63 = true := by decide +kernel
theorem bk_X8_nameOf_42 : mx_blk 8 cX8_nameOf 42 [.inl (.iload 1), .inr (.int 108)] 45 = true := by decide +kernel
theorem br_X8_nameOf_45 : mx_brk cX8_nameOf 45 (.if_icmp .ne 7) 52 48 = true := by decide +kernel
theorem bk_X8_nameOf_48 : mx_blk 8 cX8_nameOf 48 [.inr (.int 1)] 49 = true := by decide +kernel
theorem gt_X8_nameOf_49 : mx_jmp cX8_nameOf 49 63 = true := by decide +kernel
theorem bk_X8_nameOf_52 : mx_blk 8 cX8_nameOf 52 [.inl (.iload 1), .inr (.int 112)] 55 = true := by decide +kernel
theorem br_X8_nameOf_55 : mx_brk cX8_nameOf 55 (.if_icmp .ne 7) 62 58 = true := by decide +kernel
theorem bk_X8_nameOf_58 : mx_blk 8 cX8_nameOf 58 [.inr (.int 2)] 59 = true := by decide +kernel
theorem gt_X8_nameOf_59 : mx_jmp cX8_nameOf 59 63 = true := by decide +kernel
theorem bk_X8_nameOf_62 : mx_blk 8 cX8_nameOf 62 [.inr (.int (-1))] 63 = true := by decide +kernel
theorem rt_X8_nameOf_63 : mx_kr dm_X8_nameOf 63 .int := ⟨by decide +kernel, rfl⟩
theorem bk_X8_nameOf_64 : mx_blk 8 cX8_nameOf 64 [.inl (.iload 1), .inr (.int 108)] 67 = true := by decide +kernel
theorem br_X8_nameOf_67 : mx_brk cX8_nameOf 67 (.if_icmp .ne 7) 74 70 = true := by decide +kernel
theorem bk_X8_nameOf_70 : mx_blk 8 cX8_nameOf 70 [.inr (.int 0)] 71 = true := by decide +kernel
theorem gt_X8_nameOf_71 : mx_jmp cX8_nameOf 71 85 = true := by decide +kernel
theorem bk_X8_nameOf_74 : mx_blk 8 cX8_nameOf 74 [.inl (.iload 1), .inr (.int 119)] 77 = true := by decide +kernel
theorem br_X8_nameOf_77 : mx_brk cX8_nameOf 77 (.if_icmp .ne 7) 84 80 = true := by decide +kernel
theorem bk_X8_nameOf_80 : mx_blk 8 cX8_nameOf 80 [.inr (.int 1)] 81 = true := by decide +kernel
theorem gt_X8_nameOf_81 : mx_jmp cX8_nameOf 81 85 = true := by decide +kernel
theorem bk_X8_nameOf_84 : mx_blk 8 cX8_nameOf 84 [.inr (.int (-1))] 85 = true := by decide +kernel
theorem rt_X8_nameOf_85 : mx_kr dm_X8_nameOf 85 .int := ⟨by decide +kernel, rfl⟩
theorem bk_X8_nameOf_86 : mx_blk 8 cX8_nameOf 86 [.inl (.iload 1), .inr (.int 100)] 89 = true := by decide +kernel
theorem br_X8_nameOf_89 : mx_brk cX8_nameOf 89 (.if_icmp .ne 7) 96 92 = true := by decide +kernel
theorem bk_X8_nameOf_92 : mx_blk 8 cX8_nameOf 92 [.inr (.int 0)] 93 = true := by decide +kernel
theorem gt_X8_nameOf_93 : mx_jmp cX8_nameOf 93 107 = true := by decide +kernel
theorem bk_X8_nameOf_96 : mx_blk 8 cX8_nameOf 96 [.inl (.iload 1), .inr (.int 98)] 99 = true := by decide +kernel
theorem br_X8_nameOf_99 : mx_brk cX8_nameOf 99 (.if_icmp .ne 7) 106 102 = true := by decide +kernel
theorem bk_X8_nameOf_102 : mx_blk 8 cX8_nameOf 102 [.inr (.int 1)] 103 = true := by decide +kernel
theorem gt_X8_nameOf_103 : mx_jmp cX8_nameOf 103 107 = true := by decide +kernel
theorem bk_X8_nameOf_106 : mx_blk 8 cX8_nameOf 106 [.inr (.int (-1))] 107 = true := by decide +kernel
theorem rt_X8_nameOf_107 : mx_kr dm_X8_nameOf 107 .int := ⟨by decide +kernel, rfl⟩
theorem bk_X8_rank_0 : mx_blk 8 cX8_rank 0 [.inl (.iload 0), .inr (.int (-1))] 2 = true := by decide +kernel
theorem br_X8_rank_2 : mx_brk cX8_rank 2 (.if_icmp .ne 7) 9 5 = true := by decide +kernel
theorem bk_X8_rank_5 : mx_blk 8 cX8_rank 5 [.inr (.int 1)] 6 = true := by decide +kernel
theorem gt_X8_rank_6 : mx_jmp cX8_rank 6 51 = true := by decide +kernel
theorem bk_X8_rank_9 : mx_blk 8 cX8_rank 9 [.inl (.iload 0), .inr (.int (-2))] 12 = true := by decide +kernel
theorem br_X8_rank_12 : mx_brk cX8_rank 12 (.if_icmp .ne 7) 19 15 = true := by decide +kernel
theorem bk_X8_rank_15 : mx_blk 8 cX8_rank 15 [.inr (.int 2)] 16 = true := by decide +kernel
theorem gt_X8_rank_16 : mx_jmp cX8_rank 16 51 = true := by decide +kernel
theorem bk_X8_rank_19 : mx_blk 8 cX8_rank 19 [.inl (.iload 0), .inr (.int (-5))] 22 = true := by decide +kernel
theorem br_X8_rank_22 : mx_brk cX8_rank 22 (.if_icmp .lt 7) 29 25 = true := by decide +kernel
theorem bk_X8_rank_25 : mx_blk 8 cX8_rank 25 [.inr (.int 3)] 26 = true := by decide +kernel
theorem gt_X8_rank_26 : mx_jmp cX8_rank 26 51 = true := by decide +kernel
theorem bk_X8_rank_29 : mx_blk 8 cX8_rank 29 [.inl (.iload 0), .inr (.int (-7))] 32 = true := by decide +kernel
theorem br_X8_rank_32 : mx_brk cX8_rank 32 (.if_icmp .lt 7) 39 35 = true := by decide +kernel
theorem bk_X8_rank_35 : mx_blk 8 cX8_rank 35 [.inr (.int 4)] 36 = true := by decide +kernel
theorem gt_X8_rank_36 : mx_jmp cX8_rank 36 51 = true := by decide +kernel
theorem bk_X8_rank_39 : mx_blk 8 cX8_rank 39 [.inl (.iload 0), .inr (.int (-9))] 42 = true := by decide +kernel
theorem br_X8_rank_42 : mx_brk cX8_rank 42 (.if_icmp .lt 7) 49 45 = true := by decide +kernel
theorem bk_X8_rank_45 : mx_blk 8 cX8_rank 45 [.inr (.int 5)] 46 = true := by decide +kernel
theorem gt_X8_rank_46 : mx_jmp cX8_rank 46 51 = true := by decide +kernel
theorem bk_X8_rank_49 : mx_blk 8 cX8_rank 49 [.inr (.int 6)] 51 = true := by decide +kernel
theorem rt_X8_rank_51 : mx_kr dm_X8_rank 51 .int := ⟨by decide +kernel, rfl⟩
theorem bk_X8_settle_0 : mx_blk 8 cX8_settle 0 [.inl (.aload 0), .inl (.getfield 533)] 4 = true := by decide +kernel
theorem br_X8_settle_4 : mx_brk cX8_settle 4 (.ifCond .le 78) 82 7 = true := by decide +kernel
theorem bk_X8_settle_7 : mx_blk 8 cX8_settle 7 [.inl (.aload 0), .inl (.getfield 532), .inl (.aload 0), .inl (.getfield 533), .inr (.int 1), .inl .isub, .inl .iaload, .inr (.int (-11))] 20 = true := by decide +kernel
theorem br_X8_settle_20 : mx_brk cX8_settle 20 (.if_icmp .eq 62) 82 23 = true := by decide +kernel
theorem bk_X8_settle_23 : mx_blk 8 cX8_settle 23 [.inl (.aload 0), .inl (.getfield 532), .inl (.aload 0), .inl (.getfield 533), .inr (.int 1), .inl .isub, .inl .iaload] 34 = true := by decide +kernel
theorem kc_X8_settle_34 : mx_kS dm_X8_settle 34 dm_X8_rank 1 := ⟨209, by decide +kernel, md_X8_rank, cs_X8_209⟩
theorem bk_X8_settle_37 : mx_blk 8 cX8_settle 37 [.inl (.iload 1)] 38 = true := by decide +kernel
theorem br_X8_settle_38 : mx_brk cX8_settle 38 (.if_icmp .lt 44) 82 41 = true := by decide +kernel
theorem bk_X8_settle_41 : mx_blk 8 cX8_settle 41 [.inl (.aload 0), .inl .dup, .inl (.getfield 533), .inr (.int 1), .inl .isub, .inl (.putfield 533), .inl (.aload 0), .inl (.getfield 529), .inl (.aload 0), .inl (.getfield 530), .inl (.aload 0), .inl (.getfield 532), .inl (.aload 0), .inl (.getfield 533), .inl .iaload, .inl .iastore, .inl (.aload 0), .inl .dup, .inl (.getfield 530), .inr (.int 1), .inl .iadd, .inl (.putfield 530)] 79 = true := by decide +kernel
theorem gt_X8_settle_79 : mx_jmp cX8_settle 79 0 = true := by decide +kernel
theorem rt_X8_settle_82 : mx_kv dm_X8_settle 82 := ⟨by decide +kernel, rfl⟩
theorem bk_X8_signHere_0 : mx_blk 8 cX8_signHere 0 [.inl (.aload 0), .inl (.getfield 523), .inr (.int 3)] 5 = true := by decide +kernel
theorem br_X8_signHere_5 : mx_brk cX8_signHere 5 (.if_icmp .eq 5) 10 8 = true := by decide +kernel
theorem bk_X8_signHere_8 : mx_blk 8 cX8_signHere 8 [.inr (.int 0)] 9 = true := by decide +kernel
theorem rt_X8_signHere_9 : mx_kr dm_X8_signHere 9 .int := ⟨by decide +kernel, rfl⟩
theorem bk_X8_signHere_10 : mx_blk 8 cX8_signHere 10 [.inl (.aload 0), .inl (.getfield 524)] 14 = true := by decide +kernel
theorem sw_X8_signHere_14 : mx_swk cX8_signHere 14 [(38, 98), (42, 116), (43, 110), (45, 113), (47, 119), (60, 101), (61, 104), (62, 107), (124, 96)] 122 = true := by decide +kernel
theorem bk_X8_signHere_96 : mx_blk 8 cX8_signHere 96 [.inr (.int (-1))] 97 = true := by decide +kernel
theorem rt_X8_signHere_97 : mx_kr dm_X8_signHere 97 .int := ⟨by decide +kernel, rfl⟩
theorem bk_X8_signHere_98 : mx_blk 8 cX8_signHere 98 [.inr (.int (-2))] 100 = true := by decide +kernel
theorem rt_X8_signHere_100 : mx_kr dm_X8_signHere 100 .int := ⟨by decide +kernel, rfl⟩
theorem bk_X8_signHere_101 : mx_blk 8 cX8_signHere 101 [.inr (.int (-3))] 103 = true := by decide +kernel
theorem rt_X8_signHere_103 : mx_kr dm_X8_signHere 103 .int := ⟨by decide +kernel, rfl⟩
theorem bk_X8_signHere_104 : mx_blk 8 cX8_signHere 104 [.inr (.int (-4))] 106 = true := by decide +kernel
theorem rt_X8_signHere_106 : mx_kr dm_X8_signHere 106 .int := ⟨by decide +kernel, rfl⟩
theorem bk_X8_signHere_107 : mx_blk 8 cX8_signHere 107 [.inr (.int (-5))] 109 = true := by decide +kernel
theorem rt_X8_signHere_109 : mx_kr dm_X8_signHere 109 .int := ⟨by decide +kernel, rfl⟩
theorem bk_X8_signHere_110 : mx_blk 8 cX8_signHere 110 [.inr (.int (-6))] 112 = true := by decide +kernel
theorem rt_X8_signHere_112 : mx_kr dm_X8_signHere 112 .int := ⟨by decide +kernel, rfl⟩
theorem bk_X8_signHere_113 : mx_blk 8 cX8_signHere 113 [.inr (.int (-7))] 115 = true := by decide +kernel
theorem rt_X8_signHere_115 : mx_kr dm_X8_signHere 115 .int := ⟨by decide +kernel, rfl⟩
theorem bk_X8_signHere_116 : mx_blk 8 cX8_signHere 116 [.inr (.int (-8))] 118 = true := by decide +kernel
theorem rt_X8_signHere_118 : mx_kr dm_X8_signHere 118 .int := ⟨by decide +kernel, rfl⟩
theorem bk_X8_signHere_119 : mx_blk 8 cX8_signHere 119 [.inr (.int (-9))] 121 = true := by decide +kernel
theorem rt_X8_signHere_121 : mx_kr dm_X8_signHere 121 .int := ⟨by decide +kernel, rfl⟩
theorem bk_X8_signHere_122 : mx_blk 8 cX8_signHere 122 [.inr (.int 0)] 123 = true := by decide +kernel
theorem rt_X8_signHere_123 : mx_kr dm_X8_signHere 123 .int := ⟨by decide +kernel, rfl⟩
theorem bk_X8_takesPart_0 : mx_blk 8 cX8_takesPart 0 [.inl (.aload 0), .inl (.getfield 523), .inr (.int 1)] 5 = true := by decide +kernel
theorem br_X8_takesPart_5 : mx_brk cX8_takesPart 5 (.if_icmp .ne 31) 36 8 = true := by decide +kernel
theorem bk_X8_takesPart_8 : mx_blk 8 cX8_takesPart 8 [.inl (.aload 0), .inl (.getfield 521), .inl (.aload 0), .inl (.getfield 522), .inl .isub, .inr (.int 1)] 18 = true := by decide +kernel
theorem br_X8_takesPart_18 : mx_brk cX8_takesPart 18 (.if_icmp .ne 18) 36 21 = true := by decide +kernel
theorem bk_X8_takesPart_21 : mx_blk 8 cX8_takesPart 21 [.inl (.aload 0), .inl (.aload 0), .inl (.getfield 524)] 26 = true := by decide +kernel
theorem kc_X8_takesPart_26 : mx_kV dm_X8_takesPart 26 dm_X8_nameOf 8 1 := ⟨215, by decide +kernel, md_X8_nameOf, cv_X8_215, by decide, by decide +kernel⟩
theorem br_X8_takesPart_29 : mx_brk cX8_takesPart 29 (.ifCond .lt 7) 36 32 = true := by decide +kernel
theorem bk_X8_takesPart_32 : mx_blk 8 cX8_takesPart 32 [.inr (.int 1)] 33 = true := by decide +kernel
theorem gt_X8_takesPart_33 : mx_jmp cX8_takesPart 33 37 = true := by decide +kernel
theorem bk_X8_takesPart_36 : mx_blk 8 cX8_takesPart 36 [.inr (.int 0)] 37 = true := by decide +kernel
theorem bk_X8_takesPart_37 : mx_blk 8 cX8_takesPart 37 [.inl (.istore 1), .inl (.aload 0), .inl (.getfield 523), .inr (.int 2)] 43 = true := by decide +kernel
theorem br_X8_takesPart_43 : mx_brk cX8_takesPart 43 (.if_icmp .eq 9) 52 46 = true := by decide +kernel
theorem bk_X8_takesPart_46 : mx_blk 8 cX8_takesPart 46 [.inl (.iload 1)] 47 = true := by decide +kernel
theorem br_X8_takesPart_47 : mx_brk cX8_takesPart 47 (.ifCond .ne 5) 52 50 = true := by decide +kernel
theorem bk_X8_takesPart_50 : mx_blk 8 cX8_takesPart 50 [.inr (.int 0)] 51 = true := by decide +kernel
theorem rt_X8_takesPart_51 : mx_kr dm_X8_takesPart 51 .boolean := ⟨by decide +kernel, rfl⟩
theorem bk_X8_takesPart_52 : mx_blk 8 cX8_takesPart 52 [.inl (.aload 0), .inl (.getfield 529), .inl (.aload 0), .inl (.getfield 530), .inl (.aload 0), .inl (.getfield 523), .inr (.int 2)] 65 = true := by decide +kernel
theorem br_X8_takesPart_65 : mx_brk cX8_takesPart 65 (.if_icmp .ne 10) 75 68 = true := by decide +kernel
theorem bk_X8_takesPart_68 : mx_blk 8 cX8_takesPart 68 [.inl (.aload 0), .inl (.getfield 524)] 72 = true := by decide +kernel
theorem gt_X8_takesPart_72 : mx_jmp cX8_takesPart 72 87 = true := by decide +kernel
theorem bk_X8_takesPart_75 : mx_blk 8 cX8_takesPart 75 [.inr (.int 10000), .inl (.aload 0), .inl (.aload 0), .inl (.getfield 524)] 83 = true := by decide +kernel
theorem kc_X8_takesPart_83 : mx_kV dm_X8_takesPart 83 dm_X8_nameOf 8 1 := ⟨215, by decide +kernel, md_X8_nameOf, cv_X8_215, by decide, by decide +kernel⟩
theorem bk_X8_takesPart_86 : mx_blk 8 cX8_takesPart 86 [.inl .iadd] 87 = true := by decide +kernel
theorem bk_X8_takesPart_87 : mx_blk 8 cX8_takesPart 87 [.inl .iastore, .inl (.aload 0), .inl .dup, .inl (.getfield 530), .inr (.int 1), .inl .iadd, .inl (.putfield 530), .inl (.aload 0), .inl .dup, .inl (.getfield 531), .inr (.int 1), .inl .iadd, .inl (.putfield 531), .inl (.aload 0), .inr (.int 6)] 111 = true := by decide +kernel
theorem kc_X8_takesPart_111 : mx_kV dm_X8_takesPart 111 dm_X8_settle 8 1 := ⟨221, by decide +kernel, md_X8_settle, cv_X8_221, by decide, by decide +kernel⟩
theorem bk_X8_takesPart_114 : mx_blk 8 cX8_takesPart 114 [.inl (.aload 0)] 115 = true := by decide +kernel
theorem kc_X8_takesPart_115 : mx_kV dm_X8_takesPart 115 dm_X8_go 8 0 := ⟨203, by decide +kernel, md_X8_go, cv_X8_203, by decide, by decide +kernel⟩
theorem bk_X8_takesPart_118 : mx_blk 8 cX8_takesPart 118 [.inr (.int 1)] 119 = true := by decide +kernel
theorem rt_X8_takesPart_119 : mx_kr dm_X8_takesPart 119 .boolean := ⟨by decide +kernel, rfl⟩
theorem bk_X8_takesE_0 : mx_blk 8 cX8_takesE 0 [.inr (.int 0), .inl (.istore 1), .inr (.int 0), .inl (.istore 2), .inr (.int 1), .inl (.istore 3), .inl (.aload 0), .inr (.int 0), .inl (.putfield 530), .inl (.aload 0), .inr (.int 0), .inl (.putfield 531), .inl (.aload 0), .inr (.int 0), .inl (.putfield 533), .inl (.aload 0), .inl (.getfield 534), .inr (.int 0), .inr (.int 0), .inl .dastore] 28 = true := by decide +kernel
theorem bk_X8_takesE_28 : mx_blk 8 cX8_takesE 28 [.inl (.iload 3)] 29 = true := by decide +kernel
theorem br_X8_takesE_29 : mx_brk cX8_takesE 29 (.ifCond .ne 10) 39 32 = true := by decide +kernel
theorem bk_X8_takesE_32 : mx_blk 8 cX8_takesE 32 [.inl (.aload 0), .inl (.getfield 523)] 36 = true := by decide +kernel
theorem br_X8_takesE_36 : mx_brk cX8_takesE 36 (.ifCond .eq 309) 345 39 = true := by decide +kernel
theorem bk_X8_takesE_39 : mx_blk 8 cX8_takesE 39 [.inl (.iload 3)] 40 = true := by decide +kernel
theorem br_X8_takesE_40 : mx_brk cX8_takesE 40 (.ifCond .eq 140) 180 43 = true := by decide +kernel
theorem bk_X8_takesE_43 : mx_blk 8 cX8_takesE 43 [.inl (.aload 0), .inl (.getfield 523), .inr (.int 3)] 48 = true := by decide +kernel
theorem br_X8_takesE_48 : mx_brk cX8_takesE 48 (.if_icmp .ne 49) 97 51 = true := by decide +kernel
theorem bk_X8_takesE_51 : mx_blk 8 cX8_takesE 51 [.inl (.aload 0), .inl (.getfield 524), .inr (.int 33)] 57 = true := by decide +kernel
theorem br_X8_takesE_57 : mx_brk cX8_takesE 57 (.if_icmp .ne 40) 97 60 = true := by decide +kernel
theorem bk_X8_takesE_60 : mx_blk 8 cX8_takesE 60 [.inl (.iload 2), .inr (.int 8)] 63 = true := by decide +kernel
theorem br_X8_takesE_63 : mx_brk cX8_takesE 63 (.if_icmp .ge 34) 97 66 = true := by decide +kernel
theorem bk_X8_takesE_66 : mx_blk 8 cX8_takesE 66 [.inl (.aload 0), .inl (.getfield 532), .inl (.aload 0), .inl (.getfield 533), .inr (.int (-10)), .inl .iastore, .inl (.aload 0), .inl .dup, .inl (.getfield 533), .inr (.int 1), .inl .iadd, .inl (.putfield 533), .inl (.iinc 2 1), .inl (.aload 0)] 91 = true := by decide +kernel
theorem kc_X8_takesE_91 : mx_kV dm_X8_takesE 91 dm_X8_go 8 0 := ⟨203, by decide +kernel, md_X8_go, cv_X8_203, by decide, by decide +kernel⟩
theorem gt_X8_takesE_94 : mx_jmp cX8_takesE 94 172 = true := by decide +kernel
theorem bk_X8_takesE_97 : mx_blk 8 cX8_takesE 97 [.inl (.aload 0), .inl (.getfield 523), .inr (.int 3)] 102 = true := by decide +kernel
theorem br_X8_takesE_102 : mx_brk cX8_takesE 102 (.if_icmp .ne 56) 158 105 = true := by decide +kernel
theorem bk_X8_takesE_105 : mx_blk 8 cX8_takesE 105 [.inl (.aload 0), .inl (.getfield 524), .inr (.int 40)] 111 = true := by decide +kernel
theorem br_X8_takesE_111 : mx_brk cX8_takesE 111 (.if_icmp .ne 47) 158 114 = true := by decide +kernel
theorem bk_X8_takesE_114 : mx_blk 8 cX8_takesE 114 [.inl (.iload 1), .inr (.int 8)] 117 = true := by decide +kernel
theorem br_X8_takesE_117 : mx_brk cX8_takesE 117 (.if_icmp .ge 41) 158 120 = true := by decide +kernel
theorem bk_X8_takesE_120 : mx_blk 8 cX8_takesE 120 [.inl (.aload 0), .inl (.getfield 532), .inl (.aload 0), .inl (.getfield 533), .inr (.int (-11)), .inl .iastore, .inl (.aload 0), .inl .dup, .inl (.getfield 533), .inr (.int 1), .inl .iadd, .inl (.putfield 533), .inl (.iinc 1 1), .inl (.aload 0), .inl (.getfield 534), .inl (.iload 1), .inr (.int 0), .inl .dastore, .inl (.aload 0)] 152 = true := by decide +kernel
theorem kc_X8_takesE_152 : mx_kV dm_X8_takesE 152 dm_X8_go 8 0 := ⟨203, by decide +kernel, md_X8_go, cv_X8_203, by decide, by decide +kernel⟩
theorem gt_X8_takesE_155 : mx_jmp cX8_takesE 155 172 = true := by decide +kernel
theorem bk_X8_takesE_158 : mx_blk 8 cX8_takesE 158 [.inl (.aload 0)] 159 = true := by decide +kernel
theorem kc_X8_takesE_159 : mx_kV dm_X8_takesE 159 dm_X8_takesPart 8 0 := ⟨224, by decide +kernel, md_X8_takesPart, cv_X8_224, by decide, by decide +kernel⟩
theorem br_X8_takesE_162 : mx_brk cX8_takesE 162 (.ifCond .eq 8) 170 165 = true := by decide +kernel
theorem bk_X8_takesE_165 : mx_blk 8 cX8_takesE 165 [.inr (.int 0), .inl (.istore 3)] 167 = true := by decide +kernel
theorem gt_X8_takesE_167 : mx_jmp cX8_takesE 167 172 = true := by decide +kernel
theorem bk_X8_takesE_170 : mx_blk 8 cX8_takesE 170 [.inr (.int 0)] 171 = true := by decide +kernel
theorem rt_X8_takesE_171 : mx_kr dm_X8_takesE 171 .boolean := ⟨by decide +kernel, rfl⟩
theorem bk_X8_takesE_172 : mx_blk 8 cX8_takesE 172 [.inl (.aload 0)] 173 = true := by decide +kernel
theorem kc_X8_takesE_173 : mx_kV dm_X8_takesE 173 dm_X8_notsOpen 8 0 := ⟨228, by decide +kernel, md_X8_notsOpen, cv_X8_228, by decide, by decide +kernel⟩
theorem bk_X8_takesE_176 : mx_blk 8 cX8_takesE 176 [.inl (.istore 2)] 177 = true := by decide +kernel
theorem gt_X8_takesE_177 : mx_jmp cX8_takesE 177 28 = true := by decide +kernel
theorem bk_X8_takesE_180 : mx_blk 8 cX8_takesE 180 [.inl (.aload 0), .inl (.getfield 523), .inr (.int 3)] 185 = true := by decide +kernel
theorem br_X8_takesE_185 : mx_brk cX8_takesE 185 (.if_icmp .ne 52) 237 188 = true := by decide +kernel
theorem bk_X8_takesE_188 : mx_blk 8 cX8_takesE 188 [.inl (.aload 0), .inl (.getfield 524), .inr (.int 41)] 194 = true := by decide +kernel
theorem br_X8_takesE_194 : mx_brk cX8_takesE 194 (.if_icmp .ne 43) 237 197 = true := by decide +kernel
theorem bk_X8_takesE_197 : mx_blk 8 cX8_takesE 197 [.inl (.iload 1)] 198 = true := by decide +kernel
theorem br_X8_takesE_198 : mx_brk cX8_takesE 198 (.ifCond .le 39) 237 201 = true := by decide +kernel
theorem bk_X8_takesE_201 : mx_blk 8 cX8_takesE 201 [.inl (.aload 0), .inr (.int 0)] 203 = true := by decide +kernel
theorem kc_X8_takesE_203 : mx_kV dm_X8_takesE 203 dm_X8_settle 8 1 := ⟨221, by decide +kernel, md_X8_settle, cv_X8_221, by decide, by decide +kernel⟩
theorem bk_X8_takesE_206 : mx_blk 8 cX8_takesE 206 [.inl (.aload 0), .inl .dup, .inl (.getfield 533), .inr (.int 1), .inl .isub, .inl (.putfield 533), .inl (.iinc 1 (-1)), .inl (.aload 0), .inr (.int 6)] 222 = true := by decide +kernel
theorem kc_X8_takesE_222 : mx_kV dm_X8_takesE 222 dm_X8_settle 8 1 := ⟨221, by decide +kernel, md_X8_settle, cv_X8_221, by decide, by decide +kernel⟩
theorem bk_X8_takesE_225 : mx_blk 8 cX8_takesE 225 [.inl (.aload 0)] 226 = true := by decide +kernel
theorem kc_X8_takesE_226 : mx_kV dm_X8_takesE 226 dm_X8_notsOpen 8 0 := ⟨228, by decide +kernel, md_X8_notsOpen, cv_X8_228, by decide, by decide +kernel⟩
theorem bk_X8_takesE_229 : mx_blk 8 cX8_takesE 229 [.inl (.istore 2), .inl (.aload 0)] 231 = true := by decide +kernel
theorem kc_X8_takesE_231 : mx_kV dm_X8_takesE 231 dm_X8_go 8 0 := ⟨203, by decide +kernel, md_X8_go, cv_X8_203, by decide, by decide +kernel⟩
theorem gt_X8_takesE_234 : mx_jmp cX8_takesE 234 28 = true := by decide +kernel
theorem bk_X8_takesE_237 : mx_blk 8 cX8_takesE 237 [.inl (.aload 0)] 238 = true := by decide +kernel
theorem kc_X8_takesE_238 : mx_kV dm_X8_takesE 238 dm_X8_signHere 8 0 := ⟨231, by decide +kernel, md_X8_signHere, cv_X8_231, by decide, by decide +kernel⟩
theorem bk_X8_takesE_241 : mx_blk 8 cX8_takesE 241 [.inl (.istore 4), .inl (.iload 4)] 245 = true := by decide +kernel
theorem br_X8_takesE_245 : mx_brk cX8_takesE 245 (.ifCond .eq 21) 266 248 = true := by decide +kernel
theorem bk_X8_takesE_248 : mx_blk 8 cX8_takesE 248 [.inl (.iload 4)] 250 = true := by decide +kernel
theorem kc_X8_takesE_250 : mx_kS dm_X8_takesE 250 dm_X8_rank 1 := ⟨209, by decide +kernel, md_X8_rank, cs_X8_209⟩
theorem bk_X8_takesE_253 : mx_blk 8 cX8_takesE 253 [.inr (.int 3)] 254 = true := by decide +kernel
theorem br_X8_takesE_254 : mx_brk cX8_takesE 254 (.if_icmp .ne 14) 268 257 = true := by decide +kernel
theorem bk_X8_takesE_257 : mx_blk 8 cX8_takesE 257 [.inl (.aload 0), .inl (.getfield 534), .inl (.iload 1), .inl .daload] 263 = true := by decide +kernel
theorem br_X8_takesE_263 : mx_brk cX8_takesE 263 (.ifCond .eq 5) 268 266 = true := by decide +kernel
theorem bk_X8_takesE_266 : mx_blk 8 cX8_takesE 266 [.inr (.int 0)] 267 = true := by decide +kernel
theorem rt_X8_takesE_267 : mx_kr dm_X8_takesE 267 .boolean := ⟨by decide +kernel, rfl⟩
theorem bk_X8_takesE_268 : mx_blk 8 cX8_takesE 268 [.inl (.aload 0), .inl (.getfield 534), .inl (.iload 1), .inl (.iload 4)] 275 = true := by decide +kernel
theorem kc_X8_takesE_275 : mx_kS dm_X8_takesE 275 dm_X8_rank 1 := ⟨209, by decide +kernel, md_X8_rank, cs_X8_209⟩
theorem bk_X8_takesE_278 : mx_blk 8 cX8_takesE 278 [.inr (.int 3)] 279 = true := by decide +kernel
theorem br_X8_takesE_279 : mx_brk cX8_takesE 279 (.if_icmp .eq 21) 300 282 = true := by decide +kernel
theorem bk_X8_takesE_282 : mx_blk 8 cX8_takesE 282 [.inl (.iload 4)] 284 = true := by decide +kernel
theorem kc_X8_takesE_284 : mx_kS dm_X8_takesE 284 dm_X8_rank 1 := ⟨209, by decide +kernel, md_X8_rank, cs_X8_209⟩
theorem bk_X8_takesE_287 : mx_blk 8 cX8_takesE 287 [.inr (.int 3)] 288 = true := by decide +kernel
theorem br_X8_takesE_288 : mx_brk cX8_takesE 288 (.if_icmp .le 16) 304 291 = true := by decide +kernel
theorem bk_X8_takesE_291 : mx_blk 8 cX8_takesE 291 [.inl (.aload 0), .inl (.getfield 534), .inl (.iload 1), .inl .daload] 297 = true := by decide +kernel
theorem br_X8_takesE_297 : mx_brk cX8_takesE 297 (.ifCond .eq 7) 304 300 = true := by decide +kernel
theorem bk_X8_takesE_300 : mx_blk 8 cX8_takesE 300 [.inr (.int 1)] 301 = true := by decide +kernel
theorem gt_X8_takesE_301 : mx_jmp cX8_takesE 301 305 = true := by decide +kernel
theorem bk_X8_takesE_304 : mx_blk 8 cX8_takesE 304 [.inr (.int 0)] 305 = true := by decide +kernel
theorem bk_X8_takesE_305 : mx_blk 8 cX8_takesE 305 [.inl .dastore, .inl (.aload 0), .inl (.iload 4)] 309 = true := by decide +kernel
theorem kc_X8_takesE_309 : mx_kS dm_X8_takesE 309 dm_X8_rank 1 := ⟨209, by decide +kernel, md_X8_rank, cs_X8_209⟩
theorem kc_X8_takesE_312 : mx_kV dm_X8_takesE 312 dm_X8_settle 8 1 := ⟨221, by decide +kernel, md_X8_settle, cv_X8_221, by decide, by decide +kernel⟩
theorem bk_X8_takesE_315 : mx_blk 8 cX8_takesE 315 [.inl (.aload 0), .inl (.getfield 532), .inl (.aload 0), .inl (.getfield 533), .inl (.iload 4), .inl .iastore, .inl (.aload 0), .inl .dup, .inl (.getfield 533), .inr (.int 1), .inl .iadd, .inl (.putfield 533), .inr (.int 1), .inl (.istore 3), .inl (.aload 0)] 339 = true := by decide +kernel
theorem kc_X8_takesE_339 : mx_kV dm_X8_takesE 339 dm_X8_go 8 0 := ⟨203, by decide +kernel, md_X8_go, cv_X8_203, by decide, by decide +kernel⟩
theorem gt_X8_takesE_342 : mx_jmp cX8_takesE 342 28 = true := by decide +kernel
theorem bk_X8_takesE_345 : mx_blk 8 cX8_takesE 345 [.inl (.aload 0), .inr (.int 0)] 347 = true := by decide +kernel
theorem kc_X8_takesE_347 : mx_kV dm_X8_takesE 347 dm_X8_settle 8 1 := ⟨221, by decide +kernel, md_X8_settle, cv_X8_221, by decide, by decide +kernel⟩
theorem bk_X8_takesE_350 : mx_blk 8 cX8_takesE 350 [.inl (.iload 1)] 351 = true := by decide +kernel
theorem br_X8_takesE_351 : mx_brk cX8_takesE 351 (.ifCond .ne 7) 358 354 = true := by decide +kernel
theorem bk_X8_takesE_354 : mx_blk 8 cX8_takesE 354 [.inr (.int 1)] 355 = true := by decide +kernel
theorem gt_X8_takesE_355 : mx_jmp cX8_takesE 355 359 = true := by decide +kernel
theorem bk_X8_takesE_358 : mx_blk 8 cX8_takesE 358 [.inr (.int 0)] 359 = true := by decide +kernel
theorem rt_X8_takesE_359 : mx_kr dm_X8_takesE 359 .boolean := ⟨by decide +kernel, rfl⟩
theorem bk_X8_notsOpen_0 : mx_blk 8 cX8_notsOpen 0 [.inr (.int 0), .inl (.istore 1), .inr (.int 0), .inl (.istore 2)] 4 = true := by decide +kernel
theorem bk_X8_notsOpen_4 : mx_blk 8 cX8_notsOpen 4 [.inl (.iload 2), .inl (.aload 0), .inl (.getfield 533)] 9 = true := by decide +kernel
theorem br_X8_notsOpen_9 : mx_brk cX8_notsOpen 9 (.if_icmp .ge 28) 37 12 = true := by decide +kernel
theorem bk_X8_notsOpen_12 : mx_blk 8 cX8_notsOpen 12 [.inl (.iload 1), .inl (.aload 0), .inl (.getfield 532), .inl (.iload 2), .inl .iaload, .inr (.int (-10))] 21 = true := by decide +kernel
theorem br_X8_notsOpen_21 : mx_brk cX8_notsOpen 21 (.if_icmp .ne 7) 28 24 = true := by decide +kernel
theorem bk_X8_notsOpen_24 : mx_blk 8 cX8_notsOpen 24 [.inr (.int 1)] 25 = true := by decide +kernel
theorem gt_X8_notsOpen_25 : mx_jmp cX8_notsOpen 25 29 = true := by decide +kernel
theorem bk_X8_notsOpen_28 : mx_blk 8 cX8_notsOpen 28 [.inr (.int 0)] 29 = true := by decide +kernel
theorem bk_X8_notsOpen_29 : mx_blk 8 cX8_notsOpen 29 [.inl .iadd, .inl (.istore 1), .inl (.iinc 2 1)] 34 = true := by decide +kernel
theorem gt_X8_notsOpen_34 : mx_jmp cX8_notsOpen 34 4 = true := by decide +kernel
theorem bk_X8_notsOpen_37 : mx_blk 8 cX8_notsOpen 37 [.inl (.iload 1)] 38 = true := by decide +kernel
theorem rt_X8_notsOpen_38 : mx_kr dm_X8_notsOpen 38 .int := ⟨by decide +kernel, rfl⟩
theorem bk_X8_text_0 : mx_blk 8 cX8_text 0 [.inl (.aload 0), .inr (.int 0), .inl (.putfield 521), .inl (.aload 0), .inr (.int (-1)), .inl (.putfield 525), .inl (.aload 0)] 11 = true := by decide +kernel
theorem kc_X8_text_11 : mx_kV dm_X8_text 11 dm_X8_go 8 0 := ⟨203, by decide +kernel, md_X8_go, cv_X8_203, by decide, by decide +kernel⟩
theorem bk_X8_text_14 : mx_blk 8 cX8_text 14 [.inl (.aload 0)] 15 = true := by decide +kernel
theorem kc_X8_text_15 : mx_kV dm_X8_text 15 dm_X8_takesKey 8 0 := ⟨234, by decide +kernel, md_X8_takesKey, cv_X8_234, by decide, by decide +kernel⟩
theorem br_X8_text_18 : mx_brk cX8_text 18 (.ifCond .eq 14) 32 21 = true := by decide +kernel
theorem bk_X8_text_21 : mx_blk 8 cX8_text 21 [.inl (.aload 0)] 22 = true := by decide +kernel
theorem kc_X8_text_22 : mx_kV dm_X8_text 22 dm_X8_takesE 8 0 := ⟨237, by decide +kernel, md_X8_takesE, cv_X8_237, by decide, by decide +kernel⟩
theorem br_X8_text_25 : mx_brk cX8_text 25 (.ifCond .eq 7) 32 28 = true := by decide +kernel
theorem bk_X8_text_28 : mx_blk 8 cX8_text 28 [.inr (.int 1)] 29 = true := by decide +kernel
theorem gt_X8_text_29 : mx_jmp cX8_text 29 33 = true := by decide +kernel
theorem bk_X8_text_32 : mx_blk 8 cX8_text 32 [.inr (.int 0)] 33 = true := by decide +kernel
theorem bk_X8_text_33 : mx_blk 8 cX8_text 33 [.inl (.istore 1), .inl (.aload 0), .inr (.int 0), .inl (.putfield 520), .inl (.iload 1)] 40 = true := by decide +kernel
theorem br_X8_text_40 : mx_brk cX8_text 40 (.ifCond .ne 11) 51 43 = true := by decide +kernel
theorem bk_X8_text_43 : mx_blk 8 cX8_text 43 [.inr (.int (-100)), .inl (.aload 0), .inl (.getfield 522), .inl .isub] 50 = true := by decide +kernel
theorem rt_X8_text_50 : mx_kr dm_X8_text 50 .int := ⟨by decide +kernel, rfl⟩
theorem bk_X8_text_51 : mx_blk 8 cX8_text 51 [.inl (.aload 0), .inl (.getfield 512), .inr (.int 6), .inl .iaload, .inr (.int 14)] 60 = true := by decide +kernel
theorem br_X8_text_60 : mx_brk cX8_text 60 (.if_icmp .ne 6) 66 63 = true := by decide +kernel
theorem bk_X8_text_63 : mx_blk 8 cX8_text 63 [.inr (.int (-1000000003))] 65 = true := by decide +kernel
theorem rt_X8_text_65 : mx_kr dm_X8_text 65 .int := ⟨by decide +kernel, rfl⟩
theorem bk_X8_text_66 : mx_blk 8 cX8_text 66 [.inl (.aload 0), .inl (.getfield 512), .inr (.int 6), .inl .iaload, .inl (.istore 2), .inl (.aload 0), .inl (.getfield 512), .inr (.int 55), .inr (.int 2), .inl (.iload 2), .inl .imul, .inl .iadd, .inr (.int 1000), .inl (.aload 0), .inl (.getfield 526), .inl .imul, .inl (.aload 0), .inl (.getfield 530), .inl .iadd, .inl .iastore, .inl (.aload 0), .inl (.getfield 512), .inr (.int 55), .inr (.int 2), .inl (.iload 2), .inl .imul, .inl .iadd, .inr (.int 1), .inl .iadd, .inl (.aload 0), .inl (.getfield 531), .inl .iastore, .inr (.int 0), .inl (.istore 3)] 117 = true := by decide +kernel
theorem bk_X8_text_117 : mx_blk 8 cX8_text 117 [.inl (.iload 3), .inl (.aload 0), .inl (.getfield 530)] 122 = true := by decide +kernel
theorem br_X8_text_122 : mx_brk cX8_text 122 (.if_icmp .ge 29) 151 125 = true := by decide +kernel
theorem bk_X8_text_125 : mx_blk 8 cX8_text 125 [.inl (.aload 0), .inl (.getfield 512), .inr (.int 83), .inr (.int 96), .inl (.iload 2), .inl .imul, .inl .iadd, .inl (.iload 3), .inl .iadd, .inl (.aload 0), .inl (.getfield 529), .inl (.iload 3), .inl .iaload, .inl .iastore, .inl (.iinc 3 1)] 148 = true := by decide +kernel
theorem gt_X8_text_148 : mx_jmp cX8_text 148 117 = true := by decide +kernel
theorem bk_X8_text_151 : mx_blk 8 cX8_text 151 [.inl (.aload 0), .inl (.getfield 512), .inr (.int 6), .inl .dup2, .inl .iaload, .inr (.int 1), .inl .iadd, .inl .iastore, .inl (.iload 2)] 163 = true := by decide +kernel
theorem rt_X8_text_163 : mx_kr dm_X8_text 163 .int := ⟨by decide +kernel, rfl⟩
theorem bk_X8_textTold_0 : mx_blk 8 cX8_textTold 0 [.inl (.iload 1), .inr (.int 0), .inl (.aload 0), .inl (.getfield 512), .inr (.int 6), .inl .iaload, .inr (.int 1), .inl .isub] 11 = true := by decide +kernel
theorem kc_X8_textTold_11 : mx_kS dm_X8_textTold 11 dm_X8_in 3 := ⟨81, by decide +kernel, md_X8_in, cs_X8_81⟩
theorem br_X8_textTold_14 : mx_brk cX8_textTold 14 (.ifCond .eq 12) 26 17 = true := by decide +kernel
theorem bk_X8_textTold_17 : mx_blk 8 cX8_textTold 17 [.inl (.iload 2), .inr (.int 0), .inr (.int 1)] 20 = true := by decide +kernel
theorem kc_X8_textTold_20 : mx_kS dm_X8_textTold 20 dm_X8_in 3 := ⟨81, by decide +kernel, md_X8_in, cs_X8_81⟩
theorem br_X8_textTold_23 : mx_brk cX8_textTold 23 (.ifCond .ne 6) 29 26 = true := by decide +kernel
theorem bk_X8_textTold_26 : mx_blk 8 cX8_textTold 26 [.inr (.int (-1000000001))] 28 = true := by decide +kernel
theorem rt_X8_textTold_28 : mx_kr dm_X8_textTold 28 .int := ⟨by decide +kernel, rfl⟩
theorem bk_X8_textTold_29 : mx_blk 8 cX8_textTold 29 [.inl (.iload 2)] 30 = true := by decide +kernel
theorem br_X8_textTold_30 : mx_brk cX8_textTold 30 (.ifCond .ne 21) 51 33 = true := by decide +kernel
theorem bk_X8_textTold_33 : mx_blk 8 cX8_textTold 33 [.inl (.aload 0), .inl (.getfield 512), .inr (.int 55), .inr (.int 2), .inl (.iload 1), .inl .imul, .inl .iadd, .inl .iaload, .inr (.int 1000), .inl .idiv] 48 = true := by decide +kernel
theorem gt_X8_textTold_48 : mx_jmp cX8_textTold 48 64 = true := by decide +kernel
theorem bk_X8_textTold_51 : mx_blk 8 cX8_textTold 51 [.inl (.aload 0), .inl (.getfield 512), .inr (.int 55), .inr (.int 2), .inl (.iload 1), .inl .imul, .inl .iadd, .inr (.int 1), .inl .iadd, .inl .iaload] 64 = true := by decide +kernel
theorem rt_X8_textTold_64 : mx_kr dm_X8_textTold 64 .int := ⟨by decide +kernel, rfl⟩
theorem bk_X8_counts_0 : mx_blk 8 cX8_counts 0 [.inl (.aload 0), .inl (.getfield 512), .inr (.int 6), .inl .iaload, .inr (.int 1), .inl .isub, .inl (.istore 2)] 10 = true := by decide +kernel
theorem bk_X8_counts_10 : mx_blk 8 cX8_counts 10 [.inl (.iload 2)] 11 = true := by decide +kernel
theorem br_X8_counts_11 : mx_brk cX8_counts 11 (.ifCond .lt 30) 41 14 = true := by decide +kernel
theorem bk_X8_counts_14 : mx_blk 8 cX8_counts 14 [.inl (.aload 0), .inl (.getfield 512), .inr (.int 55), .inr (.int 2), .inl (.iload 2), .inl .imul, .inl .iadd, .inl .iaload, .inr (.int 1000), .inl .idiv, .inl (.iload 1)] 30 = true := by decide +kernel
theorem br_X8_counts_30 : mx_brk cX8_counts 30 (.if_icmp .ne 5) 35 33 = true := by decide +kernel
theorem bk_X8_counts_33 : mx_blk 8 cX8_counts 33 [.inl (.iload 2)] 34 = true := by decide +kernel
theorem rt_X8_counts_34 : mx_kr dm_X8_counts 34 .int := ⟨by decide +kernel, rfl⟩
theorem bk_X8_counts_35 : mx_blk 8 cX8_counts 35 [.inl (.iinc 2 (-1))] 38 = true := by decide +kernel
theorem gt_X8_counts_38 : mx_jmp cX8_counts 38 10 = true := by decide +kernel
theorem bk_X8_counts_41 : mx_blk 8 cX8_counts 41 [.inr (.int (-1))] 42 = true := by decide +kernel
theorem rt_X8_counts_42 : mx_kr dm_X8_counts 42 .int := ⟨by decide +kernel, rfl⟩
theorem bk_X8_why_0 : mx_blk 8 cX8_why 0 [.inl (.iload 1), .inr (.int 0), .inr (.int 2)] 3 = true := by decide +kernel
theorem kc_X8_why_3 : mx_kS dm_X8_why 3 dm_X8_in 3 := ⟨81, by decide +kernel, md_X8_in, cs_X8_81⟩
theorem br_X8_why_6 : mx_brk cX8_why 6 (.ifCond .ne 6) 12 9 = true := by decide +kernel
theorem bk_X8_why_9 : mx_blk 8 cX8_why 9 [.inr (.int (-1000000001))] 11 = true := by decide +kernel
theorem rt_X8_why_11 : mx_kr dm_X8_why 11 .int := ⟨by decide +kernel, rfl⟩
theorem bk_X8_why_12 : mx_blk 8 cX8_why 12 [.inl (.aload 0), .inl (.iload 1)] 14 = true := by decide +kernel
theorem kc_X8_why_14 : mx_kV dm_X8_why 14 dm_X8_counts 8 1 := ⟨109, by decide +kernel, md_X8_counts, cv_X8_109, by decide, by decide +kernel⟩
theorem bk_X8_why_17 : mx_blk 8 cX8_why 17 [.inl (.istore 2), .inl (.iload 2)] 19 = true := by decide +kernel
theorem br_X8_why_19 : mx_brk cX8_why 19 (.ifCond .ge 8) 27 22 = true := by decide +kernel
theorem bk_X8_why_22 : mx_blk 8 cX8_why 22 [.inr (.int (-1000000005))] 24 = true := by decide +kernel
theorem gt_X8_why_24 : mx_jmp cX8_why 24 28 = true := by decide +kernel
theorem bk_X8_why_27 : mx_blk 8 cX8_why 27 [.inl (.iload 2)] 28 = true := by decide +kernel
theorem rt_X8_why_28 : mx_kr dm_X8_why 28 .int := ⟨by decide +kernel, rfl⟩
theorem bk_X8_two_0 : mx_blk 8 cX8_two 0 [.inl (.iload 0)] 1 = true := by decide +kernel
theorem sw_X8_two_1 : mx_swk cX8_two 1 [(-8, 117), (-7, 113), (-6, 109), (-5, 98), (-4, 87), (-3, 76), (-2, 62), (-1, 48)] 121 = true := by decide +kernel
theorem bk_X8_two_48 : mx_blk 8 cX8_two 48 [.inl (.iload 1)] 49 = true := by decide +kernel
theorem br_X8_two_49 : mx_brk cX8_two 49 (.ifCond .ne 7) 56 52 = true := by decide +kernel
theorem bk_X8_two_52 : mx_blk 8 cX8_two 52 [.inl (.iload 2)] 53 = true := by decide +kernel
theorem br_X8_two_53 : mx_brk cX8_two 53 (.ifCond .eq 7) 60 56 = true := by decide +kernel
theorem bk_X8_two_56 : mx_blk 8 cX8_two 56 [.inr (.int 1)] 57 = true := by decide +kernel
theorem gt_X8_two_57 : mx_jmp cX8_two 57 61 = true := by decide +kernel
theorem bk_X8_two_60 : mx_blk 8 cX8_two 60 [.inr (.int 0)] 61 = true := by decide +kernel
theorem rt_X8_two_61 : mx_kr dm_X8_two 61 .int := ⟨by decide +kernel, rfl⟩
theorem bk_X8_two_62 : mx_blk 8 cX8_two 62 [.inl (.iload 1)] 63 = true := by decide +kernel
theorem br_X8_two_63 : mx_brk cX8_two 63 (.ifCond .eq 11) 74 66 = true := by decide +kernel
theorem bk_X8_two_66 : mx_blk 8 cX8_two 66 [.inl (.iload 2)] 67 = true := by decide +kernel
theorem br_X8_two_67 : mx_brk cX8_two 67 (.ifCond .eq 7) 74 70 = true := by decide +kernel
theorem bk_X8_two_70 : mx_blk 8 cX8_two 70 [.inr (.int 1)] 71 = true := by decide +kernel
theorem gt_X8_two_71 : mx_jmp cX8_two 71 75 = true := by decide +kernel
theorem bk_X8_two_74 : mx_blk 8 cX8_two 74 [.inr (.int 0)] 75 = true := by decide +kernel
theorem rt_X8_two_75 : mx_kr dm_X8_two 75 .int := ⟨by decide +kernel, rfl⟩
theorem bk_X8_two_76 : mx_blk 8 cX8_two 76 [.inl (.iload 1), .inl (.iload 2)] 78 = true := by decide +kernel
theorem br_X8_two_78 : mx_brk cX8_two 78 (.if_icmp .ge 7) 85 81 = true := by decide +kernel
theorem bk_X8_two_81 : mx_blk 8 cX8_two 81 [.inr (.int 1)] 82 = true := by decide +kernel
theorem gt_X8_two_82 : mx_jmp cX8_two 82 86 = true := by decide +kernel
theorem bk_X8_two_85 : mx_blk 8 cX8_two 85 [.inr (.int 0)] 86 = true := by decide +kernel
theorem rt_X8_two_86 : mx_kr dm_X8_two 86 .int := ⟨by decide +kernel, rfl⟩
theorem bk_X8_two_87 : mx_blk 8 cX8_two 87 [.inl (.iload 1), .inl (.iload 2)] 89 = true := by decide +kernel
theorem br_X8_two_89 : mx_brk cX8_two 89 (.if_icmp .ne 7) 96 92 = true := by decide +kernel
theorem bk_X8_two_92 : mx_blk 8 cX8_two 92 [.inr (.int 1)] 93 = true := by decide +kernel
theorem gt_X8_two_93 : mx_jmp cX8_two 93 97 = true := by decide +kernel
theorem bk_X8_two_96 : mx_blk 8 cX8_two 96 [.inr (.int 0)] 97 = true := by decide +kernel
theorem rt_X8_two_97 : mx_kr dm_X8_two 97 .int := ⟨by decide +kernel, rfl⟩
theorem bk_X8_two_98 : mx_blk 8 cX8_two 98 [.inl (.iload 1), .inl (.iload 2)] 100 = true := by decide +kernel
theorem br_X8_two_100 : mx_brk cX8_two 100 (.if_icmp .le 7) 107 103 = true := by decide +kernel
theorem bk_X8_two_103 : mx_blk 8 cX8_two 103 [.inr (.int 1)] 104 = true := by decide +kernel
theorem gt_X8_two_104 : mx_jmp cX8_two 104 108 = true := by decide +kernel
theorem bk_X8_two_107 : mx_blk 8 cX8_two 107 [.inr (.int 0)] 108 = true := by decide +kernel
theorem rt_X8_two_108 : mx_kr dm_X8_two 108 .int := ⟨by decide +kernel, rfl⟩
theorem bk_X8_two_109 : mx_blk 8 cX8_two 109 [.inl (.iload 1), .inl (.iload 2), .inl .iadd] 112 = true := by decide +kernel
theorem rt_X8_two_112 : mx_kr dm_X8_two 112 .int := ⟨by decide +kernel, rfl⟩
theorem bk_X8_two_113 : mx_blk 8 cX8_two 113 [.inl (.iload 1), .inl (.iload 2), .inl .isub] 116 = true := by decide +kernel
theorem rt_X8_two_116 : mx_kr dm_X8_two 116 .int := ⟨by decide +kernel, rfl⟩
theorem bk_X8_two_117 : mx_blk 8 cX8_two 117 [.inl (.iload 1), .inl (.iload 2), .inl .imul] 120 = true := by decide +kernel
theorem rt_X8_two_120 : mx_kr dm_X8_two 120 .int := ⟨by decide +kernel, rfl⟩
theorem bk_X8_two_121 : mx_blk 8 cX8_two 121 [.inl (.iload 2)] 122 = true := by decide +kernel
theorem br_X8_two_122 : mx_brk cX8_two 122 (.ifCond .ne 7) 129 125 = true := by decide +kernel
theorem bk_X8_two_125 : mx_blk 8 cX8_two 125 [.inr (.int 0)] 126 = true := by decide +kernel
theorem gt_X8_two_126 : mx_jmp cX8_two 126 132 = true := by decide +kernel
theorem bk_X8_two_129 : mx_blk 8 cX8_two 129 [.inl (.iload 1), .inl (.iload 2), .inl .idiv] 132 = true := by decide +kernel
theorem rt_X8_two_132 : mx_kr dm_X8_two 132 .int := ⟨by decide +kernel, rfl⟩
theorem bk_X8_worksOut_0 : mx_blk 8 cX8_worksOut 0 [.inr (.int 0), .inl (.istore 2), .inl (.aload 0), .inl (.getfield 512), .inr (.int 55), .inr (.int 2), .inl (.iload 1), .inl .imul, .inl .iadd, .inl .iaload, .inr (.int 1000), .inl .irem, .inl (.istore 3), .inr (.int 0), .inl (.istore 4)] 21 = true := by decide +kernel
theorem bk_X8_worksOut_21 : mx_blk 8 cX8_worksOut 21 [.inl (.iload 4), .inl (.iload 3)] 24 = true := by decide +kernel
theorem br_X8_worksOut_24 : mx_brk cX8_worksOut 24 (.if_icmp .ge 131) 155 27 = true := by decide +kernel
theorem bk_X8_worksOut_27 : mx_blk 8 cX8_worksOut 27 [.inl (.aload 0), .inl (.getfield 512), .inr (.int 83), .inr (.int 96), .inl (.iload 1), .inl .imul, .inl .iadd, .inl (.iload 4), .inl .iadd, .inl .iaload, .inl (.istore 5), .inl (.iload 5)] 46 = true := by decide +kernel
theorem br_X8_worksOut_46 : mx_brk cX8_worksOut 46 (.ifCond .lt 39) 85 49 = true := by decide +kernel
theorem bk_X8_worksOut_49 : mx_blk 8 cX8_worksOut 49 [.inl (.aload 0), .inl (.getfield 535), .inl (.iload 2), .inl (.iload 5), .inr (.int 10000)] 59 = true := by decide +kernel
theorem br_X8_worksOut_59 : mx_brk cX8_worksOut 59 (.if_icmp .ge 8) 67 62 = true := by decide +kernel
theorem bk_X8_worksOut_62 : mx_blk 8 cX8_worksOut 62 [.inl (.iload 5)] 64 = true := by decide +kernel
theorem gt_X8_worksOut_64 : mx_jmp cX8_worksOut 64 78 = true := by decide +kernel
theorem bk_X8_worksOut_67 : mx_blk 8 cX8_worksOut 67 [.inl (.aload 0), .inl (.getfield 536), .inl (.iload 5), .inr (.int 10000), .inl .isub, .inl .iaload] 78 = true := by decide +kernel
theorem bk_X8_worksOut_78 : mx_blk 8 cX8_worksOut 78 [.inl .iastore, .inl (.iinc 2 1)] 82 = true := by decide +kernel
theorem gt_X8_worksOut_82 : mx_jmp cX8_worksOut 82 149 = true := by decide +kernel
theorem bk_X8_worksOut_85 : mx_blk 8 cX8_worksOut 85 [.inl (.iload 5), .inr (.int (-10))] 89 = true := by decide +kernel
theorem br_X8_worksOut_89 : mx_brk cX8_worksOut 89 (.if_icmp .ne 30) 119 92 = true := by decide +kernel
theorem bk_X8_worksOut_92 : mx_blk 8 cX8_worksOut 92 [.inl (.aload 0), .inl (.getfield 535), .inl (.iload 2), .inr (.int 1), .inl .isub, .inl (.aload 0), .inl (.getfield 535), .inl (.iload 2), .inr (.int 1), .inl .isub, .inl .iaload] 107 = true := by decide +kernel
theorem br_X8_worksOut_107 : mx_brk cX8_worksOut 107 (.ifCond .ne 7) 114 110 = true := by decide +kernel
theorem bk_X8_worksOut_110 : mx_blk 8 cX8_worksOut 110 [.inr (.int 1)] 111 = true := by decide +kernel
theorem gt_X8_worksOut_111 : mx_jmp cX8_worksOut 111 115 = true := by decide +kernel
theorem bk_X8_worksOut_114 : mx_blk 8 cX8_worksOut 114 [.inr (.int 0)] 115 = true := by decide +kernel
theorem bk_X8_worksOut_115 : mx_blk 8 cX8_worksOut 115 [.inl .iastore] 116 = true := by decide +kernel
theorem gt_X8_worksOut_116 : mx_jmp cX8_worksOut 116 149 = true := by decide +kernel
theorem bk_X8_worksOut_119 : mx_blk 8 cX8_worksOut 119 [.inl (.iinc 2 (-1)), .inl (.aload 0), .inl (.getfield 535), .inl (.iload 2), .inr (.int 1), .inl .isub, .inl (.iload 5), .inl (.aload 0), .inl (.getfield 535), .inl (.iload 2), .inr (.int 1), .inl .isub, .inl .iaload, .inl (.aload 0), .inl (.getfield 535), .inl (.iload 2), .inl .iaload] 145 = true := by decide +kernel
theorem kc_X8_worksOut_145 : mx_kS dm_X8_worksOut 145 dm_X8_two 3 := ⟨240, by decide +kernel, md_X8_two, cs_X8_240⟩
theorem bk_X8_worksOut_148 : mx_blk 8 cX8_worksOut 148 [.inl .iastore] 149 = true := by decide +kernel
theorem bk_X8_worksOut_149 : mx_blk 8 cX8_worksOut 149 [.inl (.iinc 4 1)] 152 = true := by decide +kernel
theorem gt_X8_worksOut_152 : mx_jmp cX8_worksOut 152 21 = true := by decide +kernel
theorem bk_X8_worksOut_155 : mx_blk 8 cX8_worksOut 155 [.inl (.aload 0), .inl (.getfield 535), .inr (.int 0), .inl .iaload] 161 = true := by decide +kernel
theorem rt_X8_worksOut_161 : mx_kr dm_X8_worksOut 161 .int := ⟨by decide +kernel, rfl⟩
theorem bk_X8_isSheet_0 : mx_blk 8 cX8_isSheet 0 [.inl (.iload 0), .inr (.int 0), .inr (.int 3)] 3 = true := by decide +kernel
theorem kc_X8_isSheet_3 : mx_kS dm_X8_isSheet 3 dm_X8_in 3 := ⟨81, by decide +kernel, md_X8_in, cs_X8_81⟩
theorem rt_X8_isSheet_6 : mx_kr dm_X8_isSheet 6 .boolean := ⟨by decide +kernel, rfl⟩
theorem bk_X8_isSlot_0 : mx_blk 8 cX8_isSlot 0 [.inl (.iload 0), .inr (.int 0), .inr (.int 4)] 3 = true := by decide +kernel
theorem kc_X8_isSlot_3 : mx_kS dm_X8_isSlot 3 dm_X8_in 3 := ⟨81, by decide +kernel, md_X8_in, cs_X8_81⟩
theorem rt_X8_isSlot_6 : mx_kr dm_X8_isSlot 6 .boolean := ⟨by decide +kernel, rfl⟩
theorem bk_X8_sheet_0 : mx_blk 8 cX8_sheet 0 [.inl (.iload 1)] 1 = true := by decide +kernel
theorem kc_X8_sheet_1 : mx_kS dm_X8_sheet 1 dm_X8_isSheet 1 := ⟨164, by decide +kernel, md_X8_isSheet, cs_X8_164⟩
theorem br_X8_sheet_4 : mx_brk cX8_sheet 4 (.ifCond .eq 22) 26 7 = true := by decide +kernel
theorem bk_X8_sheet_7 : mx_blk 8 cX8_sheet 7 [.inl (.iload 2), .inr (.int (-1)), .inr (.int 1)] 10 = true := by decide +kernel
theorem kc_X8_sheet_10 : mx_kS dm_X8_sheet 10 dm_X8_in 3 := ⟨81, by decide +kernel, md_X8_in, cs_X8_81⟩
theorem br_X8_sheet_13 : mx_brk cX8_sheet 13 (.ifCond .eq 13) 26 16 = true := by decide +kernel
theorem bk_X8_sheet_16 : mx_blk 8 cX8_sheet 16 [.inl (.iload 2)] 17 = true := by decide +kernel
theorem br_X8_sheet_17 : mx_brk cX8_sheet 17 (.ifCond .lt 12) 29 20 = true := by decide +kernel
theorem bk_X8_sheet_20 : mx_blk 8 cX8_sheet 20 [.inl (.iload 3), .inr (.int 24)] 23 = true := by decide +kernel
theorem br_X8_sheet_23 : mx_brk cX8_sheet 23 (.if_icmp .le 6) 29 26 = true := by decide +kernel
theorem bk_X8_sheet_26 : mx_blk 8 cX8_sheet 26 [.inr (.int (-1000000001))] 28 = true := by decide +kernel
theorem rt_X8_sheet_28 : mx_kr dm_X8_sheet 28 .int := ⟨by decide +kernel, rfl⟩
theorem bk_X8_sheet_29 : mx_blk 8 cX8_sheet 29 [.inl (.iload 2)] 30 = true := by decide +kernel
theorem br_X8_sheet_30 : mx_brk cX8_sheet 30 (.ifCond .lt 10) 40 33 = true := by decide +kernel
theorem bk_X8_sheet_33 : mx_blk 8 cX8_sheet 33 [.inl (.iload 3)] 34 = true := by decide +kernel
theorem br_X8_sheet_34 : mx_brk cX8_sheet 34 (.ifCond .ge 6) 40 37 = true := by decide +kernel
theorem bk_X8_sheet_37 : mx_blk 8 cX8_sheet 37 [.inr (.int (-1000000014))] 39 = true := by decide +kernel
theorem rt_X8_sheet_39 : mx_kr dm_X8_sheet 39 .int := ⟨by decide +kernel, rfl⟩
theorem bk_X8_sheet_40 : mx_blk 8 cX8_sheet 40 [.inl (.aload 0), .inl (.getfield 537), .inl (.iload 1), .inl (.iload 2), .inl .iastore, .inl (.aload 0), .inl (.getfield 538), .inl (.iload 1), .inl (.iload 2)] 53 = true := by decide +kernel
theorem br_X8_sheet_53 : mx_brk cX8_sheet 53 (.ifCond .ge 7) 60 56 = true := by decide +kernel
theorem bk_X8_sheet_56 : mx_blk 8 cX8_sheet 56 [.inr (.int 0)] 57 = true := by decide +kernel
theorem gt_X8_sheet_57 : mx_jmp cX8_sheet 57 61 = true := by decide +kernel
theorem bk_X8_sheet_60 : mx_blk 8 cX8_sheet 60 [.inl (.iload 3)] 61 = true := by decide +kernel
theorem bk_X8_sheet_61 : mx_blk 8 cX8_sheet 61 [.inl .iastore, .inr (.int 0), .inl (.istore 4)] 65 = true := by decide +kernel
theorem bk_X8_sheet_65 : mx_blk 8 cX8_sheet 65 [.inl (.iload 4), .inr (.int 24)] 69 = true := by decide +kernel
theorem br_X8_sheet_69 : mx_brk cX8_sheet 69 (.if_icmp .ge 22) 91 72 = true := by decide +kernel
theorem bk_X8_sheet_72 : mx_blk 8 cX8_sheet 72 [.inl (.aload 0), .inl (.getfield 539), .inr (.int 24), .inl (.iload 1), .inl .imul, .inl (.iload 4), .inl .iadd, .inr (.int 0), .inl .iastore, .inl (.iinc 4 1)] 88 = true := by decide +kernel
theorem gt_X8_sheet_88 : mx_jmp cX8_sheet 88 65 = true := by decide +kernel
theorem bk_X8_sheet_91 : mx_blk 8 cX8_sheet 91 [.inl (.aload 0), .inl (.getfield 538), .inl (.iload 1), .inl .iaload] 97 = true := by decide +kernel
theorem rt_X8_sheet_97 : mx_kr dm_X8_sheet 97 .int := ⟨by decide +kernel, rfl⟩
theorem bk_X8_mark_0 : mx_blk 8 cX8_mark 0 [.inl (.iload 1)] 1 = true := by decide +kernel
theorem kc_X8_mark_1 : mx_kS dm_X8_mark 1 dm_X8_isSheet 1 := ⟨164, by decide +kernel, md_X8_isSheet, cs_X8_164⟩
theorem br_X8_mark_4 : mx_brk cX8_mark 4 (.ifCond .ne 6) 10 7 = true := by decide +kernel
theorem bk_X8_mark_7 : mx_blk 8 cX8_mark 7 [.inr (.int (-1000000001))] 9 = true := by decide +kernel
theorem rt_X8_mark_9 : mx_kr dm_X8_mark 9 .int := ⟨by decide +kernel, rfl⟩
theorem bk_X8_mark_10 : mx_blk 8 cX8_mark 10 [.inl (.aload 0), .inl (.getfield 537), .inl (.iload 1), .inl .iaload] 16 = true := by decide +kernel
theorem br_X8_mark_16 : mx_brk cX8_mark 16 (.ifCond .ge 6) 22 19 = true := by decide +kernel
theorem bk_X8_mark_19 : mx_blk 8 cX8_mark 19 [.inr (.int (-1000000011))] 21 = true := by decide +kernel
theorem rt_X8_mark_21 : mx_kr dm_X8_mark 21 .int := ⟨by decide +kernel, rfl⟩
theorem bk_X8_mark_22 : mx_blk 8 cX8_mark 22 [.inl (.iload 2), .inr (.int 0), .inl (.aload 0), .inl (.getfield 538), .inl (.iload 1), .inl .iaload, .inr (.int 1), .inl .isub] 32 = true := by decide +kernel
theorem kc_X8_mark_32 : mx_kS dm_X8_mark 32 dm_X8_in 3 := ⟨81, by decide +kernel, md_X8_in, cs_X8_81⟩
theorem br_X8_mark_35 : mx_brk cX8_mark 35 (.ifCond .ne 6) 41 38 = true := by decide +kernel
theorem bk_X8_mark_38 : mx_blk 8 cX8_mark 38 [.inr (.int (-1000000013))] 40 = true := by decide +kernel
theorem rt_X8_mark_40 : mx_kr dm_X8_mark 40 .int := ⟨by decide +kernel, rfl⟩
theorem bk_X8_mark_41 : mx_blk 8 cX8_mark 41 [.inl (.aload 0), .inl (.getfield 537), .inl (.iload 1), .inl .iaload] 47 = true := by decide +kernel
theorem br_X8_mark_47 : mx_brk cX8_mark 47 (.ifCond .ne 12) 59 50 = true := by decide +kernel
theorem bk_X8_mark_50 : mx_blk 8 cX8_mark 50 [.inl (.iload 3), .inr (.int (-1000000005))] 53 = true := by decide +kernel
theorem br_X8_mark_53 : mx_brk cX8_mark 53 (.if_icmp .ne 6) 59 56 = true := by decide +kernel
theorem bk_X8_mark_56 : mx_blk 8 cX8_mark 56 [.inr (.int (-1000000012))] 58 = true := by decide +kernel
theorem rt_X8_mark_58 : mx_kr dm_X8_mark 58 .int := ⟨by decide +kernel, rfl⟩
theorem bk_X8_mark_59 : mx_blk 8 cX8_mark 59 [.inl (.aload 0), .inl (.getfield 537), .inl (.iload 1), .inl .iaload, .inr (.int 1)] 66 = true := by decide +kernel
theorem br_X8_mark_66 : mx_brk cX8_mark 66 (.if_icmp .ne 23) 89 69 = true := by decide +kernel
theorem bk_X8_mark_69 : mx_blk 8 cX8_mark 69 [.inl (.iload 3), .inr (.int (-1000000005))] 72 = true := by decide +kernel
theorem br_X8_mark_72 : mx_brk cX8_mark 72 (.if_icmp .eq 17) 89 75 = true := by decide +kernel
theorem bk_X8_mark_75 : mx_blk 8 cX8_mark 75 [.inl (.iload 3), .inr (.int (-99999)), .inr (.int 99999)] 80 = true := by decide +kernel
theorem kc_X8_mark_80 : mx_kS dm_X8_mark 80 dm_X8_in 3 := ⟨81, by decide +kernel, md_X8_in, cs_X8_81⟩
theorem br_X8_mark_83 : mx_brk cX8_mark 83 (.ifCond .ne 6) 89 86 = true := by decide +kernel
theorem bk_X8_mark_86 : mx_blk 8 cX8_mark 86 [.inr (.int (-1000000001))] 88 = true := by decide +kernel
theorem rt_X8_mark_88 : mx_kr dm_X8_mark 88 .int := ⟨by decide +kernel, rfl⟩
theorem bk_X8_mark_89 : mx_blk 8 cX8_mark 89 [.inl (.aload 0), .inl (.getfield 539), .inr (.int 24), .inl (.iload 1), .inl .imul, .inl (.iload 2), .inl .iadd, .inl (.aload 0), .inl (.getfield 537), .inl (.iload 1), .inl .iaload] 105 = true := by decide +kernel
theorem br_X8_mark_105 : mx_brk cX8_mark 105 (.ifCond .ne 8) 113 108 = true := by decide +kernel
theorem bk_X8_mark_108 : mx_blk 8 cX8_mark 108 [.inl (.iload 3), .inl .i2s] 110 = true := by decide +kernel
theorem gt_X8_mark_110 : mx_jmp cX8_mark 110 114 = true := by decide +kernel
theorem bk_X8_mark_113 : mx_blk 8 cX8_mark 113 [.inl (.iload 3)] 114 = true := by decide +kernel
theorem bk_X8_mark_114 : mx_blk 8 cX8_mark 114 [.inl .iastore, .inr (.int 1)] 116 = true := by decide +kernel
theorem rt_X8_mark_116 : mx_kr dm_X8_mark 116 .int := ⟨by decide +kernel, rfl⟩
theorem bk_X8_pour_0 : mx_blk 8 cX8_pour 0 [.inl (.iload 1)] 1 = true := by decide +kernel
theorem kc_X8_pour_1 : mx_kS dm_X8_pour 1 dm_X8_isSheet 1 := ⟨164, by decide +kernel, md_X8_isSheet, cs_X8_164⟩
theorem br_X8_pour_4 : mx_brk cX8_pour 4 (.ifCond .ne 6) 10 7 = true := by decide +kernel
theorem bk_X8_pour_7 : mx_blk 8 cX8_pour 7 [.inr (.int (-1000000001))] 9 = true := by decide +kernel
theorem rt_X8_pour_9 : mx_kr dm_X8_pour 9 .int := ⟨by decide +kernel, rfl⟩
theorem bk_X8_pour_10 : mx_blk 8 cX8_pour 10 [.inl (.aload 0), .inl (.getfield 537), .inl (.iload 1), .inl .iaload] 16 = true := by decide +kernel
theorem br_X8_pour_16 : mx_brk cX8_pour 16 (.ifCond .ge 6) 22 19 = true := by decide +kernel
theorem bk_X8_pour_19 : mx_blk 8 cX8_pour 19 [.inr (.int (-1000000011))] 21 = true := by decide +kernel
theorem rt_X8_pour_21 : mx_kr dm_X8_pour 21 .int := ⟨by decide +kernel, rfl⟩
theorem bk_X8_pour_22 : mx_blk 8 cX8_pour 22 [.inr (.int 0), .inl (.istore 2), .inr (.int 0), .inl (.istore 3)] 26 = true := by decide +kernel
theorem bk_X8_pour_26 : mx_blk 8 cX8_pour 26 [.inl (.iload 3), .inl (.aload 0), .inl (.getfield 538), .inl (.iload 1), .inl .iaload] 33 = true := by decide +kernel
theorem br_X8_pour_33 : mx_brk cX8_pour 33 (.if_icmp .ge 86) 119 36 = true := by decide +kernel
theorem bk_X8_pour_36 : mx_blk 8 cX8_pour 36 [.inl (.iload 3), .inl (.aload 0), .inl (.getfield 512), .inr (.int 1), .inl .iaload] 43 = true := by decide +kernel
theorem br_X8_pour_43 : mx_brk cX8_pour 43 (.if_icmp .ge 76) 119 46 = true := by decide +kernel
theorem bk_X8_pour_46 : mx_blk 8 cX8_pour 46 [.inl (.aload 0), .inl (.getfield 539), .inr (.int 24), .inl (.iload 1), .inl .imul, .inl (.iload 3), .inl .iadd, .inl .iaload, .inl (.istore 4), .inl (.iload 4), .inr (.int (-1000000005))] 63 = true := by decide +kernel
theorem br_X8_pour_63 : mx_brk cX8_pour 63 (.if_icmp .ne 12) 75 66 = true := by decide +kernel
theorem bk_X8_pour_66 : mx_blk 8 cX8_pour 66 [.inl (.aload 0), .inl (.iload 3), .inr (.int 1)] 69 = true := by decide +kernel
theorem kc_X8_pour_69 : mx_kV dm_X8_pour 69 dm_X8_of 8 2 := ⟨95, by decide +kernel, md_X8_of, cv_X8_95, by decide, by decide +kernel⟩
theorem gt_X8_pour_72 : mx_jmp cX8_pour 72 83 = true := by decide +kernel
theorem bk_X8_pour_75 : mx_blk 8 cX8_pour 75 [.inl (.iload 4), .inr (.int 0), .inr (.int 9)] 80 = true := by decide +kernel
theorem kc_X8_pour_80 : mx_kS dm_X8_pour 80 dm_X8_within 3 := ⟨115, by decide +kernel, md_X8_within, cs_X8_115⟩
theorem bk_X8_pour_83 : mx_blk 8 cX8_pour 83 [.inl (.istore 5), .inl (.iload 2), .inl (.aload 0), .inr (.int 7), .inr (.int 8), .inl (.iload 3), .inl .imul, .inl .iadd, .inr (.int 1), .inl .iadd, .inl (.iload 5)] 98 = true := by decide +kernel
theorem kc_X8_pour_98 : mx_kV dm_X8_pour 98 dm_X8_becomes 8 2 := ⟨127, by decide +kernel, md_X8_becomes, cv_X8_127, by decide, by decide +kernel⟩
theorem bk_X8_pour_101 : mx_blk 8 cX8_pour 101 [.inl (.iload 5)] 103 = true := by decide +kernel
theorem br_X8_pour_103 : mx_brk cX8_pour 103 (.if_icmp .ne 7) 110 106 = true := by decide +kernel
theorem bk_X8_pour_106 : mx_blk 8 cX8_pour 106 [.inr (.int 0)] 107 = true := by decide +kernel
theorem gt_X8_pour_107 : mx_jmp cX8_pour 107 111 = true := by decide +kernel
theorem bk_X8_pour_110 : mx_blk 8 cX8_pour 110 [.inr (.int 1)] 111 = true := by decide +kernel
theorem bk_X8_pour_111 : mx_blk 8 cX8_pour 111 [.inl .iadd, .inl (.istore 2), .inl (.iinc 3 1)] 116 = true := by decide +kernel
theorem gt_X8_pour_116 : mx_jmp cX8_pour 116 26 = true := by decide +kernel
theorem bk_X8_pour_119 : mx_blk 8 cX8_pour 119 [.inl (.iload 2)] 120 = true := by decide +kernel
theorem rt_X8_pour_120 : mx_kr dm_X8_pour 120 .int := ⟨by decide +kernel, rfl⟩
theorem bk_X8_reads_0 : mx_blk 8 cX8_reads 0 [.inl (.iload 1)] 1 = true := by decide +kernel
theorem kc_X8_reads_1 : mx_kS dm_X8_reads 1 dm_X8_isSheet 1 := ⟨164, by decide +kernel, md_X8_isSheet, cs_X8_164⟩
theorem br_X8_reads_4 : mx_brk cX8_reads 4 (.ifCond .eq 11) 15 7 = true := by decide +kernel
theorem bk_X8_reads_7 : mx_blk 8 cX8_reads 7 [.inl (.aload 0), .inl (.iload 2)] 9 = true := by decide +kernel
theorem kc_X8_reads_9 : mx_kV dm_X8_reads 9 dm_X8_isDistrict 8 1 := ⟨98, by decide +kernel, md_X8_isDistrict, cv_X8_98, by decide, by decide +kernel⟩
theorem br_X8_reads_12 : mx_brk cX8_reads 12 (.ifCond .ne 6) 18 15 = true := by decide +kernel
theorem bk_X8_reads_15 : mx_blk 8 cX8_reads 15 [.inr (.int (-1000000001))] 17 = true := by decide +kernel
theorem rt_X8_reads_17 : mx_kr dm_X8_reads 17 .int := ⟨by decide +kernel, rfl⟩
theorem bk_X8_reads_18 : mx_blk 8 cX8_reads 18 [.inl (.aload 0), .inl (.getfield 537), .inl (.iload 1), .inl .iaload] 24 = true := by decide +kernel
theorem br_X8_reads_24 : mx_brk cX8_reads 24 (.ifCond .ge 6) 30 27 = true := by decide +kernel
theorem bk_X8_reads_27 : mx_blk 8 cX8_reads 27 [.inr (.int (-1000000011))] 29 = true := by decide +kernel
theorem rt_X8_reads_29 : mx_kr dm_X8_reads 29 .int := ⟨by decide +kernel, rfl⟩
theorem bk_X8_reads_30 : mx_blk 8 cX8_reads 30 [.inl (.aload 0)] 31 = true := by decide +kernel
theorem kc_X8_reads_31 : mx_kV dm_X8_reads 31 dm_X8_thinks 8 0 := ⟨154, by decide +kernel, md_X8_thinks, cv_X8_154, by decide, by decide +kernel⟩
theorem bk_X8_reads_34 : mx_blk 8 cX8_reads 34 [.inr (.int (-1000000005)), .inl (.istore 3), .inr (.int 0), .inl (.istore 4)] 40 = true := by decide +kernel
theorem bk_X8_reads_40 : mx_blk 8 cX8_reads 40 [.inl (.iload 4), .inl (.aload 0), .inl (.getfield 538), .inl (.iload 1), .inl .iaload] 48 = true := by decide +kernel
theorem br_X8_reads_48 : mx_brk cX8_reads 48 (.if_icmp .ge 61) 109 51 = true := by decide +kernel
theorem bk_X8_reads_51 : mx_blk 8 cX8_reads 51 [.inl (.iload 3), .inr (.int (-1000000005))] 54 = true := by decide +kernel
theorem br_X8_reads_54 : mx_brk cX8_reads 54 (.if_icmp .ne 55) 109 57 = true := by decide +kernel
theorem bk_X8_reads_57 : mx_blk 8 cX8_reads 57 [.inl (.aload 0), .inl (.getfield 539), .inr (.int 24), .inl (.iload 1), .inl .imul, .inl (.iload 4), .inl .iadd, .inl .iaload, .inl (.istore 5), .inl (.iload 5), .inr (.int (-1000000005))] 75 = true := by decide +kernel
theorem br_X8_reads_75 : mx_brk cX8_reads 75 (.if_icmp .eq 19) 94 78 = true := by decide +kernel
theorem bk_X8_reads_78 : mx_blk 8 cX8_reads 78 [.inl (.iload 5), .inl (.aload 0), .inl (.iload 2), .inr (.int 4)] 83 = true := by decide +kernel
theorem kc_X8_reads_83 : mx_kV dm_X8_reads 83 dm_X8_of 8 2 := ⟨95, by decide +kernel, md_X8_of, cv_X8_95, by decide, by decide +kernel⟩
theorem br_X8_reads_86 : mx_brk cX8_reads 86 (.if_icmp .eq 8) 94 89 = true := by decide +kernel
theorem bk_X8_reads_89 : mx_blk 8 cX8_reads 89 [.inl (.iload 4)] 91 = true := by decide +kernel
theorem gt_X8_reads_91 : mx_jmp cX8_reads 91 96 = true := by decide +kernel
theorem bk_X8_reads_94 : mx_blk 8 cX8_reads 94 [.inr (.int (-1000000005))] 96 = true := by decide +kernel
theorem bk_X8_reads_96 : mx_blk 8 cX8_reads 96 [.inl (.istore 3), .inl (.aload 0)] 98 = true := by decide +kernel
theorem kc_X8_reads_98 : mx_kV dm_X8_reads 98 dm_X8_day 8 0 := ⟨148, by decide +kernel, md_X8_day, cv_X8_148, by decide, by decide +kernel⟩
theorem bk_X8_reads_101 : mx_blk 8 cX8_reads 101 [.inl (.istore 6), .inl (.iinc 4 1)] 106 = true := by decide +kernel
theorem gt_X8_reads_106 : mx_jmp cX8_reads 106 40 = true := by decide +kernel
theorem bk_X8_reads_109 : mx_blk 8 cX8_reads 109 [.inl (.aload 0)] 110 = true := by decide +kernel
theorem kc_X8_reads_110 : mx_kV dm_X8_reads 110 dm_X8_putsBack 8 0 := ⟨157, by decide +kernel, md_X8_putsBack, cv_X8_157, by decide, by decide +kernel⟩
theorem bk_X8_reads_113 : mx_blk 8 cX8_reads 113 [.inl (.iload 3)] 114 = true := by decide +kernel
theorem rt_X8_reads_114 : mx_kr dm_X8_reads 114 .int := ⟨by decide +kernel, rfl⟩
theorem bk_X8_copy_0 : mx_blk 8 cX8_copy 0 [.inl (.iload 1)] 1 = true := by decide +kernel
theorem kc_X8_copy_1 : mx_kS dm_X8_copy 1 dm_X8_isSheet 1 := ⟨164, by decide +kernel, md_X8_isSheet, cs_X8_164⟩
theorem br_X8_copy_4 : mx_brk cX8_copy 4 (.ifCond .eq 10) 14 7 = true := by decide +kernel
theorem bk_X8_copy_7 : mx_blk 8 cX8_copy 7 [.inl (.iload 3)] 8 = true := by decide +kernel
theorem kc_X8_copy_8 : mx_kS dm_X8_copy 8 dm_X8_isSheet 1 := ⟨164, by decide +kernel, md_X8_isSheet, cs_X8_164⟩
theorem br_X8_copy_11 : mx_brk cX8_copy 11 (.ifCond .ne 6) 17 14 = true := by decide +kernel
theorem bk_X8_copy_14 : mx_blk 8 cX8_copy 14 [.inr (.int (-1000000001))] 16 = true := by decide +kernel
theorem rt_X8_copy_16 : mx_kr dm_X8_copy 16 .int := ⟨by decide +kernel, rfl⟩
theorem bk_X8_copy_17 : mx_blk 8 cX8_copy 17 [.inl (.aload 0), .inl (.getfield 537), .inl (.iload 1), .inl .iaload] 23 = true := by decide +kernel
theorem br_X8_copy_23 : mx_brk cX8_copy 23 (.ifCond .lt 12) 35 26 = true := by decide +kernel
theorem bk_X8_copy_26 : mx_blk 8 cX8_copy 26 [.inl (.aload 0), .inl (.getfield 537), .inl (.iload 3), .inl .iaload] 32 = true := by decide +kernel
theorem br_X8_copy_32 : mx_brk cX8_copy 32 (.ifCond .ge 6) 38 35 = true := by decide +kernel
theorem bk_X8_copy_35 : mx_blk 8 cX8_copy 35 [.inr (.int (-1000000011))] 37 = true := by decide +kernel
theorem rt_X8_copy_37 : mx_kr dm_X8_copy 37 .int := ⟨by decide +kernel, rfl⟩
theorem bk_X8_copy_38 : mx_blk 8 cX8_copy 38 [.inl (.aload 0), .inl (.getfield 537), .inl (.iload 1), .inl .iaload, .inl (.aload 0), .inl (.getfield 537), .inl (.iload 3), .inl .iaload] 50 = true := by decide +kernel
theorem br_X8_copy_50 : mx_brk cX8_copy 50 (.if_icmp .eq 6) 56 53 = true := by decide +kernel
theorem bk_X8_copy_53 : mx_blk 8 cX8_copy 53 [.inr (.int (-1000000012))] 55 = true := by decide +kernel
theorem rt_X8_copy_55 : mx_kr dm_X8_copy 55 .int := ⟨by decide +kernel, rfl⟩
theorem bk_X8_copy_56 : mx_blk 8 cX8_copy 56 [.inl (.iload 2)] 57 = true := by decide +kernel
theorem br_X8_copy_57 : mx_brk cX8_copy 57 (.ifCond .lt 40) 97 60 = true := by decide +kernel
theorem bk_X8_copy_60 : mx_blk 8 cX8_copy 60 [.inl (.iload 4)] 62 = true := by decide +kernel
theorem br_X8_copy_62 : mx_brk cX8_copy 62 (.ifCond .lt 35) 97 65 = true := by decide +kernel
theorem bk_X8_copy_65 : mx_blk 8 cX8_copy 65 [.inl (.iload 5)] 67 = true := by decide +kernel
theorem br_X8_copy_67 : mx_brk cX8_copy 67 (.ifCond .lt 30) 97 70 = true := by decide +kernel
theorem bk_X8_copy_70 : mx_blk 8 cX8_copy 70 [.inl (.iload 2), .inl (.aload 0), .inl (.getfield 538), .inl (.iload 1), .inl .iaload, .inl (.iload 5), .inl .isub] 80 = true := by decide +kernel
theorem br_X8_copy_80 : mx_brk cX8_copy 80 (.if_icmp .gt 17) 97 83 = true := by decide +kernel
theorem bk_X8_copy_83 : mx_blk 8 cX8_copy 83 [.inl (.iload 4), .inl (.aload 0), .inl (.getfield 538), .inl (.iload 3), .inl .iaload, .inl (.iload 5), .inl .isub] 94 = true := by decide +kernel
theorem br_X8_copy_94 : mx_brk cX8_copy 94 (.if_icmp .le 6) 100 97 = true := by decide +kernel
theorem bk_X8_copy_97 : mx_blk 8 cX8_copy 97 [.inr (.int (-1000000013))] 99 = true := by decide +kernel
theorem rt_X8_copy_99 : mx_kr dm_X8_copy 99 .int := ⟨by decide +kernel, rfl⟩
theorem bk_X8_copy_100 : mx_blk 8 cX8_copy 100 [.inr (.int 0), .inl (.istore 6)] 103 = true := by decide +kernel
theorem bk_X8_copy_103 : mx_blk 8 cX8_copy 103 [.inl (.iload 6), .inl (.iload 5)] 107 = true := by decide +kernel
theorem br_X8_copy_107 : mx_brk cX8_copy 107 (.if_icmp .ge 30) 137 110 = true := by decide +kernel
theorem bk_X8_copy_110 : mx_blk 8 cX8_copy 110 [.inl (.aload 0), .inl (.getfield 544), .inl (.iload 6), .inl (.aload 0), .inl (.getfield 539), .inr (.int 24), .inl (.iload 1), .inl .imul, .inl (.iload 2), .inl .iadd, .inl (.iload 6), .inl .iadd, .inl .iaload, .inl .iastore, .inl (.iinc 6 1)] 134 = true := by decide +kernel
theorem gt_X8_copy_134 : mx_jmp cX8_copy 134 103 = true := by decide +kernel
theorem bk_X8_copy_137 : mx_blk 8 cX8_copy 137 [.inr (.int 0), .inl (.istore 6)] 140 = true := by decide +kernel
theorem bk_X8_copy_140 : mx_blk 8 cX8_copy 140 [.inl (.iload 6), .inl (.iload 5)] 144 = true := by decide +kernel
theorem br_X8_copy_144 : mx_brk cX8_copy 144 (.if_icmp .ge 31) 175 147 = true := by decide +kernel
theorem bk_X8_copy_147 : mx_blk 8 cX8_copy 147 [.inl (.aload 0), .inl (.getfield 539), .inr (.int 24), .inl (.iload 3), .inl .imul, .inl (.iload 4), .inl .iadd, .inl (.iload 6), .inl .iadd, .inl (.aload 0), .inl (.getfield 544), .inl (.iload 6), .inl .iaload, .inl .iastore, .inl (.iinc 6 1)] 172 = true := by decide +kernel
theorem gt_X8_copy_172 : mx_jmp cX8_copy 172 140 = true := by decide +kernel
theorem bk_X8_copy_175 : mx_blk 8 cX8_copy 175 [.inl (.iload 5)] 177 = true := by decide +kernel
theorem rt_X8_copy_177 : mx_kr dm_X8_copy 177 .int := ⟨by decide +kernel, rfl⟩
theorem bk_X8_lay_0 : mx_blk 8 cX8_lay 0 [.inl (.iload 1)] 1 = true := by decide +kernel
theorem kc_X8_lay_1 : mx_kS dm_X8_lay 1 dm_X8_isSlot 1 := ⟨245, by decide +kernel, md_X8_isSlot, cs_X8_245⟩
theorem br_X8_lay_4 : mx_brk cX8_lay 4 (.ifCond .eq 37) 41 7 = true := by decide +kernel
theorem bk_X8_lay_7 : mx_blk 8 cX8_lay 7 [.inl (.iload 2), .inr (.int 0), .inr (.int 3)] 10 = true := by decide +kernel
theorem kc_X8_lay_10 : mx_kS dm_X8_lay 10 dm_X8_in 3 := ⟨81, by decide +kernel, md_X8_in, cs_X8_81⟩
theorem br_X8_lay_13 : mx_brk cX8_lay 13 (.ifCond .eq 28) 41 16 = true := by decide +kernel
theorem bk_X8_lay_16 : mx_blk 8 cX8_lay 16 [.inl (.iload 2), .inr (.int 1)] 18 = true := by decide +kernel
theorem br_X8_lay_18 : mx_brk cX8_lay 18 (.if_icmp .ne 11) 29 21 = true := by decide +kernel
theorem bk_X8_lay_21 : mx_blk 8 cX8_lay 21 [.inl (.aload 0), .inl (.iload 3)] 23 = true := by decide +kernel
theorem kc_X8_lay_23 : mx_kV dm_X8_lay 23 dm_X8_isDistrict 8 1 := ⟨98, by decide +kernel, md_X8_isDistrict, cv_X8_98, by decide, by decide +kernel⟩
theorem br_X8_lay_26 : mx_brk cX8_lay 26 (.ifCond .eq 15) 41 29 = true := by decide +kernel
theorem bk_X8_lay_29 : mx_blk 8 cX8_lay 29 [.inl (.iload 2), .inr (.int 2)] 31 = true := by decide +kernel
theorem br_X8_lay_31 : mx_brk cX8_lay 31 (.if_icmp .ne 13) 44 34 = true := by decide +kernel
theorem bk_X8_lay_34 : mx_blk 8 cX8_lay 34 [.inl (.iload 3)] 35 = true := by decide +kernel
theorem kc_X8_lay_35 : mx_kS dm_X8_lay 35 dm_X8_isSheet 1 := ⟨164, by decide +kernel, md_X8_isSheet, cs_X8_164⟩
theorem br_X8_lay_38 : mx_brk cX8_lay 38 (.ifCond .ne 6) 44 41 = true := by decide +kernel
theorem bk_X8_lay_41 : mx_blk 8 cX8_lay 41 [.inr (.int (-1000000001))] 43 = true := by decide +kernel
theorem rt_X8_lay_43 : mx_kr dm_X8_lay 43 .int := ⟨by decide +kernel, rfl⟩
theorem bk_X8_lay_44 : mx_blk 8 cX8_lay 44 [.inl (.iload 2), .inr (.int 2)] 46 = true := by decide +kernel
theorem br_X8_lay_46 : mx_brk cX8_lay 46 (.if_icmp .ne 15) 61 49 = true := by decide +kernel
theorem bk_X8_lay_49 : mx_blk 8 cX8_lay 49 [.inl (.aload 0), .inl (.getfield 537), .inl (.iload 3), .inl .iaload] 55 = true := by decide +kernel
theorem br_X8_lay_55 : mx_brk cX8_lay 55 (.ifCond .ge 6) 61 58 = true := by decide +kernel
theorem bk_X8_lay_58 : mx_blk 8 cX8_lay 58 [.inr (.int (-1000000011))] 60 = true := by decide +kernel
theorem rt_X8_lay_60 : mx_kr dm_X8_lay 60 .int := ⟨by decide +kernel, rfl⟩
theorem bk_X8_lay_61 : mx_blk 8 cX8_lay 61 [.inl (.aload 0), .inl (.getfield 540), .inl (.iload 1), .inl .iaload, .inl (.istore 4), .inl (.aload 0), .inl (.getfield 540), .inl (.iload 1), .inl (.iload 2), .inl .iastore, .inl (.aload 0), .inl (.getfield 541), .inl (.iload 1), .inl (.iload 2), .inr (.int 1)] 83 = true := by decide +kernel
theorem br_X8_lay_83 : mx_brk cX8_lay 83 (.if_icmp .ne 12) 95 86 = true := by decide +kernel
theorem bk_X8_lay_86 : mx_blk 8 cX8_lay 86 [.inl (.aload 0), .inl (.iload 3), .inr (.int 0)] 89 = true := by decide +kernel
theorem kc_X8_lay_89 : mx_kV dm_X8_lay 89 dm_X8_of 8 2 := ⟨95, by decide +kernel, md_X8_of, cv_X8_95, by decide, by decide +kernel⟩
theorem gt_X8_lay_92 : mx_jmp cX8_lay 92 110 = true := by decide +kernel
theorem bk_X8_lay_95 : mx_blk 8 cX8_lay 95 [.inl (.iload 2), .inr (.int 2)] 97 = true := by decide +kernel
theorem br_X8_lay_97 : mx_brk cX8_lay 97 (.if_icmp .ne 12) 109 100 = true := by decide +kernel
theorem bk_X8_lay_100 : mx_blk 8 cX8_lay 100 [.inl (.aload 0), .inl (.getfield 538), .inl (.iload 3), .inl .iaload] 106 = true := by decide +kernel
theorem gt_X8_lay_106 : mx_jmp cX8_lay 106 110 = true := by decide +kernel
theorem bk_X8_lay_109 : mx_blk 8 cX8_lay 109 [.inl (.iload 3)] 110 = true := by decide +kernel
theorem bk_X8_lay_110 : mx_blk 8 cX8_lay 110 [.inl .iastore, .inl (.aload 0), .inl (.getfield 542), .inl (.iload 1), .inl (.iload 2), .inr (.int 1)] 118 = true := by decide +kernel
theorem br_X8_lay_118 : mx_brk cX8_lay 118 (.if_icmp .ne 11) 129 121 = true := by decide +kernel
theorem bk_X8_lay_121 : mx_blk 8 cX8_lay 121 [.inl (.aload 0), .inl (.iload 3)] 123 = true := by decide +kernel
theorem kc_X8_lay_123 : mx_kV dm_X8_lay 123 dm_X8_worthOf 8 1 := ⟨102, by decide +kernel, md_X8_worthOf, cv_X8_102, by decide, by decide +kernel⟩
theorem gt_X8_lay_126 : mx_jmp cX8_lay 126 130 = true := by decide +kernel
theorem bk_X8_lay_129 : mx_blk 8 cX8_lay 129 [.inr (.int 0)] 130 = true := by decide +kernel
theorem bk_X8_lay_130 : mx_blk 8 cX8_lay 130 [.inl .iastore, .inr (.int 0), .inl (.istore 5)] 134 = true := by decide +kernel
theorem bk_X8_lay_134 : mx_blk 8 cX8_lay 134 [.inl (.iload 5), .inr (.int 24)] 138 = true := by decide +kernel
theorem br_X8_lay_138 : mx_brk cX8_lay 138 (.if_icmp .ge 38) 176 141 = true := by decide +kernel
theorem bk_X8_lay_141 : mx_blk 8 cX8_lay 141 [.inl (.iload 2), .inr (.int 2)] 143 = true := by decide +kernel
theorem br_X8_lay_143 : mx_brk cX8_lay 143 (.if_icmp .ne 33) 176 146 = true := by decide +kernel
theorem bk_X8_lay_146 : mx_blk 8 cX8_lay 146 [.inl (.aload 0), .inl (.getfield 543), .inr (.int 24), .inl (.iload 1), .inl .imul, .inl (.iload 5), .inl .iadd, .inl (.aload 0), .inl (.getfield 539), .inr (.int 24), .inl (.iload 3), .inl .imul, .inl (.iload 5), .inl .iadd, .inl .iaload, .inl .iastore, .inl (.iinc 5 1)] 173 = true := by decide +kernel
theorem gt_X8_lay_173 : mx_jmp cX8_lay 173 134 = true := by decide +kernel
theorem bk_X8_lay_176 : mx_blk 8 cX8_lay 176 [.inl (.iload 4)] 178 = true := by decide +kernel
theorem rt_X8_lay_178 : mx_kr dm_X8_lay 178 .int := ⟨by decide +kernel, rfl⟩
theorem bk_X8_ask_0 : mx_blk 8 cX8_ask 0 [.inl (.iload 1)] 1 = true := by decide +kernel
theorem kc_X8_ask_1 : mx_kS dm_X8_ask 1 dm_X8_isSlot 1 := ⟨245, by decide +kernel, md_X8_isSlot, cs_X8_245⟩
theorem br_X8_ask_4 : mx_brk cX8_ask 4 (.ifCond .eq 12) 16 7 = true := by decide +kernel
theorem bk_X8_ask_7 : mx_blk 8 cX8_ask 7 [.inl (.iload 2), .inr (.int 0), .inr (.int 5)] 10 = true := by decide +kernel
theorem kc_X8_ask_10 : mx_kS dm_X8_ask 10 dm_X8_in 3 := ⟨81, by decide +kernel, md_X8_in, cs_X8_81⟩
theorem br_X8_ask_13 : mx_brk cX8_ask 13 (.ifCond .ne 6) 19 16 = true := by decide +kernel
theorem bk_X8_ask_16 : mx_blk 8 cX8_ask 16 [.inr (.int (-1000000001))] 18 = true := by decide +kernel
theorem rt_X8_ask_18 : mx_kr dm_X8_ask 18 .int := ⟨by decide +kernel, rfl⟩
theorem bk_X8_ask_19 : mx_blk 8 cX8_ask 19 [.inl (.aload 0), .inl (.getfield 540), .inl (.iload 1), .inl .iaload] 25 = true := by decide +kernel
theorem br_X8_ask_25 : mx_brk cX8_ask 25 (.ifCond .ne 6) 31 28 = true := by decide +kernel
theorem bk_X8_ask_28 : mx_blk 8 cX8_ask 28 [.inr (.int (-1000000011))] 30 = true := by decide +kernel
theorem rt_X8_ask_30 : mx_kr dm_X8_ask 30 .int := ⟨by decide +kernel, rfl⟩
theorem bk_X8_ask_31 : mx_blk 8 cX8_ask 31 [.inl (.aload 0), .inl (.getfield 540), .inl (.iload 1), .inl .iaload, .inr (.int 1)] 38 = true := by decide +kernel
theorem br_X8_ask_38 : mx_brk cX8_ask 38 (.if_icmp .ne 25) 63 41 = true := by decide +kernel
theorem bk_X8_ask_41 : mx_blk 8 cX8_ask 41 [.inl (.aload 0), .inl (.getfield 541), .inl (.iload 1), .inl .iaload, .inl (.iload 2)] 48 = true := by decide +kernel
theorem kc_X8_ask_48 : mx_kS dm_X8_ask 48 dm_X8_isUnder 2 := ⟨122, by decide +kernel, md_X8_isUnder, cs_X8_122⟩
theorem br_X8_ask_51 : mx_brk cX8_ask 51 (.ifCond .eq 12) 63 54 = true := by decide +kernel
theorem bk_X8_ask_54 : mx_blk 8 cX8_ask 54 [.inl (.aload 0), .inl (.getfield 542), .inl (.iload 1), .inl .iaload] 60 = true := by decide +kernel
theorem gt_X8_ask_60 : mx_jmp cX8_ask 60 65 = true := by decide +kernel
theorem bk_X8_ask_63 : mx_blk 8 cX8_ask 63 [.inr (.int (-1000000012))] 65 = true := by decide +kernel
theorem rt_X8_ask_65 : mx_kr dm_X8_ask 65 .int := ⟨by decide +kernel, rfl⟩
theorem bk_X8_item_0 : mx_blk 8 cX8_item 0 [.inl (.iload 1)] 1 = true := by decide +kernel
theorem kc_X8_item_1 : mx_kS dm_X8_item 1 dm_X8_isSlot 1 := ⟨245, by decide +kernel, md_X8_isSlot, cs_X8_245⟩
theorem br_X8_item_4 : mx_brk cX8_item 4 (.ifCond .ne 6) 10 7 = true := by decide +kernel
theorem bk_X8_item_7 : mx_blk 8 cX8_item 7 [.inr (.int (-1000000001))] 9 = true := by decide +kernel
theorem rt_X8_item_9 : mx_kr dm_X8_item 9 .int := ⟨by decide +kernel, rfl⟩
theorem bk_X8_item_10 : mx_blk 8 cX8_item 10 [.inl (.aload 0), .inl (.getfield 540), .inl (.iload 1), .inl .iaload] 16 = true := by decide +kernel
theorem br_X8_item_16 : mx_brk cX8_item 16 (.ifCond .ne 6) 22 19 = true := by decide +kernel
theorem bk_X8_item_19 : mx_blk 8 cX8_item 19 [.inr (.int (-1000000011))] 21 = true := by decide +kernel
theorem rt_X8_item_21 : mx_kr dm_X8_item 21 .int := ⟨by decide +kernel, rfl⟩
theorem bk_X8_item_22 : mx_blk 8 cX8_item 22 [.inl (.aload 0), .inl (.getfield 540), .inl (.iload 1), .inl .iaload, .inr (.int 2)] 29 = true := by decide +kernel
theorem br_X8_item_29 : mx_brk cX8_item 29 (.if_icmp .eq 6) 35 32 = true := by decide +kernel
theorem bk_X8_item_32 : mx_blk 8 cX8_item 32 [.inr (.int (-1000000012))] 34 = true := by decide +kernel
theorem rt_X8_item_34 : mx_kr dm_X8_item 34 .int := ⟨by decide +kernel, rfl⟩
theorem bk_X8_item_35 : mx_blk 8 cX8_item 35 [.inl (.iload 2), .inr (.int 0), .inl (.aload 0), .inl (.getfield 541), .inl (.iload 1), .inl .iaload, .inr (.int 1), .inl .isub] 45 = true := by decide +kernel
theorem kc_X8_item_45 : mx_kS dm_X8_item 45 dm_X8_in 3 := ⟨81, by decide +kernel, md_X8_in, cs_X8_81⟩
theorem br_X8_item_48 : mx_brk cX8_item 48 (.ifCond .ne 6) 54 51 = true := by decide +kernel
theorem bk_X8_item_51 : mx_blk 8 cX8_item 51 [.inr (.int (-1000000013))] 53 = true := by decide +kernel
theorem rt_X8_item_53 : mx_kr dm_X8_item 53 .int := ⟨by decide +kernel, rfl⟩
theorem bk_X8_item_54 : mx_blk 8 cX8_item 54 [.inl (.aload 0), .inl (.getfield 543), .inr (.int 24), .inl (.iload 1), .inl .imul, .inl (.iload 2), .inl .iadd, .inl .iaload, .inl (.istore 3), .inl (.iload 3), .inr (.int (-1000000005))] 69 = true := by decide +kernel
theorem br_X8_item_69 : mx_brk cX8_item 69 (.if_icmp .ne 8) 77 72 = true := by decide +kernel
theorem bk_X8_item_72 : mx_blk 8 cX8_item 72 [.inr (.int (-1000000012))] 74 = true := by decide +kernel
theorem gt_X8_item_74 : mx_jmp cX8_item 74 78 = true := by decide +kernel
theorem bk_X8_item_77 : mx_blk 8 cX8_item 77 [.inl (.iload 3)] 78 = true := by decide +kernel
theorem rt_X8_item_78 : mx_kr dm_X8_item 78 .int := ⟨by decide +kernel, rfl⟩
theorem bk_X8_rest_0 : mx_blk 8 cX8_rest 0 [.inl (.iload 1)] 1 = true := by decide +kernel
theorem kc_X8_rest_1 : mx_kS dm_X8_rest 1 dm_X8_isSlot 1 := ⟨245, by decide +kernel, md_X8_isSlot, cs_X8_245⟩
theorem br_X8_rest_4 : mx_brk cX8_rest 4 (.ifCond .ne 6) 10 7 = true := by decide +kernel
theorem bk_X8_rest_7 : mx_blk 8 cX8_rest 7 [.inr (.int (-1000000001))] 9 = true := by decide +kernel
theorem rt_X8_rest_9 : mx_kr dm_X8_rest 9 .int := ⟨by decide +kernel, rfl⟩
theorem bk_X8_rest_10 : mx_blk 8 cX8_rest 10 [.inl (.aload 0), .inl (.getfield 540), .inl (.iload 1), .inl .iaload] 16 = true := by decide +kernel
theorem br_X8_rest_16 : mx_brk cX8_rest 16 (.ifCond .ne 6) 22 19 = true := by decide +kernel
theorem bk_X8_rest_19 : mx_blk 8 cX8_rest 19 [.inr (.int (-1000000011))] 21 = true := by decide +kernel
theorem rt_X8_rest_21 : mx_kr dm_X8_rest 21 .int := ⟨by decide +kernel, rfl⟩
theorem bk_X8_rest_22 : mx_blk 8 cX8_rest 22 [.inl (.aload 0), .inl (.getfield 540), .inl (.iload 1), .inl .iaload, .inr (.int 3)] 29 = true := by decide +kernel
theorem br_X8_rest_29 : mx_brk cX8_rest 29 (.if_icmp .eq 6) 35 32 = true := by decide +kernel
theorem bk_X8_rest_32 : mx_blk 8 cX8_rest 32 [.inr (.int (-1000000012))] 34 = true := by decide +kernel
theorem rt_X8_rest_34 : mx_kr dm_X8_rest 34 .int := ⟨by decide +kernel, rfl⟩
theorem bk_X8_rest_35 : mx_blk 8 cX8_rest 35 [.inl (.iload 2)] 36 = true := by decide +kernel
theorem br_X8_rest_36 : mx_brk cX8_rest 36 (.ifCond .ne 8) 44 39 = true := by decide +kernel
theorem bk_X8_rest_39 : mx_blk 8 cX8_rest 39 [.inr (.int (-1000000002))] 41 = true := by decide +kernel
theorem gt_X8_rest_41 : mx_jmp cX8_rest 41 61 = true := by decide +kernel
theorem bk_X8_rest_44 : mx_blk 8 cX8_rest 44 [.inl (.iload 2), .inr (.int (-1))] 46 = true := by decide +kernel
theorem br_X8_rest_46 : mx_brk cX8_rest 46 (.if_icmp .ne 7) 53 49 = true := by decide +kernel
theorem bk_X8_rest_49 : mx_blk 8 cX8_rest 49 [.inr (.int 0)] 50 = true := by decide +kernel
theorem gt_X8_rest_50 : mx_jmp cX8_rest 50 61 = true := by decide +kernel
theorem bk_X8_rest_53 : mx_blk 8 cX8_rest 53 [.inl (.aload 0), .inl (.getfield 541), .inl (.iload 1), .inl .iaload, .inl (.iload 2), .inl .irem] 61 = true := by decide +kernel
theorem rt_X8_rest_61 : mx_kr dm_X8_rest 61 .int := ⟨by decide +kernel, rfl⟩
theorem bk_X8_tell_0 : mx_blk 8 cX8_tell 0 [.inl (.aload 0), .inl (.getfield 546), .inr (.int 60)] 6 = true := by decide +kernel
theorem br_X8_tell_6 : mx_brk cX8_tell 6 (.if_icmp .ne 6) 12 9 = true := by decide +kernel
theorem bk_X8_tell_9 : mx_blk 8 cX8_tell 9 [.inr (.int (-1000000003))] 11 = true := by decide +kernel
theorem rt_X8_tell_11 : mx_kr dm_X8_tell 11 .int := ⟨by decide +kernel, rfl⟩
theorem bk_X8_tell_12 : mx_blk 8 cX8_tell 12 [.inl (.aload 0), .inl (.getfield 545), .inl (.aload 0), .inl (.getfield 546), .inl (.iload 1), .inl .iastore, .inl (.aload 0), .inl .dup, .inl (.getfield 546), .inr (.int 1), .inl .iadd, .inl (.putfield 546), .inl (.aload 0), .inl (.getfield 546)] 36 = true := by decide +kernel
theorem rt_X8_tell_36 : mx_kr dm_X8_tell 36 .int := ⟨by decide +kernel, rfl⟩
theorem bk_X8_fairs_0 : mx_blk 8 cX8_fairs 0 [.inr (.int 0), .inl (.istore 1), .inr (.int 0), .inl (.istore 2)] 4 = true := by decide +kernel
theorem bk_X8_fairs_4 : mx_blk 8 cX8_fairs 4 [.inl (.iload 2), .inl (.aload 0), .inl (.getfield 512), .inr (.int 1), .inl .iaload] 11 = true := by decide +kernel
theorem br_X8_fairs_11 : mx_brk cX8_fairs 11 (.if_icmp .ge 25) 36 14 = true := by decide +kernel
theorem bk_X8_fairs_14 : mx_blk 8 cX8_fairs 14 [.inl (.iload 1), .inl (.aload 0), .inl (.iload 2)] 17 = true := by decide +kernel
theorem kc_X8_fairs_17 : mx_kV dm_X8_fairs 17 dm_X8_isFair 8 1 := ⟨106, by decide +kernel, md_X8_isFair, cv_X8_106, by decide, by decide +kernel⟩
theorem br_X8_fairs_20 : mx_brk cX8_fairs 20 (.ifCond .eq 7) 27 23 = true := by decide +kernel
theorem bk_X8_fairs_23 : mx_blk 8 cX8_fairs 23 [.inr (.int 1)] 24 = true := by decide +kernel
theorem gt_X8_fairs_24 : mx_jmp cX8_fairs 24 28 = true := by decide +kernel
theorem bk_X8_fairs_27 : mx_blk 8 cX8_fairs 27 [.inr (.int 0)] 28 = true := by decide +kernel
theorem bk_X8_fairs_28 : mx_blk 8 cX8_fairs 28 [.inl .iadd, .inl (.istore 1), .inl (.iinc 2 1)] 33 = true := by decide +kernel
theorem gt_X8_fairs_33 : mx_jmp cX8_fairs 33 4 = true := by decide +kernel
theorem bk_X8_fairs_36 : mx_blk 8 cX8_fairs 36 [.inl (.iload 1)] 37 = true := by decide +kernel
theorem rt_X8_fairs_37 : mx_kr dm_X8_fairs 37 .int := ⟨by decide +kernel, rfl⟩
theorem bk_X8_check_0 : mx_blk 8 cX8_check 0 [.inl (.aload 0), .inl (.getfield 546), .inl (.istore 2), .inl (.aload 0), .inr (.int 0), .inl (.putfield 546), .inl (.iload 1), .inr (.int 1), .inr (.int 30)] 14 = true := by decide +kernel
theorem kc_X8_check_14 : mx_kS dm_X8_check 14 dm_X8_in 3 := ⟨81, by decide +kernel, md_X8_in, cs_X8_81⟩
theorem br_X8_check_17 : mx_brk cX8_check 17 (.ifCond .ne 6) 23 20 = true := by decide +kernel
theorem bk_X8_check_20 : mx_blk 8 cX8_check 20 [.inr (.int (-1000000001))] 22 = true := by decide +kernel
theorem rt_X8_check_22 : mx_kr dm_X8_check 22 .int := ⟨by decide +kernel, rfl⟩
theorem bk_X8_check_23 : mx_blk 8 cX8_check 23 [.inl (.aload 0), .inl (.getfield 515)] 27 = true := by decide +kernel
theorem br_X8_check_27 : mx_brk cX8_check 27 (.ifCond .ne 6) 33 30 = true := by decide +kernel
theorem bk_X8_check_30 : mx_blk 8 cX8_check 30 [.inr (.int (-1000000002))] 32 = true := by decide +kernel
theorem rt_X8_check_32 : mx_kr dm_X8_check 32 .int := ⟨by decide +kernel, rfl⟩
theorem bk_X8_check_33 : mx_blk 8 cX8_check 33 [.inl (.aload 0), .inl (.getfield 512), .inl (.aload 0), .inl (.getfield 514)] 41 = true := by decide +kernel
theorem kc_X8_check_41 : mx_kS dm_X8_check 41 dm_X8_copyAll 2 := ⟨255, by decide +kernel, md_X8_copyAll, cs_X8_255⟩
theorem bk_X8_check_44 : mx_blk 8 cX8_check 44 [.inl (.aload 0), .inl (.getfield 513), .inl (.aload 0), .inl (.getfield 512)] 52 = true := by decide +kernel
theorem kc_X8_check_52 : mx_kS dm_X8_check 52 dm_X8_copyAll 2 := ⟨255, by decide +kernel, md_X8_copyAll, cs_X8_255⟩
theorem bk_X8_check_55 : mx_blk 8 cX8_check 55 [.inr (.int 2), .inr (.int 99999), .inl (.aload 0), .inl (.getfield 512), .inr (.int 2), .inl .iaload, .inl .isub, .inr (.int 0), .inl (.iload 1)] 67 = true := by decide +kernel
theorem kc_X8_check_67 : mx_kS dm_X8_check 67 dm_X8_within 3 := ⟨115, by decide +kernel, md_X8_within, cs_X8_115⟩
theorem bk_X8_check_70 : mx_blk 8 cX8_check 70 [.inl .imul, .inl (.istore 3), .inr (.int 0), .inl (.istore 4), .inr (.int 0), .inl (.istore 5)] 78 = true := by decide +kernel
theorem bk_X8_check_78 : mx_blk 8 cX8_check 78 [.inr (.int 2), .inl (.iload 5), .inl .imul, .inl (.iload 3)] 83 = true := by decide +kernel
theorem br_X8_check_83 : mx_brk cX8_check 83 (.if_icmp .ge 97) 180 86 = true := by decide +kernel
theorem bk_X8_check_86 : mx_blk 8 cX8_check 86 [.inl (.iload 4), .inr (.int 2), .inl (.iload 5), .inl .imul] 92 = true := by decide +kernel
theorem br_X8_check_92 : mx_brk cX8_check 92 (.if_icmp .ne 88) 180 95 = true := by decide +kernel
theorem bk_X8_check_95 : mx_blk 8 cX8_check 95 [.inl (.aload 0)] 96 = true := by decide +kernel
theorem kc_X8_check_96 : mx_kV dm_X8_check 96 dm_X8_day 8 0 := ⟨148, by decide +kernel, md_X8_day, cv_X8_148, by decide, by decide +kernel⟩
theorem bk_X8_check_99 : mx_blk 8 cX8_check 99 [.inl (.istore 6), .inl (.iload 4), .inl (.iload 4), .inl (.iload 2)] 106 = true := by decide +kernel
theorem br_X8_check_106 : mx_brk cX8_check 106 (.if_icmp .ge 21) 127 109 = true := by decide +kernel
theorem bk_X8_check_109 : mx_blk 8 cX8_check 109 [.inl (.aload 0), .inl (.getfield 545), .inl (.iload 4), .inl .iaload, .inl (.aload 0)] 117 = true := by decide +kernel
theorem kc_X8_check_117 : mx_kV dm_X8_check 117 dm_X8_fairs 8 0 := ⟨259, by decide +kernel, md_X8_fairs, cv_X8_259, by decide, by decide +kernel⟩
theorem br_X8_check_120 : mx_brk cX8_check 120 (.if_icmp .ne 7) 127 123 = true := by decide +kernel
theorem bk_X8_check_123 : mx_blk 8 cX8_check 123 [.inr (.int 1)] 124 = true := by decide +kernel
theorem gt_X8_check_124 : mx_jmp cX8_check 124 128 = true := by decide +kernel
theorem bk_X8_check_127 : mx_blk 8 cX8_check 127 [.inr (.int 0)] 128 = true := by decide +kernel
theorem bk_X8_check_128 : mx_blk 8 cX8_check 128 [.inl .iadd, .inl (.istore 4), .inl (.iload 4), .inl (.iload 4), .inr (.int 2), .inl (.iload 5), .inl .imul, .inr (.int 1), .inl .iadd] 141 = true := by decide +kernel
theorem br_X8_check_141 : mx_brk cX8_check 141 (.if_icmp .ne 29) 170 144 = true := by decide +kernel
theorem bk_X8_check_144 : mx_blk 8 cX8_check 144 [.inl (.iload 4), .inl (.iload 2)] 147 = true := by decide +kernel
theorem br_X8_check_147 : mx_brk cX8_check 147 (.if_icmp .ge 23) 170 150 = true := by decide +kernel
theorem bk_X8_check_150 : mx_blk 8 cX8_check 150 [.inl (.aload 0), .inl (.getfield 545), .inl (.iload 4), .inl .iaload, .inl (.aload 0), .inr (.int 7)] 160 = true := by decide +kernel
theorem kc_X8_check_160 : mx_kV dm_X8_check 160 dm_X8_sumOf 8 1 := ⟨172, by decide +kernel, md_X8_sumOf, cv_X8_172, by decide, by decide +kernel⟩
theorem br_X8_check_163 : mx_brk cX8_check 163 (.if_icmp .ne 7) 170 166 = true := by decide +kernel
theorem bk_X8_check_166 : mx_blk 8 cX8_check 166 [.inr (.int 1)] 167 = true := by decide +kernel
theorem gt_X8_check_167 : mx_jmp cX8_check 167 171 = true := by decide +kernel
theorem bk_X8_check_170 : mx_blk 8 cX8_check 170 [.inr (.int 0)] 171 = true := by decide +kernel
theorem bk_X8_check_171 : mx_blk 8 cX8_check 171 [.inl .iadd, .inl (.istore 4), .inl (.iinc 5 1)] 177 = true := by decide +kernel
theorem gt_X8_check_177 : mx_jmp cX8_check 177 78 = true := by decide +kernel
theorem bk_X8_check_180 : mx_blk 8 cX8_check 180 [.inl (.aload 0), .inl (.getfield 514), .inl (.aload 0), .inl (.getfield 512)] 188 = true := by decide +kernel
theorem kc_X8_check_188 : mx_kS dm_X8_check 188 dm_X8_copyAll 2 := ⟨255, by decide +kernel, md_X8_copyAll, cs_X8_255⟩
theorem bk_X8_check_191 : mx_blk 8 cX8_check 191 [.inl (.iload 4), .inl (.iload 2)] 194 = true := by decide +kernel
theorem br_X8_check_194 : mx_brk cX8_check 194 (.if_icmp .ne 13) 207 197 = true := by decide +kernel
theorem bk_X8_check_197 : mx_blk 8 cX8_check 197 [.inl (.iload 4), .inl (.iload 3)] 200 = true := by decide +kernel
theorem br_X8_check_200 : mx_brk cX8_check 200 (.if_icmp .ne 7) 207 203 = true := by decide +kernel
theorem bk_X8_check_203 : mx_blk 8 cX8_check 203 [.inr (.int 0)] 204 = true := by decide +kernel
theorem gt_X8_check_204 : mx_jmp cX8_check 204 211 = true := by decide +kernel
theorem bk_X8_check_207 : mx_blk 8 cX8_check 207 [.inr (.int 1), .inl (.iload 4), .inl .iadd] 211 = true := by decide +kernel
theorem rt_X8_check_211 : mx_kr dm_X8_check 211 .int := ⟨by decide +kernel, rfl⟩
theorem bk_X8_keep_0 : mx_blk 8 cX8_keep 0 [.inl (.aload 0), .inl (.getfield 512), .inl (.aload 0), .inl (.getfield 513)] 8 = true := by decide +kernel
theorem kc_X8_keep_8 : mx_kS dm_X8_keep 8 dm_X8_copyAll 2 := ⟨255, by decide +kernel, md_X8_copyAll, cs_X8_255⟩
theorem bk_X8_keep_11 : mx_blk 8 cX8_keep 11 [.inl (.aload 0), .inr (.int 1), .inl (.putfield 515), .inl (.aload 0), .inl (.getfield 512), .inr (.int 1), .inl .iaload] 22 = true := by decide +kernel
theorem rt_X8_keep_22 : mx_kr dm_X8_keep 22 .int := ⟨by decide +kernel, rfl⟩
theorem bk_X8_back_0 : mx_blk 8 cX8_back 0 [.inl (.aload 0), .inl (.getfield 515)] 4 = true := by decide +kernel
theorem br_X8_back_4 : mx_brk cX8_back 4 (.ifCond .ne 6) 10 7 = true := by decide +kernel
theorem bk_X8_back_7 : mx_blk 8 cX8_back 7 [.inr (.int (-1000000002))] 9 = true := by decide +kernel
theorem rt_X8_back_9 : mx_kr dm_X8_back 9 .int := ⟨by decide +kernel, rfl⟩
theorem bk_X8_back_10 : mx_blk 8 cX8_back 10 [.inl (.aload 0), .inl (.getfield 513), .inl (.aload 0), .inl (.getfield 512)] 18 = true := by decide +kernel
theorem kc_X8_back_18 : mx_kS dm_X8_back 18 dm_X8_copyAll 2 := ⟨255, by decide +kernel, md_X8_copyAll, cs_X8_255⟩
theorem bk_X8_back_21 : mx_blk 8 cX8_back 21 [.inl (.aload 0), .inl (.getfield 512), .inr (.int 1), .inl .iaload] 27 = true := by decide +kernel
theorem rt_X8_back_27 : mx_kr dm_X8_back 27 .int := ⟨by decide +kernel, rfl⟩
theorem bk_X8_count_0 : mx_blk 8 cX8_count 0 [.inl (.iload 1)] 1 = true := by decide +kernel
theorem sw_X8_count_1 : mx_swk cX8_count 1 [(0, 56), (1, 63), (2, 70), (3, 77), (4, 84), (5, 91), (6, 98), (7, 106), (8, 111), (9, 116)] 123 = true := by decide +kernel
theorem bk_X8_count_56 : mx_blk 8 cX8_count 56 [.inl (.aload 0), .inl (.getfield 512), .inr (.int 1), .inl .iaload] 62 = true := by decide +kernel
theorem rt_X8_count_62 : mx_kr dm_X8_count 62 .int := ⟨by decide +kernel, rfl⟩
theorem bk_X8_count_63 : mx_blk 8 cX8_count 63 [.inl (.aload 0), .inl (.getfield 512), .inr (.int 2), .inl .iaload] 69 = true := by decide +kernel
theorem rt_X8_count_69 : mx_kr dm_X8_count 69 .int := ⟨by decide +kernel, rfl⟩
theorem bk_X8_count_70 : mx_blk 8 cX8_count 70 [.inl (.aload 0), .inl (.getfield 512), .inr (.int 3), .inl .iaload] 76 = true := by decide +kernel
theorem rt_X8_count_76 : mx_kr dm_X8_count 76 .int := ⟨by decide +kernel, rfl⟩
theorem bk_X8_count_77 : mx_blk 8 cX8_count 77 [.inl (.aload 0), .inl (.getfield 512), .inr (.int 4), .inl .iaload] 83 = true := by decide +kernel
theorem rt_X8_count_83 : mx_kr dm_X8_count 83 .int := ⟨by decide +kernel, rfl⟩
theorem bk_X8_count_84 : mx_blk 8 cX8_count 84 [.inl (.aload 0), .inl (.getfield 512), .inr (.int 5), .inl .iaload] 90 = true := by decide +kernel
theorem rt_X8_count_90 : mx_kr dm_X8_count 90 .int := ⟨by decide +kernel, rfl⟩
theorem bk_X8_count_91 : mx_blk 8 cX8_count 91 [.inl (.aload 0), .inr (.int 7)] 94 = true := by decide +kernel
theorem kc_X8_count_94 : mx_kV dm_X8_count 94 dm_X8_sumOf 8 1 := ⟨172, by decide +kernel, md_X8_sumOf, cv_X8_172, by decide, by decide +kernel⟩
theorem rt_X8_count_97 : mx_kr dm_X8_count 97 .int := ⟨by decide +kernel, rfl⟩
theorem bk_X8_count_98 : mx_blk 8 cX8_count 98 [.inl (.aload 0), .inl (.getfield 512), .inr (.int 6), .inl .iaload] 105 = true := by decide +kernel
theorem rt_X8_count_105 : mx_kr dm_X8_count 105 .int := ⟨by decide +kernel, rfl⟩
theorem bk_X8_count_106 : mx_blk 8 cX8_count 106 [.inl (.aload 0), .inl (.getfield 546)] 110 = true := by decide +kernel
theorem rt_X8_count_110 : mx_kr dm_X8_count 110 .int := ⟨by decide +kernel, rfl⟩
theorem bk_X8_count_111 : mx_blk 8 cX8_count 111 [.inl (.aload 0), .inl (.getfield 520)] 115 = true := by decide +kernel
theorem rt_X8_count_115 : mx_kr dm_X8_count 115 .int := ⟨by decide +kernel, rfl⟩
theorem bk_X8_count_116 : mx_blk 8 cX8_count 116 [.inl (.aload 0), .inl (.getfield 512), .inr (.int 0), .inl .iaload] 122 = true := by decide +kernel
theorem rt_X8_count_122 : mx_kr dm_X8_count 122 .int := ⟨by decide +kernel, rfl⟩
theorem bk_X8_count_123 : mx_blk 8 cX8_count 123 [.inr (.int (-1000000001))] 125 = true := by decide +kernel
theorem rt_X8_count_125 : mx_kr dm_X8_count 125 .int := ⟨by decide +kernel, rfl⟩
