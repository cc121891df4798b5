/-! the law: its code, its calls, its loop -/
def dm_L : Md := (x, code, 4, ret, 9)
/-- the script, from outside the store -/
def lw_sc (xs : Nat → Int32) (Lx : Nat) (X : Nat → Mm → Nat → Lv → Sk → Prop) : Prop := (∀ (pc n : Nat) (M : Mm) (L : Lv) (r : Sk) (i : Int32), decode code pc = .ok (.iaload, 1) → vp_in i Lx → X n M (pc + 1) L (.int (xs i.toNatClampNeg) :: r) → X n M pc L (.int i :: .ref 1020 :: r)) ∧ (∀ (pc n : Nat) (M : Mm) (L : Lv) (r : Sk), decode code pc = .ok (.arraylength, 1) → X n M (pc + 1) L (.int (nI Lx) :: r) → X n M pc L (.ref 1020 :: r))
def lw_L (i : Nat) : Lv := [some (.ref 1020), some (.ref 0), some (.ref 103), some (.int (nI i))]
/-- a piece of the script as an argument: aload 0, iload 3, k, iadd, iaload -/
def lw_ca (pc k : Nat) : Prop := mx_blk 9 code pc [.inl (.aload 0), .inl (.iload 3), .inr (.int (nI k)), .inl .iadd] (pc + 4) = true ∧ decode code (pc + 4) = .ok (.iaload, 1)
section LW
variable {l : Launch} {G : Gt} {d : Nat} {P : Option Value → Mm → Prop} {X : Nat → Mm → Nat → Lv → Sk → Prop} {xs : Nat → Int32} {Lx : Nat}
theorem lw_arg (R : mx_Rl l G true dm_L d 127 P X) (hs : lw_sc xs Lx X) {pc i k : Nat} {M : Mm} {S : Sk} (h : lw_ca pc k) (hk : i + k < Lx) (hL : Lx ≤ 384) (K : X 127 M (pc + 5) (lw_L i) (.int (xs (i + k)) :: S)) : X 127 M pc (lw_L i) S := by
  refine R.b h.1 ?_
  show X 127 M (pc + 4) (lw_L i) (.int (nI i + nI k) :: .ref 1020 :: S)
  rw [nI_add]
  refine hs.1 _ _ _ _ _ _ h.2 (vp_in_nI hk (by omega)) ?_
  rw [nI_clamp (by omega)]
  exact K
theorem lw_case0 (R : mx_Rl l G true dm_L d 127 P X) (hs : lw_sc xs Lx X) {pc i : Nat} {of : Int} {M : Mm} {Dx Dm : Md} (hd : 200 < d) (hi : i + 6 ≤ Lx) (hL : Lx ≤ 384) (b1 : mx_blk 9 code pc [.inl (.aload 1)] (pc + 1) = true) (k1 : mx_kV dm_L (pc + 1) Dx 7 0) (b2 : mx_blk 9 code (pc + 4) [.inl (.aload 2)] (pc + 5) = true) (k2 : mx_kV dm_L (pc + 5) Dm 8 0) (hb : mx_brk code (pc + 8) (.if_icmp .eq of) 1364 (pc + 11) = true) (hst : Step l G Dx Dm []) (hS : SIM M) (hK : ∀ M2, SIM M2 → X 127 M2 1364 (lw_L i) []) : X 127 M pc (lw_L i) [] := by
  obtain ⟨Qx, r1, q1⟩ := hst M hS
  refine R.b b1 ?_
  show X 127 M (pc + 1) (lw_L i) [.ref 0]
  refine R.V0i (n' := 127) (b := 0) k1 rfl r1 (by omega) rfl ⟨Nat.le_refl _, Nat.le_refl _⟩ (fun x M1 h1 => ?_)
  obtain ⟨Qy, r2, q2⟩ := q1 x M1 h1
  refine R.b b2 ?_
  show X 127 M1 (pc + 5) (lw_L i) [.ref 103, .int x]
  refine R.V0i (n' := 127) (b := 103) k2 rfl r2 (by omega) rfl ⟨Nat.le_refl _, Nat.le_refl _⟩ (fun y M2 h2 => ?_)
  obtain ⟨rfl, h3⟩ := q2 y M2 h2
  exact R.c hb (And.intro (fun _ => hK M2 h3) (fun h => absurd rfl h))
theorem lw_case1 (R : mx_Rl l G true dm_L d 127 P X) (hs : lw_sc xs Lx X) {pc i : Nat} {of : Int} {M : Mm} {Dx Dm : Md} (hd : 200 < d) (hi : i + 6 ≤ Lx) (hL : Lx ≤ 384) (b1 : mx_blk 9 code pc [.inl (.aload 1)] (pc + 1) = true) (a1 : lw_ca (pc + 1) 1) (k1 : mx_kV dm_L (pc + 6) Dx 7 1) (b2 : mx_blk 9 code (pc + 9) [.inl (.aload 2)] (pc + 10) = true) (e1 : lw_ca (pc + 10) 1) (k2 : mx_kV dm_L (pc + 15) Dm 8 1) (hb : mx_brk code (pc + 18) (.if_icmp .eq of) 1364 (pc + 21) = true) (hst : Step l G Dx Dm [.int (xs (i + 1))]) (hS : SIM M) (hK : ∀ M2, SIM M2 → X 127 M2 1364 (lw_L i) []) : X 127 M pc (lw_L i) [] := by
  obtain ⟨Qx, r1, q1⟩ := hst M hS
  refine R.b b1 ?_
  show X 127 M (pc + 1) (lw_L i) [.ref 0]
  refine lw_arg R hs a1 (by omega) hL ?_
  refine R.V1i (n' := 127) (b := 0) k1 rfl r1 (by omega) rfl ⟨Nat.le_refl _, Nat.le_refl _⟩ (fun x M1 h1 => ?_)
  obtain ⟨Qy, r2, q2⟩ := q1 x M1 h1
  refine R.b b2 ?_
  show X 127 M1 (pc + 10) (lw_L i) [.ref 103, .int x]
  refine lw_arg R hs e1 (by omega) hL ?_
  refine R.V1i (n' := 127) (b := 103) k2 rfl r2 (by omega) rfl ⟨Nat.le_refl _, Nat.le_refl _⟩ (fun y M2 h2 => ?_)
  obtain ⟨rfl, h3⟩ := q2 y M2 h2
  exact R.c hb (And.intro (fun _ => hK M2 h3) (fun h => absurd rfl h))
theorem lw_case2 (R : mx_Rl l G true dm_L d 127 P X) (hs : lw_sc xs Lx X) {pc i : Nat} {of : Int} {M : Mm} {Dx Dm : Md} (hd : 200 < d) (hi : i + 6 ≤ Lx) (hL : Lx ≤ 384) (b1 : mx_blk 9 code pc [.inl (.aload 1)] (pc + 1) = true) (a1 : lw_ca (pc + 1) 1) (a2 : lw_ca (pc + 6) 2) (k1 : mx_kV dm_L (pc + 11) Dx 7 2) (b2 : mx_blk 9 code (pc + 14) [.inl (.aload 2)] (pc + 15) = true) (e1 : lw_ca (pc + 15) 1) (e2 : lw_ca (pc + 20) 2) (k2 : mx_kV dm_L (pc + 25) Dm 8 2) (hb : mx_brk code (pc + 28) (.if_icmp .eq of) 1364 (pc + 31) = true) (hst : Step l G Dx Dm [.int (xs (i + 1)), .int (xs (i + 2))]) (hS : SIM M) (hK : ∀ M2, SIM M2 → X 127 M2 1364 (lw_L i) []) : X 127 M pc (lw_L i) [] := by
  obtain ⟨Qx, r1, q1⟩ := hst M hS
  refine R.b b1 ?_
  show X 127 M (pc + 1) (lw_L i) [.ref 0]
  refine lw_arg R hs a1 (by omega) hL ?_
  refine lw_arg R hs a2 (by omega) hL ?_
  refine R.V2i (n' := 127) (b := 0) k1 rfl r1 (by omega) rfl ⟨Nat.le_refl _, Nat.le_refl _⟩ (fun x M1 h1 => ?_)
  obtain ⟨Qy, r2, q2⟩ := q1 x M1 h1
  refine R.b b2 ?_
  show X 127 M1 (pc + 15) (lw_L i) [.ref 103, .int x]
  refine lw_arg R hs e1 (by omega) hL ?_
  refine lw_arg R hs e2 (by omega) hL ?_
  refine R.V2i (n' := 127) (b := 103) k2 rfl r2 (by omega) rfl ⟨Nat.le_refl _, Nat.le_refl _⟩ (fun y M2 h2 => ?_)
  obtain ⟨rfl, h3⟩ := q2 y M2 h2
  exact R.c hb (And.intro (fun _ => hK M2 h3) (fun h => absurd rfl h))
theorem lw_case3 (R : mx_Rl l G true dm_L d 127 P X) (hs : lw_sc xs Lx X) {pc i : Nat} {of : Int} {M : Mm} {Dx Dm : Md} (hd : 200 < d) (hi : i + 6 ≤ Lx) (hL : Lx ≤ 384) (b1 : mx_blk 9 code pc [.inl (.aload 1)] (pc + 1) = true) (a1 : lw_ca (pc + 1) 1) (a2 : lw_ca (pc + 6) 2) (a3 : lw_ca (pc + 11) 3) (k1 : mx_kV dm_L (pc + 16) Dx 7 3) (b2 : mx_blk 9 code (pc + 19) [.inl (.aload 2)] (pc + 20) = true) (e1 : lw_ca (pc + 20) 1) (e2 : lw_ca (pc + 25) 2) (e3 : lw_ca (pc + 30) 3) (k2 : mx_kV dm_L (pc + 35) Dm 8 3) (hb : mx_brk code (pc + 38) (.if_icmp .eq of) 1364 (pc + 41) = true) (hst : Step l G Dx Dm [.int (xs (i + 1)), .int (xs (i + 2)), .int (xs (i + 3))]) (hS : SIM M) (hK : ∀ M2, SIM M2 → X 127 M2 1364 (lw_L i) []) : X 127 M pc (lw_L i) [] := by
  obtain ⟨Qx, r1, q1⟩ := hst M hS
  refine R.b b1 ?_
  show X 127 M (pc + 1) (lw_L i) [.ref 0]
  refine lw_arg R hs a1 (by omega) hL ?_
  refine lw_arg R hs a2 (by omega) hL ?_
  refine lw_arg R hs a3 (by omega) hL ?_
  refine R.V3i (n' := 127) (b := 0) k1 rfl r1 (by omega) rfl ⟨Nat.le_refl _, Nat.le_refl _⟩ (fun x M1 h1 => ?_)
  obtain ⟨Qy, r2, q2⟩ := q1 x M1 h1
  refine R.b b2 ?_
  show X 127 M1 (pc + 20) (lw_L i) [.ref 103, .int x]
  refine lw_arg R hs e1 (by omega) hL ?_
  refine lw_arg R hs e2 (by omega) hL ?_
  refine lw_arg R hs e3 (by omega) hL ?_
  refine R.V3i (n' := 127) (b := 103) k2 rfl r2 (by omega) rfl ⟨Nat.le_refl _, Nat.le_refl _⟩ (fun y M2 h2 => ?_)
  obtain ⟨rfl, h3⟩ := q2 y M2 h2
  exact R.c hb (And.intro (fun _ => hK M2 h3) (fun h => absurd rfl h))
theorem lw_case5 (R : mx_Rl l G true dm_L d 127 P X) (hs : lw_sc xs Lx X) {pc i : Nat} {of : Int} {M : Mm} {Dx Dm : Md} (hd : 200 < d) (hi : i + 6 ≤ Lx) (hL : Lx ≤ 384) (b1 : mx_blk 9 code pc [.inl (.aload 1)] (pc + 1) = true) (a1 : lw_ca (pc + 1) 1) (a2 : lw_ca (pc + 6) 2) (a3 : lw_ca (pc + 11) 3) (a4 : lw_ca (pc + 16) 4) (a5 : lw_ca (pc + 21) 5) (k1 : mx_kV dm_L (pc + 26) Dx 7 5) (b2 : mx_blk 9 code (pc + 29) [.inl (.aload 2)] (pc + 30) = true) (e1 : lw_ca (pc + 30) 1) (e2 : lw_ca (pc + 35) 2) (e3 : lw_ca (pc + 40) 3) (e4 : lw_ca (pc + 45) 4) (e5 : lw_ca (pc + 50) 5) (k2 : mx_kV dm_L (pc + 55) Dm 8 5) (hb : mx_brk code (pc + 58) (.if_icmp .eq of) 1364 (pc + 61) = true) (hst : Step l G Dx Dm [.int (xs (i + 1)), .int (xs (i + 2)), .int (xs (i + 3)), .int (xs (i + 4)), .int (xs (i + 5))]) (hS : SIM M) (hK : ∀ M2, SIM M2 → X 127 M2 1364 (lw_L i) []) : X 127 M pc (lw_L i) [] := by
  obtain ⟨Qx, r1, q1⟩ := hst M hS
  refine R.b b1 ?_
  show X 127 M (pc + 1) (lw_L i) [.ref 0]
  refine lw_arg R hs a1 (by omega) hL ?_
  refine lw_arg R hs a2 (by omega) hL ?_
  refine lw_arg R hs a3 (by omega) hL ?_
  refine lw_arg R hs a4 (by omega) hL ?_
  refine lw_arg R hs a5 (by omega) hL ?_
  refine R.V5i (n' := 127) (b := 0) k1 rfl r1 (by omega) rfl ⟨Nat.le_refl _, Nat.le_refl _⟩ (fun x M1 h1 => ?_)
  obtain ⟨Qy, r2, q2⟩ := q1 x M1 h1
  refine R.b b2 ?_
  show X 127 M1 (pc + 30) (lw_L i) [.ref 103, .int x]
  refine lw_arg R hs e1 (by omega) hL ?_
  refine lw_arg R hs e2 (by omega) hL ?_
  refine lw_arg R hs e3 (by omega) hL ?_
  refine lw_arg R hs e4 (by omega) hL ?_
  refine lw_arg R hs e5 (by omega) hL ?_
  refine R.V5i (n' := 127) (b := 103) k2 rfl r2 (by omega) rfl ⟨Nat.le_refl _, Nat.le_refl _⟩ (fun y M2 h2 => ?_)
  obtain ⟨rfl, h3⟩ := q2 y M2 h2
  exact R.c hb (And.intro (fun _ => hK M2 h3) (fun h => absurd rfl h))
end LW
theorem cv_L_13 : mx_cV 9 13 dm_X7_district := ⟨mx_gw (i := 338) (by decide +kernel), mx_gw (i := 339) (by decide +kernel), mx_gw (i := 340) (by decide +kernel)⟩
theorem kc_L_211 : mx_kV dm_L 211 dm_X7_district 7 2 := ⟨13, by decide +kernel, md_X7_district, cv_L_13, by decide, by decide +kernel⟩
theorem cv_L_17 : mx_cV 9 17 dm_X8_district := ⟨mx_gw (i := 1003) (by decide +kernel), mx_gw (i := 1004) (by decide +kernel), mx_gw (i := 1005) (by decide +kernel)⟩
theorem kc_L_225 : mx_kV dm_L 225 dm_X8_district 8 2 := ⟨17, by decide +kernel, md_X8_district, cv_L_17, by decide, by decide +kernel⟩
theorem bk_L_200 : mx_blk 9 code 200 [.inl (.aload 1)] 201 = true := by decide +kernel
theorem bk_L_214 : mx_blk 9 code 214 [.inl (.aload 2)] 215 = true := by decide +kernel
theorem br_L_228 : mx_brk code 228 (.if_icmp .eq 1136) 1364 231 = true := by decide +kernel
theorem ca_L_201 : lw_ca 201 1 := ⟨by decide +kernel, by decide +kernel⟩
theorem ca_L_215 : lw_ca 215 1 := ⟨by decide +kernel, by decide +kernel⟩
theorem ca_L_206 : lw_ca 206 2 := ⟨by decide +kernel, by decide +kernel⟩
theorem ca_L_220 : lw_ca 220 2 := ⟨by decide +kernel, by decide +kernel⟩
theorem cv_L_18 : mx_cV 9 18 dm_X7_told := ⟨mx_gw (i := 360) (by decide +kernel), mx_gw (i := 361) (by decide +kernel), mx_gw (i := 362) (by decide +kernel)⟩
theorem kc_L_244 : mx_kV dm_L 244 dm_X7_told 7 2 := ⟨18, by decide +kernel, md_X7_told, cv_L_18, by decide, by decide +kernel⟩
theorem cv_L_21 : mx_cV 9 21 dm_X8_told := ⟨mx_gw (i := 1020) (by decide +kernel), mx_gw (i := 1021) (by decide +kernel), mx_gw (i := 1022) (by decide +kernel)⟩
theorem kc_L_258 : mx_kV dm_L 258 dm_X8_told 8 2 := ⟨21, by decide +kernel, md_X8_told, cv_L_21, by decide, by decide +kernel⟩
theorem bk_L_233 : mx_blk 9 code 233 [.inl (.aload 1)] 234 = true := by decide +kernel
theorem bk_L_247 : mx_blk 9 code 247 [.inl (.aload 2)] 248 = true := by decide +kernel
theorem br_L_261 : mx_brk code 261 (.if_icmp .eq 1103) 1364 264 = true := by decide +kernel
theorem ca_L_234 : lw_ca 234 1 := ⟨by decide +kernel, by decide +kernel⟩
theorem ca_L_248 : lw_ca 248 1 := ⟨by decide +kernel, by decide +kernel⟩
theorem ca_L_239 : lw_ca 239 2 := ⟨by decide +kernel, by decide +kernel⟩
theorem ca_L_253 : lw_ca 253 2 := ⟨by decide +kernel, by decide +kernel⟩
theorem cv_L_22 : mx_cV 9 22 dm_X7_births := ⟨mx_gw (i := 377) (by decide +kernel), mx_gw (i := 378) (by decide +kernel), mx_gw (i := 379) (by decide +kernel)⟩
theorem kc_L_277 : mx_kV dm_L 277 dm_X7_births 7 2 := ⟨22, by decide +kernel, md_X7_births, cv_L_22, by decide, by decide +kernel⟩
theorem cv_L_25 : mx_cV 9 25 dm_X8_births := ⟨mx_gw (i := 1040) (by decide +kernel), mx_gw (i := 1041) (by decide +kernel), mx_gw (i := 1042) (by decide +kernel)⟩
theorem kc_L_291 : mx_kV dm_L 291 dm_X8_births 8 2 := ⟨25, by decide +kernel, md_X8_births, cv_L_25, by decide, by decide +kernel⟩
theorem bk_L_266 : mx_blk 9 code 266 [.inl (.aload 1)] 267 = true := by decide +kernel
theorem bk_L_280 : mx_blk 9 code 280 [.inl (.aload 2)] 281 = true := by decide +kernel
theorem br_L_294 : mx_brk code 294 (.if_icmp .eq 1070) 1364 297 = true := by decide +kernel
theorem ca_L_267 : lw_ca 267 1 := ⟨by decide +kernel, by decide +kernel⟩
theorem ca_L_281 : lw_ca 281 1 := ⟨by decide +kernel, by decide +kernel⟩
theorem ca_L_272 : lw_ca 272 2 := ⟨by decide +kernel, by decide +kernel⟩
theorem ca_L_286 : lw_ca 286 2 := ⟨by decide +kernel, by decide +kernel⟩
theorem cv_L_26 : mx_cV 9 26 dm_X7_as := ⟨mx_gw (i := 412) (by decide +kernel), mx_gw (i := 413) (by decide +kernel), mx_gw (i := 414) (by decide +kernel)⟩
theorem kc_L_310 : mx_kV dm_L 310 dm_X7_as 7 2 := ⟨26, by decide +kernel, md_X7_as, cv_L_26, by decide, by decide +kernel⟩
theorem cv_L_29 : mx_cV 9 29 dm_X8_as := ⟨mx_gw (i := 1062) (by decide +kernel), mx_gw (i := 1063) (by decide +kernel), mx_gw (i := 1064) (by decide +kernel)⟩
theorem kc_L_324 : mx_kV dm_L 324 dm_X8_as 8 2 := ⟨29, by decide +kernel, md_X8_as, cv_L_29, by decide, by decide +kernel⟩
theorem bk_L_299 : mx_blk 9 code 299 [.inl (.aload 1)] 300 = true := by decide +kernel
theorem bk_L_313 : mx_blk 9 code 313 [.inl (.aload 2)] 314 = true := by decide +kernel
theorem br_L_327 : mx_brk code 327 (.if_icmp .eq 1037) 1364 330 = true := by decide +kernel
theorem ca_L_300 : lw_ca 300 1 := ⟨by decide +kernel, by decide +kernel⟩
theorem ca_L_314 : lw_ca 314 1 := ⟨by decide +kernel, by decide +kernel⟩
theorem ca_L_305 : lw_ca 305 2 := ⟨by decide +kernel, by decide +kernel⟩
theorem ca_L_319 : lw_ca 319 2 := ⟨by decide +kernel, by decide +kernel⟩
theorem cv_L_30 : mx_cV 9 30 dm_X7_turns := ⟨mx_gw (i := 423) (by decide +kernel), mx_gw (i := 424) (by decide +kernel), mx_gw (i := 425) (by decide +kernel)⟩
theorem kc_L_343 : mx_kV dm_L 343 dm_X7_turns 7 2 := ⟨30, by decide +kernel, md_X7_turns, cv_L_30, by decide, by decide +kernel⟩
theorem cv_L_33 : mx_cV 9 33 dm_X8_turns := ⟨mx_gw (i := 1070) (by decide +kernel), mx_gw (i := 1071) (by decide +kernel), mx_gw (i := 1072) (by decide +kernel)⟩
theorem kc_L_357 : mx_kV dm_L 357 dm_X8_turns 8 2 := ⟨33, by decide +kernel, md_X8_turns, cv_L_33, by decide, by decide +kernel⟩
theorem bk_L_332 : mx_blk 9 code 332 [.inl (.aload 1)] 333 = true := by decide +kernel
theorem bk_L_346 : mx_blk 9 code 346 [.inl (.aload 2)] 347 = true := by decide +kernel
theorem br_L_360 : mx_brk code 360 (.if_icmp .eq 1004) 1364 363 = true := by decide +kernel
theorem ca_L_333 : lw_ca 333 1 := ⟨by decide +kernel, by decide +kernel⟩
theorem ca_L_347 : lw_ca 347 1 := ⟨by decide +kernel, by decide +kernel⟩
theorem ca_L_338 : lw_ca 338 2 := ⟨by decide +kernel, by decide +kernel⟩
theorem ca_L_352 : lw_ca 352 2 := ⟨by decide +kernel, by decide +kernel⟩
theorem cv_L_34 : mx_cV 9 34 dm_X7_set := ⟨mx_gw (i := 427) (by decide +kernel), mx_gw (i := 428) (by decide +kernel), mx_gw (i := 429) (by decide +kernel)⟩
theorem kc_L_381 : mx_kV dm_L 381 dm_X7_set 7 3 := ⟨34, by decide +kernel, md_X7_set, cv_L_34, by decide, by decide +kernel⟩
theorem cv_L_38 : mx_cV 9 38 dm_X8_set := ⟨mx_gw (i := 1078) (by decide +kernel), mx_gw (i := 1079) (by decide +kernel), mx_gw (i := 1080) (by decide +kernel)⟩
theorem kc_L_400 : mx_kV dm_L 400 dm_X8_set 8 3 := ⟨38, by decide +kernel, md_X8_set, cv_L_38, by decide, by decide +kernel⟩
theorem bk_L_365 : mx_blk 9 code 365 [.inl (.aload 1)] 366 = true := by decide +kernel
theorem bk_L_384 : mx_blk 9 code 384 [.inl (.aload 2)] 385 = true := by decide +kernel
theorem br_L_403 : mx_brk code 403 (.if_icmp .eq 961) 1364 406 = true := by decide +kernel
theorem ca_L_366 : lw_ca 366 1 := ⟨by decide +kernel, by decide +kernel⟩
theorem ca_L_385 : lw_ca 385 1 := ⟨by decide +kernel, by decide +kernel⟩
theorem ca_L_371 : lw_ca 371 2 := ⟨by decide +kernel, by decide +kernel⟩
theorem ca_L_390 : lw_ca 390 2 := ⟨by decide +kernel, by decide +kernel⟩
theorem ca_L_376 : lw_ca 376 3 := ⟨by decide +kernel, by decide +kernel⟩
theorem ca_L_395 : lw_ca 395 3 := ⟨by decide +kernel, by decide +kernel⟩
theorem cv_L_39 : mx_cV 9 39 dm_X7_hide := ⟨mx_gw (i := 433) (by decide +kernel), mx_gw (i := 434) (by decide +kernel), mx_gw (i := 435) (by decide +kernel)⟩
theorem kc_L_414 : mx_kV dm_L 414 dm_X7_hide 7 1 := ⟨39, by decide +kernel, md_X7_hide, cv_L_39, by decide, by decide +kernel⟩
theorem cv_L_43 : mx_cV 9 43 dm_X8_hide := ⟨mx_gw (i := 1084) (by decide +kernel), mx_gw (i := 1085) (by decide +kernel), mx_gw (i := 1086) (by decide +kernel)⟩
theorem kc_L_423 : mx_kV dm_L 423 dm_X8_hide 8 1 := ⟨43, by decide +kernel, md_X8_hide, cv_L_43, by decide, by decide +kernel⟩
theorem bk_L_408 : mx_blk 9 code 408 [.inl (.aload 1)] 409 = true := by decide +kernel
theorem bk_L_417 : mx_blk 9 code 417 [.inl (.aload 2)] 418 = true := by decide +kernel
theorem br_L_426 : mx_brk code 426 (.if_icmp .eq 938) 1364 429 = true := by decide +kernel
theorem ca_L_409 : lw_ca 409 1 := ⟨by decide +kernel, by decide +kernel⟩
theorem ca_L_418 : lw_ca 418 1 := ⟨by decide +kernel, by decide +kernel⟩
theorem cv_L_44 : mx_cV 9 44 dm_X7_rule := ⟨mx_gw (i := 442) (by decide +kernel), mx_gw (i := 443) (by decide +kernel), mx_gw (i := 444) (by decide +kernel)⟩
theorem kc_L_442 : mx_kV dm_L 442 dm_X7_rule 7 2 := ⟨44, by decide +kernel, md_X7_rule, cv_L_44, by decide, by decide +kernel⟩
theorem cv_L_47 : mx_cV 9 47 dm_X8_rule := ⟨mx_gw (i := 1093) (by decide +kernel), mx_gw (i := 1094) (by decide +kernel), mx_gw (i := 1095) (by decide +kernel)⟩
theorem kc_L_456 : mx_kV dm_L 456 dm_X8_rule 8 2 := ⟨47, by decide +kernel, md_X8_rule, cv_L_47, by decide, by decide +kernel⟩
theorem bk_L_431 : mx_blk 9 code 431 [.inl (.aload 1)] 432 = true := by decide +kernel
theorem bk_L_445 : mx_blk 9 code 445 [.inl (.aload 2)] 446 = true := by decide +kernel
theorem br_L_459 : mx_brk code 459 (.if_icmp .eq 905) 1364 462 = true := by decide +kernel
theorem ca_L_432 : lw_ca 432 1 := ⟨by decide +kernel, by decide +kernel⟩
theorem ca_L_446 : lw_ca 446 1 := ⟨by decide +kernel, by decide +kernel⟩
theorem ca_L_437 : lw_ca 437 2 := ⟨by decide +kernel, by decide +kernel⟩
theorem ca_L_451 : lw_ca 451 2 := ⟨by decide +kernel, by decide +kernel⟩
theorem cv_L_48 : mx_cV 9 48 dm_X7_deal := ⟨mx_gw (i := 446) (by decide +kernel), mx_gw (i := 447) (by decide +kernel), mx_gw (i := 448) (by decide +kernel)⟩
theorem kc_L_470 : mx_kV dm_L 470 dm_X7_deal 7 1 := ⟨48, by decide +kernel, md_X7_deal, cv_L_48, by decide, by decide +kernel⟩
theorem cv_L_51 : mx_cV 9 51 dm_X8_deal := ⟨mx_gw (i := 1097) (by decide +kernel), mx_gw (i := 1098) (by decide +kernel), mx_gw (i := 1099) (by decide +kernel)⟩
theorem kc_L_479 : mx_kV dm_L 479 dm_X8_deal 8 1 := ⟨51, by decide +kernel, md_X8_deal, cv_L_51, by decide, by decide +kernel⟩
theorem bk_L_464 : mx_blk 9 code 464 [.inl (.aload 1)] 465 = true := by decide +kernel
theorem bk_L_473 : mx_blk 9 code 473 [.inl (.aload 2)] 474 = true := by decide +kernel
theorem br_L_482 : mx_brk code 482 (.if_icmp .eq 882) 1364 485 = true := by decide +kernel
theorem ca_L_465 : lw_ca 465 1 := ⟨by decide +kernel, by decide +kernel⟩
theorem ca_L_474 : lw_ca 474 1 := ⟨by decide +kernel, by decide +kernel⟩
theorem cv_L_52 : mx_cV 9 52 dm_X7_seed := ⟨mx_gw (i := 455) (by decide +kernel), mx_gw (i := 456) (by decide +kernel), mx_gw (i := 457) (by decide +kernel)⟩
theorem kc_L_493 : mx_kV dm_L 493 dm_X7_seed 7 1 := ⟨52, by decide +kernel, md_X7_seed, cv_L_52, by decide, by decide +kernel⟩
theorem cv_L_55 : mx_cV 9 55 dm_X8_seed := ⟨mx_gw (i := 1106) (by decide +kernel), mx_gw (i := 1107) (by decide +kernel), mx_gw (i := 1108) (by decide +kernel)⟩
theorem kc_L_502 : mx_kV dm_L 502 dm_X8_seed 8 1 := ⟨55, by decide +kernel, md_X8_seed, cv_L_55, by decide, by decide +kernel⟩
theorem bk_L_487 : mx_blk 9 code 487 [.inl (.aload 1)] 488 = true := by decide +kernel
theorem bk_L_496 : mx_blk 9 code 496 [.inl (.aload 2)] 497 = true := by decide +kernel
theorem br_L_505 : mx_brk code 505 (.if_icmp .eq 859) 1364 508 = true := by decide +kernel
theorem ca_L_488 : lw_ca 488 1 := ⟨by decide +kernel, by decide +kernel⟩
theorem ca_L_497 : lw_ca 497 1 := ⟨by decide +kernel, by decide +kernel⟩
theorem cv_L_56 : mx_cV 9 56 dm_X7_days := ⟨mx_gw (i := 459) (by decide +kernel), mx_gw (i := 460) (by decide +kernel), mx_gw (i := 461) (by decide +kernel)⟩
theorem kc_L_516 : mx_kV dm_L 516 dm_X7_days 7 1 := ⟨56, by decide +kernel, md_X7_days, cv_L_56, by decide, by decide +kernel⟩
theorem cv_L_59 : mx_cV 9 59 dm_X8_days := ⟨mx_gw (i := 1110) (by decide +kernel), mx_gw (i := 1111) (by decide +kernel), mx_gw (i := 1112) (by decide +kernel)⟩
theorem kc_L_525 : mx_kV dm_L 525 dm_X8_days 8 1 := ⟨59, by decide +kernel, md_X8_days, cv_L_59, by decide, by decide +kernel⟩
theorem bk_L_510 : mx_blk 9 code 510 [.inl (.aload 1)] 511 = true := by decide +kernel
theorem bk_L_519 : mx_blk 9 code 519 [.inl (.aload 2)] 520 = true := by decide +kernel
theorem br_L_528 : mx_brk code 528 (.if_icmp .eq 836) 1364 531 = true := by decide +kernel
theorem ca_L_511 : lw_ca 511 1 := ⟨by decide +kernel, by decide +kernel⟩
theorem ca_L_520 : lw_ca 520 1 := ⟨by decide +kernel, by decide +kernel⟩
theorem cv_L_60 : mx_cV 9 60 dm_X7_behind := ⟨mx_gw (i := 482) (by decide +kernel), mx_gw (i := 483) (by decide +kernel), mx_gw (i := 484) (by decide +kernel)⟩
theorem kc_L_549 : mx_kV dm_L 549 dm_X7_behind 7 3 := ⟨60, by decide +kernel, md_X7_behind, cv_L_60, by decide, by decide +kernel⟩
theorem cv_L_63 : mx_cV 9 63 dm_X8_behind := ⟨mx_gw (i := 1130) (by decide +kernel), mx_gw (i := 1131) (by decide +kernel), mx_gw (i := 1132) (by decide +kernel)⟩
theorem kc_L_568 : mx_kV dm_L 568 dm_X8_behind 8 3 := ⟨63, by decide +kernel, md_X8_behind, cv_L_63, by decide, by decide +kernel⟩
theorem bk_L_533 : mx_blk 9 code 533 [.inl (.aload 1)] 534 = true := by decide +kernel
theorem bk_L_552 : mx_blk 9 code 552 [.inl (.aload 2)] 553 = true := by decide +kernel
theorem br_L_571 : mx_brk code 571 (.if_icmp .eq 793) 1364 574 = true := by decide +kernel
theorem ca_L_534 : lw_ca 534 1 := ⟨by decide +kernel, by decide +kernel⟩
theorem ca_L_553 : lw_ca 553 1 := ⟨by decide +kernel, by decide +kernel⟩
theorem ca_L_539 : lw_ca 539 2 := ⟨by decide +kernel, by decide +kernel⟩
theorem ca_L_558 : lw_ca 558 2 := ⟨by decide +kernel, by decide +kernel⟩
theorem ca_L_544 : lw_ca 544 3 := ⟨by decide +kernel, by decide +kernel⟩
theorem ca_L_563 : lw_ca 563 3 := ⟨by decide +kernel, by decide +kernel⟩
theorem cv_L_64 : mx_cV 9 64 dm_X7_meets := ⟨mx_gw (i := 505) (by decide +kernel), mx_gw (i := 506) (by decide +kernel), mx_gw (i := 507) (by decide +kernel)⟩
theorem kc_L_587 : mx_kV dm_L 587 dm_X7_meets 7 2 := ⟨64, by decide +kernel, md_X7_meets, cv_L_64, by decide, by decide +kernel⟩
theorem cv_L_67 : mx_cV 9 67 dm_X8_meets := ⟨mx_gw (i := 1142) (by decide +kernel), mx_gw (i := 1143) (by decide +kernel), mx_gw (i := 1144) (by decide +kernel)⟩
theorem kc_L_601 : mx_kV dm_L 601 dm_X8_meets 8 2 := ⟨67, by decide +kernel, md_X8_meets, cv_L_67, by decide, by decide +kernel⟩
theorem bk_L_576 : mx_blk 9 code 576 [.inl (.aload 1)] 577 = true := by decide +kernel
theorem bk_L_590 : mx_blk 9 code 590 [.inl (.aload 2)] 591 = true := by decide +kernel
theorem br_L_604 : mx_brk code 604 (.if_icmp .eq 760) 1364 607 = true := by decide +kernel
theorem ca_L_577 : lw_ca 577 1 := ⟨by decide +kernel, by decide +kernel⟩
theorem ca_L_591 : lw_ca 591 1 := ⟨by decide +kernel, by decide +kernel⟩
theorem ca_L_582 : lw_ca 582 2 := ⟨by decide +kernel, by decide +kernel⟩
theorem ca_L_596 : lw_ca 596 2 := ⟨by decide +kernel, by decide +kernel⟩
theorem cv_L_68 : mx_cV 9 68 dm_X7_sundays := ⟨mx_gw (i := 510) (by decide +kernel), mx_gw (i := 511) (by decide +kernel), mx_gw (i := 512) (by decide +kernel)⟩
theorem kc_L_620 : mx_kV dm_L 620 dm_X7_sundays 7 2 := ⟨68, by decide +kernel, md_X7_sundays, cv_L_68, by decide, by decide +kernel⟩
theorem cv_L_71 : mx_cV 9 71 dm_X8_sundays := ⟨mx_gw (i := 1147) (by decide +kernel), mx_gw (i := 1148) (by decide +kernel), mx_gw (i := 1149) (by decide +kernel)⟩
theorem kc_L_634 : mx_kV dm_L 634 dm_X8_sundays 8 2 := ⟨71, by decide +kernel, md_X8_sundays, cv_L_71, by decide, by decide +kernel⟩
theorem bk_L_609 : mx_blk 9 code 609 [.inl (.aload 1)] 610 = true := by decide +kernel
theorem bk_L_623 : mx_blk 9 code 623 [.inl (.aload 2)] 624 = true := by decide +kernel
theorem br_L_637 : mx_brk code 637 (.if_icmp .eq 727) 1364 640 = true := by decide +kernel
theorem ca_L_610 : lw_ca 610 1 := ⟨by decide +kernel, by decide +kernel⟩
theorem ca_L_624 : lw_ca 624 1 := ⟨by decide +kernel, by decide +kernel⟩
theorem ca_L_615 : lw_ca 615 2 := ⟨by decide +kernel, by decide +kernel⟩
theorem ca_L_629 : lw_ca 629 2 := ⟨by decide +kernel, by decide +kernel⟩
theorem cv_L_72 : mx_cV 9 72 dm_X7_trader := ⟨mx_gw (i := 514) (by decide +kernel), mx_gw (i := 515) (by decide +kernel), mx_gw (i := 516) (by decide +kernel)⟩
theorem kc_L_653 : mx_kV dm_L 653 dm_X7_trader 7 2 := ⟨72, by decide +kernel, md_X7_trader, cv_L_72, by decide, by decide +kernel⟩
theorem cv_L_75 : mx_cV 9 75 dm_X8_trader := ⟨mx_gw (i := 1151) (by decide +kernel), mx_gw (i := 1152) (by decide +kernel), mx_gw (i := 1153) (by decide +kernel)⟩
theorem kc_L_667 : mx_kV dm_L 667 dm_X8_trader 8 2 := ⟨75, by decide +kernel, md_X8_trader, cv_L_75, by decide, by decide +kernel⟩
theorem bk_L_642 : mx_blk 9 code 642 [.inl (.aload 1)] 643 = true := by decide +kernel
theorem bk_L_656 : mx_blk 9 code 656 [.inl (.aload 2)] 657 = true := by decide +kernel
theorem br_L_670 : mx_brk code 670 (.if_icmp .eq 694) 1364 673 = true := by decide +kernel
theorem ca_L_643 : lw_ca 643 1 := ⟨by decide +kernel, by decide +kernel⟩
theorem ca_L_657 : lw_ca 657 1 := ⟨by decide +kernel, by decide +kernel⟩
theorem ca_L_648 : lw_ca 648 2 := ⟨by decide +kernel, by decide +kernel⟩
theorem ca_L_662 : lw_ca 662 2 := ⟨by decide +kernel, by decide +kernel⟩
theorem cv_L_76 : mx_cV 9 76 dm_X7_richest := ⟨mx_gw (i := 526) (by decide +kernel), mx_gw (i := 527) (by decide +kernel), mx_gw (i := 528) (by decide +kernel)⟩
theorem kc_L_681 : mx_kV dm_L 681 dm_X7_richest 7 1 := ⟨76, by decide +kernel, md_X7_richest, cv_L_76, by decide, by decide +kernel⟩
theorem cv_L_79 : mx_cV 9 79 dm_X8_richest := ⟨mx_gw (i := 1159) (by decide +kernel), mx_gw (i := 1160) (by decide +kernel), mx_gw (i := 1161) (by decide +kernel)⟩
theorem kc_L_690 : mx_kV dm_L 690 dm_X8_richest 8 1 := ⟨79, by decide +kernel, md_X8_richest, cv_L_79, by decide, by decide +kernel⟩
theorem bk_L_675 : mx_blk 9 code 675 [.inl (.aload 1)] 676 = true := by decide +kernel
theorem bk_L_684 : mx_blk 9 code 684 [.inl (.aload 2)] 685 = true := by decide +kernel
theorem br_L_693 : mx_brk code 693 (.if_icmp .eq 671) 1364 696 = true := by decide +kernel
theorem ca_L_676 : lw_ca 676 1 := ⟨by decide +kernel, by decide +kernel⟩
theorem ca_L_685 : lw_ca 685 1 := ⟨by decide +kernel, by decide +kernel⟩
theorem cv_L_80 : mx_cV 9 80 dm_X7_brings := ⟨mx_gw (i := 530) (by decide +kernel), mx_gw (i := 531) (by decide +kernel), mx_gw (i := 532) (by decide +kernel)⟩
theorem kc_L_709 : mx_kV dm_L 709 dm_X7_brings 7 2 := ⟨80, by decide +kernel, md_X7_brings, cv_L_80, by decide, by decide +kernel⟩
theorem cv_L_83 : mx_cV 9 83 dm_X8_brings := ⟨mx_gw (i := 1163) (by decide +kernel), mx_gw (i := 1164) (by decide +kernel), mx_gw (i := 1165) (by decide +kernel)⟩
theorem kc_L_723 : mx_kV dm_L 723 dm_X8_brings 8 2 := ⟨83, by decide +kernel, md_X8_brings, cv_L_83, by decide, by decide +kernel⟩
theorem bk_L_698 : mx_blk 9 code 698 [.inl (.aload 1)] 699 = true := by decide +kernel
theorem bk_L_712 : mx_blk 9 code 712 [.inl (.aload 2)] 713 = true := by decide +kernel
theorem br_L_726 : mx_brk code 726 (.if_icmp .eq 638) 1364 729 = true := by decide +kernel
theorem ca_L_699 : lw_ca 699 1 := ⟨by decide +kernel, by decide +kernel⟩
theorem ca_L_713 : lw_ca 713 1 := ⟨by decide +kernel, by decide +kernel⟩
theorem ca_L_704 : lw_ca 704 2 := ⟨by decide +kernel, by decide +kernel⟩
theorem ca_L_718 : lw_ca 718 2 := ⟨by decide +kernel, by decide +kernel⟩
theorem cv_L_84 : mx_cV 9 84 dm_X7_rated := ⟨mx_gw (i := 534) (by decide +kernel), mx_gw (i := 535) (by decide +kernel), mx_gw (i := 536) (by decide +kernel)⟩
theorem kc_L_747 : mx_kV dm_L 747 dm_X7_rated 7 3 := ⟨84, by decide +kernel, md_X7_rated, cv_L_84, by decide, by decide +kernel⟩
theorem cv_L_87 : mx_cV 9 87 dm_X8_rated := ⟨mx_gw (i := 1167) (by decide +kernel), mx_gw (i := 1168) (by decide +kernel), mx_gw (i := 1169) (by decide +kernel)⟩
theorem kc_L_766 : mx_kV dm_L 766 dm_X8_rated 8 3 := ⟨87, by decide +kernel, md_X8_rated, cv_L_87, by decide, by decide +kernel⟩
theorem bk_L_731 : mx_blk 9 code 731 [.inl (.aload 1)] 732 = true := by decide +kernel
theorem bk_L_750 : mx_blk 9 code 750 [.inl (.aload 2)] 751 = true := by decide +kernel
theorem br_L_769 : mx_brk code 769 (.if_icmp .eq 595) 1364 772 = true := by decide +kernel
theorem ca_L_732 : lw_ca 732 1 := ⟨by decide +kernel, by decide +kernel⟩
theorem ca_L_751 : lw_ca 751 1 := ⟨by decide +kernel, by decide +kernel⟩
theorem ca_L_737 : lw_ca 737 2 := ⟨by decide +kernel, by decide +kernel⟩
theorem ca_L_756 : lw_ca 756 2 := ⟨by decide +kernel, by decide +kernel⟩
theorem ca_L_742 : lw_ca 742 3 := ⟨by decide +kernel, by decide +kernel⟩
theorem ca_L_761 : lw_ca 761 3 := ⟨by decide +kernel, by decide +kernel⟩
theorem cv_L_88 : mx_cV 9 88 dm_X7_fine := ⟨mx_gw (i := 572) (by decide +kernel), mx_gw (i := 573) (by decide +kernel), mx_gw (i := 574) (by decide +kernel)⟩
theorem kc_L_775 : mx_kV dm_L 775 dm_X7_fine 7 0 := ⟨88, by decide +kernel, md_X7_fine, cv_L_88, by decide, by decide +kernel⟩
theorem cv_L_92 : mx_cV 9 92 dm_X8_fine := ⟨mx_gw (i := 1179) (by decide +kernel), mx_gw (i := 1180) (by decide +kernel), mx_gw (i := 1181) (by decide +kernel)⟩
theorem kc_L_779 : mx_kV dm_L 779 dm_X8_fine 8 0 := ⟨92, by decide +kernel, md_X8_fine, cv_L_92, by decide, by decide +kernel⟩
theorem bk_L_774 : mx_blk 9 code 774 [.inl (.aload 1)] 775 = true := by decide +kernel
theorem bk_L_778 : mx_blk 9 code 778 [.inl (.aload 2)] 779 = true := by decide +kernel
theorem br_L_782 : mx_brk code 782 (.if_icmp .eq 582) 1364 785 = true := by decide +kernel
theorem cv_L_93 : mx_cV 9 93 dm_X7_feed := ⟨mx_gw (i := 582) (by decide +kernel), mx_gw (i := 583) (by decide +kernel), mx_gw (i := 584) (by decide +kernel)⟩
theorem kc_L_803 : mx_kV dm_L 803 dm_X7_feed 7 3 := ⟨93, by decide +kernel, md_X7_feed, cv_L_93, by decide, by decide +kernel⟩
theorem cv_L_96 : mx_cV 9 96 dm_X8_feed := ⟨mx_gw (i := 1187) (by decide +kernel), mx_gw (i := 1188) (by decide +kernel), mx_gw (i := 1189) (by decide +kernel)⟩
theorem kc_L_822 : mx_kV dm_L 822 dm_X8_feed 8 3 := ⟨96, by decide +kernel, md_X8_feed, cv_L_96, by decide, by decide +kernel⟩
theorem bk_L_787 : mx_blk 9 code 787 [.inl (.aload 1)] 788 = true := by decide +kernel
theorem bk_L_806 : mx_blk 9 code 806 [.inl (.aload 2)] 807 = true := by decide +kernel
theorem br_L_825 : mx_brk code 825 (.if_icmp .eq 539) 1364 828 = true := by decide +kernel
theorem ca_L_788 : lw_ca 788 1 := ⟨by decide +kernel, by decide +kernel⟩
theorem ca_L_807 : lw_ca 807 1 := ⟨by decide +kernel, by decide +kernel⟩
theorem ca_L_793 : lw_ca 793 2 := ⟨by decide +kernel, by decide +kernel⟩
theorem ca_L_812 : lw_ca 812 2 := ⟨by decide +kernel, by decide +kernel⟩
theorem ca_L_798 : lw_ca 798 3 := ⟨by decide +kernel, by decide +kernel⟩
theorem ca_L_817 : lw_ca 817 3 := ⟨by decide +kernel, by decide +kernel⟩
theorem cv_L_97 : mx_cV 9 97 dm_X7_trim := ⟨mx_gw (i := 590) (by decide +kernel), mx_gw (i := 591) (by decide +kernel), mx_gw (i := 592) (by decide +kernel)⟩
theorem kc_L_836 : mx_kV dm_L 836 dm_X7_trim 7 1 := ⟨97, by decide +kernel, md_X7_trim, cv_L_97, by decide, by decide +kernel⟩
theorem cv_L_100 : mx_cV 9 100 dm_X8_trim := ⟨mx_gw (i := 1191) (by decide +kernel), mx_gw (i := 1192) (by decide +kernel), mx_gw (i := 1193) (by decide +kernel)⟩
theorem kc_L_845 : mx_kV dm_L 845 dm_X8_trim 8 1 := ⟨100, by decide +kernel, md_X8_trim, cv_L_100, by decide, by decide +kernel⟩
theorem bk_L_830 : mx_blk 9 code 830 [.inl (.aload 1)] 831 = true := by decide +kernel
theorem bk_L_839 : mx_blk 9 code 839 [.inl (.aload 2)] 840 = true := by decide +kernel
theorem br_L_848 : mx_brk code 848 (.if_icmp .eq 516) 1364 851 = true := by decide +kernel
theorem ca_L_831 : lw_ca 831 1 := ⟨by decide +kernel, by decide +kernel⟩
theorem ca_L_840 : lw_ca 840 1 := ⟨by decide +kernel, by decide +kernel⟩
theorem cv_L_101 : mx_cV 9 101 dm_X7_text := ⟨mx_gw (i := 594) (by decide +kernel), mx_gw (i := 595) (by decide +kernel), mx_gw (i := 596) (by decide +kernel)⟩
theorem kc_L_854 : mx_kV dm_L 854 dm_X7_text 7 0 := ⟨101, by decide +kernel, md_X7_text, cv_L_101, by decide, by decide +kernel⟩
theorem cv_L_104 : mx_cV 9 104 dm_X8_text := ⟨mx_gw (i := 1195) (by decide +kernel), mx_gw (i := 1196) (by decide +kernel), mx_gw (i := 1197) (by decide +kernel)⟩
theorem kc_L_858 : mx_kV dm_L 858 dm_X8_text 8 0 := ⟨104, by decide +kernel, md_X8_text, cv_L_104, by decide, by decide +kernel⟩
theorem bk_L_853 : mx_blk 9 code 853 [.inl (.aload 1)] 854 = true := by decide +kernel
theorem bk_L_857 : mx_blk 9 code 857 [.inl (.aload 2)] 858 = true := by decide +kernel
theorem br_L_861 : mx_brk code 861 (.if_icmp .eq 503) 1364 864 = true := by decide +kernel
theorem cv_L_105 : mx_cV 9 105 dm_X7_textTold := ⟨mx_gw (i := 789) (by decide +kernel), mx_gw (i := 790) (by decide +kernel), mx_gw (i := 791) (by decide +kernel)⟩
theorem kc_L_877 : mx_kV dm_L 877 dm_X7_textTold 7 2 := ⟨105, by decide +kernel, md_X7_textTold, cv_L_105, by decide, by decide +kernel⟩
theorem cv_L_108 : mx_cV 9 108 dm_X8_textTold := ⟨mx_gw (i := 1242) (by decide +kernel), mx_gw (i := 1243) (by decide +kernel), mx_gw (i := 1244) (by decide +kernel)⟩
theorem kc_L_891 : mx_kV dm_L 891 dm_X8_textTold 8 2 := ⟨108, by decide +kernel, md_X8_textTold, cv_L_108, by decide, by decide +kernel⟩
theorem bk_L_866 : mx_blk 9 code 866 [.inl (.aload 1)] 867 = true := by decide +kernel
theorem bk_L_880 : mx_blk 9 code 880 [.inl (.aload 2)] 881 = true := by decide +kernel
theorem br_L_894 : mx_brk code 894 (.if_icmp .eq 470) 1364 897 = true := by decide +kernel
theorem ca_L_867 : lw_ca 867 1 := ⟨by decide +kernel, by decide +kernel⟩
theorem ca_L_881 : lw_ca 881 1 := ⟨by decide +kernel, by decide +kernel⟩
theorem ca_L_872 : lw_ca 872 2 := ⟨by decide +kernel, by decide +kernel⟩
theorem ca_L_886 : lw_ca 886 2 := ⟨by decide +kernel, by decide +kernel⟩
theorem cv_L_109 : mx_cV 9 109 dm_X7_why := ⟨mx_gw (i := 793) (by decide +kernel), mx_gw (i := 794) (by decide +kernel), mx_gw (i := 795) (by decide +kernel)⟩
theorem kc_L_905 : mx_kV dm_L 905 dm_X7_why 7 1 := ⟨109, by decide +kernel, md_X7_why, cv_L_109, by decide, by decide +kernel⟩
theorem cv_L_112 : mx_cV 9 112 dm_X8_why := ⟨mx_gw (i := 1246) (by decide +kernel), mx_gw (i := 1247) (by decide +kernel), mx_gw (i := 1248) (by decide +kernel)⟩
theorem kc_L_914 : mx_kV dm_L 914 dm_X8_why 8 1 := ⟨112, by decide +kernel, md_X8_why, cv_L_112, by decide, by decide +kernel⟩
theorem bk_L_899 : mx_blk 9 code 899 [.inl (.aload 1)] 900 = true := by decide +kernel
theorem bk_L_908 : mx_blk 9 code 908 [.inl (.aload 2)] 909 = true := by decide +kernel
theorem br_L_917 : mx_brk code 917 (.if_icmp .eq 447) 1364 920 = true := by decide +kernel
theorem ca_L_900 : lw_ca 900 1 := ⟨by decide +kernel, by decide +kernel⟩
theorem ca_L_909 : lw_ca 909 1 := ⟨by decide +kernel, by decide +kernel⟩
theorem cv_L_113 : mx_cV 9 113 dm_X7_sheet := ⟨mx_gw (i := 797) (by decide +kernel), mx_gw (i := 798) (by decide +kernel), mx_gw (i := 799) (by decide +kernel)⟩
theorem kc_L_938 : mx_kV dm_L 938 dm_X7_sheet 7 3 := ⟨113, by decide +kernel, md_X7_sheet, cv_L_113, by decide, by decide +kernel⟩
theorem cv_L_116 : mx_cV 9 116 dm_X8_sheet := ⟨mx_gw (i := 1250) (by decide +kernel), mx_gw (i := 1251) (by decide +kernel), mx_gw (i := 1252) (by decide +kernel)⟩
theorem kc_L_957 : mx_kV dm_L 957 dm_X8_sheet 8 3 := ⟨116, by decide +kernel, md_X8_sheet, cv_L_116, by decide, by decide +kernel⟩
theorem bk_L_922 : mx_blk 9 code 922 [.inl (.aload 1)] 923 = true := by decide +kernel
theorem bk_L_941 : mx_blk 9 code 941 [.inl (.aload 2)] 942 = true := by decide +kernel
theorem br_L_960 : mx_brk code 960 (.if_icmp .eq 404) 1364 963 = true := by decide +kernel
theorem ca_L_923 : lw_ca 923 1 := ⟨by decide +kernel, by decide +kernel⟩
theorem ca_L_942 : lw_ca 942 1 := ⟨by decide +kernel, by decide +kernel⟩
theorem ca_L_928 : lw_ca 928 2 := ⟨by decide +kernel, by decide +kernel⟩
theorem ca_L_947 : lw_ca 947 2 := ⟨by decide +kernel, by decide +kernel⟩
theorem ca_L_933 : lw_ca 933 3 := ⟨by decide +kernel, by decide +kernel⟩
theorem ca_L_952 : lw_ca 952 3 := ⟨by decide +kernel, by decide +kernel⟩
theorem cv_L_117 : mx_cV 9 117 dm_X7_mark := ⟨mx_gw (i := 806) (by decide +kernel), mx_gw (i := 807) (by decide +kernel), mx_gw (i := 808) (by decide +kernel)⟩
theorem kc_L_981 : mx_kV dm_L 981 dm_X7_mark 7 3 := ⟨117, by decide +kernel, md_X7_mark, cv_L_117, by decide, by decide +kernel⟩
theorem cv_L_120 : mx_cV 9 120 dm_X8_mark := ⟨mx_gw (i := 1255) (by decide +kernel), mx_gw (i := 1256) (by decide +kernel), mx_gw (i := 1257) (by decide +kernel)⟩
theorem kc_L_1000 : mx_kV dm_L 1000 dm_X8_mark 8 3 := ⟨120, by decide +kernel, md_X8_mark, cv_L_120, by decide, by decide +kernel⟩
theorem bk_L_965 : mx_blk 9 code 965 [.inl (.aload 1)] 966 = true := by decide +kernel
theorem bk_L_984 : mx_blk 9 code 984 [.inl (.aload 2)] 985 = true := by decide +kernel
theorem br_L_1003 : mx_brk code 1003 (.if_icmp .eq 361) 1364 1006 = true := by decide +kernel
theorem ca_L_966 : lw_ca 966 1 := ⟨by decide +kernel, by decide +kernel⟩
theorem ca_L_985 : lw_ca 985 1 := ⟨by decide +kernel, by decide +kernel⟩
theorem ca_L_971 : lw_ca 971 2 := ⟨by decide +kernel, by decide +kernel⟩
theorem ca_L_990 : lw_ca 990 2 := ⟨by decide +kernel, by decide +kernel⟩
theorem ca_L_976 : lw_ca 976 3 := ⟨by decide +kernel, by decide +kernel⟩
theorem ca_L_995 : lw_ca 995 3 := ⟨by decide +kernel, by decide +kernel⟩
theorem cv_L_121 : mx_cV 9 121 dm_X7_pour := ⟨mx_gw (i := 812) (by decide +kernel), mx_gw (i := 813) (by decide +kernel), mx_gw (i := 814) (by decide +kernel)⟩
theorem kc_L_1014 : mx_kV dm_L 1014 dm_X7_pour 7 1 := ⟨121, by decide +kernel, md_X7_pour, cv_L_121, by decide, by decide +kernel⟩
theorem cv_L_124 : mx_cV 9 124 dm_X8_pour := ⟨mx_gw (i := 1260) (by decide +kernel), mx_gw (i := 1261) (by decide +kernel), mx_gw (i := 1262) (by decide +kernel)⟩
theorem kc_L_1023 : mx_kV dm_L 1023 dm_X8_pour 8 1 := ⟨124, by decide +kernel, md_X8_pour, cv_L_124, by decide, by decide +kernel⟩
theorem bk_L_1008 : mx_blk 9 code 1008 [.inl (.aload 1)] 1009 = true := by decide +kernel
theorem bk_L_1017 : mx_blk 9 code 1017 [.inl (.aload 2)] 1018 = true := by decide +kernel
theorem br_L_1026 : mx_brk code 1026 (.if_icmp .eq 338) 1364 1029 = true := by decide +kernel
theorem ca_L_1009 : lw_ca 1009 1 := ⟨by decide +kernel, by decide +kernel⟩
theorem ca_L_1018 : lw_ca 1018 1 := ⟨by decide +kernel, by decide +kernel⟩
theorem cv_L_125 : mx_cV 9 125 dm_X7_reads := ⟨mx_gw (i := 817) (by decide +kernel), mx_gw (i := 818) (by decide +kernel), mx_gw (i := 819) (by decide +kernel)⟩
theorem kc_L_1042 : mx_kV dm_L 1042 dm_X7_reads 7 2 := ⟨125, by decide +kernel, md_X7_reads, cv_L_125, by decide, by decide +kernel⟩
theorem cv_L_128 : mx_cV 9 128 dm_X8_reads := ⟨mx_gw (i := 1264) (by decide +kernel), mx_gw (i := 1265) (by decide +kernel), mx_gw (i := 1266) (by decide +kernel)⟩
theorem kc_L_1056 : mx_kV dm_L 1056 dm_X8_reads 8 2 := ⟨128, by decide +kernel, md_X8_reads, cv_L_128, by decide, by decide +kernel⟩
theorem bk_L_1031 : mx_blk 9 code 1031 [.inl (.aload 1)] 1032 = true := by decide +kernel
theorem bk_L_1045 : mx_blk 9 code 1045 [.inl (.aload 2)] 1046 = true := by decide +kernel
theorem br_L_1059 : mx_brk code 1059 (.if_icmp .eq 305) 1364 1062 = true := by decide +kernel
theorem ca_L_1032 : lw_ca 1032 1 := ⟨by decide +kernel, by decide +kernel⟩
theorem ca_L_1046 : lw_ca 1046 1 := ⟨by decide +kernel, by decide +kernel⟩
theorem ca_L_1037 : lw_ca 1037 2 := ⟨by decide +kernel, by decide +kernel⟩
theorem ca_L_1051 : lw_ca 1051 2 := ⟨by decide +kernel, by decide +kernel⟩
theorem cv_L_129 : mx_cV 9 129 dm_X7_copy := ⟨mx_gw (i := 821) (by decide +kernel), mx_gw (i := 822) (by decide +kernel), mx_gw (i := 823) (by decide +kernel)⟩
theorem kc_L_1090 : mx_kV dm_L 1090 dm_X7_copy 7 5 := ⟨129, by decide +kernel, md_X7_copy, cv_L_129, by decide, by decide +kernel⟩
theorem cv_L_133 : mx_cV 9 133 dm_X8_copy := ⟨mx_gw (i := 1268) (by decide +kernel), mx_gw (i := 1269) (by decide +kernel), mx_gw (i := 1270) (by decide +kernel)⟩
theorem kc_L_1119 : mx_kV dm_L 1119 dm_X8_copy 8 5 := ⟨133, by decide +kernel, md_X8_copy, cv_L_133, by decide, by decide +kernel⟩
theorem bk_L_1064 : mx_blk 9 code 1064 [.inl (.aload 1)] 1065 = true := by decide +kernel
theorem bk_L_1093 : mx_blk 9 code 1093 [.inl (.aload 2)] 1094 = true := by decide +kernel
theorem br_L_1122 : mx_brk code 1122 (.if_icmp .eq 242) 1364 1125 = true := by decide +kernel
theorem ca_L_1065 : lw_ca 1065 1 := ⟨by decide +kernel, by decide +kernel⟩
theorem ca_L_1094 : lw_ca 1094 1 := ⟨by decide +kernel, by decide +kernel⟩
theorem ca_L_1070 : lw_ca 1070 2 := ⟨by decide +kernel, by decide +kernel⟩
theorem ca_L_1099 : lw_ca 1099 2 := ⟨by decide +kernel, by decide +kernel⟩
theorem ca_L_1075 : lw_ca 1075 3 := ⟨by decide +kernel, by decide +kernel⟩
theorem ca_L_1104 : lw_ca 1104 3 := ⟨by decide +kernel, by decide +kernel⟩
theorem ca_L_1080 : lw_ca 1080 4 := ⟨by decide +kernel, by decide +kernel⟩
theorem ca_L_1109 : lw_ca 1109 4 := ⟨by decide +kernel, by decide +kernel⟩
theorem ca_L_1085 : lw_ca 1085 5 := ⟨by decide +kernel, by decide +kernel⟩
theorem ca_L_1114 : lw_ca 1114 5 := ⟨by decide +kernel, by decide +kernel⟩
theorem cv_L_134 : mx_cV 9 134 dm_X7_lay := ⟨mx_gw (i := 830) (by decide +kernel), mx_gw (i := 831) (by decide +kernel), mx_gw (i := 832) (by decide +kernel)⟩
theorem kc_L_1143 : mx_kV dm_L 1143 dm_X7_lay 7 3 := ⟨134, by decide +kernel, md_X7_lay, cv_L_134, by decide, by decide +kernel⟩
theorem cv_L_137 : mx_cV 9 137 dm_X8_lay := ⟨mx_gw (i := 1272) (by decide +kernel), mx_gw (i := 1273) (by decide +kernel), mx_gw (i := 1274) (by decide +kernel)⟩
theorem kc_L_1162 : mx_kV dm_L 1162 dm_X8_lay 8 3 := ⟨137, by decide +kernel, md_X8_lay, cv_L_137, by decide, by decide +kernel⟩
theorem bk_L_1127 : mx_blk 9 code 1127 [.inl (.aload 1)] 1128 = true := by decide +kernel
theorem bk_L_1146 : mx_blk 9 code 1146 [.inl (.aload 2)] 1147 = true := by decide +kernel
theorem br_L_1165 : mx_brk code 1165 (.if_icmp .eq 199) 1364 1168 = true := by decide +kernel
theorem ca_L_1128 : lw_ca 1128 1 := ⟨by decide +kernel, by decide +kernel⟩
theorem ca_L_1147 : lw_ca 1147 1 := ⟨by decide +kernel, by decide +kernel⟩
theorem ca_L_1133 : lw_ca 1133 2 := ⟨by decide +kernel, by decide +kernel⟩
theorem ca_L_1152 : lw_ca 1152 2 := ⟨by decide +kernel, by decide +kernel⟩
theorem ca_L_1138 : lw_ca 1138 3 := ⟨by decide +kernel, by decide +kernel⟩
theorem ca_L_1157 : lw_ca 1157 3 := ⟨by decide +kernel, by decide +kernel⟩
theorem cv_L_138 : mx_cV 9 138 dm_X7_ask := ⟨mx_gw (i := 844) (by decide +kernel), mx_gw (i := 845) (by decide +kernel), mx_gw (i := 846) (by decide +kernel)⟩
theorem kc_L_1181 : mx_kV dm_L 1181 dm_X7_ask 7 2 := ⟨138, by decide +kernel, md_X7_ask, cv_L_138, by decide, by decide +kernel⟩
theorem cv_L_141 : mx_cV 9 141 dm_X8_ask := ⟨mx_gw (i := 1279) (by decide +kernel), mx_gw (i := 1280) (by decide +kernel), mx_gw (i := 1281) (by decide +kernel)⟩
theorem kc_L_1195 : mx_kV dm_L 1195 dm_X8_ask 8 2 := ⟨141, by decide +kernel, md_X8_ask, cv_L_141, by decide, by decide +kernel⟩
theorem bk_L_1170 : mx_blk 9 code 1170 [.inl (.aload 1)] 1171 = true := by decide +kernel
theorem bk_L_1184 : mx_blk 9 code 1184 [.inl (.aload 2)] 1185 = true := by decide +kernel
theorem br_L_1198 : mx_brk code 1198 (.if_icmp .eq 166) 1364 1201 = true := by decide +kernel
theorem ca_L_1171 : lw_ca 1171 1 := ⟨by decide +kernel, by decide +kernel⟩
theorem ca_L_1185 : lw_ca 1185 1 := ⟨by decide +kernel, by decide +kernel⟩
theorem ca_L_1176 : lw_ca 1176 2 := ⟨by decide +kernel, by decide +kernel⟩
theorem ca_L_1190 : lw_ca 1190 2 := ⟨by decide +kernel, by decide +kernel⟩
theorem cv_L_142 : mx_cV 9 142 dm_X7_item := ⟨mx_gw (i := 848) (by decide +kernel), mx_gw (i := 849) (by decide +kernel), mx_gw (i := 850) (by decide +kernel)⟩
theorem kc_L_1214 : mx_kV dm_L 1214 dm_X7_item 7 2 := ⟨142, by decide +kernel, md_X7_item, cv_L_142, by decide, by decide +kernel⟩
theorem cv_L_145 : mx_cV 9 145 dm_X8_item := ⟨mx_gw (i := 1283) (by decide +kernel), mx_gw (i := 1284) (by decide +kernel), mx_gw (i := 1285) (by decide +kernel)⟩
theorem kc_L_1228 : mx_kV dm_L 1228 dm_X8_item 8 2 := ⟨145, by decide +kernel, md_X8_item, cv_L_145, by decide, by decide +kernel⟩
theorem bk_L_1203 : mx_blk 9 code 1203 [.inl (.aload 1)] 1204 = true := by decide +kernel
theorem bk_L_1217 : mx_blk 9 code 1217 [.inl (.aload 2)] 1218 = true := by decide +kernel
theorem br_L_1231 : mx_brk code 1231 (.if_icmp .eq 133) 1364 1234 = true := by decide +kernel
theorem ca_L_1204 : lw_ca 1204 1 := ⟨by decide +kernel, by decide +kernel⟩
theorem ca_L_1218 : lw_ca 1218 1 := ⟨by decide +kernel, by decide +kernel⟩
theorem ca_L_1209 : lw_ca 1209 2 := ⟨by decide +kernel, by decide +kernel⟩
theorem ca_L_1223 : lw_ca 1223 2 := ⟨by decide +kernel, by decide +kernel⟩
theorem cv_L_146 : mx_cV 9 146 dm_X7_rest := ⟨mx_gw (i := 852) (by decide +kernel), mx_gw (i := 853) (by decide +kernel), mx_gw (i := 854) (by decide +kernel)⟩
theorem kc_L_1247 : mx_kV dm_L 1247 dm_X7_rest 7 2 := ⟨146, by decide +kernel, md_X7_rest, cv_L_146, by decide, by decide +kernel⟩
theorem cv_L_149 : mx_cV 9 149 dm_X8_rest := ⟨mx_gw (i := 1287) (by decide +kernel), mx_gw (i := 1288) (by decide +kernel), mx_gw (i := 1289) (by decide +kernel)⟩
theorem kc_L_1261 : mx_kV dm_L 1261 dm_X8_rest 8 2 := ⟨149, by decide +kernel, md_X8_rest, cv_L_149, by decide, by decide +kernel⟩
theorem bk_L_1236 : mx_blk 9 code 1236 [.inl (.aload 1)] 1237 = true := by decide +kernel
theorem bk_L_1250 : mx_blk 9 code 1250 [.inl (.aload 2)] 1251 = true := by decide +kernel
theorem br_L_1264 : mx_brk code 1264 (.if_icmp .eq 100) 1364 1267 = true := by decide +kernel
theorem ca_L_1237 : lw_ca 1237 1 := ⟨by decide +kernel, by decide +kernel⟩
theorem ca_L_1251 : lw_ca 1251 1 := ⟨by decide +kernel, by decide +kernel⟩
theorem ca_L_1242 : lw_ca 1242 2 := ⟨by decide +kernel, by decide +kernel⟩
theorem ca_L_1256 : lw_ca 1256 2 := ⟨by decide +kernel, by decide +kernel⟩
theorem cv_L_150 : mx_cV 9 150 dm_X7_tell := ⟨mx_gw (i := 856) (by decide +kernel), mx_gw (i := 857) (by decide +kernel), mx_gw (i := 858) (by decide +kernel)⟩
theorem kc_L_1275 : mx_kV dm_L 1275 dm_X7_tell 7 1 := ⟨150, by decide +kernel, md_X7_tell, cv_L_150, by decide, by decide +kernel⟩
theorem cv_L_153 : mx_cV 9 153 dm_X8_tell := ⟨mx_gw (i := 1291) (by decide +kernel), mx_gw (i := 1292) (by decide +kernel), mx_gw (i := 1293) (by decide +kernel)⟩
theorem kc_L_1284 : mx_kV dm_L 1284 dm_X8_tell 8 1 := ⟨153, by decide +kernel, md_X8_tell, cv_L_153, by decide, by decide +kernel⟩
theorem bk_L_1269 : mx_blk 9 code 1269 [.inl (.aload 1)] 1270 = true := by decide +kernel
theorem bk_L_1278 : mx_blk 9 code 1278 [.inl (.aload 2)] 1279 = true := by decide +kernel
theorem br_L_1287 : mx_brk code 1287 (.if_icmp .eq 77) 1364 1290 = true := by decide +kernel
theorem ca_L_1270 : lw_ca 1270 1 := ⟨by decide +kernel, by decide +kernel⟩
theorem ca_L_1279 : lw_ca 1279 1 := ⟨by decide +kernel, by decide +kernel⟩
theorem cv_L_154 : mx_cV 9 154 dm_X7_check := ⟨mx_gw (i := 860) (by decide +kernel), mx_gw (i := 861) (by decide +kernel), mx_gw (i := 862) (by decide +kernel)⟩
theorem kc_L_1298 : mx_kV dm_L 1298 dm_X7_check 7 1 := ⟨154, by decide +kernel, md_X7_check, cv_L_154, by decide, by decide +kernel⟩
theorem cv_L_157 : mx_cV 9 157 dm_X8_check := ⟨mx_gw (i := 1295) (by decide +kernel), mx_gw (i := 1296) (by decide +kernel), mx_gw (i := 1297) (by decide +kernel)⟩
theorem kc_L_1307 : mx_kV dm_L 1307 dm_X8_check 8 1 := ⟨157, by decide +kernel, md_X8_check, cv_L_157, by decide, by decide +kernel⟩
theorem bk_L_1292 : mx_blk 9 code 1292 [.inl (.aload 1)] 1293 = true := by decide +kernel
theorem bk_L_1301 : mx_blk 9 code 1301 [.inl (.aload 2)] 1302 = true := by decide +kernel
theorem br_L_1310 : mx_brk code 1310 (.if_icmp .eq 54) 1364 1313 = true := by decide +kernel
theorem ca_L_1293 : lw_ca 1293 1 := ⟨by decide +kernel, by decide +kernel⟩
theorem ca_L_1302 : lw_ca 1302 1 := ⟨by decide +kernel, by decide +kernel⟩
theorem cv_L_158 : mx_cV 9 158 dm_X7_keep := ⟨mx_gw (i := 877) (by decide +kernel), mx_gw (i := 878) (by decide +kernel), mx_gw (i := 879) (by decide +kernel)⟩
theorem kc_L_1316 : mx_kV dm_L 1316 dm_X7_keep 7 0 := ⟨158, by decide +kernel, md_X7_keep, cv_L_158, by decide, by decide +kernel⟩
theorem cv_L_161 : mx_cV 9 161 dm_X8_keep := ⟨mx_gw (i := 1306) (by decide +kernel), mx_gw (i := 1307) (by decide +kernel), mx_gw (i := 1308) (by decide +kernel)⟩
theorem kc_L_1320 : mx_kV dm_L 1320 dm_X8_keep 8 0 := ⟨161, by decide +kernel, md_X8_keep, cv_L_161, by decide, by decide +kernel⟩
theorem bk_L_1315 : mx_blk 9 code 1315 [.inl (.aload 1)] 1316 = true := by decide +kernel
theorem bk_L_1319 : mx_blk 9 code 1319 [.inl (.aload 2)] 1320 = true := by decide +kernel
theorem br_L_1323 : mx_brk code 1323 (.if_icmp .eq 41) 1364 1326 = true := by decide +kernel
theorem cv_L_162 : mx_cV 9 162 dm_X7_back := ⟨mx_gw (i := 881) (by decide +kernel), mx_gw (i := 882) (by decide +kernel), mx_gw (i := 883) (by decide +kernel)⟩
theorem kc_L_1329 : mx_kV dm_L 1329 dm_X7_back 7 0 := ⟨162, by decide +kernel, md_X7_back, cv_L_162, by decide, by decide +kernel⟩
theorem cv_L_165 : mx_cV 9 165 dm_X8_back := ⟨mx_gw (i := 1310) (by decide +kernel), mx_gw (i := 1311) (by decide +kernel), mx_gw (i := 1312) (by decide +kernel)⟩
theorem kc_L_1333 : mx_kV dm_L 1333 dm_X8_back 8 0 := ⟨165, by decide +kernel, md_X8_back, cv_L_165, by decide, by decide +kernel⟩
theorem bk_L_1328 : mx_blk 9 code 1328 [.inl (.aload 1)] 1329 = true := by decide +kernel
theorem bk_L_1332 : mx_blk 9 code 1332 [.inl (.aload 2)] 1333 = true := by decide +kernel
theorem br_L_1336 : mx_brk code 1336 (.if_icmp .eq 28) 1364 1339 = true := by decide +kernel
theorem cv_L_166 : mx_cV 9 166 dm_X7_count := ⟨mx_gw (i := 885) (by decide +kernel), mx_gw (i := 886) (by decide +kernel), mx_gw (i := 887) (by decide +kernel)⟩
theorem kc_L_1347 : mx_kV dm_L 1347 dm_X7_count 7 1 := ⟨166, by decide +kernel, md_X7_count, cv_L_166, by decide, by decide +kernel⟩
theorem cv_L_169 : mx_cV 9 169 dm_X8_count := ⟨mx_gw (i := 1314) (by decide +kernel), mx_gw (i := 1315) (by decide +kernel), mx_gw (i := 1316) (by decide +kernel)⟩
theorem kc_L_1356 : mx_kV dm_L 1356 dm_X8_count 8 1 := ⟨169, by decide +kernel, md_X8_count, cv_L_169, by decide, by decide +kernel⟩
theorem bk_L_1341 : mx_blk 9 code 1341 [.inl (.aload 1)] 1342 = true := by decide +kernel
theorem bk_L_1350 : mx_blk 9 code 1350 [.inl (.aload 2)] 1351 = true := by decide +kernel
theorem br_L_1359 : mx_brk code 1359 (.if_icmp .eq 5) 1364 1362 = true := by decide +kernel
theorem ca_L_1342 : lw_ca 1342 1 := ⟨by decide +kernel, by decide +kernel⟩
theorem ca_L_1351 : lw_ca 1351 1 := ⟨by decide +kernel, by decide +kernel⟩
theorem kc_L_4 : mx_kI dm_L 4 dm_X7_init 0 := ⟨9, by decide +kernel, md_X7_init, ⟨Or.inl (mx_gw (i := 73) (by decide +kernel)), rfl, mx_gw (i := 74) (by decide +kernel), rfl⟩⟩
theorem kc_L_12 : mx_kI dm_L 12 dm_X8_init 0 := ⟨12, by decide +kernel, md_X8_init, ⟨Or.inl (mx_gw (i := 891) (by decide +kernel)), rfl, mx_gw (i := 892) (by decide +kernel), rfl⟩⟩
theorem kn_L_0 : mx_kn dm_L 0 7 := ⟨7, by decide +kernel, by decide +kernel, by decide⟩
theorem kn_L_8 : mx_kn dm_L 8 8 := ⟨10, by decide +kernel, by decide +kernel, by decide⟩
theorem bk_L_3 : mx_blk 9 code 3 [.inl .dup] 4 = true := by decide +kernel
theorem bk_L_7 : mx_blk 9 code 7 [.inl (.astore 1)] 8 = true := by decide +kernel
theorem bk_L_11 : mx_blk 9 code 11 [.inl .dup] 12 = true := by decide +kernel
theorem bk_L_15 : mx_blk 9 code 15 [.inl (.astore 2), .inr (.int 0), .inl (.istore 3)] 18 = true := by decide +kernel
theorem bk_L_18 : mx_blk 9 code 18 [.inl (.iload 3), .inl (.aload 0)] 20 = true := by decide +kernel
theorem dd_L_20 : decode code 20 = .ok (.arraylength, 1) := by decide +kernel
theorem bk_L_21 : mx_blk 9 code 21 [.inr (.int 6), .inl .isub] 24 = true := by decide +kernel
theorem br_L_24 : mx_brk code 24 (.if_icmp .gt 1346) 1370 27 = true := by decide +kernel
theorem bk_L_27 : mx_blk 9 code 27 [.inl (.aload 0), .inl (.iload 3)] 29 = true := by decide +kernel
theorem dd_L_29 : decode code 29 = .ok (.iaload, 1) := by decide +kernel
theorem bk_L_30 : mx_blk 9 code 30 [.inr (.int 63), .inl .iand] 33 = true := by decide +kernel
theorem sw_L_33 : mx_swk code 33 [(0, 200), (1, 233), (2, 266), (3, 299), (4, 332), (5, 365), (6, 408), (7, 431), (8, 464), (9, 487), (10, 510), (11, 533), (12, 576), (13, 609), (14, 642), (15, 675), (16, 698), (17, 731), (18, 774), (19, 787), (20, 830), (21, 853), (22, 866), (23, 899), (24, 922), (25, 965), (26, 1008), (27, 1031), (28, 1064), (29, 1127), (30, 1170), (31, 1203), (32, 1236), (33, 1269), (34, 1292), (35, 1315), (36, 1328), (37, 1341)] 1364 = true := by decide +kernel
theorem bk_L_1364 : mx_blk 9 code 1364 [.inl (.iinc 3 6)] 1367 = true := by decide +kernel
theorem gt_L_1367 : mx_jmp code 1367 18 = true := by decide +kernel
theorem bk_L_1370 : mx_blk 9 code 1370 [.inr (.int 1)] 1371 = true := by decide +kernel
theorem rt_L_1371 : mx_kr dm_L 1371 .boolean := ⟨by decide +kernel, rfl⟩
theorem lw_cmp {i Lx : Nat} (hi : i ≤ 400) (hL : Lx ≤ 384) (h : ¬ nI Lx - 6 < nI i) : i + 6 ≤ Lx := by
  rw [Int32.lt_iff_toInt_lt, nI_toInt (show i < 2 ^ 31 by omega), Int32.toInt_sub, nI_toInt (show Lx < 2 ^ 31 by omega), show (6 : Int32).toInt = 6 from by decide, Int.bmod_eq_of_le (by omega) (by omega)] at h
  omega
theorem lw_loop {l : Launch} {G : Gt} {d : Nat} {P : Option Value → Mm → Prop} {X : Nat → Mm → Nat → Lv → Sk → Prop} {xs : Nat → Int32} {Lx : Nat} (R : mx_Rl l G true dm_L d 127 P X) (hs : lw_sc xs Lx X) (hd : 200 < d) (hL : Lx ≤ 384) (hP : ∀ M, P (some (.int 1)) M) : ∀ (fu i : Nat) (M : Mm), i ≤ 390 → Lx - i ≤ fu → SIM M → X 127 M 18 (lw_L i) [] := by
  intro fu
  induction fu with
  | zero =>
    intro i M hi hf hS
    refine R.b bk_L_18 ?_
    show X 127 M 20 (lw_L i) [.ref 1020, .int (nI i)]
    refine hs.2 _ _ _ _ _ dd_L_20 ?_
    refine R.b bk_L_21 ?_
    refine R.c br_L_24 (And.intro (fun _ => ?_) (fun h => absurd (lw_cmp (by omega) hL h) (by omega)))
    refine R.b bk_L_1370 ?_
    exact R.ri rt_L_1371 (by decide) (hP M)
  | succ fu ih =>
    intro i M hi hf hS
    refine R.b bk_L_18 ?_
    show X 127 M 20 (lw_L i) [.ref 1020, .int (nI i)]
    refine hs.2 _ _ _ _ _ dd_L_20 ?_
    refine R.b bk_L_21 ?_
    refine R.c br_L_24 (And.intro (fun _ => ?_) (fun h => ?_))
    · refine R.b bk_L_1370 ?_
      exact R.ri rt_L_1371 (by decide) (hP M)
    · have hi6 := lw_cmp (by omega) hL h
      have hK : ∀ M2, SIM M2 → X 127 M2 1364 (lw_L i) [] := fun M2 h2 => by
        refine R.b bk_L_1364 ?_
        refine R.j gt_L_1367 ?_
        show X 127 M2 18 [some (.ref 1020), some (.ref 0), some (.ref 103), some (.int (nI i + nI 6))] []
        rw [nI_add]
        exact ih (i + 6) M2 (by omega) (by omega) h2
      refine R.b bk_L_27 ?_
      show X 127 M 29 (lw_L i) [.int (nI i), .ref 1020]
      refine hs.1 _ _ _ _ _ _ dd_L_29 (vp_in_nI (by omega) (by omega)) ?_
      refine R.b bk_L_30 ?_
      exact R.s sw_L_33 (And.intro (fun _ => lw_case2 (pc := 200) R hs hd hi6 hL bk_L_200 ca_L_201 ca_L_206 kc_L_211 bk_L_214 ca_L_215 ca_L_220 kc_L_225 br_L_228 st_district hS hK) (fun _ => And.intro (fun _ => lw_case2 (pc := 233) R hs hd hi6 hL bk_L_233 ca_L_234 ca_L_239 kc_L_244 bk_L_247 ca_L_248 ca_L_253 kc_L_258 br_L_261 st_told hS hK) (fun _ => And.intro (fun _ => lw_case2 (pc := 266) R hs hd hi6 hL bk_L_266 ca_L_267 ca_L_272 kc_L_277 bk_L_280 ca_L_281 ca_L_286 kc_L_291 br_L_294 st_births hS hK) (fun _ => And.intro (fun _ => lw_case2 (pc := 299) R hs hd hi6 hL bk_L_299 ca_L_300 ca_L_305 kc_L_310 bk_L_313 ca_L_314 ca_L_319 kc_L_324 br_L_327 st_as hS hK) (fun _ => And.intro (fun _ => lw_case2 (pc := 332) R hs hd hi6 hL bk_L_332 ca_L_333 ca_L_338 kc_L_343 bk_L_346 ca_L_347 ca_L_352 kc_L_357 br_L_360 st_turns hS hK) (fun _ => And.intro (fun _ => lw_case3 (pc := 365) R hs hd hi6 hL bk_L_365 ca_L_366 ca_L_371 ca_L_376 kc_L_381 bk_L_384 ca_L_385 ca_L_390 ca_L_395 kc_L_400 br_L_403 st_set hS hK) (fun _ => And.intro (fun _ => lw_case1 (pc := 408) R hs hd hi6 hL bk_L_408 ca_L_409 kc_L_414 bk_L_417 ca_L_418 kc_L_423 br_L_426 st_hide hS hK) (fun _ => And.intro (fun _ => lw_case2 (pc := 431) R hs hd hi6 hL bk_L_431 ca_L_432 ca_L_437 kc_L_442 bk_L_445 ca_L_446 ca_L_451 kc_L_456 br_L_459 st_rule hS hK) (fun _ => And.intro (fun _ => lw_case1 (pc := 464) R hs hd hi6 hL bk_L_464 ca_L_465 kc_L_470 bk_L_473 ca_L_474 kc_L_479 br_L_482 st_deal hS hK) (fun _ => And.intro (fun _ => lw_case1 (pc := 487) R hs hd hi6 hL bk_L_487 ca_L_488 kc_L_493 bk_L_496 ca_L_497 kc_L_502 br_L_505 st_seed hS hK) (fun _ => And.intro (fun _ => lw_case1 (pc := 510) R hs hd hi6 hL bk_L_510 ca_L_511 kc_L_516 bk_L_519 ca_L_520 kc_L_525 br_L_528 st_days hS hK) (fun _ => And.intro (fun _ => lw_case3 (pc := 533) R hs hd hi6 hL bk_L_533 ca_L_534 ca_L_539 ca_L_544 kc_L_549 bk_L_552 ca_L_553 ca_L_558 ca_L_563 kc_L_568 br_L_571 st_behind hS hK) (fun _ => And.intro (fun _ => lw_case2 (pc := 576) R hs hd hi6 hL bk_L_576 ca_L_577 ca_L_582 kc_L_587 bk_L_590 ca_L_591 ca_L_596 kc_L_601 br_L_604 st_meets hS hK) (fun _ => And.intro (fun _ => lw_case2 (pc := 609) R hs hd hi6 hL bk_L_609 ca_L_610 ca_L_615 kc_L_620 bk_L_623 ca_L_624 ca_L_629 kc_L_634 br_L_637 st_sundays hS hK) (fun _ => And.intro (fun _ => lw_case2 (pc := 642) R hs hd hi6 hL bk_L_642 ca_L_643 ca_L_648 kc_L_653 bk_L_656 ca_L_657 ca_L_662 kc_L_667 br_L_670 st_trader hS hK) (fun _ => And.intro (fun _ => lw_case1 (pc := 675) R hs hd hi6 hL bk_L_675 ca_L_676 kc_L_681 bk_L_684 ca_L_685 kc_L_690 br_L_693 st_richest hS hK) (fun _ => And.intro (fun _ => lw_case2 (pc := 698) R hs hd hi6 hL bk_L_698 ca_L_699 ca_L_704 kc_L_709 bk_L_712 ca_L_713 ca_L_718 kc_L_723 br_L_726 st_brings hS hK) (fun _ => And.intro (fun _ => lw_case3 (pc := 731) R hs hd hi6 hL bk_L_731 ca_L_732 ca_L_737 ca_L_742 kc_L_747 bk_L_750 ca_L_751 ca_L_756 ca_L_761 kc_L_766 br_L_769 st_rated hS hK) (fun _ => And.intro (fun _ => lw_case0 (pc := 774) R hs hd hi6 hL bk_L_774 kc_L_775 bk_L_778 kc_L_779 br_L_782 st_fine hS hK) (fun _ => And.intro (fun _ => lw_case3 (pc := 787) R hs hd hi6 hL bk_L_787 ca_L_788 ca_L_793 ca_L_798 kc_L_803 bk_L_806 ca_L_807 ca_L_812 ca_L_817 kc_L_822 br_L_825 st_feed hS hK) (fun _ => And.intro (fun _ => lw_case1 (pc := 830) R hs hd hi6 hL bk_L_830 ca_L_831 kc_L_836 bk_L_839 ca_L_840 kc_L_845 br_L_848 st_trim hS hK) (fun _ => And.intro (fun _ => lw_case0 (pc := 853) R hs hd hi6 hL bk_L_853 kc_L_854 bk_L_857 kc_L_858 br_L_861 st_text hS hK) (fun _ => And.intro (fun _ => lw_case2 (pc := 866) R hs hd hi6 hL bk_L_866 ca_L_867 ca_L_872 kc_L_877 bk_L_880 ca_L_881 ca_L_886 kc_L_891 br_L_894 st_textTold hS hK) (fun _ => And.intro (fun _ => lw_case1 (pc := 899) R hs hd hi6 hL bk_L_899 ca_L_900 kc_L_905 bk_L_908 ca_L_909 kc_L_914 br_L_917 st_why hS hK) (fun _ => And.intro (fun _ => lw_case3 (pc := 922) R hs hd hi6 hL bk_L_922 ca_L_923 ca_L_928 ca_L_933 kc_L_938 bk_L_941 ca_L_942 ca_L_947 ca_L_952 kc_L_957 br_L_960 st_sheet hS hK) (fun _ => And.intro (fun _ => lw_case3 (pc := 965) R hs hd hi6 hL bk_L_965 ca_L_966 ca_L_971 ca_L_976 kc_L_981 bk_L_984 ca_L_985 ca_L_990 ca_L_995 kc_L_1000 br_L_1003 st_mark hS hK) (fun _ => And.intro (fun _ => lw_case1 (pc := 1008) R hs hd hi6 hL bk_L_1008 ca_L_1009 kc_L_1014 bk_L_1017 ca_L_1018 kc_L_1023 br_L_1026 st_pour hS hK) (fun _ => And.intro (fun _ => lw_case2 (pc := 1031) R hs hd hi6 hL bk_L_1031 ca_L_1032 ca_L_1037 kc_L_1042 bk_L_1045 ca_L_1046 ca_L_1051 kc_L_1056 br_L_1059 st_reads hS hK) (fun _ => And.intro (fun _ => lw_case5 (pc := 1064) R hs hd hi6 hL bk_L_1064 ca_L_1065 ca_L_1070 ca_L_1075 ca_L_1080 ca_L_1085 kc_L_1090 bk_L_1093 ca_L_1094 ca_L_1099 ca_L_1104 ca_L_1109 ca_L_1114 kc_L_1119 br_L_1122 st_copy hS hK) (fun _ => And.intro (fun _ => lw_case3 (pc := 1127) R hs hd hi6 hL bk_L_1127 ca_L_1128 ca_L_1133 ca_L_1138 kc_L_1143 bk_L_1146 ca_L_1147 ca_L_1152 ca_L_1157 kc_L_1162 br_L_1165 st_lay hS hK) (fun _ => And.intro (fun _ => lw_case2 (pc := 1170) R hs hd hi6 hL bk_L_1170 ca_L_1171 ca_L_1176 kc_L_1181 bk_L_1184 ca_L_1185 ca_L_1190 kc_L_1195 br_L_1198 st_ask hS hK) (fun _ => And.intro (fun _ => lw_case2 (pc := 1203) R hs hd hi6 hL bk_L_1203 ca_L_1204 ca_L_1209 kc_L_1214 bk_L_1217 ca_L_1218 ca_L_1223 kc_L_1228 br_L_1231 st_item hS hK) (fun _ => And.intro (fun _ => lw_case2 (pc := 1236) R hs hd hi6 hL bk_L_1236 ca_L_1237 ca_L_1242 kc_L_1247 bk_L_1250 ca_L_1251 ca_L_1256 kc_L_1261 br_L_1264 st_rest hS hK) (fun _ => And.intro (fun _ => lw_case1 (pc := 1269) R hs hd hi6 hL bk_L_1269 ca_L_1270 kc_L_1275 bk_L_1278 ca_L_1279 kc_L_1284 br_L_1287 st_tell hS hK) (fun _ => And.intro (fun _ => lw_case1 (pc := 1292) R hs hd hi6 hL bk_L_1292 ca_L_1293 kc_L_1298 bk_L_1301 ca_L_1302 kc_L_1307 br_L_1310 st_check hS hK) (fun _ => And.intro (fun _ => lw_case0 (pc := 1315) R hs hd hi6 hL bk_L_1315 kc_L_1316 bk_L_1319 kc_L_1320 br_L_1323 st_keep hS hK) (fun _ => And.intro (fun _ => lw_case0 (pc := 1328) R hs hd hi6 hL bk_L_1328 kc_L_1329 bk_L_1332 kc_L_1333 br_L_1336 st_back hS hK) (fun _ => And.intro (fun _ => lw_case1 (pc := 1341) R hs hd hi6 hL bk_L_1341 ca_L_1342 kc_L_1347 bk_L_1350 ca_L_1351 kc_L_1356 br_L_1359 st_count hS hK) (fun _ => hK M hS)))))))))))))))))))))))))))))))))))))))
