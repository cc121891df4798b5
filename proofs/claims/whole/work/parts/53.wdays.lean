/-! a world's days -/
def rD2 (a r : Rw) (dr : Int32) : Rw := fun j => if j = 5 then r 5 + f_bk (r 0) (A_plain a (f_rem dr (r 1 + 1)) (r 3) (r 4)) (r 1) (r 4) (r 3) else if j = 7 then r 7 - a 4 else if j = 4 then r 4 + 1 else r j
def rWk (a r : Rw) : Rw := fun j => if j = 7 then r 7 + rWg a r else if j = 2 then r 2 + 1 else if j = 3 then f_held (r 5) 2 60 else if j = 5 then r 6 else if j = 6 then 0 else if j = 4 then 0 else r j
def rDay (a r : Rw) (dr : Int32) : Rw := if rD2 a r dr 4 = rD2 a r dr 3 then rWk a (rD2 a r dr) else rD2 a r dr
def rEnd (a r : Rw) (dr : Int32) : Int32 := if rD2 a r dr 4 = rD2 a r dr 3 then 1 else 0
theorem dr_nat (z : Int32) : ∃ j, j < 2 ^ 24 ∧ f_dr z = nI j := by
  have h := pk_ushr z 8 8 (by decide)
  refine ⟨z.toBitVec.toNat / 2 ^ 8, ?_, ?_⟩
  · have := z.toBitVec.isLt
    omega
  · unfold f_dr
    apply Int32.toBitVec_inj.mp
    apply BitVec.eq_of_toNat_eq
    rw [h, pk_tn (by have := z.toBitVec.isLt; omega)]
theorem rem_nat {dr : Int32} {j rt : Nat} (hj : dr = nI j) (h2 : j < 2 ^ 24) (hr : rt ≤ 9) : ∃ i, i ≤ 9 ∧ dr - dr / (nI rt + 1) * (nI rt + 1) = nI i := by
  subst hj
  rw [nI_1, pk_rem (by omega) (by omega) (by omega)]
  exact ⟨j % (rt + 1), by have := Nat.mod_lt j (show rt + 1 > 0 by omega); omega, rfl⟩
theorem c_X6_dayOf {l : Launch} {G : Gt} {M : Mm} {w : Nat} (hw : KW w) {k rt p L : Nat} {dr : Int32} (hk : (kd k).1 = 0) (hke : k ≠ w + 3 + 1) (hkw : k ≠ w) (hk2 : k ≠ w + 2) (hkl : 42 ≤ k) {a : Rw} (hc : ∀ k, k < 3 → M (w + 2) k = A_cnt a (nI k)) (hV : VT a) (hL : RLw M a) (h6 : M w 6 = a 3) (h7 : M w 7 = a 4) (hrt : rt ≤ 9) (hr : M k 1 = nI rt) (hdr : ∃ j, j < 2 ^ 24 ∧ dr = nI j) (hp : M k 4 = nI p) (hL3 : M k 3 = nI L) (hpL : p < L) (hL60 : L ≤ 60) : Runs l G true dm_X6_dayOf 3 127 [.ref w, .ref k, .int dr] M 127 (Pi (fun v M1 => v = rEnd a (M k) dr ∧ M1 k = rDay a (M k) dr ∧ ∀ q, q ≠ w + 3 + 1 → q ≠ k → M1 q = M q)) := by
  refine mx_run ow_X6_dayOf rfl rfl (fun dp X hdp R => ?_)
  obtain ⟨k0, k1, z1, k2, z2, k3, k4, z4, kD, wlo, whi⟩ := id hw
  obtain ⟨jd, hjd, hjd2⟩ := hdr
  obtain ⟨ji, hji, hji2⟩ := rem_nat hjd2 hjd hrt
  have hT14 : cN (a 6) ≤ 14 := by
    obtain ⟨T, q1, q2, -⟩ := hV
    rw [q2, cN_nI (by omega)]
    exact q1
  refine R.b bk_X6_dayOf_0 (And.intro (by first | rfl | assumption | exact kdE hw (by omega)) ?_)
  refine R.c br_X6_dayOf_8 (And.intro (fun h8 => absurd h8 (by rw [hr, nI_1]; exact nI_nle (by omega) (by omega))) (fun h8 => ?_))
  refine R.b bk_X6_dayOf_11 (And.intro (by rw [hr]; exact nI_succ_ne hrt) ?_)
  refine R.j gt_X6_dayOf_14 ?_
  refine R.b bk_X6_dayOf_18 (And.intro (by first | rfl | assumption | exact kdE hw (by omega)) ?_)
  refine R.V2i kc_X6_dayOf_29 (by first | rfl | assumption | exact kdE hw (by omega)) (c_X6_birthsOf hw hk hke hc hV hL ⟨ji, by omega, by rw [hr]; exact hji2⟩) (by omega) rfl ⟨Nat.le_refl _, Nat.le_refl _⟩ (fun x29 M29 q29 => ?_)
  obtain ⟨e29, f29⟩ := q29
  have g29 : M29 k = M k := f29 k hke
  have gw : M29 w = M w := f29 w (by omega)
  refine R.b bk_X6_dayOf_32 (And.intro (by first | rfl | assumption | exact kdE hw (by omega)) (And.intro rfl (And.intro rfl (And.intro (by first | rfl | assumption | exact kdE hw (by omega)) (And.intro (by first | rfl | assumption | exact kdE hw (by omega)) (And.intro (by first | rfl | assumption | exact kdE hw (by omega)) (And.intro rfl (And.intro rfl (And.intro (by first | rfl | assumption | exact kdE hw (by omega)) (And.intro (by first | rfl | assumption | exact kdE hw (by omega)) (And.intro rfl (And.intro rfl (And.intro (by first | rfl | assumption | exact kdE hw (by omega)) (And.intro (by first | rfl | assumption | exact kdE hw (by omega)) ?_))))))))))))))
  obtain ⟨A1, hA1⟩ : ∃ A, A = mx_wr M29 k 5 (M k 5 + x29) := ⟨_, rfl⟩
  obtain ⟨A2, hA2⟩ : ∃ A, A = mx_wr A1 k 7 (A1 k 7 - A1 w 7) := ⟨_, rfl⟩
  obtain ⟨Md, hMd⟩ : ∃ A, A = mx_wr A2 k 4 (A2 k 4 + 1) := ⟨_, rfl⟩
  suffices hs : X 127 Md 67 [some (.ref w), some (.ref k), some (.int dr), some (.int (M k 1 + 1)), some (.int (dr - dr / (M k 1 + 1) * (M k 1 + 1)))] [.int (Md k 3), .int (Md k 4)] by subst hMd hA2 hA1; exact hs
  have ed : Md k = rD2 a (M k) dr := by
    funext j
    have e1 : f_rem dr (M k 1 + 1) = dr - dr / (M k 1 + 1) * (M k 1 + 1) := rfl
    have ew : A1 w 7 = a 4 := by rw [hA1, mx_wr_ne (Ne.symm hkw), gw]; exact h7
    rw [hMd, hA2, ew, hA1]
    simp only [mx_wr_up, mx_rw_rw, mx_rw_at, up, g29, rD2, e29, e1]
    grind
  have fd : ∀ q, q ≠ w + 3 + 1 → q ≠ k → Md q = M q := fun q q1 q2 => by rw [hMd, hA2, hA1, mx_wr_ne q2, mx_wr_ne q2, mx_wr_ne q2]; exact f29 q q1
  have h4e : rD2 a (M k) dr 4 = nI (p + 1) := by simp only [rD2]; rw [hp, nI_1]; rfl
  have h3e : rD2 a (M k) dr 3 = nI L := hL3
  clear hMd hA2 hA1
  rw [ed]
  refine R.c br_X6_dayOf_67 (And.intro (fun h67 => ?_) (fun h67 => ?_))
  · refine R.b bk_X6_dayOf_72 (And.intro (by first | rfl | assumption | exact kdE hw (by omega)) ?_)
    refine R.V1i kc_X6_dayOf_79 (by first | rfl | assumption | exact kdE hw (by omega)) (c_X6_wageOf (a := a) hw hk (fun j hj => by rw [fd (w + 2) (by omega) (by omega)]; exact hc j hj) hV (RLw_congr (fun q q1 q2 => fd q (by omega) (by omega)) (fun _ _ => rfl) hT14 hL) (by rw [fd w (by omega) (by omega)]; exact h6)) (by omega) rfl ⟨Nat.le_refl _, Nat.le_refl _⟩ (fun x79 M79 q79 => ?_)
    obtain ⟨rfl, f79⟩ := q79
    have g79 : M79 k = rD2 a (M k) dr := (f79 k hke).trans ed
    refine R.b bk_X6_dayOf_82 (And.intro (by first | rfl | assumption | exact kdE hw (by omega)) (And.intro rfl (And.intro rfl ?_)))
    refine R.V0v kc_X6_dayOf_87 (by first | rfl | assumption | exact kdE hw (by omega)) (c_X0_beginWeek hk) (by omega) rfl ⟨Nat.le_refl _, Nat.le_refl _⟩ (fun M87 q87 => ?_)
    replace q87 := q87.symm
    subst q87
    refine R.b bk_X6_dayOf_90 ?_
    refine R.ri rt_X6_dayOf_91 rfl ⟨_, rfl, ?_⟩
    have heq : rD2 a (M k) dr 4 = rD2 a (M k) dr 3 := by
      rw [h4e, h3e] at h67 ⊢
      have := (nI_leI (a := L) (b := p + 1) (by omega) (by omega)).mp h67
      rw [show p + 1 = L by omega]
    refine ⟨by rw [rEnd, if_pos heq], ?_, fun q q1 q2 => by rw [mx_rw_ne q2, mx_wr_ne q2, f79 q q1]; exact fd q q1 q2⟩
    rw [mx_rw_at, rDay, if_pos heq]
    funext j
    simp only [r_week, rWk, mx_wr_up, mx_rw_at, up, g79, ed]
    grind
  · refine R.b bk_X6_dayOf_70 ?_
    refine R.ri rt_X6_dayOf_71 rfl ⟨_, rfl, ?_⟩
    have hne : ¬ rD2 a (M k) dr 4 = rD2 a (M k) dr 3 := by
      intro e
      rw [e] at h67
      exact h67 (Int32.le_iff_toInt_le.mpr (Int.le_refl _))
    exact ⟨by rw [rEnd, if_neg hne], by rw [rDay, if_neg hne]; exact ed, fd⟩
theorem A_plain_row {a b : Rw} {x y z : Int32} (h : ∀ j, j = 6 ∨ 55 ≤ j → b j = a j) : A_plain b x y z = A_plain a x y z := by
  unfold A_plain
  rw [A_cnt_congr h, A_ev_row (fun j hj => h j (Or.inr hj))]
theorem d2_draw {a : Rw} {d j : Nat} (h : j = 6 ∨ 55 ≤ j) (hd : d < 6) : A_d2 a d j = A_draw a j := by
  simp only [A_d2, A_draw, up]
  grind
theorem d2_row {a : Rw} {d j : Nat} (hj : j < 8) : A_d2 a d (7 + 8 * d + j) = rD2 (A_draw a) (fun f => a (7 + 8 * d + f)) (f_dr (f_dz (a 0))) j := by
  have e0 : ∀ f, A_draw a (7 + 8 * d + f) = a (7 + 8 * d + f) := fun f => up_ne (by omega)
  have e4 : A_draw a 4 = a 4 := up_ne (by decide)
  have eb : A_births (A_draw a) d (A_x a d) = f_bk (a (7 + 8 * d)) (A_plain (A_draw a) (A_x a d) (a (7 + 8 * d + 3)) (a (7 + 8 * d + 4))) (a (7 + 8 * d + 1)) (a (7 + 8 * d + 4)) (a (7 + 8 * d + 3)) := by
    unfold A_births
    rw [e0 3, e0 4, e0 1, show A_draw a (7 + 8 * d) = a (7 + 8 * d) from e0 0]
  simp only [A_d2, rD2, eb, e4]
  simp only [A_x]
  grind
theorem wg_row {a : Rw} {d : Nat} (hd : d < 6) : A_wage (A_d2 a d) d = rWg (A_draw a) (rD2 (A_draw a) (fun f => a (7 + 8 * d + f)) (f_dr (f_dz (a 0)))) := by
  unfold A_wage rWg
  rw [A_cnt_congr (a := A_draw a) (fun j hj => d2_draw hj hd), A_ev_row (a := A_draw a) (fun j hj => d2_draw (Or.inr hj) hd), d2_row (by decide), d2_row (by decide)]
  have e3 : A_d2 a d 3 = A_draw a 3 := by simp only [A_d2, A_draw, up]; grind
  rw [e3]
theorem dayD_row {a : Rw} {d j : Nat} (hd : d < 6) (hj : j < 8) : A_dayD a d (7 + 8 * d + j) = rDay (A_draw a) (fun f => a (7 + 8 * d + f)) (f_dr (f_dz (a 0))) j := by
  unfold A_dayD rDay
  rw [d2_row (show 4 < 8 by decide), d2_row (show 3 < 8 by decide)]
  split
  · unfold A_week rWk
    rw [wg_row hd]
    have e5 := d2_row (a := a) (d := d) (show 5 < 8 by decide)
    have e6 := d2_row (a := a) (d := d) (show 6 < 8 by decide)
    have ej := d2_row (a := a) (d := d) hj
    rw [e5, e6, ej]
    grind
  · exact d2_row hj
theorem wkD_row {a : Rw} {d : Nat} : A_wkD a d = rEnd (A_draw a) (fun f => a (7 + 8 * d + f)) (f_dr (f_dz (a 0))) := by
  unfold A_wkD rEnd
  rw [d2_row (show 4 < 8 by decide), d2_row (show 3 < 8 by decide)]
theorem dayD_0 {a : Rw} {d : Nat} : A_dayD a d 0 = f_dz (a 0) := by
  unfold A_dayD
  split
  · simp only [A_week, A_d2]
    grind
  · simp only [A_d2]
    grind
/-- weeks that begin, in the districts of S -/
def A_wkS (a : Rw) (S : Nat → Bool) : Nat → Int32
  | 0 => 0
  | d + 1 => if S d = true then A_wkS a S d + A_wkD (A_dayN a d) d else A_wkS a S d
theorem RW_keep {M M1 : Mm} {w mm : Nat} {a : Rw} {S : Nat → Bool} (hm : mm ≤ 6) (hw0 : M1 w = M w) (hw2 : M1 (w + 2) = M (w + 2)) (hd : ∀ d, d < 6 → M1 (w + 5 + d) = M (w + 5 + d)) (h : RW M w a S mm) : RW M1 w a S mm := by
  obtain ⟨h1, h4, h5, h6, h7, h8, h9, h10, hc, hD⟩ := h
  refine ⟨h1, ?_, ?_, ?_, ?_, ?_, ?_, ?_, ?_, ?_⟩
  all_goals first | (rw [hw0]; assumption) | skip
  · intro k hk
    rw [hw2]
    exact hc k hk
  · intro d hd' hS f hf
    rw [hd d (by omega)]
    exact hD d hd' hS f hf
theorem rDay_congr {a r s : Rw} {dr : Int32} (h : ∀ f, f < 8 → r f = s f) (j : Nat) (hj : j < 8) : rDay a r dr j = rDay a s dr j := by
  have e : ∀ g, g < 8 → rD2 a r dr g = rD2 a s dr g := fun g hg => by
    unfold rD2
    simp only [h 0 (by decide), h 1 (by decide), h 3 (by decide), h 4 (by decide), h 5 (by decide), h 7 (by decide), h g hg]
  have ew : rWg a (rD2 a r dr) = rWg a (rD2 a s dr) := by
    unfold rWg
    rw [e 3 (by decide), e 2 (by decide)]
  unfold rDay
  rw [e 4 (by decide), e 3 (by decide)]
  split
  · unfold rWk
    rw [ew, e 7 (by decide), e 2 (by decide), e 5 (by decide), e 6 (by decide), e j hj]
  · exact e j hj
theorem rEnd_congr {a r s : Rw} {dr : Int32} (h : ∀ f, f < 8 → r f = s f) : rEnd a r dr = rEnd a s dr := by
  have h3 := h 3 (by decide)
  have h4 := h 4 (by decide)
  unfold rEnd rD2
  simp [h3, h4]
theorem VP_dayN {a : Rw} {mm : Nat} (h : VP a mm) (n : Nat) (hn : n ≤ mm) : VP (A_dayN a n) mm := ⟨VR_dayN h.1 n hn, fun d hd => VPd_dayN (h.2 d hd) n⟩
theorem dayN_hi {a : Rw} {j : Nat} (hj : 55 ≤ j) : ∀ n, n ≤ 6 → A_dayN a n j = a j := fun n hn => A_dayN_keep (by omega) n (by omega)
theorem RWstep {M M1 : Mm} {w mm i : Nat} {a : Rw} {S : Nat → Bool} (hm : mm ≤ 6) (hq : ∀ q, (q = w + 2) → q ≠ w → M1 q = M q) (hj : ∀ j, j ≠ 9 → M1 w j = M w j) (h9 : M1 w 9 = f_dz (M w 9)) (h : RW M w (A_dayN a i) S mm) (hi : i < mm) (hD : ∀ d, d < mm → S d = true → ∀ f, f < 8 → M1 (w + 5 + d) f = A_dayN a (i + 1) (7 + 8 * d + f)) : RW M1 w (A_dayN a (i + 1)) S mm := by
  obtain ⟨g1, g4, g5, g6, g7, g8, g9, g10, hcc, -⟩ := h
  have k : ∀ j, j ≠ 0 → j < 7 → A_dayN a (i + 1) j = A_dayN a i j := fun j h1 h2 => by rw [A_dayN]; exact A_dayD_keep h1 (Or.inl (by omega))
  refine ⟨by rw [k 1 (by decide) (by decide)]; exact g1, ?_, ?_, ?_, ?_, ?_, ?_, ?_, ?_, hD⟩
  · rw [hj 4 (by decide), k 1 (by decide) (by decide)]; exact g4
  · rw [hj 5 (by decide), k 2 (by decide) (by decide)]; exact g5
  · rw [hj 6 (by decide), k 3 (by decide) (by decide)]; exact g6
  · rw [hj 7 (by decide), k 4 (by decide) (by decide)]; exact g7
  · rw [hj 8 (by decide), k 5 (by decide) (by decide)]; exact g8
  · rw [h9, g9, A_dayN, dayD_0]
  · rw [hj 10 (by decide), k 6 (by decide) (by decide)]; exact g10
  · intro kk hkk
    rw [hq (w + 2) rfl (by omega), A_cnt_congr (a := A_dayN a i) (fun j hj => by rcases hj with rfl | hj; exact k 6 (by decide) (by decide); rw [dayN_hi hj (i + 1) (by omega), dayN_hi hj i (by omega)])]
    exact hcc kk hkk
theorem c_X6_liveDay {l : Launch} {G : Gt} {M : Mm} {w : Nat} (hw : KW w) {who : Int32} {a : Rw} {S : Nat → Bool} {mm : Nat} (hV : VP a mm) (hR : RW M w a S mm) (hL : RLw M a) (hS : ∀ i, i < mm → (((who >>> (nI i &&& 31)) &&& 1) = 1 ↔ S i = true)) : Runs l G true dm_X6_liveDay 4 127 [.ref w, .int who] M 127 (Pi (fun x M1 => x = A_wkS a S mm ∧ RW M1 w (A_day a) S mm ∧ ∀ q, ¬ (w ≤ q ∧ q < w + 11) → M1 q = M q)) := by
  refine mx_run ow_X6_liveDay rfl rfl (fun dp X hdp R => ?_)
  obtain ⟨k0, k1, z1, k2, z2, k3, k4, z4, kD, wlo, whi⟩ := id hw
  have hm6 := hV.1.1
  have hcm : cN (a 1) = mm := by rw [hV.1.2.1]; exact cN_nI (by omega)
  have hA : ∀ (fu i : Nat) (M1 : Mm) (c4 : Option Value), mm - i = fu → i ≤ mm → (RW M1 w (A_dayN a i) S mm) → (∀ q, ¬ (w ≤ q ∧ q < w + 11) → M1 q = M q) → X 127 M1 4 [some (.ref w), some (.int who), some (.int (A_wkS a S i)), some (.int (nI i)), c4] [] := by
    intro fu
    induction fu with
    | zero =>
      intro i M1 c4 hfu hi hI1 hI2
      have hiN : i = mm := by omega
      obtain ⟨g1, g4, g5, g6, g7, g8, g9, g10, hcc, hDD⟩ := id hI1
      have e1i : A_dayN a i 1 = nI mm := by rw [A_dayN_keep (by decide) i (by omega)]; exact hV.1.2.1
      have e4 : M1 w 4 = nI mm := g4.trans e1i
      have hVi : VP (A_dayN a i) mm := VP_dayN hV i hi
      have hT14 : cN (A_dayN a i 6) ≤ 14 := by
        obtain ⟨T, q1, q2, -⟩ := hVi.1.2.2.1
        rw [q2, cN_nI (by omega)]
        exact q1
      have hLi : RLw M1 (A_dayN a i) := RLw_congr (fun q q1 q2 => hI2 q (by omega)) (fun j hj => A_dayN_keep (by omega) i (by omega)) (by rw [← A_dayN_keep (a := a) (j := 6) (by decide) i (by omega)]; exact hT14) hL
      refine R.b bk_X6_liveDay_4 (And.intro (by first | rfl | assumption | exact kdE hw (by omega)) ?_)
      refine R.c br_X6_liveDay_9 (And.intro (fun h9 => ?_) (fun h9 => absurd (by rw [e4, hiN]; exact nI_le (Nat.le_refl mm) (by omega)) h9))
      refine R.b bk_X6_liveDay_48 (And.intro (by first | rfl | assumption | exact kdE hw (by omega)) (And.intro (by first | rfl | assumption | exact kdE hw (by omega)) (And.intro rfl (And.intro rfl ?_))))
      refine R.ri rt_X6_liveDay_59 rfl ⟨_, rfl, ?_⟩
      subst hiN
      refine ⟨rfl, ?_, fun q hq => by rw [mx_wr_ne (by omega)]; exact hI2 q hq⟩
      have kk : ∀ j, j ≠ 2 → A_day a j = A_dayN a i j := fun j hj => by rw [A_day, hcm, up_ne hj]
      have k2e : A_day a 2 = A_dayN a i 2 + 1 := by rw [A_day, hcm, up_at]
      refine ⟨by rw [kk 1 (by decide)]; exact g1, ?_, ?_, ?_, ?_, ?_, ?_, ?_, ?_, ?_⟩
      · rw [mx_wr_up, mx_rw_at, up_ne (by decide), kk 1 (by decide)]; exact g4
      · rw [mx_wr_up, mx_rw_at, up_at, k2e, g5]
      · rw [mx_wr_up, mx_rw_at, up_ne (by decide), kk 3 (by decide)]; exact g6
      · rw [mx_wr_up, mx_rw_at, up_ne (by decide), kk 4 (by decide)]; exact g7
      · rw [mx_wr_up, mx_rw_at, up_ne (by decide), kk 5 (by decide)]; exact g8
      · rw [mx_wr_up, mx_rw_at, up_ne (by decide), kk 0 (by decide)]; exact g9
      · rw [mx_wr_up, mx_rw_at, up_ne (by decide), kk 6 (by decide)]; exact g10
      · intro k hk
        rw [mx_wr_ne (by omega), A_cnt_congr (a := A_dayN a i) (fun j hj => kk j (by omega))]
        exact hcc k hk
      · intro d hd hSd f hf
        rw [mx_wr_ne (by omega), kk _ (by omega)]
        exact hDD d hd hSd f hf
    | succ fu ih =>
      intro i M1 c4 hfu hi hI1 hI2
      have hlt : i < mm := by omega
      obtain ⟨g1, g4, g5, g6, g7, g8, g9, g10, hcc, hDD⟩ := id hI1
      have e1i : A_dayN a i 1 = nI mm := by rw [A_dayN_keep (by decide) i (by omega)]; exact hV.1.2.1
      have e4 : M1 w 4 = nI mm := g4.trans e1i
      have hVi : VP (A_dayN a i) mm := VP_dayN hV i hi
      have hT14 : cN (A_dayN a i 6) ≤ 14 := by
        obtain ⟨T, q1, q2, -⟩ := hVi.1.2.2.1
        rw [q2, cN_nI (by omega)]
        exact q1
      have hLi : RLw M1 (A_dayN a i) := RLw_congr (fun q q1 q2 => hI2 q (by omega)) (fun j hj => A_dayN_keep (by omega) i (by omega)) (by rw [← A_dayN_keep (a := a) (j := 6) (by decide) i (by omega)]; exact hT14) hL
      refine R.b bk_X6_liveDay_4 (And.intro (by first | rfl | assumption | exact kdE hw (by omega)) ?_)
      refine R.c br_X6_liveDay_9 (And.intro (fun h9 => absurd h9 (by rw [e4]; exact nI_ge hlt (by omega))) (fun h9 => ?_))
      refine R.b bk_X6_liveDay_12 ?_
      refine R.V0i kc_X6_liveDay_13 (by first | rfl | assumption | exact kdE hw (by omega)) (c_X6_draw hw) (by omega) rfl ⟨Nat.le_refl _, Nat.le_refl _⟩ (fun x13 M13 q13 => ?_)
      obtain ⟨rfl, q13⟩ := q13
      replace q13 := q13.symm
      subst q13
      refine R.b bk_X6_liveDay_16 ?_
      refine R.c br_X6_liveDay_24 (And.intro (fun h24 => ?_) (fun h24 => ?_))
      · refine R.b bk_X6_liveDay_42 ?_
        refine R.j gt_X6_liveDay_45 ?_
        rw [nI_inc]
        have hSi : ¬ S i = true := fun e => h24 ((hS i hlt).mpr e)
        have hx := ih (i + 1) (mx_wr M1 w 9 (f_dz (M1 w 9))) (some (.int (f_dr (f_dz (M1 w 9))))) (by omega) (by omega) (RWstep (M := M1) hm6 (fun q q1 q2 => mx_wr_ne q2) (fun j hj => by simp only [mx_wr, ↓reduceIte, if_neg hj]) (by simp only [mx_wr, ↓reduceIte]) hI1 hlt (fun d hd hSd f hf => by
          rw [mx_wr_ne (by omega), A_dayN, A_dayD_ne (fun e => hSi (by rw [e]; exact hSd)) hf]
          exact hDD d hd hSd f hf)) (fun q hq => by rw [mx_wr_ne (by omega)]; exact hI2 q hq)
        rw [A_wkS, if_neg hSi] at hx
        exact hx
      · obtain ⟨rt, hrt, hrt2⟩ := hVi.1.2.2.2 i hlt
        obtain ⟨ki, L, p, hki, hk1, hL3, hp4, hpL, hL2, hL60⟩ := hVi.2 i hlt
        have hSi : S i = true := (hS i hlt).mp h24
        have eD : ∀ f, f < 8 → M1 (w + 5 + i) f = A_dayN a i (7 + 8 * i + f) := hDD i hlt hSi
        have eM : (mx_wr M1 w 9 (f_dz (M1 w 9))) (w + 5 + i) = M1 (w + 5 + i) := mx_wr_ne (by omega)
        refine R.b bk_X6_liveDay_27 (And.intro (by first | rfl | assumption | exact kdE hw (by omega)) (And.intro ⟨by decide, by decide, rfl⟩ (And.intro (by first | rfl | assumption | exact kdE hw (by omega)) (And.intro (by rw [z1]; exact vp_in_nI (show i < 6 by omega) (by decide)) ?_))))
        refine R.V2i kc_X6_liveDay_37 (by first | rfl | assumption | exact kdE hw (by omega)) ((el13 (w := w) (d := i) (show i < 6 by omega)).symm ▸ c_X6_dayOf (a := A_draw (A_dayN a i)) hw (rt := rt) (p := p) (L := L) (kD i (by omega)) (by omega) (by omega) (by omega) (by omega) (fun k hk => by rw [mx_wr_ne (by omega), A_cnt_congr (a := A_dayN a i) (b := A_draw (A_dayN a i)) (fun j hj => up_ne (by omega))]; exact hcc k hk) (VT_congr (fun j hj => up_ne (by omega)) hVi.1.2.2.1) (RLw_congr (M := M1) (a := A_dayN a i) (fun q q1 q2 => mx_wr_ne (by omega)) (fun j hj => up_ne (by omega)) hT14 hLi) (by simp only [mx_wr, ↓reduceIte]; exact g6) (by simp only [mx_wr, ↓reduceIte]; exact g7) hrt (by rw [eM, eD 1 (by decide)]; exact hrt2) (dr_nat _) (by rw [eM, eD 4 (by decide)]; exact hp4) (by rw [eM, eD 3 (by decide)]; exact hL3) hpL hL60) (by omega) rfl ⟨Nat.le_refl _, Nat.le_refl _⟩ (fun x37 M37 q37 => ?_)
        obtain ⟨e37, r37, f37⟩ := q37
        rw [el13 (show i < 6 by omega)] at e37 r37
        simp only [el13 (show i < 6 by omega)] at f37
        refine R.b bk_X6_liveDay_40 ?_
        refine R.b bk_X6_liveDay_42 ?_
        refine R.j gt_X6_liveDay_45 ?_
        rw [nI_inc]
        have eR : ∀ f, f < 8 → rDay (A_draw (A_dayN a i)) (M1 (w + 5 + i)) (f_dr (f_dz (M1 w 9))) f = A_dayN a (i + 1) (7 + 8 * i + f) := fun f hf => by
          rw [A_dayN, dayD_row (by omega) hf, g9]
          exact rDay_congr (fun g hg => eD g hg) f hf
        have hx := ih (i + 1) M37 (some (.int (f_dr (f_dz (M1 w 9))))) (by omega) (by omega) (RWstep (M := M1) hm6 (fun q q1 q2 => by rw [f37 q (by omega) (by omega)]; exact mx_wr_ne q2) (fun j hj => by rw [f37 w (by omega) (by omega)]; simp only [mx_wr, ↓reduceIte, if_neg hj]) (by rw [f37 w (by omega) (by omega)]; simp only [mx_wr, ↓reduceIte]) hI1 hlt (fun d hd hSd f hf => by
          by_cases hdi : d = i
          · subst hdi
            rw [r37, eM]
            exact eR f hf
          · rw [f37 (w + 5 + d) (by omega) (by omega), mx_wr_ne (by omega), A_dayN, A_dayD_ne (fun e => hdi e.symm) hf]
            exact hDD d hd hSd f hf)) (fun q hq => by rw [f37 q (by omega) (by omega), mx_wr_ne (by omega)]; exact hI2 q hq)
        have hwk : A_wkS a S (i + 1) = A_wkS a S i + x37 := by
          rw [A_wkS, if_pos hSi, e37, wkD_row, eM, g9]
          congr 1
          exact rEnd_congr (fun g hg => (eD g hg).symm)
        rw [hwk] at hx
        exact hx
  refine R.b bk_X6_liveDay_0 ?_
  exact hA mm 0 M none rfl (Nat.zero_le mm) hR (fun q _ => rfl)
