/-! the class's calls on districts -/
theorem told_lt {a : Rw} {mm dn k : Nat} (hD : ∀ v, isD a v = f_in v 0 (nI mm - 1)) (hm : mm ≤ 6) (hd : dn < mm) (hk : k < 8) : F_told a (nI dn) (nI k) = a (7 + 8 * dn + k) := by
  have h9 : ¬ f_in (nI k) 0 9 = 0 := by
    exact f_in_d (m := 10) (by omega) (by decide)
  rw [F_told, if_neg (by rw [hD]; exact fun q => q.elim (f_in_d hd (by omega)) h9), if_pos (show nI k < 8 from nI_lt (b := 8) hk (by decide)), cN_nI (by omega), cN_nI (by omega)]
theorem RW_g {M : Mm} {w mm fw ia : Nat} {a : Rw} {S : Nat → Bool} {v : Int32} (h : fw = 6 ∧ ia = 3 ∨ fw = 7 ∧ ia = 4 ∨ fw = 8 ∧ ia = 5 ∨ fw = 9 ∧ ia = 0) (hR : RW M w a S mm) : RW (mx_wr M w fw v) w (up a ia v) S mm := by
  obtain ⟨h1, h4, h5, h6, h7, h8, h9, h10, hc, hD⟩ := hR
  have hcc : ∀ k, k < 3 → mx_wr M w fw v (w + 2) k = A_cnt (up a ia v) (nI k) := fun k hk => by
    rw [mx_wr_ne (by omega), A_cnt_congr (a := a) (fun j hj => up_ne (by omega))]
    exact hc k hk
  have hDD : ∀ d, d < mm → S d = true → ∀ f, f < 8 → mx_wr M w fw v (w + 5 + d) f = up a ia v (7 + 8 * d + f) := fun d hd hs f hf => by
    rw [mx_wr_ne (by omega), up_ne (by omega)]
    exact hD d hd hs f hf
  refine ⟨?_, ?_, ?_, ?_, ?_, ?_, ?_, ?_, hcc, hDD⟩
  all_goals (first | rw [mx_wr_up, mx_rw_at] | skip)
  all_goals rcases h with ⟨rfl, rfl⟩ | ⟨rfl, rfl⟩ | ⟨rfl, rfl⟩ | ⟨rfl, rfl⟩
  all_goals (simp only [up]; simp; try assumption)
theorem c_X7_district {l : Launch} {G : Gt} {M : Mm} {k r : Int32} {a : Rw} {mm : Nat} (hV : VP a mm) (hR : RW M 70 a Sall mm) : Runs l G true dm_X7_district 3 127 [.ref 0, .int k, .int r] M 127 (Pi (fun x M1 => x = F_district a k r ∧ RN M1 70 (A_district a k r) ∧ ∀ q, ¬ (70 ≤ q ∧ q < 81) → M1 q = M q)) := by
  refine mx_run ow_X7_district rfl rfl (fun dp X hdp R => ?_)
  have hm6 := hV.1.1
  have h4m : M 70 4 = nI mm := hR.2.1.trans hR.1
  have hDD : ∀ d, d < mm → ∀ f, f < 8 → M (70 + 5 + d) f = a (7 + 8 * d + f) := fun d hd f hf => hR.2.2.2.2.2.2.2.2.2 d hd rfl f hf
  have hisD : ∀ v, isD a v = f_in v 0 (nI mm - 1) := fun v => by rw [isD, hR.1]
  refine R.b bk_X7_district_0 ?_
  refine R.S1i kc_X7_district_1 (c_X7_isKind) (by omega) rfl ⟨Nat.le_refl _, Nat.le_refl _⟩ (fun x1 M1 q1 => ?_)
  obtain ⟨rfl, q1⟩ := q1
  replace q1 := q1.symm
  subst q1
  refine R.c br_X7_district_4 (And.intro (fun h4 => ?_) (fun h4 => ?_))
  · refine R.b bk_X7_district_17 ?_
    refine R.ri rt_X7_district_19 rfl ⟨_, rfl, ?_⟩
    exact ⟨by rw [F_district, if_pos (by simp_all)], by rw [A_district, if_pos (by simp_all)]; exact RN_of hm6 hR, fun q _ => rfl⟩
  · refine R.b bk_X7_district_7 ?_
    refine R.S3i kc_X7_district_11 (c_X7_within) (by omega) rfl ⟨Nat.le_refl _, Nat.le_refl _⟩ (fun x11 M11 q11 => ?_)
    obtain ⟨rfl, q11⟩ := q11
    replace q11 := q11.symm
    subst q11
    refine R.c br_X7_district_14 (And.intro (fun h14 => ?_) (fun h14 => ?_))
    · refine R.b bk_X7_district_20 (And.intro (by first | rfl | assumption | exact kdE KW_70 (by omega) | exact KW_70.2.2.2.2.2.2.2.2.1 _ (by omega) | exact kdE KW_92 (by omega) | exact KW_92.2.2.2.2.2.2.2.2.1 _ (by omega)) (And.intro (by first | rfl | assumption | exact kdE KW_70 (by omega) | exact KW_70.2.2.2.2.2.2.2.2.1 _ (by omega) | exact kdE KW_92 (by omega) | exact KW_92.2.2.2.2.2.2.2.2.1 _ (by omega)) ?_))
      refine R.c br_X7_district_29 (And.intro (fun h29 => ?_) (fun h29 => ?_))
      · have hlt : mm < 6 := by
          have q := h29
          rw [show M 70 (388 % 64) = nI mm from h4m] at q
          exact (nI_ltI (b := 6) (by omega) (by decide)).mp q
        have hn6 : ¬ a 1 = 6 := by
          rw [hR.1]
          intro e
          have := (nI_eq (a := mm) (b := 6) (by omega) (by decide)).mp e
          omega
        refine R.b bk_X7_district_35 (And.intro (by first | rfl | assumption | exact kdE KW_70 (by omega) | exact KW_70.2.2.2.2.2.2.2.2.1 _ (by omega) | exact kdE KW_92 (by omega) | exact KW_92.2.2.2.2.2.2.2.2.1 _ (by omega)) ?_)
        refine R.V2v kc_X7_district_41 (by first | rfl | assumption | exact kdE KW_70 (by omega) | exact KW_70.2.2.2.2.2.2.2.2.1 _ (by omega) | exact kdE KW_92 (by omega) | exact KW_92.2.2.2.2.2.2.2.2.1 _ (by omega)) (c_X6_addDistrict KW_70 (m := mm) hlt h4m) (by omega) rfl ⟨Nat.le_refl _, Nat.le_refl _⟩ (fun M41 q41 => ?_)
        replace q41 := q41.symm
        subst q41
        refine R.b bk_X7_district_44 (And.intro (by first | rfl | assumption | exact kdE KW_70 (by omega) | exact KW_70.2.2.2.2.2.2.2.2.1 _ (by omega) | exact kdE KW_92 (by omega) | exact KW_92.2.2.2.2.2.2.2.2.1 _ (by omega)) (And.intro (by first | rfl | assumption | exact kdE KW_70 (by omega) | exact KW_70.2.2.2.2.2.2.2.2.1 _ (by omega) | exact kdE KW_92 (by omega) | exact KW_92.2.2.2.2.2.2.2.2.1 _ (by omega)) ?_))
        refine R.ri rt_X7_district_53 rfl ⟨_, rfl, ?_⟩
        refine ⟨?_, ?_, fun q hq => by rw [mx_wr_ne (by omega), mx_rw_ne (by omega)]⟩
        · show mx_wr _ 70 4 (nI (mm + 1)) 70 4 - 1 = _
          rw [mx_wr_up, mx_rw_at, up_at, F_district, if_neg (by simp_all), if_neg hn6, nI_pred, hR.1]
        · rw [A_district, if_neg (by simp_all)]
          exact RN_of (by omega) (RW_come hlt hR)
      · have h6 : a 1 = 6 := by
          have q := h29
          rw [show M 70 (388 % 64) = nI mm from h4m] at q
          have := mt (nI_lt (b := 6) (a := mm) · (by decide)) q
          rw [hR.1, show mm = 6 by omega]; rfl
        refine R.b bk_X7_district_32 ?_
        refine R.ri rt_X7_district_34 rfl ⟨_, rfl, ?_⟩
        exact ⟨by rw [F_district, if_neg (by simp_all), if_pos h6], by rw [A_district, if_pos (by simp_all)]; exact RN_of hm6 hR, fun q _ => rfl⟩
    · refine R.b bk_X7_district_17 ?_
      refine R.ri rt_X7_district_19 rfl ⟨_, rfl, ?_⟩
      exact ⟨by rw [F_district, if_pos (by simp_all)], by rw [A_district, if_pos (by simp_all)]; exact RN_of hm6 hR, fun q _ => rfl⟩
theorem in_lit {w : Int32} {n : Nat} {b : Int32} (hb : b.toInt = n) (h : ∀ k, k ≤ n → ¬ w = nI k) : f_in w 0 b = 0 := by
  apply Classical.byContradiction
  intro hc
  obtain ⟨d, h1, h2⟩ := f_in_nat hb hc
  exact h d h1 h2
theorem in09 {w : Int32} (h0 : ¬ w = 0) (h1 : ¬ w = 1) (h2 : ¬ w = 2) (h3 : ¬ w = 3) (h4 : ¬ w = 4) (h5 : ¬ w = 5) (h6 : ¬ w = 6) (h7 : ¬ w = 7) (h8 : ¬ w = 8) (h9 : ¬ w = 9) : f_in w 0 9 = 0 := by
  refine in_lit (n := 9) (by decide) (fun k hk => ?_)
  rcases (show k = 0 ∨ k = 1 ∨ k = 2 ∨ k = 3 ∨ k = 4 ∨ k = 5 ∨ k = 6 ∨ k = 7 ∨ k = 8 ∨ k = 9 by omega) with rfl | rfl | rfl | rfl | rfl | rfl | rfl | rfl | rfl | rfl <;> assumption
theorem in13 {w : Int32} (h1 : ¬ w = 1) (h2 : ¬ w = 2) (h3 : ¬ w = 3) : f_in w 1 3 = 0 := by
  apply Classical.byContradiction
  intro hc
  obtain ⟨g1, g2⟩ := f_in_ne hc
  obtain ⟨k, hk, rfl⟩ := nI_of2 (n := 3) (M := 3) (by decide) (by rw [Int32.not_lt]; exact Int32.le_trans (by decide) g1) g2
  rcases (show k = 0 ∨ k = 1 ∨ k = 2 ∨ k = 3 by omega) with rfl | rfl | rfl | rfl
  · exact absurd g1 (by decide)
  · exact h1 rfl
  · exact h2 rfl
  · exact h3 rfl
theorem in02 {w : Int32} (h0 : ¬ w = 0) (h1 : ¬ w = 1) (h2 : ¬ w = 2) : f_in w 0 2 = 0 := by
  refine in_lit (n := 2) (by decide) (fun k hk => ?_)
  rcases (show k = 0 ∨ k = 1 ∨ k = 2 by omega) with rfl | rfl | rfl <;> assumption
theorem c_X7_told {l : Launch} {G : Gt} {M : Mm} {d w : Int32} {a : Rw} {mm : Nat} (hV : VP a mm) (hR : RW M 70 a Sall mm) : Runs l G true dm_X7_told 2 127 [.ref 0, .int d, .int w] M 127 (Pi (fun x M1 => x = F_told a d w ∧ M1 = M)) := by
  refine mx_run ow_X7_told rfl rfl (fun dp X hdp R => ?_)
  have hm6 := hV.1.1
  have h4m : M 70 4 = nI mm := hR.2.1.trans hR.1
  have hDD : ∀ d, d < mm → ∀ f, f < 8 → M (70 + 5 + d) f = a (7 + 8 * d + f) := fun d hd f hf => hR.2.2.2.2.2.2.2.2.2 d hd rfl f hf
  have hisD : ∀ v, isD a v = f_in v 0 (nI mm - 1) := fun v => by rw [isD, hR.1]
  refine R.b bk_X7_told_0 (And.intro (by first | rfl | assumption | exact kdE KW_70 (by omega) | exact KW_70.2.2.2.2.2.2.2.2.1 _ (by omega) | exact kdE KW_92 (by omega) | exact KW_92.2.2.2.2.2.2.2.2.1 _ (by omega)) ?_)
  refine R.V1i kc_X7_told_5 (by first | rfl | assumption | exact kdE KW_70 (by omega) | exact KW_70.2.2.2.2.2.2.2.2.1 _ (by omega) | exact kdE KW_92 (by omega) | exact KW_92.2.2.2.2.2.2.2.2.1 _ (by omega)) (c_X6_has KW_70 hm6 h4m) (by omega) rfl ⟨Nat.le_refl _, Nat.le_refl _⟩ (fun x5 M5 q5 => ?_)
  obtain ⟨rfl, q5⟩ := q5
  replace q5 := q5.symm
  subst q5
  refine R.c br_X7_told_8 (And.intro (fun h8 => ?_) (fun h8 => ?_))
  · obtain ⟨dn, hdn, rfl⟩ := f_in_dist (by omega) rfl h8
    have hcdn : cN (nI dn) = dn := cN_nI (by omega)
    refine R.b bk_X7_told_14 (And.intro (by first | rfl | assumption | exact kdE KW_70 (by omega) | exact KW_70.2.2.2.2.2.2.2.2.1 _ (by omega) | exact kdE KW_92 (by omega) | exact KW_92.2.2.2.2.2.2.2.2.1 _ (by omega)) (And.intro (by first | rfl | assumption | exact kdE KW_70 (by omega) | exact KW_70.2.2.2.2.2.2.2.2.1 _ (by omega) | exact kdE KW_92 (by omega) | exact KW_92.2.2.2.2.2.2.2.2.1 _ (by omega)) (And.intro ⟨by decide, by decide, rfl⟩ (And.intro (by first | rfl | assumption | exact kdE KW_70 (by omega) | exact KW_70.2.2.2.2.2.2.2.2.1 _ (by omega) | exact kdE KW_92 (by omega) | exact KW_92.2.2.2.2.2.2.2.2.1 _ (by omega)) (And.intro (by exact vp_in_nI (show dn < 6 by omega) (by decide)) ?_)))))
    rw [el13 (w := 70) (show dn < 6 by omega)]
    refine R.s sw_X7_told_25 (And.intro (fun h25_0 => ?_) (fun h25_0 => And.intro (fun h25_1 => ?_) (fun h25_1 => And.intro (fun h25_2 => ?_) (fun h25_2 => And.intro (fun h25_3 => ?_) (fun h25_3 => And.intro (fun h25_4 => ?_) (fun h25_4 => And.intro (fun h25_5 => ?_) (fun h25_5 => And.intro (fun h25_6 => ?_) (fun h25_6 => And.intro (fun h25_7 => ?_) (fun h25_7 => And.intro (fun h25_8 => ?_) (fun h25_8 => And.intro (fun h25_9 => ?_) (fun h25_9 => ?_)))))))))))
    · refine R.b bk_X7_told_80 (And.intro (by first | rfl | assumption | exact kdE KW_70 (by omega) | exact KW_70.2.2.2.2.2.2.2.2.1 _ (by omega) | exact kdE KW_92 (by omega) | exact KW_92.2.2.2.2.2.2.2.2.1 _ (by omega)) ?_)
      refine R.ri rt_X7_told_84 rfl ⟨_, rfl, ?_⟩
      refine ⟨?_, rfl⟩
      subst h25_0
      exact (hDD dn hdn 0 (by decide)).trans (told_lt (k := 0) hisD hm6 hdn (by decide)).symm
    · refine R.b bk_X7_told_85 (And.intro (by first | rfl | assumption | exact kdE KW_70 (by omega) | exact KW_70.2.2.2.2.2.2.2.2.1 _ (by omega) | exact kdE KW_92 (by omega) | exact KW_92.2.2.2.2.2.2.2.2.1 _ (by omega)) ?_)
      refine R.ri rt_X7_told_89 rfl ⟨_, rfl, ?_⟩
      refine ⟨?_, rfl⟩
      subst h25_1
      exact (hDD dn hdn 1 (by decide)).trans (told_lt (k := 1) hisD hm6 hdn (by decide)).symm
    · refine R.b bk_X7_told_90 (And.intro (by first | rfl | assumption | exact kdE KW_70 (by omega) | exact KW_70.2.2.2.2.2.2.2.2.1 _ (by omega) | exact kdE KW_92 (by omega) | exact KW_92.2.2.2.2.2.2.2.2.1 _ (by omega)) ?_)
      refine R.ri rt_X7_told_94 rfl ⟨_, rfl, ?_⟩
      refine ⟨?_, rfl⟩
      subst h25_2
      exact (hDD dn hdn 2 (by decide)).trans (told_lt (k := 2) hisD hm6 hdn (by decide)).symm
    · refine R.b bk_X7_told_95 (And.intro (by first | rfl | assumption | exact kdE KW_70 (by omega) | exact KW_70.2.2.2.2.2.2.2.2.1 _ (by omega) | exact kdE KW_92 (by omega) | exact KW_92.2.2.2.2.2.2.2.2.1 _ (by omega)) ?_)
      refine R.ri rt_X7_told_99 rfl ⟨_, rfl, ?_⟩
      refine ⟨?_, rfl⟩
      subst h25_3
      exact (hDD dn hdn 3 (by decide)).trans (told_lt (k := 3) hisD hm6 hdn (by decide)).symm
    · refine R.b bk_X7_told_100 (And.intro (by first | rfl | assumption | exact kdE KW_70 (by omega) | exact KW_70.2.2.2.2.2.2.2.2.1 _ (by omega) | exact kdE KW_92 (by omega) | exact KW_92.2.2.2.2.2.2.2.2.1 _ (by omega)) ?_)
      refine R.ri rt_X7_told_104 rfl ⟨_, rfl, ?_⟩
      refine ⟨?_, rfl⟩
      subst h25_4
      exact (hDD dn hdn 4 (by decide)).trans (told_lt (k := 4) hisD hm6 hdn (by decide)).symm
    · refine R.b bk_X7_told_105 (And.intro (by first | rfl | assumption | exact kdE KW_70 (by omega) | exact KW_70.2.2.2.2.2.2.2.2.1 _ (by omega) | exact kdE KW_92 (by omega) | exact KW_92.2.2.2.2.2.2.2.2.1 _ (by omega)) ?_)
      refine R.ri rt_X7_told_109 rfl ⟨_, rfl, ?_⟩
      refine ⟨?_, rfl⟩
      subst h25_5
      exact (hDD dn hdn 5 (by decide)).trans (told_lt (k := 5) hisD hm6 hdn (by decide)).symm
    · refine R.b bk_X7_told_110 (And.intro (by first | rfl | assumption | exact kdE KW_70 (by omega) | exact KW_70.2.2.2.2.2.2.2.2.1 _ (by omega) | exact kdE KW_92 (by omega) | exact KW_92.2.2.2.2.2.2.2.2.1 _ (by omega)) ?_)
      refine R.ri rt_X7_told_114 rfl ⟨_, rfl, ?_⟩
      refine ⟨?_, rfl⟩
      subst h25_6
      exact (hDD dn hdn 6 (by decide)).trans (told_lt (k := 6) hisD hm6 hdn (by decide)).symm
    · refine R.b bk_X7_told_115 (And.intro (by first | rfl | assumption | exact kdE KW_70 (by omega) | exact KW_70.2.2.2.2.2.2.2.2.1 _ (by omega) | exact kdE KW_92 (by omega) | exact KW_92.2.2.2.2.2.2.2.2.1 _ (by omega)) ?_)
      refine R.ri rt_X7_told_119 rfl ⟨_, rfl, ?_⟩
      refine ⟨?_, rfl⟩
      subst h25_7
      exact (hDD dn hdn 7 (by decide)).trans (told_lt (k := 7) hisD hm6 hdn (by decide)).symm
    · refine R.b bk_X7_told_120 ?_
      refine R.V0i kc_X7_told_121 (by first | rfl | assumption | exact kdE KW_70 (by omega) | exact KW_70.2.2.2.2.2.2.2.2.1 _ (by omega) | exact kdE KW_92 (by omega) | exact KW_92.2.2.2.2.2.2.2.2.1 _ (by omega)) (c_X0_worth (KW_70.2.2.2.2.2.2.2.2.1 dn (by omega))) (by omega) rfl ⟨Nat.le_refl _, Nat.le_refl _⟩ (fun x121 M121 q121 => ?_)
      obtain ⟨rfl, q121⟩ := q121
      replace q121 := q121.symm
      subst q121
      refine R.ri rt_X7_told_124 rfl ⟨_, rfl, ?_⟩
      refine ⟨?_, rfl⟩
      subst h25_8
      rw [F_told, if_neg (by rw [hisD]; exact fun q => q.elim h8 (by decide)), if_neg (by decide), if_pos rfl, hcdn]
      show f_worth (M (70 + 5 + dn) 0) (M (70 + 5 + dn) 1) = _
      rw [hDD dn hdn 0 (by decide), hDD dn hdn 1 (by decide)]
      rfl
    · refine R.b bk_X7_told_125 (And.intro (by first | rfl | assumption | exact kdE KW_70 (by omega) | exact KW_70.2.2.2.2.2.2.2.2.1 _ (by omega) | exact kdE KW_92 (by omega) | exact KW_92.2.2.2.2.2.2.2.2.1 _ (by omega)) ?_)
      refine R.V1i kc_X7_told_130 (by first | rfl | assumption | exact kdE KW_70 (by omega) | exact KW_70.2.2.2.2.2.2.2.2.1 _ (by omega) | exact kdE KW_92 (by omega) | exact KW_92.2.2.2.2.2.2.2.2.1 _ (by omega)) (c_X6_fairAt KW_70 (d := dn) hm6 h4m hdn) (by omega) rfl ⟨Nat.le_refl _, Nat.le_refl _⟩ (fun x130 M130 q130 => ?_)
      obtain ⟨rfl, q130⟩ := q130
      replace q130 := q130.symm
      subst q130
      refine R.ri rt_X7_told_133 rfl ⟨_, rfl, ?_⟩
      refine ⟨?_, rfl⟩
      subst h25_9
      rw [F_told, if_neg (by rw [hisD]; exact fun q => q.elim h8 (by decide)), if_neg (by decide), if_neg (by decide), hcdn]
      show f_eq (M (70 + 5 + dn) 4) (M 70 8) = _
      rw [hDD dn hdn 4 (by decide), hR.2.2.2.2.2.1]
    · refine R.b bk_X7_told_134 ?_
      refine R.ri rt_X7_told_136 rfl ⟨_, rfl, ?_⟩
      refine ⟨?_, rfl⟩
      rw [F_told, if_pos (Or.inr (in09 h25_0 h25_1 h25_2 h25_3 h25_4 h25_5 h25_6 h25_7 h25_8 h25_9))]
  · refine R.b bk_X7_told_11 ?_
    refine R.ri rt_X7_told_13 rfl ⟨_, rfl, ?_⟩
    exact ⟨by rw [F_told, if_pos (Or.inl (by rw [hisD]; exact h8))], rfl⟩
theorem c_X7_births {l : Launch} {G : Gt} {M : Mm} {d x : Int32} {a : Rw} {mm : Nat} (hV : VP a mm) (hR : RW M 70 a Sall mm) (hL : RLw M a) : Runs l G true dm_X7_births 3 127 [.ref 0, .int d, .int x] M 127 (Pi (fun r M1 => r = F_births a d x ∧ ∀ q, q ≠ 74 → M1 q = M q)) := by
  refine mx_run ow_X7_births rfl rfl (fun dp X hdp R => ?_)
  have hm6 := hV.1.1
  have h4m : M 70 4 = nI mm := hR.2.1.trans hR.1
  have hDD : ∀ d, d < mm → ∀ f, f < 8 → M (70 + 5 + d) f = a (7 + 8 * d + f) := fun d hd f hf => hR.2.2.2.2.2.2.2.2.2 d hd rfl f hf
  have hisD : ∀ v, isD a v = f_in v 0 (nI mm - 1) := fun v => by rw [isD, hR.1]
  refine R.b bk_X7_births_0 (And.intro (by first | rfl | assumption | exact kdE KW_70 (by omega) | exact KW_70.2.2.2.2.2.2.2.2.1 _ (by omega) | exact kdE KW_92 (by omega) | exact KW_92.2.2.2.2.2.2.2.2.1 _ (by omega)) ?_)
  refine R.V1i kc_X7_births_5 (by first | rfl | assumption | exact kdE KW_70 (by omega) | exact KW_70.2.2.2.2.2.2.2.2.1 _ (by omega) | exact kdE KW_92 (by omega) | exact KW_92.2.2.2.2.2.2.2.2.1 _ (by omega)) (c_X6_has KW_70 hm6 h4m) (by omega) rfl ⟨Nat.le_refl _, Nat.le_refl _⟩ (fun x5 M5 q5 => ?_)
  obtain ⟨rfl, q5⟩ := q5
  replace q5 := q5.symm
  subst q5
  refine R.c br_X7_births_8 (And.intro (fun h8 => ?_) (fun h8 => ?_))
  · refine R.b bk_X7_births_21 ?_
    refine R.ri rt_X7_births_23 rfl ⟨_, rfl, ?_⟩
    exact ⟨by rw [F_births, hisD, if_pos (by simp_all)], fun q _ => rfl⟩
  · refine R.b bk_X7_births_11 ?_
    refine R.S3i kc_X7_births_15 (c_X7_within) (by omega) rfl ⟨Nat.le_refl _, Nat.le_refl _⟩ (fun x15 M15 q15 => ?_)
    obtain ⟨rfl, q15⟩ := q15
    replace q15 := q15.symm
    subst q15
    refine R.c br_X7_births_18 (And.intro (fun h18 => ?_) (fun h18 => ?_))
    · obtain ⟨dn, hdn, rfl⟩ := f_in_dist (by omega) rfl h8
      have hcdn : cN (nI dn) = dn := cN_nI (by omega)
      obtain ⟨xn, hxn, rfl⟩ := f_in_nat (n := 9) (by decide) h18
      have hcxn : cN (nI xn) = xn := cN_nI (by omega)
      refine R.b bk_X7_births_24 (And.intro (by first | rfl | assumption | exact kdE KW_70 (by omega) | exact KW_70.2.2.2.2.2.2.2.2.1 _ (by omega) | exact kdE KW_92 (by omega) | exact KW_92.2.2.2.2.2.2.2.2.1 _ (by omega)) (And.intro (by first | rfl | assumption | exact kdE KW_70 (by omega) | exact KW_70.2.2.2.2.2.2.2.2.1 _ (by omega) | exact kdE KW_92 (by omega) | exact KW_92.2.2.2.2.2.2.2.2.1 _ (by omega)) (And.intro (by first | rfl | assumption | exact kdE KW_70 (by omega) | exact KW_70.2.2.2.2.2.2.2.2.1 _ (by omega) | exact kdE KW_92 (by omega) | exact KW_92.2.2.2.2.2.2.2.2.1 _ (by omega)) (And.intro ⟨by decide, by decide, rfl⟩ (And.intro (by first | rfl | assumption | exact kdE KW_70 (by omega) | exact KW_70.2.2.2.2.2.2.2.2.1 _ (by omega) | exact kdE KW_92 (by omega) | exact KW_92.2.2.2.2.2.2.2.2.1 _ (by omega)) (And.intro (by exact vp_in_nI (show dn < 6 by omega) (by decide)) ?_))))))
      rw [el13 (w := 70) (show dn < 6 by omega)]
      refine R.V2i kc_X7_births_38 (by first | rfl | assumption | exact kdE KW_70 (by omega) | exact KW_70.2.2.2.2.2.2.2.2.1 _ (by omega) | exact kdE KW_92 (by omega) | exact KW_92.2.2.2.2.2.2.2.2.1 _ (by omega)) (c_X6_birthsOf KW_70 (k := 70 + 5 + dn) (KW_70.2.2.2.2.2.2.2.2.1 dn (by omega)) (by omega) hR.2.2.2.2.2.2.2.2.1 hV.1.2.2.1 hL ⟨xn, by omega, rfl⟩) (by omega) rfl ⟨Nat.le_refl _, Nat.le_refl _⟩ (fun x38 M38 q38 => ?_)
      obtain ⟨e38, f38⟩ := q38
      refine R.ri rt_X7_births_41 rfl ⟨_, rfl, ?_⟩
      refine ⟨?_, f38⟩
      rw [F_births, hisD, if_neg (by simp_all), hcdn, A_births, e38, hDD dn hdn 0 (by decide), hDD dn hdn 1 (by decide), hDD dn hdn 3 (by decide), hDD dn hdn 4 (by decide)]
      rfl
    · refine R.b bk_X7_births_21 ?_
      refine R.ri rt_X7_births_23 rfl ⟨_, rfl, ?_⟩
      exact ⟨by rw [F_births, hisD, if_pos (by simp_all)], fun q _ => rfl⟩
theorem c_X7_as {l : Launch} {G : Gt} {M : Mm} {d k : Int32} {a : Rw} {mm : Nat} (hV : VP a mm) (hR : RW M 70 a Sall mm) : Runs l G true dm_X7_as 3 127 [.ref 0, .int d, .int k] M 127 (Pi (fun x M1 => x = F_as a d k ∧ M1 = M)) := by
  refine mx_run ow_X7_as rfl rfl (fun dp X hdp R => ?_)
  have hm6 := hV.1.1
  have h4m : M 70 4 = nI mm := hR.2.1.trans hR.1
  have hDD : ∀ d, d < mm → ∀ f, f < 8 → M (70 + 5 + d) f = a (7 + 8 * d + f) := fun d hd f hf => hR.2.2.2.2.2.2.2.2.2 d hd rfl f hf
  have hisD : ∀ v, isD a v = f_in v 0 (nI mm - 1) := fun v => by rw [isD, hR.1]
  refine R.b bk_X7_as_0 (And.intro (by first | rfl | assumption | exact kdE KW_70 (by omega) | exact KW_70.2.2.2.2.2.2.2.2.1 _ (by omega) | exact kdE KW_92 (by omega) | exact KW_92.2.2.2.2.2.2.2.2.1 _ (by omega)) ?_)
  refine R.V1i kc_X7_as_5 (by first | rfl | assumption | exact kdE KW_70 (by omega) | exact KW_70.2.2.2.2.2.2.2.2.1 _ (by omega) | exact kdE KW_92 (by omega) | exact KW_92.2.2.2.2.2.2.2.2.1 _ (by omega)) (c_X6_has KW_70 hm6 h4m) (by omega) rfl ⟨Nat.le_refl _, Nat.le_refl _⟩ (fun x5 M5 q5 => ?_)
  obtain ⟨rfl, q5⟩ := q5
  replace q5 := q5.symm
  subst q5
  refine R.c br_X7_as_8 (And.intro (fun h8 => ?_) (fun h8 => ?_))
  · refine R.b bk_X7_as_18 ?_
    refine R.ri rt_X7_as_20 rfl ⟨_, rfl, ?_⟩
    exact ⟨by rw [F_as, hisD, if_pos (by simp_all)], rfl⟩
  · refine R.b bk_X7_as_11 ?_
    refine R.S1i kc_X7_as_12 (c_X7_isKind) (by omega) rfl ⟨Nat.le_refl _, Nat.le_refl _⟩ (fun x12 M12 q12 => ?_)
    obtain ⟨rfl, q12⟩ := q12
    replace q12 := q12.symm
    subst q12
    refine R.c br_X7_as_15 (And.intro (fun h15 => ?_) (fun h15 => ?_))
    · obtain ⟨dn, hdn, rfl⟩ := f_in_dist (by omega) rfl h8
      have hcdn : cN (nI dn) = dn := cN_nI (by omega)
      obtain ⟨kn, hkn, rfl⟩ := f_in_nat (n := 5) (by decide) h15
      have hckn : cN (nI kn) = kn := cN_nI (by omega)
      obtain ⟨ki, L, p, hki, hk1, -⟩ := hV.2 dn hdn
      have eU : isO 6 (M (70 + 5 + dn) 0) (nI kn) = f_under (a (7 + 8 * dn)) (nI kn) := by
        rw [hDD dn hdn 0 (by decide), Nat.add_zero, hk1]
        exact isO_under hki hkn
      refine R.b bk_X7_as_21 (And.intro (by first | rfl | assumption | exact kdE KW_70 (by omega) | exact KW_70.2.2.2.2.2.2.2.2.1 _ (by omega) | exact kdE KW_92 (by omega) | exact KW_92.2.2.2.2.2.2.2.2.1 _ (by omega)) (And.intro (by first | rfl | assumption | exact kdE KW_70 (by omega) | exact KW_70.2.2.2.2.2.2.2.2.1 _ (by omega) | exact kdE KW_92 (by omega) | exact KW_92.2.2.2.2.2.2.2.2.1 _ (by omega)) (And.intro ⟨by decide, by decide, rfl⟩ (And.intro (by first | rfl | assumption | exact kdE KW_70 (by omega) | exact KW_70.2.2.2.2.2.2.2.2.1 _ (by omega) | exact kdE KW_92 (by omega) | exact KW_92.2.2.2.2.2.2.2.2.1 _ (by omega)) (And.intro (by exact vp_in_nI (show dn < 6 by omega) (by decide)) ?_)))))
      rw [el13 (w := 70) (show dn < 6 by omega)]
      refine R.V1i kc_X7_as_33 (by first | rfl | assumption | exact kdE KW_70 (by omega) | exact KW_70.2.2.2.2.2.2.2.2.1 _ (by omega) | exact kdE KW_92 (by omega) | exact KW_92.2.2.2.2.2.2.2.2.1 _ (by omega)) (c_X0_isOf (KW_70.2.2.2.2.2.2.2.2.1 dn (by omega))) (by omega) rfl ⟨Nat.le_refl _, Nat.le_refl _⟩ (fun x33 M33 q33 => ?_)
      obtain ⟨rfl, q33⟩ := q33
      replace q33 := q33.symm
      subst q33
      rw [eU]
      refine R.c br_X7_as_36 (And.intro (fun h36 => ?_) (fun h36 => ?_))
      · refine R.b bk_X7_as_46 ?_
        refine R.ri rt_X7_as_48 rfl ⟨_, rfl, ?_⟩
        refine ⟨?_, rfl⟩
        rw [F_as, hisD, if_neg (by simp_all), hcdn]
        first | (rw [if_pos h36]; done) | (rw [if_neg h36]; exact hDD dn hdn 1 (by decide))
      · refine R.b bk_X7_as_39 (And.intro (by first | rfl | assumption | exact kdE KW_70 (by omega) | exact KW_70.2.2.2.2.2.2.2.2.1 _ (by omega) | exact kdE KW_92 (by omega) | exact KW_92.2.2.2.2.2.2.2.2.1 _ (by omega)) ?_)
        refine R.j gt_X7_as_43 ?_
        refine R.ri rt_X7_as_48 rfl ⟨_, rfl, ?_⟩
        refine ⟨?_, rfl⟩
        rw [F_as, hisD, if_neg (by simp_all), hcdn]
        first | (rw [if_pos h36]; done) | (rw [if_neg h36]; exact hDD dn hdn 1 (by decide))
    · refine R.b bk_X7_as_18 ?_
      refine R.ri rt_X7_as_20 rfl ⟨_, rfl, ?_⟩
      exact ⟨by rw [F_as, hisD, if_pos (by simp_all)], rfl⟩
theorem c_X7_turns {l : Launch} {G : Gt} {M : Mm} {d k : Int32} {a : Rw} {mm : Nat} (hV : VP a mm) (hR : RW M 70 a Sall mm) : Runs l G true dm_X7_turns 2 127 [.ref 0, .int d, .int k] M 127 (Pi (fun x M1 => x = F_turns a d k ∧ RN M1 70 (A_turns a d k) ∧ ∀ q, ¬ (70 ≤ q ∧ q < 81) → M1 q = M q)) := by
  refine mx_run ow_X7_turns rfl rfl (fun dp X hdp R => ?_)
  have hm6 := hV.1.1
  have h4m : M 70 4 = nI mm := hR.2.1.trans hR.1
  have hDD : ∀ d, d < mm → ∀ f, f < 8 → M (70 + 5 + d) f = a (7 + 8 * d + f) := fun d hd f hf => hR.2.2.2.2.2.2.2.2.2 d hd rfl f hf
  have hisD : ∀ v, isD a v = f_in v 0 (nI mm - 1) := fun v => by rw [isD, hR.1]
  refine R.b bk_X7_turns_0 (And.intro (by first | rfl | assumption | exact kdE KW_70 (by omega) | exact KW_70.2.2.2.2.2.2.2.2.1 _ (by omega) | exact kdE KW_92 (by omega) | exact KW_92.2.2.2.2.2.2.2.2.1 _ (by omega)) ?_)
  refine R.V1i kc_X7_turns_5 (by first | rfl | assumption | exact kdE KW_70 (by omega) | exact KW_70.2.2.2.2.2.2.2.2.1 _ (by omega) | exact kdE KW_92 (by omega) | exact KW_92.2.2.2.2.2.2.2.2.1 _ (by omega)) (c_X6_has KW_70 hm6 h4m) (by omega) rfl ⟨Nat.le_refl _, Nat.le_refl _⟩ (fun x5 M5 q5 => ?_)
  obtain ⟨rfl, q5⟩ := q5
  replace q5 := q5.symm
  subst q5
  refine R.c br_X7_turns_8 (And.intro (fun h8 => ?_) (fun h8 => ?_))
  · refine R.b bk_X7_turns_18 ?_
    refine R.ri rt_X7_turns_20 rfl ⟨_, rfl, ?_⟩
    exact ⟨by rw [F_turns, hisD, if_pos (by simp_all)], by rw [A_turns, hisD, if_pos (by simp_all)]; exact RN_of hm6 hR, fun q _ => rfl⟩
  · refine R.b bk_X7_turns_11 ?_
    refine R.S1i kc_X7_turns_12 (c_X7_isKind) (by omega) rfl ⟨Nat.le_refl _, Nat.le_refl _⟩ (fun x12 M12 q12 => ?_)
    obtain ⟨rfl, q12⟩ := q12
    replace q12 := q12.symm
    subst q12
    refine R.c br_X7_turns_15 (And.intro (fun h15 => ?_) (fun h15 => ?_))
    · obtain ⟨dn, hdn, rfl⟩ := f_in_dist (by omega) rfl h8
      have hcdn : cN (nI dn) = dn := cN_nI (by omega)
      refine R.b bk_X7_turns_21 (And.intro (by first | rfl | assumption | exact kdE KW_70 (by omega) | exact KW_70.2.2.2.2.2.2.2.2.1 _ (by omega) | exact kdE KW_92 (by omega) | exact KW_92.2.2.2.2.2.2.2.2.1 _ (by omega)) (And.intro (by first | rfl | assumption | exact kdE KW_70 (by omega) | exact KW_70.2.2.2.2.2.2.2.2.1 _ (by omega) | exact kdE KW_92 (by omega) | exact KW_92.2.2.2.2.2.2.2.2.1 _ (by omega)) (And.intro ⟨by decide, by decide, rfl⟩ (And.intro (by first | rfl | assumption | exact kdE KW_70 (by omega) | exact KW_70.2.2.2.2.2.2.2.2.1 _ (by omega) | exact kdE KW_92 (by omega) | exact KW_92.2.2.2.2.2.2.2.2.1 _ (by omega)) (And.intro (by exact vp_in_nI (show dn < 6 by omega) (by decide)) (And.intro (by first | rfl | assumption | exact kdE KW_70 (by omega) | exact KW_70.2.2.2.2.2.2.2.2.1 _ (by omega) | exact kdE KW_92 (by omega) | exact KW_92.2.2.2.2.2.2.2.2.1 _ (by omega)) (And.intro (by first | rfl | assumption | exact kdE KW_70 (by omega) | exact KW_70.2.2.2.2.2.2.2.2.1 _ (by omega) | exact kdE KW_92 (by omega) | exact KW_92.2.2.2.2.2.2.2.2.1 _ (by omega)) (And.intro rfl (And.intro rfl ?_)))))))))
      rw [el13 (w := 70) (show dn < 6 by omega)]
      refine R.ri rt_X7_turns_44 rfl ⟨_, rfl, ?_⟩
      refine ⟨?_, ?_, fun q hq => mx_wr_ne (by omega)⟩
      · rw [F_turns, hisD, if_neg (by simp_all), hcdn]
        exact hDD dn hdn 0 (by decide)
      · rw [A_turns, hisD, if_neg (by simp_all), hcdn]
        exact RN_of hm6 (RW_wr (f := 0) hm6 hdn (by decide) hR)
    · refine R.b bk_X7_turns_18 ?_
      refine R.ri rt_X7_turns_20 rfl ⟨_, rfl, ?_⟩
      exact ⟨by rw [F_turns, hisD, if_pos (by simp_all)], by rw [A_turns, hisD, if_pos (by simp_all)]; exact RN_of hm6 hR, fun q _ => rfl⟩
theorem set_bad {a : Rw} {d w v : Int32} (h : f_in w 1 3 = 0 ∨ f_in v (f_setlo w) (f_sethi w) = 0) : F_set a d w v = (-1000000001) ∧ A_set a d w v = a := by
  rw [F_set, A_set, if_pos (Or.inr h), if_pos (Or.inr h)]
  exact ⟨rfl, rfl⟩
theorem set_ok {a : Rw} {d w v : Int32} (h0 : ¬ isD a d = 0) (h1 : ¬ f_in w 1 3 = 0) (h2 : ¬ f_in v (f_setlo w) (f_sethi w) = 0) : F_set a d w v = a (7 + 8 * cN d + f_setix w) ∧ A_set a d w v = up (if w = 2 then up a (7 + 8 * cN d + 4) 0 else a) (7 + 8 * cN d + f_setix w) v := by
  have hn : ¬ (isD a d = 0 ∨ f_in w 1 3 = 0 ∨ f_in v (f_setlo w) (f_sethi w) = 0) := by
    intro q
    rcases q with q | q | q
    · exact h0 q
    · exact h1 q
    · exact h2 q
  rw [F_set, A_set, if_neg hn, if_neg hn]
  exact ⟨rfl, rfl⟩
theorem up_comm {a : Rw} {i j : Nat} {v w : Int32} (h : i ≠ j) : up (up a i v) j w = up (up a j w) i v := by
  funext k
  simp only [up]
  grind
theorem c_X7_set {l : Launch} {G : Gt} {M : Mm} {d w v : Int32} {a : Rw} {mm : Nat} (hV : VP a mm) (hR : RW M 70 a Sall mm) : Runs l G true dm_X7_set 2 127 [.ref 0, .int d, .int w, .int v] M 127 (Pi (fun x M1 => x = F_set a d w v ∧ RN M1 70 (A_set a d w v) ∧ ∀ q, ¬ (70 ≤ q ∧ q < 81) → M1 q = M q)) := by
  refine mx_run ow_X7_set rfl rfl (fun dp X hdp R => ?_)
  have hm6 := hV.1.1
  have h4m : M 70 4 = nI mm := hR.2.1.trans hR.1
  have hDD : ∀ d, d < mm → ∀ f, f < 8 → M (70 + 5 + d) f = a (7 + 8 * d + f) := fun d hd f hf => hR.2.2.2.2.2.2.2.2.2 d hd rfl f hf
  have hisD : ∀ v, isD a v = f_in v 0 (nI mm - 1) := fun v => by rw [isD, hR.1]
  refine R.b bk_X7_set_0 (And.intro (by first | rfl | assumption | exact kdE KW_70 (by omega) | exact KW_70.2.2.2.2.2.2.2.2.1 _ (by omega) | exact kdE KW_92 (by omega) | exact KW_92.2.2.2.2.2.2.2.2.1 _ (by omega)) ?_)
  refine R.V1i kc_X7_set_5 (by first | rfl | assumption | exact kdE KW_70 (by omega) | exact KW_70.2.2.2.2.2.2.2.2.1 _ (by omega) | exact kdE KW_92 (by omega) | exact KW_92.2.2.2.2.2.2.2.2.1 _ (by omega)) (c_X6_has KW_70 hm6 h4m) (by omega) rfl ⟨Nat.le_refl _, Nat.le_refl _⟩ (fun x5 M5 q5 => ?_)
  obtain ⟨rfl, q5⟩ := q5
  replace q5 := q5.symm
  subst q5
  refine R.c br_X7_set_8 (And.intro (fun h8 => ?_) (fun h8 => ?_))
  · obtain ⟨dn, hdn, rfl⟩ := f_in_dist (by omega) rfl h8
    have hcdn : cN (nI dn) = dn := cN_nI (by omega)
    have hE : ∀ (M1 : Mm) (r : Int32), (r = F_set a (nI dn) w v ∧ RN M1 70 (A_set a (nI dn) w v) ∧ ∀ q, ¬ (70 ≤ q ∧ q < 81) → M1 q = M q) → X 127 M1 126 [some (.ref 0), some (.int (nI dn)), some (.int w), some (.int v), some (.ref (70 + 5 + dn)), some (.int r)] [] := by
      intro M1 r hE
      refine R.b bk_X7_set_126 ?_
      refine R.ri rt_X7_set_128 rfl ⟨_, rfl, ?_⟩
      exact hE
    refine R.b bk_X7_set_14 (And.intro (by first | rfl | assumption | exact kdE KW_70 (by omega) | exact KW_70.2.2.2.2.2.2.2.2.1 _ (by omega) | exact kdE KW_92 (by omega) | exact KW_92.2.2.2.2.2.2.2.2.1 _ (by omega)) (And.intro (by first | rfl | assumption | exact kdE KW_70 (by omega) | exact KW_70.2.2.2.2.2.2.2.2.1 _ (by omega) | exact kdE KW_92 (by omega) | exact KW_92.2.2.2.2.2.2.2.2.1 _ (by omega)) (And.intro ⟨by decide, by decide, rfl⟩ (And.intro (by first | rfl | assumption | exact kdE KW_70 (by omega) | exact KW_70.2.2.2.2.2.2.2.2.1 _ (by omega) | exact kdE KW_92 (by omega) | exact KW_92.2.2.2.2.2.2.2.2.1 _ (by omega)) (And.intro (by exact vp_in_nI (show dn < 6 by omega) (by decide)) ?_)))))
    rw [el13 (w := 70) (show dn < 6 by omega)]
    refine R.c br_X7_set_31 (And.intro (fun h31 => ?_) (fun h31 => ?_))
    · refine R.b bk_X7_set_60 ?_
      refine R.c br_X7_set_62 (And.intro (fun h62 => ?_) (fun h62 => ?_))
      · refine R.b bk_X7_set_97 ?_
        refine R.c br_X7_set_99 (And.intro (fun h99 => ?_) (fun h99 => ?_))
        · refine hE _ _ ⟨?_, ?_, fun q _ => rfl⟩
          · exact (set_bad (Or.inl (in13 h31 h62 h99))).1.symm
          · rw [(set_bad (a := a) (d := nI dn) (Or.inl (in13 h31 h62 h99))).2]
            exact RN_of hm6 hR
        · refine R.b bk_X7_set_102 ?_
          refine R.S3i kc_X7_set_107 (c_X7_within) (by omega) rfl ⟨Nat.le_refl _, Nat.le_refl _⟩ (fun x107 M107 q107 => ?_)
          obtain ⟨rfl, q107⟩ := q107
          replace q107 := q107.symm
          subst q107
          refine R.c br_X7_set_110 (And.intro (fun h110 => ?_) (fun h110 => ?_))
          · refine hE _ _ ⟨?_, ?_, fun q _ => rfl⟩
            · exact (set_bad (Or.inr (by rw [h99]; exact h110))).1.symm
            · rw [(set_bad (a := a) (d := nI dn) (Or.inr (by rw [h99]; exact h110))).2]
              exact RN_of hm6 hR
          · refine R.b bk_X7_set_113 (And.intro (by first | rfl | assumption | exact kdE KW_70 (by omega) | exact KW_70.2.2.2.2.2.2.2.2.1 _ (by omega) | exact kdE KW_92 (by omega) | exact KW_92.2.2.2.2.2.2.2.2.1 _ (by omega)) (And.intro (by first | rfl | assumption | exact kdE KW_70 (by omega) | exact KW_70.2.2.2.2.2.2.2.2.1 _ (by omega) | exact kdE KW_92 (by omega) | exact KW_92.2.2.2.2.2.2.2.2.1 _ (by omega)) (And.intro rfl (And.intro rfl ?_))))
            subst h99
            have hs := set_ok (a := a) (d := nI dn) (w := 3) (v := v) (by rw [hisD]; exact h8) (by decide) h110
            rw [hcdn] at hs
            refine hE _ _ ⟨?_, ?_, fun q hq => ?_⟩
            · rw [hs.1]
              exact hDD dn hdn 7 (by decide)
            · rw [hs.2, if_neg (by decide)]
              exact RN_of hm6 (RW_wr (f := 7) hm6 hdn (by decide) hR)
            · exact mx_wr_ne (by omega)
      · refine R.b bk_X7_set_65 ?_
        refine R.S3i kc_X7_set_69 (c_X7_within) (by omega) rfl ⟨Nat.le_refl _, Nat.le_refl _⟩ (fun x69 M69 q69 => ?_)
        obtain ⟨rfl, q69⟩ := q69
        replace q69 := q69.symm
        subst q69
        refine R.c br_X7_set_72 (And.intro (fun h72 => ?_) (fun h72 => ?_))
        · refine R.b bk_X7_set_97 ?_
          refine R.c br_X7_set_99 (And.intro (fun h99 => ?_) (fun h99 => absurd (h62.symm.trans h99) (by decide)))
          refine hE _ _ ⟨?_, ?_, fun q _ => rfl⟩
          · exact (set_bad (Or.inr (by rw [h62]; exact h72))).1.symm
          · rw [(set_bad (a := a) (d := nI dn) (Or.inr (by rw [h62]; exact h72))).2]
            exact RN_of hm6 hR
        · refine R.b bk_X7_set_75 (And.intro (by first | rfl | assumption | exact kdE KW_70 (by omega) | exact KW_70.2.2.2.2.2.2.2.2.1 _ (by omega) | exact kdE KW_92 (by omega) | exact KW_92.2.2.2.2.2.2.2.2.1 _ (by omega)) (And.intro (by first | rfl | assumption | exact kdE KW_70 (by omega) | exact KW_70.2.2.2.2.2.2.2.2.1 _ (by omega) | exact kdE KW_92 (by omega) | exact KW_92.2.2.2.2.2.2.2.2.1 _ (by omega)) (And.intro rfl (And.intro rfl (And.intro (by first | rfl | assumption | exact kdE KW_70 (by omega) | exact KW_70.2.2.2.2.2.2.2.2.1 _ (by omega) | exact kdE KW_92 (by omega) | exact KW_92.2.2.2.2.2.2.2.2.1 _ (by omega)) (And.intro rfl (And.intro rfl ?_)))))))
          refine R.j gt_X7_set_94 ?_
          subst h62
          have hs := set_ok (a := a) (d := nI dn) (w := 2) (v := v) (by rw [hisD]; exact h8) (by decide) h72
          rw [hcdn] at hs
          refine hE _ _ ⟨?_, ?_, fun q hq => ?_⟩
          · rw [hs.1]
            exact hDD dn hdn 3 (by decide)
          · rw [hs.2, if_pos rfl]
            show RN (mx_wr (mx_wr M (70 + 5 + dn) 3 v) (70 + 5 + dn) 4 0) 70 (up (up a (7 + 8 * dn + 4) 0) (7 + 8 * dn + 3) v)
            rw [up_comm (show 7 + 8 * dn + 4 ≠ 7 + 8 * dn + 3 by omega)]
            exact RN_of hm6 (RW_wr (f := 4) hm6 hdn (by decide) (RW_wr (f := 3) hm6 hdn (by decide) hR))
          · rw [mx_wr_ne (by omega), mx_wr_ne (by omega)]
    · refine R.b bk_X7_set_34 ?_
      refine R.S3i kc_X7_set_38 (c_X7_within) (by omega) rfl ⟨Nat.le_refl _, Nat.le_refl _⟩ (fun x38 M38 q38 => ?_)
      obtain ⟨rfl, q38⟩ := q38
      replace q38 := q38.symm
      subst q38
      refine R.c br_X7_set_41 (And.intro (fun h41 => ?_) (fun h41 => ?_))
      · refine R.b bk_X7_set_60 ?_
        refine R.c br_X7_set_62 (And.intro (fun h62 => ?_) (fun h62 => absurd (h31.symm.trans h62) (by decide)))
        refine R.b bk_X7_set_97 ?_
        refine R.c br_X7_set_99 (And.intro (fun h99 => ?_) (fun h99 => absurd (h31.symm.trans h99) (by decide)))
        refine hE _ _ ⟨?_, ?_, fun q _ => rfl⟩
        · exact (set_bad (Or.inr (by rw [h31]; exact h41))).1.symm
        · rw [(set_bad (a := a) (d := nI dn) (Or.inr (by rw [h31]; exact h41))).2]
          exact RN_of hm6 hR
      · refine R.b bk_X7_set_44 (And.intro (by first | rfl | assumption | exact kdE KW_70 (by omega) | exact KW_70.2.2.2.2.2.2.2.2.1 _ (by omega) | exact kdE KW_92 (by omega) | exact KW_92.2.2.2.2.2.2.2.2.1 _ (by omega)) (And.intro (by first | rfl | assumption | exact kdE KW_70 (by omega) | exact KW_70.2.2.2.2.2.2.2.2.1 _ (by omega) | exact kdE KW_92 (by omega) | exact KW_92.2.2.2.2.2.2.2.2.1 _ (by omega)) (And.intro rfl (And.intro rfl ?_))))
        refine R.j gt_X7_set_57 ?_
        subst h31
        have hs := set_ok (a := a) (d := nI dn) (w := 1) (v := v) (by rw [hisD]; exact h8) (by decide) h41
        rw [hcdn] at hs
        refine hE _ _ ⟨?_, ?_, fun q hq => ?_⟩
        · rw [hs.1]
          exact hDD dn hdn 1 (by decide)
        · rw [hs.2, if_neg (by decide)]
          exact RN_of hm6 (RW_wr (f := 1) hm6 hdn (by decide) hR)
        · exact mx_wr_ne (by omega)
  · refine R.b bk_X7_set_11 ?_
    refine R.ri rt_X7_set_13 rfl ⟨_, rfl, ?_⟩
    exact ⟨by rw [F_set, hisD, if_pos (Or.inl h8)], by rw [A_set, hisD, if_pos (Or.inl h8)]; exact RN_of hm6 hR, fun q _ => rfl⟩
/-- births and hidden ones, bounded by the days -/
def VB (a : Rw) (mm : Nat) (top : Nat) : Prop := ∃ dy, dy ≤ top ∧ a 2 = nI dy ∧ ∀ d, d < mm → ∃ b h, a (7 + 8 * d + 5) = nI b ∧ a (7 + 8 * d + 6) = nI h ∧ b + h ≤ 62 * dy
theorem c_X7_hide {l : Launch} {G : Gt} {M : Mm} {d : Int32} {a : Rw} {mm : Nat} (hV : VP a mm) (hR : RW M 70 a Sall mm) (hB : VB a mm 99999) : Runs l G true dm_X7_hide 2 127 [.ref 0, .int d] M 127 (Pi (fun x M1 => x = F_hide a d ∧ RN M1 70 (A_hide a d) ∧ ∀ q, ¬ (70 ≤ q ∧ q < 81) → M1 q = M q)) := by
  refine mx_run ow_X7_hide rfl rfl (fun dp X hdp R => ?_)
  have hm6 := hV.1.1
  have h4m : M 70 4 = nI mm := hR.2.1.trans hR.1
  have hDD : ∀ d, d < mm → ∀ f, f < 8 → M (70 + 5 + d) f = a (7 + 8 * d + f) := fun d hd f hf => hR.2.2.2.2.2.2.2.2.2 d hd rfl f hf
  have hisD : ∀ v, isD a v = f_in v 0 (nI mm - 1) := fun v => by rw [isD, hR.1]
  refine R.b bk_X7_hide_0 (And.intro (by first | rfl | assumption | exact kdE KW_70 (by omega) | exact KW_70.2.2.2.2.2.2.2.2.1 _ (by omega) | exact kdE KW_92 (by omega) | exact KW_92.2.2.2.2.2.2.2.2.1 _ (by omega)) ?_)
  refine R.V1i kc_X7_hide_5 (by first | rfl | assumption | exact kdE KW_70 (by omega) | exact KW_70.2.2.2.2.2.2.2.2.1 _ (by omega) | exact kdE KW_92 (by omega) | exact KW_92.2.2.2.2.2.2.2.2.1 _ (by omega)) (c_X6_has KW_70 hm6 h4m) (by omega) rfl ⟨Nat.le_refl _, Nat.le_refl _⟩ (fun x5 M5 q5 => ?_)
  obtain ⟨rfl, q5⟩ := q5
  replace q5 := q5.symm
  subst q5
  refine R.c br_X7_hide_8 (And.intro (fun h8 => ?_) (fun h8 => ?_))
  · obtain ⟨dn, hdn, rfl⟩ := f_in_dist (by omega) rfl h8
    have hcdn : cN (nI dn) = dn := cN_nI (by omega)
    refine R.b bk_X7_hide_14 (And.intro (by first | rfl | assumption | exact kdE KW_70 (by omega) | exact KW_70.2.2.2.2.2.2.2.2.1 _ (by omega) | exact kdE KW_92 (by omega) | exact KW_92.2.2.2.2.2.2.2.2.1 _ (by omega)) (And.intro (by first | rfl | assumption | exact kdE KW_70 (by omega) | exact KW_70.2.2.2.2.2.2.2.2.1 _ (by omega) | exact kdE KW_92 (by omega) | exact KW_92.2.2.2.2.2.2.2.2.1 _ (by omega)) (And.intro ⟨by decide, by decide, rfl⟩ (And.intro (by first | rfl | assumption | exact kdE KW_70 (by omega) | exact KW_70.2.2.2.2.2.2.2.2.1 _ (by omega) | exact kdE KW_92 (by omega) | exact KW_92.2.2.2.2.2.2.2.2.1 _ (by omega)) (And.intro (by exact vp_in_nI (show dn < 6 by omega) (by decide)) (And.intro (by first | rfl | assumption | exact kdE KW_70 (by omega) | exact KW_70.2.2.2.2.2.2.2.2.1 _ (by omega) | exact kdE KW_92 (by omega) | exact KW_92.2.2.2.2.2.2.2.2.1 _ (by omega)) ?_))))))
    rw [el13 (w := 70) (show dn < 6 by omega)]
    have e5 : M (70 + 5 + dn) 5 = a (7 + 8 * dn + 5) := hDD dn hdn 5 (by decide)
    refine R.c br_X7_hide_28 (And.intro (fun h28 => ?_) (fun h28 => ?_))
    · have hne : ¬ a (7 + 8 * dn + 5) = 0 := by rw [← e5]; exact h28
      have hgt : ¬ M (70 + 5 + dn) 5 ≤ 0 := by
        obtain ⟨dy, hdy, -, hb⟩ := hB
        obtain ⟨b, h, hb1, -, hb3⟩ := hb dn hdn
        rw [e5, hb1]
        rw [hb1] at hne
        refine nI_nle (Nat.pos_of_ne_zero (fun q => hne (by rw [q]; rfl))) (by omega)
      refine R.b bk_X7_hide_34 ?_
      refine R.V0v kc_X7_hide_35 (by first | rfl | assumption | exact kdE KW_70 (by omega) | exact KW_70.2.2.2.2.2.2.2.2.1 _ (by omega) | exact kdE KW_92 (by omega) | exact KW_92.2.2.2.2.2.2.2.2.1 _ (by omega)) (c_X0_hideOne (KW_70.2.2.2.2.2.2.2.2.1 dn (by omega))) (by omega) rfl ⟨Nat.le_refl _, Nat.le_refl _⟩ (fun M35 q35 => ?_)
      replace q35 := q35.symm
      subst q35
      refine R.b bk_X7_hide_38 (And.intro (by first | rfl | assumption | exact kdE KW_70 (by omega) | exact KW_70.2.2.2.2.2.2.2.2.1 _ (by omega) | exact kdE KW_92 (by omega) | exact KW_92.2.2.2.2.2.2.2.2.1 _ (by omega)) ?_)
      refine R.ri rt_X7_hide_42 rfl ⟨_, rfl, ?_⟩
      have er : r_hide (M (70 + 5 + dn)) = up (up (M (70 + 5 + dn)) 5 (a (7 + 8 * dn + 5) - 1)) 6 (a (7 + 8 * dn + 6) + 1) := by
        rw [r_hide, if_neg hgt, e5, hDD dn hdn 6 (by decide)]
      refine ⟨?_, ?_, fun q hq => mx_rw_ne (by omega)⟩
      · show mx_rw M (70 + 5 + dn) _ (70 + 5 + dn) 6 = _
        rw [mx_rw_at, er, up_at, F_hide, hisD, if_neg h8, hcdn, if_neg hne]
      · rw [A_hide, hisD, hcdn, if_neg (by simp_all), A_hides, er]
        have hw1 := RW_wr (f := 6) (v := a (7 + 8 * dn + 6) + 1) hm6 hdn (by decide) (RW_wr (f := 5) (v := a (7 + 8 * dn + 5) - 1) hm6 hdn (by decide) hR)
        rw [mx_wr_up, mx_wr_up, mx_rw_rw, mx_rw_at] at hw1
        exact RN_of hm6 hw1
    · refine R.b bk_X7_hide_31 ?_
      refine R.ri rt_X7_hide_33 rfl ⟨_, rfl, ?_⟩
      have h0 : a (7 + 8 * dn + 5) = 0 := by rw [← e5]; exact h28
      exact ⟨by rw [F_hide, hisD, if_neg h8, hcdn, if_pos h0], by rw [A_hide, hcdn, if_pos (Or.inr h0)]; exact RN_of hm6 hR, fun q _ => rfl⟩
  · refine R.b bk_X7_hide_11 ?_
    refine R.ri rt_X7_hide_13 rfl ⟨_, rfl, ?_⟩
    exact ⟨by rw [F_hide, hisD, if_pos h8], by rw [A_hide, hisD, if_pos (Or.inl h8)]; exact RN_of hm6 hR, fun q _ => rfl⟩
theorem rule_bad {a : Rw} {w v : Int32} (h : f_in w 0 2 = 0 ∨ f_in v 0 (f_rulehi w) = 0) : F_rule a w v = (-1000000001) ∧ A_rule a w v = a := by
  rw [F_rule, A_rule, if_pos h, if_pos h]
  exact ⟨rfl, rfl⟩
theorem rule_ok {a : Rw} {w v : Int32} (h1 : ¬ f_in w 0 2 = 0) (h2 : ¬ f_in v 0 (f_rulehi w) = 0) : F_rule a w v = a (3 + cN w) ∧ A_rule a w v = up a (3 + cN w) v := by
  have hn : ¬ (f_in w 0 2 = 0 ∨ f_in v 0 (f_rulehi w) = 0) := fun q => q.elim h1 h2
  rw [F_rule, A_rule, if_neg hn, if_neg hn]
  exact ⟨rfl, rfl⟩
theorem c_X7_rule {l : Launch} {G : Gt} {M : Mm} {w v : Int32} {a : Rw} {mm : Nat} (hV : VP a mm) (hR : RW M 70 a Sall mm) : Runs l G true dm_X7_rule 1 127 [.ref 0, .int w, .int v] M 127 (Pi (fun x M1 => x = F_rule a w v ∧ RN M1 70 (A_rule a w v) ∧ ∀ q, ¬ (70 ≤ q ∧ q < 81) → M1 q = M q)) := by
  refine mx_run ow_X7_rule rfl rfl (fun dp X hdp R => ?_)
  have hm6 := hV.1.1
  have h4m : M 70 4 = nI mm := hR.2.1.trans hR.1
  have hDD : ∀ d, d < mm → ∀ f, f < 8 → M (70 + 5 + d) f = a (7 + 8 * d + f) := fun d hd f hf => hR.2.2.2.2.2.2.2.2.2 d hd rfl f hf
  have hisD : ∀ v, isD a v = f_in v 0 (nI mm - 1) := fun v => by rw [isD, hR.1]
  have hE : ∀ (M1 : Mm) (r : Int32), (r = F_rule a w v ∧ RN M1 70 (A_rule a w v) ∧ ∀ q, ¬ (70 ≤ q ∧ q < 81) → M1 q = M q) → X 127 M1 102 [some (.ref 0), some (.int w), some (.int v), some (.int r)] [] := by
    intro M1 r hE
    refine R.b bk_X7_rule_102 ?_
    refine R.ri rt_X7_rule_103 rfl ⟨_, rfl, ?_⟩
    exact hE
  refine R.b bk_X7_rule_0 ?_
  refine R.c br_X7_rule_4 (And.intro (fun h4 => ?_) (fun h4 => ?_))
  · refine R.b bk_X7_rule_37 ?_
    refine R.c br_X7_rule_39 (And.intro (fun h39 => ?_) (fun h39 => ?_))
    · refine R.b bk_X7_rule_71 ?_
      refine R.c br_X7_rule_73 (And.intro (fun h73 => ?_) (fun h73 => ?_))
      · refine hE _ _ ⟨?_, ?_, fun q _ => rfl⟩
        · exact (rule_bad (Or.inl (in02 h4 h39 h73))).1.symm
        · rw [(rule_bad (a := a) (Or.inl (in02 h4 h39 h73))).2]
          exact RN_of hm6 hR
      · refine R.b bk_X7_rule_76 ?_
        refine R.S3i kc_X7_rule_80 (c_X7_within) (by omega) rfl ⟨Nat.le_refl _, Nat.le_refl _⟩ (fun x80 M80 q80 => ?_)
        obtain ⟨rfl, q80⟩ := q80
        replace q80 := q80.symm
        subst q80
        refine R.c br_X7_rule_83 (And.intro (fun h83 => ?_) (fun h83 => ?_))
        · refine hE _ _ ⟨?_, ?_, fun q _ => rfl⟩
          · exact (rule_bad (Or.inr (by rw [h73]; exact h83))).1.symm
          · rw [(rule_bad (a := a) (Or.inr (by rw [h73]; exact h83))).2]
            exact RN_of hm6 hR
        · refine R.b bk_X7_rule_86 (And.intro (by first | rfl | assumption | exact kdE KW_70 (by omega) | exact KW_70.2.2.2.2.2.2.2.2.1 _ (by omega) | exact kdE KW_92 (by omega) | exact KW_92.2.2.2.2.2.2.2.2.1 _ (by omega)) (And.intro (by first | rfl | assumption | exact kdE KW_70 (by omega) | exact KW_70.2.2.2.2.2.2.2.2.1 _ (by omega) | exact kdE KW_92 (by omega) | exact KW_92.2.2.2.2.2.2.2.2.1 _ (by omega)) (And.intro (by first | rfl | assumption | exact kdE KW_70 (by omega) | exact KW_70.2.2.2.2.2.2.2.2.1 _ (by omega) | exact kdE KW_92 (by omega) | exact KW_92.2.2.2.2.2.2.2.2.1 _ (by omega)) (And.intro (by first | rfl | assumption | exact kdE KW_70 (by omega) | exact KW_70.2.2.2.2.2.2.2.2.1 _ (by omega) | exact kdE KW_92 (by omega) | exact KW_92.2.2.2.2.2.2.2.2.1 _ (by omega)) (And.intro rfl (And.intro rfl ?_))))))
          subst h73
          have hs := rule_ok (a := a) (w := 2) (v := v) (by decide) h83
          refine hE _ _ ⟨?_, ?_, fun q hq => mx_wr_ne (by omega)⟩
          · rw [hs.1]
            exact hR.2.2.2.2.2.1
          · rw [hs.2]
            exact RN_of hm6 (RW_g (fw := 8) (ia := 5) (by decide) hR)
    · refine R.b bk_X7_rule_42 ?_
      refine R.S3i kc_X7_rule_46 (c_X7_within) (by omega) rfl ⟨Nat.le_refl _, Nat.le_refl _⟩ (fun x46 M46 q46 => ?_)
      obtain ⟨rfl, q46⟩ := q46
      replace q46 := q46.symm
      subst q46
      refine R.c br_X7_rule_49 (And.intro (fun h49 => ?_) (fun h49 => ?_))
      · refine R.b bk_X7_rule_71 ?_
        refine R.c br_X7_rule_73 (And.intro (fun h73 => ?_) (fun h73 => absurd (h39.symm.trans h73) (by decide)))
        refine hE _ _ ⟨?_, ?_, fun q _ => rfl⟩
        · exact (rule_bad (Or.inr (by rw [h39]; exact h49))).1.symm
        · rw [(rule_bad (a := a) (Or.inr (by rw [h39]; exact h49))).2]
          exact RN_of hm6 hR
      · refine R.b bk_X7_rule_52 (And.intro (by first | rfl | assumption | exact kdE KW_70 (by omega) | exact KW_70.2.2.2.2.2.2.2.2.1 _ (by omega) | exact kdE KW_92 (by omega) | exact KW_92.2.2.2.2.2.2.2.2.1 _ (by omega)) (And.intro (by first | rfl | assumption | exact kdE KW_70 (by omega) | exact KW_70.2.2.2.2.2.2.2.2.1 _ (by omega) | exact kdE KW_92 (by omega) | exact KW_92.2.2.2.2.2.2.2.2.1 _ (by omega)) (And.intro (by first | rfl | assumption | exact kdE KW_70 (by omega) | exact KW_70.2.2.2.2.2.2.2.2.1 _ (by omega) | exact kdE KW_92 (by omega) | exact KW_92.2.2.2.2.2.2.2.2.1 _ (by omega)) (And.intro (by first | rfl | assumption | exact kdE KW_70 (by omega) | exact KW_70.2.2.2.2.2.2.2.2.1 _ (by omega) | exact kdE KW_92 (by omega) | exact KW_92.2.2.2.2.2.2.2.2.1 _ (by omega)) (And.intro rfl (And.intro rfl ?_))))))
        refine R.j gt_X7_rule_68 ?_
        subst h39
        have hs := rule_ok (a := a) (w := 1) (v := v) (by decide) h49
        refine hE _ _ ⟨?_, ?_, fun q hq => mx_wr_ne (by omega)⟩
        · rw [hs.1]
          exact hR.2.2.2.2.1
        · rw [hs.2]
          exact RN_of hm6 (RW_g (fw := 7) (ia := 4) (by decide) hR)
  · refine R.b bk_X7_rule_7 ?_
    refine R.S3i kc_X7_rule_12 (c_X7_within) (by omega) rfl ⟨Nat.le_refl _, Nat.le_refl _⟩ (fun x12 M12 q12 => ?_)
    obtain ⟨rfl, q12⟩ := q12
    replace q12 := q12.symm
    subst q12
    refine R.c br_X7_rule_15 (And.intro (fun h15 => ?_) (fun h15 => ?_))
    · refine R.b bk_X7_rule_37 ?_
      refine R.c br_X7_rule_39 (And.intro (fun h39 => ?_) (fun h39 => absurd (h4.symm.trans h39) (by decide)))
      refine R.b bk_X7_rule_71 ?_
      refine R.c br_X7_rule_73 (And.intro (fun h73 => ?_) (fun h73 => absurd (h4.symm.trans h73) (by decide)))
      refine hE _ _ ⟨?_, ?_, fun q _ => rfl⟩
      · exact (rule_bad (Or.inr (by rw [h4]; exact h15))).1.symm
      · rw [(rule_bad (a := a) (Or.inr (by rw [h4]; exact h15))).2]
        exact RN_of hm6 hR
    · refine R.b bk_X7_rule_18 (And.intro (by first | rfl | assumption | exact kdE KW_70 (by omega) | exact KW_70.2.2.2.2.2.2.2.2.1 _ (by omega) | exact kdE KW_92 (by omega) | exact KW_92.2.2.2.2.2.2.2.2.1 _ (by omega)) (And.intro (by first | rfl | assumption | exact kdE KW_70 (by omega) | exact KW_70.2.2.2.2.2.2.2.2.1 _ (by omega) | exact kdE KW_92 (by omega) | exact KW_92.2.2.2.2.2.2.2.2.1 _ (by omega)) (And.intro (by first | rfl | assumption | exact kdE KW_70 (by omega) | exact KW_70.2.2.2.2.2.2.2.2.1 _ (by omega) | exact kdE KW_92 (by omega) | exact KW_92.2.2.2.2.2.2.2.2.1 _ (by omega)) (And.intro (by first | rfl | assumption | exact kdE KW_70 (by omega) | exact KW_70.2.2.2.2.2.2.2.2.1 _ (by omega) | exact kdE KW_92 (by omega) | exact KW_92.2.2.2.2.2.2.2.2.1 _ (by omega)) (And.intro rfl (And.intro rfl ?_))))))
      refine R.j gt_X7_rule_34 ?_
      subst h4
      have hs := rule_ok (a := a) (w := 0) (v := v) (by decide) h15
      refine hE _ _ ⟨?_, ?_, fun q hq => mx_wr_ne (by omega)⟩
      · rw [hs.1]
        exact hR.2.2.2.1
      · rw [hs.2]
        exact RN_of hm6 (RW_g (fw := 6) (ia := 3) (by decide) hR)
theorem c_X7_seed {l : Launch} {G : Gt} {M : Mm} {v : Int32} {a : Rw} {mm : Nat} (hV : VP a mm) (hR : RW M 70 a Sall mm) : Runs l G true dm_X7_seed 0 127 [.ref 0, .int v] M 127 (Pi (fun x M1 => x = a 0 ∧ RN M1 70 (up a 0 v) ∧ ∀ q, ¬ (70 ≤ q ∧ q < 81) → M1 q = M q)) := by
  refine mx_run ow_X7_seed rfl rfl (fun dp X hdp R => ?_)
  have hm6 := hV.1.1
  have h4m : M 70 4 = nI mm := hR.2.1.trans hR.1
  have hDD : ∀ d, d < mm → ∀ f, f < 8 → M (70 + 5 + d) f = a (7 + 8 * d + f) := fun d hd f hf => hR.2.2.2.2.2.2.2.2.2 d hd rfl f hf
  have hisD : ∀ v, isD a v = f_in v 0 (nI mm - 1) := fun v => by rw [isD, hR.1]
  refine R.b bk_X7_seed_0 (And.intro (by first | rfl | assumption | exact kdE KW_70 (by omega) | exact KW_70.2.2.2.2.2.2.2.2.1 _ (by omega) | exact kdE KW_92 (by omega) | exact KW_92.2.2.2.2.2.2.2.2.1 _ (by omega)) (And.intro (by first | rfl | assumption | exact kdE KW_70 (by omega) | exact KW_70.2.2.2.2.2.2.2.2.1 _ (by omega) | exact kdE KW_92 (by omega) | exact KW_92.2.2.2.2.2.2.2.2.1 _ (by omega)) (And.intro (by first | rfl | assumption | exact kdE KW_70 (by omega) | exact KW_70.2.2.2.2.2.2.2.2.1 _ (by omega) | exact kdE KW_92 (by omega) | exact KW_92.2.2.2.2.2.2.2.2.1 _ (by omega)) (And.intro (by first | rfl | assumption | exact kdE KW_70 (by omega) | exact KW_70.2.2.2.2.2.2.2.2.1 _ (by omega) | exact kdE KW_92 (by omega) | exact KW_92.2.2.2.2.2.2.2.2.1 _ (by omega)) (And.intro rfl (And.intro rfl ?_))))))
  refine R.ri rt_X7_seed_17 rfl ⟨_, rfl, ?_⟩
  exact ⟨hR.2.2.2.2.2.2.1, RN_of hm6 (RW_g (fw := 9) (ia := 0) (by decide) hR), fun q hq => mx_wr_ne (by omega)⟩
theorem min_i {n m : Nat} (hn : n < 2 ^ 31) (hm : m < 2 ^ 31) : (if nI m < nI n then nI m else nI n) = nI (min n m) := by
  by_cases h : m < n
  · rw [if_pos (nI_lt h hn), Nat.min_eq_right (by omega)]
  · rw [if_neg (nI_nlt (by omega) hm), Nat.min_eq_left (by omega)]
theorem c_X7_deal {l : Launch} {G : Gt} {M : Mm} {n : Int32} {a : Rw} {mm : Nat} (hV : VP a mm) (hR : RW M 70 a Sall mm) : Runs l G true dm_X7_deal 2 127 [.ref 0, .int n] M 127 (Pi (fun x M1 => x = F_deal a n ∧ RN M1 70 (A_deal a n) ∧ ∀ q, ¬ (70 ≤ q ∧ q < 81) → M1 q = M q)) := by
  refine mx_run ow_X7_deal rfl rfl (fun dp X hdp R => ?_)
  have hm6 := hV.1.1
  have h4m : M 70 4 = nI mm := hR.2.1.trans hR.1
  have hDD : ∀ d, d < mm → ∀ f, f < 8 → M (70 + 5 + d) f = a (7 + 8 * d + f) := fun d hd f hf => hR.2.2.2.2.2.2.2.2.2 d hd rfl f hf
  have hisD : ∀ v, isD a v = f_in v 0 (nI mm - 1) := fun v => by rw [isD, hR.1]
  refine R.b bk_X7_deal_0 ?_
  refine R.S3i kc_X7_deal_4 (c_X7_within) (by omega) rfl ⟨Nat.le_refl _, Nat.le_refl _⟩ (fun x4 M4 q4 => ?_)
  obtain ⟨rfl, q4⟩ := q4
  replace q4 := q4.symm
  subst q4
  refine R.c br_X7_deal_7 (And.intro (fun h7 => ?_) (fun h7 => ?_))
  · obtain ⟨n, hn, rfl⟩ := f_in_1 (n := 6) (by decide) h7
    have hmin : f_deal a (nI n) = min n (6 - mm) := by rw [f_deal, hR.1, cN_nI (by omega), cN_nI (by omega)]
    have hF : nI (min n (6 - mm)) = F_deal a (nI n) := by rw [F_deal, if_neg h7, hmin]
    have hA' : A_deal a (nI n) = A_dl a (min n (6 - mm)) := by rw [A_deal, if_neg h7, hmin]
    have hA : ∀ (fu i : Nat) (M1 : Mm) (c4 : Option Value) (c5 : Option Value), (min n (6 - mm)) - i = fu → i ≤ (min n (6 - mm)) → (RW M1 70 (A_dl a i) Sall (mm + i)) → (∀ q, ¬ (70 ≤ q ∧ q < 81) → M1 q = M q) → X 127 M1 30 [some (.ref 0), some (.int (nI n)), some (.int (nI (min n (6 - mm)))), some (.int (nI i)), c4, c5] [] := by
      intro fu
      induction fu with
      | zero =>
        intro i M1 c4 c5 hfu hi hI1 hI2
        have hiN : i = (min n (6 - mm)) := by omega
        refine R.b bk_X7_deal_30 ?_
        refine R.c br_X7_deal_32 (And.intro (fun h32 => ?_) (fun h32 => absurd (by rw [hiN]; exact nI_le (Nat.le_refl _) (by omega)) h32))
        refine R.b bk_X7_deal_76 ?_
        refine R.ri rt_X7_deal_77 rfl ⟨_, rfl, ?_⟩
        exact ⟨hF, by rw [hA', ← hiN]; exact RN_of (by omega) hI1, hI2⟩
      | succ fu ih =>
        intro i M1 c4 c5 hfu hi hI1 hI2
        have hlt : i < (min n (6 - mm)) := by omega
        refine R.b bk_X7_deal_30 ?_
        refine R.c br_X7_deal_32 (And.intro (fun h32 => absurd h32 (nI_ge hlt (by omega))) (fun h32 => ?_))
        refine R.b bk_X7_deal_35 (And.intro (by first | rfl | assumption | exact kdE KW_70 (by omega) | exact KW_70.2.2.2.2.2.2.2.2.1 _ (by omega) | exact kdE KW_92 (by omega) | exact KW_92.2.2.2.2.2.2.2.2.1 _ (by omega)) ?_)
        refine R.V0i kc_X7_deal_39 (by first | rfl | assumption | exact kdE KW_70 (by omega) | exact KW_70.2.2.2.2.2.2.2.2.1 _ (by omega) | exact kdE KW_92 (by omega) | exact KW_92.2.2.2.2.2.2.2.2.1 _ (by omega)) (c_X6_draw KW_70) (by omega) rfl ⟨Nat.le_refl _, Nat.le_refl _⟩ (fun x39 M39 q39 => ?_)
        obtain ⟨rfl, q39⟩ := q39
        replace q39 := q39.symm
        subst q39
        refine R.b bk_X7_deal_42 (And.intro (by decide) (And.intro (by first | rfl | assumption | exact kdE KW_70 (by omega) | exact KW_70.2.2.2.2.2.2.2.2.1 _ (by omega) | exact kdE KW_92 (by omega) | exact KW_92.2.2.2.2.2.2.2.2.1 _ (by omega)) ?_))
        refine R.V0i kc_X7_deal_51 (by first | rfl | assumption | exact kdE KW_70 (by omega) | exact KW_70.2.2.2.2.2.2.2.2.1 _ (by omega) | exact kdE KW_92 (by omega) | exact KW_92.2.2.2.2.2.2.2.2.1 _ (by omega)) (c_X6_draw KW_70) (by omega) rfl ⟨Nat.le_refl _, Nat.le_refl _⟩ (fun x51 M51 q51 => ?_)
        obtain ⟨rfl, q51⟩ := q51
        replace q51 := q51.symm
        subst q51
        have hd1 := RW_g (fw := 9) (ia := 0) (v := f_dz (M1 70 9)) (by decide) hI1
        have hd2 := RW_g (fw := 9) (ia := 0) (v := f_dz (mx_wr M1 70 9 (f_dz (M1 70 9)) 70 9)) (by decide) hd1
        have e9 : M1 70 9 = A_dl a i 0 := hI1.2.2.2.2.2.2.1
        have e9b : mx_wr M1 70 9 (f_dz (M1 70 9)) 70 9 = A_draw (A_dl a i) 0 := by rw [hd1.2.2.2.2.2.2.1, e9]; rfl
        have hd3 := RW_come (kn := f_rem (f_dr (f_dz (A_dl a i 0))) 6) (rt := f_rem (f_dr (f_dz (A_draw (A_dl a i) 0))) 10) (by omega) hd2
        refine R.b bk_X7_deal_54 (And.intro (by decide) (And.intro (by first | rfl | assumption | exact kdE KW_70 (by omega) | exact KW_70.2.2.2.2.2.2.2.2.1 _ (by omega) | exact kdE KW_92 (by omega) | exact KW_92.2.2.2.2.2.2.2.2.1 _ (by omega)) ?_))
        refine R.V2v kc_X7_deal_67 (by first | rfl | assumption | exact kdE KW_70 (by omega) | exact KW_70.2.2.2.2.2.2.2.2.1 _ (by omega) | exact kdE KW_92 (by omega) | exact KW_92.2.2.2.2.2.2.2.2.1 _ (by omega)) (c_X6_addDistrict KW_70 (m := mm + i) (by omega) (hd2.2.1.trans hd2.1)) (by omega) rfl ⟨Nat.le_refl _, Nat.le_refl _⟩ (fun M67 q67 => ?_)
        replace q67 := q67.symm
        subst q67
        refine R.b bk_X7_deal_70 ?_
        refine R.j gt_X7_deal_73 ?_
        rw [nI_inc]
        refine ih (i + 1) _ _ _ (by omega) (by omega) ?_ (fun q hq => by rw [mx_wr_ne (by omega), mx_rw_ne (by omega), mx_wr_ne (by omega), mx_wr_ne (by omega)]; exact hI2 q hq)
        have e10 : A_dl a (i + 1) = A_come (A_draw (A_draw (A_dl a i))) (f_rem (f_dr (f_dz (A_dl a i 0))) 6) (f_rem (f_dr (f_dz (A_draw (A_dl a i) 0))) 10) := rfl
        have e11 : up (up (A_dl a i) 0 (f_dz (M1 70 9))) 0 (f_dz (mx_wr M1 70 9 (f_dz (M1 70 9)) 70 9)) = A_draw (A_draw (A_dl a i)) := by rw [e9b, e9]; rfl
        rw [e11] at hd3
        rw [e10]
        rw [e9b, e9] at hd3 ⊢
        exact hd3
    refine R.b bk_X7_deal_13 (And.intro (by first | rfl | assumption | exact kdE KW_70 (by omega) | exact KW_70.2.2.2.2.2.2.2.2.1 _ (by omega) | exact kdE KW_92 (by omega) | exact KW_92.2.2.2.2.2.2.2.2.1 _ (by omega)) (And.intro (by first | rfl | assumption | exact kdE KW_70 (by omega) | exact KW_70.2.2.2.2.2.2.2.2.1 _ (by omega) | exact kdE KW_92 (by omega) | exact KW_92.2.2.2.2.2.2.2.2.1 _ (by omega)) ?_))
    refine R.min kc_X7_deal_24 (by omega) rfl (Nat.le_refl _) ?_
    refine R.b bk_X7_deal_27 ?_
    have e6 : (6 : Int32) - M 70 (388 % 64) = nI (6 - mm) := by
      rw [show M 70 (388 % 64) = nI mm from h4m]
      exact pk_sub (a := 6) hm6
    rw [e6, min_i (by omega) (by omega)]
    exact hA _ 0 M _ _ rfl (Nat.zero_le _) hR (fun q _ => rfl)
  · refine R.b bk_X7_deal_10 ?_
    refine R.ri rt_X7_deal_12 rfl ⟨_, rfl, ?_⟩
    exact ⟨by rw [F_deal, if_pos h7], by rw [A_deal, if_pos h7]; exact RN_of hm6 hR, fun q _ => rfl⟩
