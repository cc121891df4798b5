/-! days -/
def nnK (k : Nat) : Nat := if k = 0 then 3 else 2
/-- the texts of a row can be worked out -/
def VT (a : Rw) : Prop := ∃ T, T ≤ 14 ∧ a 6 = nI T ∧ ∀ t, t < T → ∃ k n, k ≤ 2 ∧ n ≤ 96 ∧ a (55 + 2 * t) = nI (1000 * k + n) ∧ WFc (fun j => a (83 + 96 * t + j)) n (nnK k)
theorem cnt_spec {a : Rw} {kk : Nat} (hk : kk ≤ 2) (h : VT a) : A_cnt a (nI kk) = -1 ∨ ∃ t n, t < 14 ∧ A_cnt a (nI kk) = nI t ∧ f_rem (a (55 + 2 * t)) 1000 = nI n ∧ WFc (fun j => a (83 + 96 * t + j)) n (nnK kk) := by
  obtain ⟨T, hT, h6, ht⟩ := h
  unfold A_cnt
  rw [h6, cN_nI (by omega)]
  clear h6
  induction T with
  | zero => exact Or.inl rfl
  | succ T ih =>
    unfold cntF
    obtain ⟨k, n, h1, h2, h3, h4⟩ := ht T (by omega)
    split
    · rename_i hq
      refine Or.inr ⟨T, n, by omega, rfl, ?_, ?_⟩
      · rw [f_rem, h3, show (1000 : Int32) = nI 1000 from rfl, pk_rem (by omega) (by decide) (by decide)]
        congr 1
        omega
      · rw [h3, show (1000 : Int32) = nI 1000 from rfl, pk_div (by omega) (by decide) (by decide), nI_eq (by omega) (by omega)] at hq
        have : k = kk := by omega
        rw [← this]
        exact h4
    · exact ih (by omega) (fun t ht' => ht t (by omega))
theorem A_ev_congr {a : Rw} {t n nn : Nat} {fc fc' : Nat → Int32} (hn : f_rem (a (55 + 2 * t)) 1000 = nI n) (hw : WFc (fun k => a (83 + 96 * t + k)) n nn) (hnn : nn ≤ 3) (hf : ∀ j, j < nn → fc j = fc' j) : A_ev a t fc = A_ev a t fc' := by
  have h96 := hw.1
  rw [A_ev, A_ev, hn, cN_nI (by omega), evN_congr hw hf (by omega) n (Nat.le_refl n)]
def fc3 (x y z : Int32) : Nat → Int32 := fun j => if j = 0 then x else if j = 1 then y else z
def A_plain (a : Rw) (x l p : Int32) : Int32 := if A_cnt a 0 = -1 then x else f_held (A_ev a (cN (A_cnt a 0)) (fc3 x l p)) 0 30
def f_bk (k p r pl lg : Int32) : Int32 := if k = 1 then p / 2 else if k = 2 then p + 1 else if k = 3 then (if pl = 0 then 0 else p / 2) else if k = 4 then (if pl = lg - 1 then 2 * (p + 1) else p + 1) else if k = 5 then r else p
def A_births (a : Rw) (d : Nat) (x : Int32) : Int32 := f_bk (a (7 + 8 * d)) (A_plain a x (a (7 + 8 * d + 3)) (a (7 + 8 * d + 4))) (a (7 + 8 * d + 1)) (a (7 + 8 * d + 4)) (a (7 + 8 * d + 3))
def A_wage (a : Rw) (d : Nat) : Int32 := if A_cnt a 1 = -1 then a 3 else f_held (A_ev a (cN (A_cnt a 1)) (fc3 (a (7 + 8 * d + 3)) (a (7 + 8 * d + 2)) 0)) 0 9999
theorem nI_not_m1 {t : Nat} (h : t < 2 ^ 31) : ¬ nI t = -1 := by
  intro e
  have h1 := nI_pos h
  rw [e] at h1
  exact h1 (by decide)
theorem c_X8_birthsOf {l : Launch} {G : Gt} {M : Mm} {d : Nat} {x : Int32} (hd : d < 6) (hV : VT (M 104)) : Runs l G true dm_X8_birthsOf 2 127 [.ref 103, .int (nI d), .int x] M 127 (Pi (fun r M1 => r = A_births (M 104) d x ∧ ∀ q, q ≠ 116 → q ≠ 117 → M1 q = M q)) := by
  refine mx_run ow_X8_birthsOf rfl rfl (fun dp X hdp R => ?_)
  obtain ⟨T, hT, h6, -⟩ := id hV
  have hcs : A_cnt (M 104) 0 = -1 ∨ ∃ t n, t < 14 ∧ A_cnt (M 104) 0 = nI t ∧ f_rem (M 104 (55 + 2 * t)) 1000 = nI n ∧ WFc (fun j => M 104 (83 + 96 * t + j)) n (nnK 0) := cnt_spec (kk := 0) (by decide) hV
  have hB : ∀ (M2 : Mm) (p : Int32) (c3 : Int32), (∀ q, q ≠ 116 → q ≠ 117 → M2 q = M q) → p = A_plain (M 104) x (M 104 (7 + 8 * d + 3)) (M 104 (7 + 8 * d + 4)) → X 127 M2 56 [some (.ref 103), some (.int (nI d)), some (.int x), some (.int c3), none] [.int p] := by
    intro M2 p c3 hM2 hp
    have e104 : M2 104 = M 104 := hM2 104 (by decide) (by decide)
    refine R.b bk_X8_birthsOf_56 ?_
    refine R.V2i kc_X8_birthsOf_61 (by first | rfl | assumption) (c_X8_of (d := d) (w := 0) (by omega)) (by omega) rfl ⟨Nat.le_refl _, Nat.le_refl _⟩ (fun x61 M61 q61 => ?_)
    obtain ⟨rfl, q61⟩ := q61
    replace q61 := q61.symm
    subst q61
    refine R.s sw_X8_birthsOf_64 (And.intro (fun h64_0 => ?_) (fun h64_0 => And.intro (fun h64_1 => ?_) (fun h64_1 => And.intro (fun h64_2 => ?_) (fun h64_2 => And.intro (fun h64_3 => ?_) (fun h64_3 => And.intro (fun h64_4 => ?_) (fun h64_4 => ?_))))))
    · refine R.b bk_X8_birthsOf_100 (And.intro (by decide) ?_)
      refine R.ri rt_X8_birthsOf_104 rfl ⟨_, rfl, ?_⟩
      refine ⟨?_, hM2⟩
      subst hp
      simp_all [A_births, f_bk]
    · refine R.b bk_X8_birthsOf_105 ?_
      refine R.ri rt_X8_birthsOf_109 rfl ⟨_, rfl, ?_⟩
      refine ⟨?_, hM2⟩
      subst hp
      simp_all [A_births, f_bk]
    · refine R.b bk_X8_birthsOf_110 ?_
      refine R.V2i kc_X8_birthsOf_113 (by first | rfl | assumption) (c_X8_of (d := d) (w := 4) (by omega)) (by omega) rfl ⟨Nat.le_refl _, Nat.le_refl _⟩ (fun x113 M113 q113 => ?_)
      obtain ⟨rfl, q113⟩ := q113
      replace q113 := q113.symm
      subst q113
      refine R.c br_X8_birthsOf_116 (And.intro (fun h116 => ?_) (fun h116 => ?_))
      · refine R.b bk_X8_birthsOf_123 (And.intro (by decide) ?_)
        refine R.ri rt_X8_birthsOf_127 rfl ⟨_, rfl, ?_⟩
        refine ⟨?_, hM2⟩
        subst hp
        simp_all [A_births, f_bk]
      · refine R.b bk_X8_birthsOf_119 ?_
        refine R.j gt_X8_birthsOf_120 ?_
        refine R.ri rt_X8_birthsOf_127 rfl ⟨_, rfl, ?_⟩
        refine ⟨?_, hM2⟩
        subst hp
        simp_all [A_births, f_bk]
    · refine R.b bk_X8_birthsOf_128 ?_
      refine R.V2i kc_X8_birthsOf_131 (by first | rfl | assumption) (c_X8_of (d := d) (w := 4) (by omega)) (by omega) rfl ⟨Nat.le_refl _, Nat.le_refl _⟩ (fun x131 M131 q131 => ?_)
      obtain ⟨rfl, q131⟩ := q131
      replace q131 := q131.symm
      subst q131
      refine R.b bk_X8_birthsOf_134 ?_
      refine R.V2i kc_X8_birthsOf_137 (by first | rfl | assumption) (c_X8_of (d := d) (w := 3) (by omega)) (by omega) rfl ⟨Nat.le_refl _, Nat.le_refl _⟩ (fun x137 M137 q137 => ?_)
      obtain ⟨rfl, q137⟩ := q137
      replace q137 := q137.symm
      subst q137
      refine R.b bk_X8_birthsOf_140 ?_
      refine R.c br_X8_birthsOf_142 (And.intro (fun h142 => ?_) (fun h142 => ?_))
      · refine R.b bk_X8_birthsOf_154 ?_
        refine R.ri rt_X8_birthsOf_158 rfl ⟨_, rfl, ?_⟩
        refine ⟨?_, hM2⟩
        subst hp
        simp_all [A_births, f_bk]
      · refine R.b bk_X8_birthsOf_145 ?_
        refine R.j gt_X8_birthsOf_151 ?_
        refine R.ri rt_X8_birthsOf_158 rfl ⟨_, rfl, ?_⟩
        refine ⟨?_, hM2⟩
        subst hp
        simp_all [A_births, f_bk]
    · refine R.b bk_X8_birthsOf_159 ?_
      refine R.V2i kc_X8_birthsOf_162 (by first | rfl | assumption) (c_X8_of (d := d) (w := 1) (by omega)) (by omega) rfl ⟨Nat.le_refl _, Nat.le_refl _⟩ (fun x162 M162 q162 => ?_)
      obtain ⟨rfl, q162⟩ := q162
      replace q162 := q162.symm
      subst q162
      refine R.ri rt_X8_birthsOf_165 rfl ⟨_, rfl, ?_⟩
      refine ⟨?_, hM2⟩
      subst hp
      simp_all [A_births, f_bk]
    · refine R.b bk_X8_birthsOf_166 ?_
      refine R.ri rt_X8_birthsOf_168 rfl ⟨_, rfl, ?_⟩
      refine ⟨?_, hM2⟩
      subst hp
      simp_all [A_births, f_bk]
  refine R.b bk_X8_birthsOf_0 ?_
  refine R.V1i kc_X8_birthsOf_2 (by first | rfl | assumption) (c_X8_counts hT h6) (by omega) rfl ⟨Nat.le_refl _, Nat.le_refl _⟩ (fun x2 M2 q2 => ?_)
  obtain ⟨rfl, q2⟩ := q2
  replace q2 := q2.symm
  subst q2
  refine R.b bk_X8_birthsOf_5 (And.intro (by first | rfl | assumption) (And.intro (by first | rfl | assumption) (And.intro (by exact vp_lit rfl) (And.intro (by first | rfl | assumption) ?_))))
  refine R.V2i kc_X8_birthsOf_21 (by first | rfl | assumption) (c_X8_of (d := d) (w := 3) (by omega)) (by omega) rfl ⟨Nat.le_refl _, Nat.le_refl _⟩ (fun x21 M21 q21 => ?_)
  obtain ⟨rfl, q21⟩ := q21
  replace q21 := q21.symm
  subst q21
  refine R.b bk_X8_birthsOf_24 (And.intro (by first | rfl | assumption) (And.intro (by exact vp_lit rfl) (And.intro (by first | rfl | assumption) ?_)))
  refine R.V2i kc_X8_birthsOf_33 (by first | rfl | assumption) (c_X8_of (d := d) (w := 4) (by omega)) (by omega) rfl ⟨Nat.le_refl _, Nat.le_refl _⟩ (fun x33 M33 q33 => ?_)
  obtain ⟨rfl, q33⟩ := q33
  replace q33 := q33.symm
  subst q33
  refine R.b bk_X8_birthsOf_36 (And.intro (by first | rfl | assumption) (And.intro (by exact vp_lit rfl) ?_))
  refine R.c br_X8_birthsOf_38 (And.intro (fun h38 => ?_) (fun h38 => ?_))
  · rcases hcs with hcs | ⟨t, n, ht14, hcs, hn, hwf⟩
    · rw [hcs] at h38; exact absurd h38 (by decide)
    have hcs2 : A_cnt (M 104) 0 = nI t := hcs
    rw [hcs2]
    refine R.b bk_X8_birthsOf_45 ?_
    refine R.V1i kc_X8_birthsOf_47 (by first | rfl | assumption) (c_X8_worksOut (nn := 3) ht14 hn (by decide) hwf) (by omega) rfl ⟨Nat.le_refl _, Nat.le_refl _⟩ (fun x47 M47 q47 => ?_)
    obtain ⟨e47, f47⟩ := q47
    refine R.b bk_X8_birthsOf_50 ?_
    refine R.S3i kc_X8_birthsOf_53 (c_X8_within) (by omega) rfl ⟨Nat.le_refl _, Nat.le_refl _⟩ (fun x53 M53 q53 => ?_)
    obtain ⟨rfl, q53⟩ := q53
    replace q53 := q53.symm
    subst q53
    first
    | (refine hB _ _ _ (fun q h1 h2 => by rw [f47 q h1]; simp [mx_wr, h2]) ?_
       rw [A_plain, if_neg (by rw [hcs2]; exact nI_not_m1 (by omega)), hcs2, cN_nI (by omega), e47]
       congr 1
       refine A_ev_congr hn hwf (by decide) (fun j hj => ?_)
       rcases (show j = 0 ∨ j = 1 ∨ j = 2 by unfold nnK at hj; simp at hj; omega) with rfl | rfl | rfl <;> rfl)
    | (refine hB _ _ _ (fun q h1 h2 => by simp [mx_wr, h2]) ?_
       rcases hcs with hcs | ⟨t, n, ht14, hcs, -⟩
       · rw [A_plain, if_pos hcs]
       · exact absurd (by rw [show A_cnt (M 104) 0 = nI t from hcs]; exact nI_pos' (by omega)) h38)
  · refine R.b bk_X8_birthsOf_41 ?_
    refine R.j gt_X8_birthsOf_42 ?_
    first
    | (refine hB _ _ _ (fun q h1 h2 => by rw [f47 q h1]; simp [mx_wr, h2]) ?_
       rw [A_plain, if_neg (by rw [hcs2]; exact nI_not_m1 (by omega)), hcs2, cN_nI (by omega), e47]
       congr 1
       refine A_ev_congr hn hwf (by decide) (fun j hj => ?_)
       rcases (show j = 0 ∨ j = 1 ∨ j = 2 by unfold nnK at hj; simp at hj; omega) with rfl | rfl | rfl <;> rfl)
    | (refine hB _ _ _ (fun q h1 h2 => by simp [mx_wr, h2]) ?_
       rcases hcs with hcs | ⟨t, n, ht14, hcs, -⟩
       · rw [A_plain, if_pos hcs]
       · exact absurd (by rw [show A_cnt (M 104) 0 = nI t from hcs]; exact nI_pos' (by omega)) h38)
theorem c_X8_wageOf {l : Launch} {G : Gt} {M : Mm} {d : Nat} (hd : d < 6) (hV : VT (M 104)) : Runs l G true dm_X8_wageOf 2 127 [.ref 103, .int (nI d)] M 127 (Pi (fun r M1 => r = A_wage (M 104) d ∧ ∀ q, q ≠ 116 → q ≠ 117 → M1 q = M q)) := by
  refine mx_run ow_X8_wageOf rfl rfl (fun dp X hdp R => ?_)
  obtain ⟨T, hT, h6, -⟩ := id hV
  have hcs : A_cnt (M 104) 1 = -1 ∨ ∃ t n, t < 14 ∧ A_cnt (M 104) 1 = nI t ∧ f_rem (M 104 (55 + 2 * t)) 1000 = nI n ∧ WFc (fun j => M 104 (83 + 96 * t + j)) n (nnK 1) := cnt_spec (kk := 1) (by decide) hV
  refine R.b bk_X8_wageOf_0 ?_
  refine R.V1i kc_X8_wageOf_2 (by first | rfl | assumption) (c_X8_counts hT h6) (by omega) rfl ⟨Nat.le_refl _, Nat.le_refl _⟩ (fun x2 M2 q2 => ?_)
  obtain ⟨rfl, q2⟩ := q2
  replace q2 := q2.symm
  subst q2
  refine R.b bk_X8_wageOf_5 (And.intro (by first | rfl | assumption) ?_)
  refine R.V2i kc_X8_wageOf_14 (by first | rfl | assumption) (c_X8_of (d := d) (w := 3) (by omega)) (by omega) rfl ⟨Nat.le_refl _, Nat.le_refl _⟩ (fun x14 M14 q14 => ?_)
  obtain ⟨rfl, q14⟩ := q14
  replace q14 := q14.symm
  subst q14
  refine R.b bk_X8_wageOf_17 (And.intro (by first | rfl | assumption) (And.intro (by exact vp_lit rfl) (And.intro (by first | rfl | assumption) ?_)))
  refine R.V2i kc_X8_wageOf_26 (by first | rfl | assumption) (c_X8_of (d := d) (w := 2) (by omega)) (by omega) rfl ⟨Nat.le_refl _, Nat.le_refl _⟩ (fun x26 M26 q26 => ?_)
  obtain ⟨rfl, q26⟩ := q26
  replace q26 := q26.symm
  subst q26
  refine R.b bk_X8_wageOf_29 (And.intro (by first | rfl | assumption) (And.intro (by exact vp_lit rfl) ?_))
  refine R.c br_X8_wageOf_31 (And.intro (fun h31 => ?_) (fun h31 => ?_))
  · rcases hcs with hcs | ⟨t, n, ht14, hcs, hn, hwf⟩
    · rw [hcs] at h31; exact absurd h31 (by decide)
    have hcs2 : A_cnt (M 104) 1 = nI t := hcs
    rw [hcs2]
    refine R.b bk_X8_wageOf_43 ?_
    refine R.V1i kc_X8_wageOf_45 (by first | rfl | assumption) (c_X8_worksOut (nn := 2) ht14 hn (by decide) hwf) (by omega) rfl ⟨Nat.le_refl _, Nat.le_refl _⟩ (fun x45 M45 q45 => ?_)
    obtain ⟨e45, f45⟩ := q45
    refine R.b bk_X8_wageOf_48 ?_
    refine R.S3i kc_X8_wageOf_52 (c_X8_within) (by omega) rfl ⟨Nat.le_refl _, Nat.le_refl _⟩ (fun x52 M52 q52 => ?_)
    obtain ⟨rfl, q52⟩ := q52
    replace q52 := q52.symm
    subst q52
    refine R.ri rt_X8_wageOf_55 rfl ⟨_, rfl, ?_⟩
    first
    | (refine ⟨?_, fun q h1 h2 => by rw [f45 q h1]; simp [mx_wr, h2]⟩
       rw [A_wage, if_neg (by rw [hcs2]; exact nI_not_m1 (by omega)), hcs2, cN_nI (by omega), e45]
       congr 1
       refine A_ev_congr hn hwf (by decide) (fun j hj => ?_)
       rcases (show j = 0 ∨ j = 1 by unfold nnK at hj; simp at hj; omega) with rfl | rfl <;> rfl)
    | (refine ⟨?_, fun q h1 h2 => by simp [mx_wr, h2]⟩
       rcases hcs with hcs | ⟨t, n, ht14, hcs, -⟩
       · rw [A_wage, if_pos hcs]; rfl
       · exact absurd (by rw [show A_cnt (M 104) 1 = nI t from hcs]; exact nI_pos' (by omega)) h31)
  · refine R.b bk_X8_wageOf_34 (And.intro (by first | rfl | assumption) (And.intro (by first | rfl | assumption) (And.intro (by exact vp_lit rfl) ?_)))
    refine R.j gt_X8_wageOf_40 ?_
    refine R.ri rt_X8_wageOf_55 rfl ⟨_, rfl, ?_⟩
    first
    | (refine ⟨?_, fun q h1 h2 => by rw [f45 q h1]; simp [mx_wr, h2]⟩
       rw [A_wage, if_neg (by rw [hcs2]; exact nI_not_m1 (by omega)), hcs2, cN_nI (by omega), e45]
       congr 1
       refine A_ev_congr hn hwf (by decide) (fun j hj => ?_)
       rcases (show j = 0 ∨ j = 1 by unfold nnK at hj; simp at hj; omega) with rfl | rfl <;> rfl)
    | (refine ⟨?_, fun q h1 h2 => by simp [mx_wr, h2]⟩
       rcases hcs with hcs | ⟨t, n, ht14, hcs, -⟩
       · rw [A_wage, if_pos hcs]; rfl
       · exact absurd (by rw [show A_cnt (M 104) 1 = nI t from hcs]; exact nI_pos' (by omega)) h31)
/-- a week ends -/
def A_week (a : Rw) (d : Nat) : Rw := fun j => if j = 7 + 8 * d + 7 then a j + A_wage a d else if j = 7 + 8 * d + 2 then a j + 1 else if j = 7 + 8 * d + 3 then f_held (a (7 + 8 * d + 5)) 2 60 else if j = 7 + 8 * d + 5 then a (7 + 8 * d + 6) else if j = 7 + 8 * d + 6 then 0 else if j = 7 + 8 * d + 4 then 0 else a j
theorem c_X8_weekEnds {l : Launch} {G : Gt} {M : Mm} {d : Nat} (hd : d < 6) (hV : VT (M 104)) : Runs l G true dm_X8_weekEnds 3 127 [.ref 103, .int (nI d)] M 127 (Pv (fun M1 => M1 104 = A_week (M 104) d ∧ ∀ q, q ≠ 104 → q ≠ 116 → q ≠ 117 → M1 q = M q)) := by
  refine mx_run ow_X8_weekEnds rfl rfl (fun dp X hdp R => ?_)
  refine R.b bk_X8_weekEnds_0 ?_
  refine R.V2i kc_X8_weekEnds_8 (by first | rfl | assumption) (c_X8_of (d := d) (w := 7) (by omega)) (by omega) rfl ⟨Nat.le_refl _, Nat.le_refl _⟩ (fun x8 M8 q8 => ?_)
  obtain ⟨rfl, q8⟩ := q8
  replace q8 := q8.symm
  subst q8
  refine R.b bk_X8_weekEnds_11 ?_
  refine R.V1i kc_X8_weekEnds_13 (by first | rfl | assumption) (c_X8_wageOf hd hV) (by omega) rfl ⟨Nat.le_refl _, Nat.le_refl _⟩ (fun x13 M13 q13 => ?_)
  obtain ⟨rfl, f13⟩ := q13
  have e13 : M13 104 = M 104 := f13 104 (by decide) (by decide)
  refine R.b bk_X8_weekEnds_16 ?_
  refine R.V3v kc_X8_weekEnds_17 (by first | rfl | assumption) (c_X8_put (d := d) (w := 7) (by omega)) (by omega) rfl ⟨Nat.le_refl _, Nat.le_refl _⟩ (fun M17 q17 => ?_)
  replace q17 := q17.symm
  subst q17
  refine R.b bk_X8_weekEnds_20 ?_
  refine R.V2i kc_X8_weekEnds_26 (by first | rfl | assumption) (c_X8_of (d := d) (w := 2) (by omega)) (by omega) rfl ⟨Nat.le_refl _, Nat.le_refl _⟩ (fun x26 M26 q26 => ?_)
  obtain ⟨rfl, q26⟩ := q26
  replace q26 := q26.symm
  subst q26
  refine R.b bk_X8_weekEnds_29 ?_
  refine R.V3v kc_X8_weekEnds_31 (by first | rfl | assumption) (c_X8_put (d := d) (w := 2) (by omega)) (by omega) rfl ⟨Nat.le_refl _, Nat.le_refl _⟩ (fun M31 q31 => ?_)
  replace q31 := q31.symm
  subst q31
  refine R.b bk_X8_weekEnds_34 ?_
  refine R.V2i kc_X8_weekEnds_40 (by first | rfl | assumption) (c_X8_of (d := d) (w := 5) (by omega)) (by omega) rfl ⟨Nat.le_refl _, Nat.le_refl _⟩ (fun x40 M40 q40 => ?_)
  obtain ⟨rfl, q40⟩ := q40
  replace q40 := q40.symm
  subst q40
  refine R.b bk_X8_weekEnds_43 ?_
  refine R.S3i kc_X8_weekEnds_46 (c_X8_within) (by omega) rfl ⟨Nat.le_refl _, Nat.le_refl _⟩ (fun x46 M46 q46 => ?_)
  obtain ⟨rfl, q46⟩ := q46
  replace q46 := q46.symm
  subst q46
  refine R.V3v kc_X8_weekEnds_49 (by first | rfl | assumption) (c_X8_put (d := d) (w := 3) (by omega)) (by omega) rfl ⟨Nat.le_refl _, Nat.le_refl _⟩ (fun M49 q49 => ?_)
  replace q49 := q49.symm
  subst q49
  refine R.b bk_X8_weekEnds_52 ?_
  refine R.V2i kc_X8_weekEnds_59 (by first | rfl | assumption) (c_X8_of (d := d) (w := 6) (by omega)) (by omega) rfl ⟨Nat.le_refl _, Nat.le_refl _⟩ (fun x59 M59 q59 => ?_)
  obtain ⟨rfl, q59⟩ := q59
  replace q59 := q59.symm
  subst q59
  refine R.V3v kc_X8_weekEnds_62 (by first | rfl | assumption) (c_X8_put (d := d) (w := 5) (by omega)) (by omega) rfl ⟨Nat.le_refl _, Nat.le_refl _⟩ (fun M62 q62 => ?_)
  replace q62 := q62.symm
  subst q62
  refine R.b bk_X8_weekEnds_65 ?_
  refine R.V3v kc_X8_weekEnds_70 (by first | rfl | assumption) (c_X8_put (d := d) (w := 6) (by omega)) (by omega) rfl ⟨Nat.le_refl _, Nat.le_refl _⟩ (fun M70 q70 => ?_)
  replace q70 := q70.symm
  subst q70
  refine R.b bk_X8_weekEnds_73 ?_
  refine R.V3v kc_X8_weekEnds_77 (by first | rfl | assumption) (c_X8_put (d := d) (w := 4) (by omega)) (by omega) rfl ⟨Nat.le_refl _, Nat.le_refl _⟩ (fun M77 q77 => ?_)
  replace q77 := q77.symm
  subst q77
  refine R.rv rt_X8_weekEnds_80 ⟨rfl, ?_⟩
  refine ⟨?_, fun q h1 h2 h3 => by simp only [mx_wr, if_neg h1]; exact f13 q h2 h3⟩
  funext j
  simp only [mx_wr, if_pos, e13, A_week]
  grind
