/-! the class's kinds and districts -/
theorem c_X7_isKind {l : Launch} {G : Gt} {M : Mm} {v : Int32} : Runs l G true dm_X7_isKind 1 127 [.int v] M 127 (Pi (fun x M1 => x = f_in v 0 5 ∧ M1 = M)) := by
  refine mx_run ow_X7_isKind rfl rfl (fun dp X hdp R => ?_)
  refine R.b bk_X7_isKind_0 ?_
  refine R.c br_X7_isKind_1 (And.intro (fun h1 => ?_) (fun h1 => ?_))
  · refine R.b bk_X7_isKind_16 ?_
    refine R.ri rt_X7_isKind_17 rfl ⟨_, rfl, ?_⟩
    refine ⟨?_, rfl⟩
    have e5 : (5 : Int32).toInt = 5 := by decide
    have e6 : (6 : Int32).toInt = 6 := by decide
    first
    | exact (f_in_l h1).symm
    | (have q1 : (6 : Int32) ≤ v := h9
       rw [Int32.le_iff_toInt_le] at q1
       exact (f_in_g (Int32.lt_iff_toInt_lt.mpr (by omega))).symm)
    | (have q1 : ¬ (6 : Int32) ≤ v := h9
       rw [Int32.le_iff_toInt_le] at q1
       exact (f_in_t (Int32.not_lt.mp h1) (Int32.le_iff_toInt_le.mpr (by omega))).symm)
  · refine R.b bk_X7_isKind_4 ?_
    refine R.o dd_X7_isKind_5 (Or.inl ⟨_, rfl, rfl, (by first | exact Or.inl (by decide +kernel) | exact Or.inr (by decide +kernel)), rfl⟩) (by omega) (Nat.le_refl _) ?_
    refine R.o dd_X7_isKind_8 (Or.inr (Or.inl ⟨_, rfl, rfl, rfl, rfl⟩)) (by omega) (Nat.le_refl _) ?_
    refine R.c br_X7_isKind_9 (And.intro (fun h9 => ?_) (fun h9 => ?_))
    · refine R.b bk_X7_isKind_16 ?_
      refine R.ri rt_X7_isKind_17 rfl ⟨_, rfl, ?_⟩
      refine ⟨?_, rfl⟩
      have e5 : (5 : Int32).toInt = 5 := by decide
      have e6 : (6 : Int32).toInt = 6 := by decide
      first
      | exact (f_in_l h1).symm
      | (have q1 : (6 : Int32) ≤ v := h9
         rw [Int32.le_iff_toInt_le] at q1
         exact (f_in_g (Int32.lt_iff_toInt_lt.mpr (by omega))).symm)
      | (have q1 : ¬ (6 : Int32) ≤ v := h9
         rw [Int32.le_iff_toInt_le] at q1
         exact (f_in_t (Int32.not_lt.mp h1) (Int32.le_iff_toInt_le.mpr (by omega))).symm)
    · refine R.b bk_X7_isKind_12 ?_
      refine R.j gt_X7_isKind_13 ?_
      refine R.ri rt_X7_isKind_17 rfl ⟨_, rfl, ?_⟩
      refine ⟨?_, rfl⟩
      have e5 : (5 : Int32).toInt = 5 := by decide
      have e6 : (6 : Int32).toInt = 6 := by decide
      first
      | exact (f_in_l h1).symm
      | (have q1 : (6 : Int32) ≤ v := h9
         rw [Int32.le_iff_toInt_le] at q1
         exact (f_in_g (Int32.lt_iff_toInt_lt.mpr (by omega))).symm)
      | (have q1 : ¬ (6 : Int32) ≤ v := h9
         rw [Int32.le_iff_toInt_le] at q1
         exact (f_in_t (Int32.not_lt.mp h1) (Int32.le_iff_toInt_le.mpr (by omega))).symm)
theorem i_30_4 (r : Int32) : (30 : Int32) - r - 4 = 26 - r := by grind
def r_new (r : Rw) (kd_ rt : Int32) : Rw := fun j => if j = 0 then kd_ else if j = 1 then rt else if j = 2 then 0 else if j = 3 then 7 else if j = 4 then 0 else if j = 5 then 0 else if j = 6 then 0 else if j = 7 then 0 else r j
def r_hide (r : Rw) : Rw := if r 5 ≤ 0 then r else up (up r 5 (r 5 - 1)) 6 (r 6 + 1)
def r_week (r : Rw) : Rw := fun j => if j = 2 then r 2 + 1 else if j = 3 then f_held (r 5) 2 60 else if j = 4 then 0 else if j = 5 then r 6 else if j = 6 then 0 else r j
theorem c_X0_becomeNew {l : Launch} {G : Gt} {M : Mm} {kd_ rt : Int32} {k : Nat} (hk : (kd k).1 = 0) : Runs l G true dm_X0_becomeNew 0 127 [.ref k, .int kd_, .int rt] M 127 (Pv (fun M1 => M1 = mx_rw M k (r_new (M k) kd_ rt))) := by
  refine mx_run ow_X0_becomeNew rfl rfl (fun dp X hdp R => ?_)
  refine R.b bk_X0_becomeNew_0 (And.intro (by first | rfl | assumption) (And.intro rfl (And.intro rfl (And.intro (by first | rfl | assumption) (And.intro rfl (And.intro rfl (And.intro (by first | rfl | assumption) (And.intro rfl (And.intro rfl (And.intro (by first | rfl | assumption) (And.intro rfl (And.intro rfl (And.intro (by first | rfl | assumption) (And.intro rfl (And.intro rfl (And.intro (by first | rfl | assumption) (And.intro rfl (And.intro rfl (And.intro (by first | rfl | assumption) (And.intro rfl (And.intro rfl (And.intro (by first | rfl | assumption) (And.intro rfl (And.intro rfl ?_))))))))))))))))))))))))
  refine R.rv rt_X0_becomeNew_41 ⟨rfl, ?_⟩
  simp only [mx_wr_up, mx_rw_rw, mx_rw_at]
  congr 1
  funext j
  simp only [up, r_new]
  grind
theorem c_X0_becomeLike {l : Launch} {G : Gt} {M : Mm} {k : Nat} (hk : (kd k).1 = 0) {k2 : Nat} (hk2 : (kd k2).1 = 0) (hne : k2 ≠ k) : Runs l G true dm_X0_becomeLike 0 127 [.ref k, .ref k2] M 127 (Pv (fun M1 => M1 = mx_rw M k (cut 8 (M k2) (M k)))) := by
  refine mx_run ow_X0_becomeLike rfl rfl (fun dp X hdp R => ?_)
  refine R.b bk_X0_becomeLike_0 (And.intro (by first | rfl | assumption) (And.intro (by first | rfl | assumption) (And.intro rfl (And.intro rfl (And.intro (by first | rfl | assumption) (And.intro (by first | rfl | assumption) (And.intro rfl (And.intro rfl (And.intro (by first | rfl | assumption) (And.intro (by first | rfl | assumption) (And.intro rfl (And.intro rfl (And.intro (by first | rfl | assumption) (And.intro (by first | rfl | assumption) (And.intro rfl (And.intro rfl (And.intro (by first | rfl | assumption) (And.intro (by first | rfl | assumption) (And.intro rfl (And.intro rfl (And.intro (by first | rfl | assumption) (And.intro (by first | rfl | assumption) (And.intro rfl (And.intro rfl (And.intro (by first | rfl | assumption) (And.intro (by first | rfl | assumption) (And.intro rfl (And.intro rfl (And.intro (by first | rfl | assumption) (And.intro (by first | rfl | assumption) (And.intro rfl (And.intro rfl ?_))))))))))))))))))))))))))))))))
  refine R.rv rt_X0_becomeLike_64 ⟨rfl, ?_⟩
  simp only [mx_wr_up, mx_rw_rw, mx_rw_at, mx_rw_ne hne]
  congr 1
  funext j
  simp only [up, cut]
  grind
theorem c_X0_worth {l : Launch} {G : Gt} {M : Mm} {k : Nat} (hk : (kd k).1 = 0) : Runs l G true dm_X0_worth 0 127 [.ref k] M 127 (Pi (fun x M1 => x = f_worth (M k 0) (M k 1) ∧ M1 = M)) := by
  refine mx_run ow_X0_worth rfl rfl (fun dp X hdp R => ?_)
  refine R.b bk_X0_worth_0 (And.intro (by first | rfl | assumption) ?_)
  refine R.s sw_X0_worth_4 (And.intro (fun h4_0 => ?_) (fun h4_0 => And.intro (fun h4_1 => ?_) (fun h4_1 => And.intro (fun h4_2 => ?_) (fun h4_2 => And.intro (fun h4_3 => ?_) (fun h4_3 => And.intro (fun h4_4 => ?_) (fun h4_4 => ?_))))))
  · refine R.b bk_X0_worth_40 (And.intro (by first | rfl | assumption) ?_)
    refine R.ri rt_X0_worth_46 rfl ⟨_, rfl, ?_⟩
    refine ⟨?_, rfl⟩
    have e := i_30_4 (M k 1)
    simp_all [f_worth]
  · refine R.b bk_X0_worth_56 (And.intro (by first | rfl | assumption) ?_)
    refine R.ri rt_X0_worth_63 rfl ⟨_, rfl, ?_⟩
    refine ⟨?_, rfl⟩
    have e := i_30_4 (M k 1)
    simp_all [f_worth]
  · refine R.b bk_X0_worth_47 (And.intro (by first | rfl | assumption) ?_)
    refine R.ri rt_X0_worth_55 rfl ⟨_, rfl, ?_⟩
    refine ⟨?_, rfl⟩
    have e := i_30_4 (M k 1)
    simp_all [f_worth]
  · refine R.b bk_X0_worth_64 (And.intro (by first | rfl | assumption) ?_)
    refine R.ri rt_X0_worth_73 rfl ⟨_, rfl, ?_⟩
    refine ⟨?_, rfl⟩
    have e := i_30_4 (M k 1)
    simp_all [f_worth]
  · refine R.b bk_X0_worth_74 ?_
    refine R.ri rt_X0_worth_76 rfl ⟨_, rfl, ?_⟩
    refine ⟨?_, rfl⟩
    have e := i_30_4 (M k 1)
    simp_all [f_worth]
  · refine R.b bk_X0_worth_77 (And.intro (by first | rfl | assumption) ?_)
    refine R.ri rt_X0_worth_81 rfl ⟨_, rfl, ?_⟩
    refine ⟨?_, rfl⟩
    have e := i_30_4 (M k 1)
    simp_all [f_worth]
theorem c_X0_birthsByKind {l : Launch} {G : Gt} {M : Mm} {p : Int32} {k : Nat} (hk : (kd k).1 = 0) : Runs l G true dm_X0_birthsByKind 0 127 [.ref k, .int p] M 127 (Pi (fun x M1 => x = f_bk (M k 0) p (M k 1) (M k 4) (M k 3) ∧ M1 = M)) := by
  refine mx_run ow_X0_birthsByKind rfl rfl (fun dp X hdp R => ?_)
  refine R.b bk_X0_birthsByKind_0 (And.intro (by first | rfl | assumption) ?_)
  refine R.s sw_X0_birthsByKind_4 (And.intro (fun h4_0 => ?_) (fun h4_0 => And.intro (fun h4_1 => ?_) (fun h4_1 => And.intro (fun h4_2 => ?_) (fun h4_2 => And.intro (fun h4_3 => ?_) (fun h4_3 => And.intro (fun h4_4 => ?_) (fun h4_4 => ?_))))))
  · refine R.b bk_X0_birthsByKind_40 (And.intro (by decide) ?_)
    refine R.ri rt_X0_birthsByKind_43 rfl ⟨_, rfl, ?_⟩
    refine ⟨?_, rfl⟩
    simp_all [f_bk]
  · refine R.b bk_X0_birthsByKind_59 ?_
    refine R.ri rt_X0_birthsByKind_62 rfl ⟨_, rfl, ?_⟩
    refine ⟨?_, rfl⟩
    simp_all [f_bk]
  · refine R.b bk_X0_birthsByKind_44 (And.intro (by first | rfl | assumption) ?_)
    refine R.c br_X0_birthsByKind_48 (And.intro (fun h48 => ?_) (fun h48 => ?_))
    · refine R.b bk_X0_birthsByKind_55 (And.intro (by decide) ?_)
      refine R.ri rt_X0_birthsByKind_58 rfl ⟨_, rfl, ?_⟩
      refine ⟨?_, rfl⟩
      simp_all [f_bk]
    · refine R.b bk_X0_birthsByKind_51 ?_
      refine R.j gt_X0_birthsByKind_52 ?_
      refine R.ri rt_X0_birthsByKind_58 rfl ⟨_, rfl, ?_⟩
      refine ⟨?_, rfl⟩
      simp_all [f_bk]
  · refine R.b bk_X0_birthsByKind_63 (And.intro (by first | rfl | assumption) (And.intro (by first | rfl | assumption) ?_))
    refine R.c br_X0_birthsByKind_73 (And.intro (fun h73 => ?_) (fun h73 => ?_))
    · refine R.b bk_X0_birthsByKind_84 ?_
      refine R.ri rt_X0_birthsByKind_87 rfl ⟨_, rfl, ?_⟩
      refine ⟨?_, rfl⟩
      simp_all [f_bk]
    · refine R.b bk_X0_birthsByKind_76 ?_
      refine R.j gt_X0_birthsByKind_81 ?_
      refine R.ri rt_X0_birthsByKind_87 rfl ⟨_, rfl, ?_⟩
      refine ⟨?_, rfl⟩
      simp_all [f_bk]
  · refine R.b bk_X0_birthsByKind_88 (And.intro (by first | rfl | assumption) ?_)
    refine R.ri rt_X0_birthsByKind_92 rfl ⟨_, rfl, ?_⟩
    refine ⟨?_, rfl⟩
    simp_all [f_bk]
  · refine R.b bk_X0_birthsByKind_93 ?_
    refine R.ri rt_X0_birthsByKind_94 rfl ⟨_, rfl, ?_⟩
    refine ⟨?_, rfl⟩
    simp_all [f_bk]
theorem c_X0_hideOne {l : Launch} {G : Gt} {M : Mm} {k : Nat} (hk : (kd k).1 = 0) : Runs l G true dm_X0_hideOne 0 127 [.ref k] M 127 (Pv (fun M1 => M1 = mx_rw M k (r_hide (M k)))) := by
  refine mx_run ow_X0_hideOne rfl rfl (fun dp X hdp R => ?_)
  refine R.b bk_X0_hideOne_0 (And.intro (by first | rfl | assumption) ?_)
  refine R.c br_X0_hideOne_4 (And.intro (fun h4 => ?_) (fun h4 => ?_))
  · refine R.rv rt_X0_hideOne_27 ⟨rfl, ?_⟩
    first
    | (rw [r_hide, if_pos h4, mx_rw_id]; done)
    | (rw [r_hide, if_neg h4]
       simp only [mx_wr_up, mx_rw_rw, mx_rw_at]
       rw [up_ne (by decide)])
  · refine R.b bk_X0_hideOne_7 (And.intro (by first | rfl | assumption) (And.intro (by first | rfl | assumption) (And.intro rfl (And.intro rfl (And.intro (by first | rfl | assumption) (And.intro (by first | rfl | assumption) (And.intro rfl (And.intro rfl ?_))))))))
    refine R.rv rt_X0_hideOne_27 ⟨rfl, ?_⟩
    first
    | (rw [r_hide, if_pos h4, mx_rw_id]; done)
    | (rw [r_hide, if_neg h4]
       simp only [mx_wr_up, mx_rw_rw, mx_rw_at]
       rw [up_ne (by decide)])
theorem c_X0_beginWeek {l : Launch} {G : Gt} {M : Mm} {k : Nat} (hk : (kd k).1 = 0) : Runs l G true dm_X0_beginWeek 2 127 [.ref k] M 127 (Pv (fun M1 => M1 = mx_rw M k (r_week (M k)))) := by
  refine mx_run ow_X0_beginWeek rfl rfl (fun dp X hdp R => ?_)
  refine R.b bk_X0_beginWeek_0 (And.intro (by first | rfl | assumption) (And.intro (by first | rfl | assumption) (And.intro rfl (And.intro rfl (And.intro (by first | rfl | assumption) ?_)))))
  refine R.S3i kc_X0_beginWeek_18 (c_X7_held (by decide)) (by omega) rfl ⟨Nat.le_refl _, Nat.le_refl _⟩ (fun x18 M18 q18 => ?_)
  obtain ⟨rfl, q18⟩ := q18
  replace q18 := q18.symm
  subst q18
  refine R.b bk_X0_beginWeek_21 (And.intro (by first | rfl | assumption) (And.intro rfl (And.intro rfl (And.intro (by first | rfl | assumption) (And.intro (by first | rfl | assumption) (And.intro rfl (And.intro rfl (And.intro (by first | rfl | assumption) (And.intro rfl (And.intro rfl (And.intro (by first | rfl | assumption) (And.intro rfl (And.intro rfl ?_)))))))))))))
  refine R.rv rt_X0_beginWeek_42 ⟨rfl, ?_⟩
  simp only [mx_wr_up, mx_rw_rw, mx_rw_at]
  congr 1
  funext j
  simp only [up, r_week]
  grind
/-- the kinds above -/
def isO : Nat → Int32 → Int32 → Int32
  | 0, _, _ => 0
  | n + 1, k, w => if f_in k 0 5 = 0 then 0 else if k = w then 1 else isO n (mx_abv (cN k)) w
theorem isO_under {k w : Nat} (hk : k ≤ 5) (hw : w ≤ 5) : isO 6 (nI k) (nI w) = f_under (nI k) (nI w) := by
  have h : ∀ k, k < 6 → ∀ w, w < 6 → isO 6 (nI k) (nI w) = f_under (nI k) (nI w) := by decide +kernel
  exact h k (by omega) w (by omega)
theorem isO_nar : ∀ n k w, isO n k w = 0 ∨ isO n k w = 1
  | 0, _, _ => Or.inl rfl
  | n + 1, k, w => by
    unfold isO
    split
    · exact Or.inl rfl
    · split
      · exact Or.inr rfl
      · exact isO_nar n _ w
theorem c_X0_isOf {l : Launch} {G : Gt} {M : Mm} {k : Nat} {v : Int32} (hk : (kd k).1 = 0) : Runs l G true dm_X0_isOf 2 127 [.ref k, .int v] M 127 (Pi (fun x M1 => x = isO 6 (M k 0) v ∧ M1 = M)) := by
  refine mx_run ow_X0_isOf rfl rfl (fun dp X hdp R => ?_)
  have hA : ∀ (fu i : Nat) (c : Int32), 6 - i = fu → i ≤ 6 → (isO (6 - i) c v = isO 6 (M k 0) v) → X 127 M 7 [some (.ref k), some (.int v), some (.int c), some (.int (nI i))] [] := by
    intro fu
    induction fu with
    | zero =>
      intro i c hfu hi hI1
      have hiN : i = 6 := by omega
      refine R.b bk_X0_isOf_7 ?_
      refine R.o dd_X0_isOf_8 (Or.inl ⟨_, rfl, rfl, (by first | exact Or.inl (by decide +kernel) | exact Or.inr (by decide +kernel)), rfl⟩) (by omega) (Nat.le_refl _) ?_
      refine R.o dd_X0_isOf_11 (Or.inr (Or.inl ⟨_, rfl, rfl, rfl, rfl⟩)) (by omega) (Nat.le_refl _) ?_
      refine R.c br_X0_isOf_12 (And.intro (fun h12 => ?_) (fun h12 => absurd (by rw [hiN]; decide) h12))
      refine R.b bk_X0_isOf_41 ?_
      refine R.ri rt_X0_isOf_42 rfl ⟨_, rfl, ?_⟩
      exact ⟨by rw [hiN] at hI1; exact hI1, rfl⟩
    | succ fu ih =>
      intro i c hfu hi hI1
      have hlt : i < 6 := by omega
      refine R.b bk_X0_isOf_7 ?_
      refine R.o dd_X0_isOf_8 (Or.inl ⟨_, rfl, rfl, (by first | exact Or.inl (by decide +kernel) | exact Or.inr (by decide +kernel)), rfl⟩) (by omega) (Nat.le_refl _) ?_
      refine R.o dd_X0_isOf_11 (Or.inr (Or.inl ⟨_, rfl, rfl, rfl, rfl⟩)) (by omega) (Nat.le_refl _) ?_
      refine R.c br_X0_isOf_12 (And.intro (fun h12 => absurd h12 (nI_ge (b := 6) hlt (by decide))) (fun h12 => ?_))
      rw [show 6 - i = (6 - (i + 1)) + 1 by omega, isO] at hI1
      refine R.b bk_X0_isOf_15 ?_
      refine R.S1i kc_X0_isOf_16 (c_X7_isKind) (by omega) rfl ⟨Nat.le_refl _, Nat.le_refl _⟩ (fun x16 M16 q16 => ?_)
      obtain ⟨rfl, q16⟩ := q16
      replace q16 := q16.symm
      subst q16
      refine R.c br_X0_isOf_19 (And.intro (fun h19 => ?_) (fun h19 => ?_))
      · refine R.b bk_X0_isOf_41 ?_
        refine R.ri rt_X0_isOf_42 rfl ⟨_, rfl, ?_⟩
        exact ⟨by rw [if_pos h19] at hI1; exact hI1, rfl⟩
      · refine R.b bk_X0_isOf_22 ?_
        refine R.c br_X0_isOf_24 (And.intro (fun h24 => ?_) (fun h24 => ?_))
        · refine R.o dd_X0_isOf_29 (Or.inl ⟨_, rfl, rfl, (by first | exact Or.inl (by decide +kernel) | exact Or.inr (by decide +kernel)), rfl⟩) (by omega) (Nat.le_refl _) ?_
          refine R.b bk_X0_isOf_32 ?_
          obtain ⟨cn, hcn, rfl⟩ := f_in_nat (n := 5) rfl h19
          refine R.o dd_X0_isOf_33 (Or.inr (Or.inr (Or.inl ⟨_, _, rfl, rfl, vp_in_nI (show cn < 6 by omega) (by decide), rfl, rfl⟩))) (by omega) (Nat.le_refl _) ?_
          refine R.b bk_X0_isOf_34 ?_
          refine R.j gt_X0_isOf_38 ?_
          rw [nI_inc]
          refine ih (i + 1) _ (by omega) (by omega) ?_
          rw [if_neg h19, if_neg h24] at hI1
          exact hI1
        · refine R.b bk_X0_isOf_27 ?_
          refine R.ri rt_X0_isOf_28 rfl ⟨_, rfl, ?_⟩
          exact ⟨by rw [if_neg h19, if_pos h24] at hI1; exact hI1, rfl⟩
  refine R.b bk_X0_isOf_0 (And.intro (by first | rfl | assumption) ?_)
  exact hA 6 0 (M k 0) rfl (by decide) rfl
