/-! small things of both sides -/
def f_in (v a b : Int32) : Int32 := if a ≤ v ∧ v ≤ b then 1 else 0
theorem f_in_t {v a b : Int32} (h1 : a ≤ v) (h2 : v ≤ b) : f_in v a b = 1 := by rw [f_in, if_pos ⟨h1, h2⟩]
theorem f_in_l {v a b : Int32} (h : v < a) : f_in v a b = 0 := by rw [f_in, if_neg (fun q => absurd h (Int32.not_lt.mpr q.1))]
theorem f_in_g {v a b : Int32} (h : b < v) : f_in v a b = 0 := by rw [f_in, if_neg (fun q => absurd h (Int32.not_lt.mpr q.2))]
def f_held (v a b : Int32) : Int32 := if v < a then a else if b < v then b else v
theorem c_X7_within {l : Launch} {G : Gt} {M : Mm} {v a b : Int32} : Runs l G true dm_X7_within 0 127 [.int v, .int a, .int b] M 127 (Pi (fun x M1 => x = f_in v a b ∧ M1 = M)) := by
  refine mx_run ow_X7_within rfl rfl (fun dp X hdp R => ?_)
  refine R.b bk_X7_within_0 ?_
  refine R.c br_X7_within_2 (And.intro (fun h2 => ?_) (fun h2 => ?_))
  · refine R.b bk_X7_within_14 ?_
    refine R.ri rt_X7_within_15 rfl ⟨_, rfl, ?_⟩
    exact ⟨by first | exact (f_in_l h2).symm | exact (f_in_g h7).symm | exact (f_in_t (Int32.not_lt.mp h2) (Int32.not_lt.mp h7)).symm, rfl⟩
  · refine R.b bk_X7_within_5 ?_
    refine R.c br_X7_within_7 (And.intro (fun h7 => ?_) (fun h7 => ?_))
    · refine R.b bk_X7_within_14 ?_
      refine R.ri rt_X7_within_15 rfl ⟨_, rfl, ?_⟩
      exact ⟨by first | exact (f_in_l h2).symm | exact (f_in_g h7).symm | exact (f_in_t (Int32.not_lt.mp h2) (Int32.not_lt.mp h7)).symm, rfl⟩
    · refine R.b bk_X7_within_10 ?_
      refine R.j gt_X7_within_11 ?_
      refine R.ri rt_X7_within_15 rfl ⟨_, rfl, ?_⟩
      exact ⟨by first | exact (f_in_l h2).symm | exact (f_in_g h7).symm | exact (f_in_t (Int32.not_lt.mp h2) (Int32.not_lt.mp h7)).symm, rfl⟩
theorem c_X8_in {l : Launch} {G : Gt} {M : Mm} {v a b : Int32} : Runs l G true dm_X8_in 0 127 [.int v, .int a, .int b] M 127 (Pi (fun x M1 => x = f_in v a b ∧ M1 = M)) := by
  refine mx_run ow_X8_in rfl rfl (fun dp X hdp R => ?_)
  refine R.b bk_X8_in_0 ?_
  refine R.c br_X8_in_2 (And.intro (fun h2 => ?_) (fun h2 => ?_))
  · refine R.b bk_X8_in_14 ?_
    refine R.ri rt_X8_in_15 rfl ⟨_, rfl, ?_⟩
    exact ⟨by first | exact (f_in_l h2).symm | exact (f_in_g h7).symm | exact (f_in_t (Int32.not_lt.mp h2) (Int32.not_lt.mp h7)).symm, rfl⟩
  · refine R.b bk_X8_in_5 ?_
    refine R.c br_X8_in_7 (And.intro (fun h7 => ?_) (fun h7 => ?_))
    · refine R.b bk_X8_in_14 ?_
      refine R.ri rt_X8_in_15 rfl ⟨_, rfl, ?_⟩
      exact ⟨by first | exact (f_in_l h2).symm | exact (f_in_g h7).symm | exact (f_in_t (Int32.not_lt.mp h2) (Int32.not_lt.mp h7)).symm, rfl⟩
    · refine R.b bk_X8_in_10 ?_
      refine R.j gt_X8_in_11 ?_
      refine R.ri rt_X8_in_15 rfl ⟨_, rfl, ?_⟩
      exact ⟨by first | exact (f_in_l h2).symm | exact (f_in_g h7).symm | exact (f_in_t (Int32.not_lt.mp h2) (Int32.not_lt.mp h7)).symm, rfl⟩
theorem c_X8_within {l : Launch} {G : Gt} {M : Mm} {v a b : Int32} : Runs l G true dm_X8_within 0 127 [.int v, .int a, .int b] M 127 (Pi (fun x M1 => x = f_held v a b ∧ M1 = M)) := by
  refine mx_run ow_X8_within rfl rfl (fun dp X hdp R => ?_)
  refine R.b bk_X8_within_0 ?_
  refine R.c br_X8_within_2 (And.intro (fun h2 => ?_) (fun h2 => ?_))
  · refine R.b bk_X8_within_9 ?_
    refine R.c br_X8_within_11 (And.intro (fun h11 => ?_) (fun h11 => ?_))
    · refine R.b bk_X8_within_18 ?_
      refine R.ri rt_X8_within_19 rfl ⟨_, rfl, ?_⟩
      exact ⟨by rw [f_held]; split <;> (try split) <;> first | rfl | (exfalso; simp only [Int32.lt_iff_toInt_lt, Int32.le_iff_toInt_le] at *; omega), rfl⟩
    · refine R.b bk_X8_within_14 ?_
      refine R.j gt_X8_within_15 ?_
      refine R.ri rt_X8_within_19 rfl ⟨_, rfl, ?_⟩
      exact ⟨by rw [f_held]; split <;> (try split) <;> first | rfl | (exfalso; simp only [Int32.lt_iff_toInt_lt, Int32.le_iff_toInt_le] at *; omega), rfl⟩
  · refine R.b bk_X8_within_5 ?_
    refine R.j gt_X8_within_6 ?_
    refine R.ri rt_X8_within_19 rfl ⟨_, rfl, ?_⟩
    exact ⟨by rw [f_held]; split <;> (try split) <;> first | rfl | (exfalso; simp only [Int32.lt_iff_toInt_lt, Int32.le_iff_toInt_le] at *; omega), rfl⟩
theorem f_held_eq {v a b : Int32} (h : a ≤ b) : (if a < (if v < b then v else b) then (if v < b then v else b) else a) = f_held v a b := by
  unfold f_held
  simp only [Int32.lt_iff_toInt_lt, Int32.le_iff_toInt_le] at *
  by_cases h1 : v.toInt < b.toInt <;> by_cases h2 : v.toInt < a.toInt <;> by_cases h3 : b.toInt < v.toInt <;> by_cases h4 : a.toInt < v.toInt <;> by_cases h5 : a.toInt < b.toInt <;> simp [*] <;> first | omega | (apply Int32.toInt_inj.mp; omega)
theorem c_X7_held {l : Launch} {G : Gt} {M : Mm} {v a b : Int32} (hab : a ≤ b) : Runs l G true dm_X7_held 1 127 [.int v, .int a, .int b] M 127 (Pi (fun x M1 => x = f_held v a b ∧ M1 = M)) := by
  refine mx_run ow_X7_held rfl rfl (fun dp X hdp R => ?_)
  refine R.b bk_X7_held_0 ?_
  refine R.min kc_X7_held_3 (by omega) rfl (Nat.le_refl _) ?_
  refine R.max kc_X7_held_6 (by omega) rfl (Nat.le_refl _) ?_
  refine R.ri rt_X7_held_9 rfl ⟨_, rfl, ?_⟩
  exact ⟨f_held_eq hab, rfl⟩
theorem c_X7_only {l : Launch} {G : Gt} {M : Mm} {v : Int32} : Runs l G true dm_X7_only 0 127 [.int v] M 127 (Pi (fun x M1 => x = 1 <<< (v &&& 31) ∧ M1 = M)) := by
  refine mx_run ow_X7_only rfl rfl (fun dp X hdp R => ?_)
  refine R.b bk_X7_only_0 ?_
  refine R.ri rt_X7_only_3 rfl ⟨_, rfl, ?_⟩
  exact ⟨rfl, rfl⟩
