/-! sheets -/
theorem el15 {s : Nat} (h : s < 4) : mx_el 15 8 (nI s).toNatClampNeg = 42 + 2 * s := by
  rw [nI_clamp (by omega)]
  rfl
theorem el16 {s : Nat} (h : s < 5) : mx_el 16 9 (nI s).toNatClampNeg = 50 + 4 * s := by
  rw [nI_clamp (by omega)]
  rfl
theorem kd_sh {s : Nat} (h : s < 4) : (kd (42 + 2 * s)).1 = 4 ∧ (kd (42 + 2 * s + 1)).1 = 11 ∧ (kd (42 + 2 * s + 1)).2 = 24 := by
  have h2 : ∀ s, s < 4 → (kd (42 + 2 * s)).1 = 4 ∧ (kd (42 + 2 * s + 1)).1 = 11 ∧ (kd (42 + 2 * s + 1)).2 = 24 := by decide +kernel
  exact h2 s h
theorem kd_sl {s : Nat} (h : s < 5) : (kd (50 + 4 * s)).1 = 5 ∧ (kd (50 + 4 * s + 1)).1 = 0 ∧ (kd (50 + 4 * s + 2)).1 = 4 ∧ (kd (50 + 4 * s + 2 + 1)).1 = 11 ∧ (kd (50 + 4 * s + 2 + 1)).2 = 24 := by
  have h2 : ∀ s, s < 5 → (kd (50 + 4 * s)).1 = 5 ∧ (kd (50 + 4 * s + 1)).1 = 0 ∧ (kd (50 + 4 * s + 2)).1 = 4 ∧ (kd (50 + 4 * s + 2 + 1)).1 = 11 ∧ (kd (50 + 4 * s + 2 + 1)).2 = 24 := by decide +kernel
  exact h2 s h
/-- the sheets as the class has them -/
def RS (M : Mm) (so sz ce : Rw) : Prop := ∀ s, s < 4 → M (42 + 2 * s) 0 = so s ∧ M (42 + 2 * s) 1 = sz s ∧ ∀ k, k < 24 → M (42 + 2 * s + 1) k = ce (24 * s + k)
/-- what holds of them -/
def VS (so sz ce : Rw) : Prop := ∀ s, s < 4 → (so s = -1 ∨ so s = 0 ∨ so s = 1) ∧ (∃ n, n ≤ 24 ∧ sz s = nI n) ∧ ∀ k, k < 24 → ce (24 * s + k) = (-1000000005) ∨ (-99999 ≤ ce (24 * s + k) ∧ ce (24 * s + k) ≤ 99999)
theorem c_X7_isSheet {l : Launch} {G : Gt} {M : Mm} {v : Int32} : Runs l G true dm_X7_isSheet 0 127 [.ref 0, .int v] M 127 (Pi (fun r M1 => r = f_in v 0 3 ∧ M1 = M)) := by
  refine mx_run ow_X7_isSheet rfl rfl (fun dp X hdp R => ?_)
  refine R.b bk_X7_isSheet_0 ?_
  refine R.c br_X7_isSheet_1 (And.intro (fun h1 => ?_) (fun h1 => ?_))
  · refine R.b bk_X7_isSheet_17 ?_
    refine R.ri rt_X7_isSheet_18 rfl ⟨_, rfl, ?_⟩
    refine ⟨?_, rfl⟩
    first
    | exact (f_in_l h1).symm
    | (have q1 : nI 4 ≤ v := h10
       exact (f_in_g (b := 3) (lt_of_dec (m := 4) (by decide) q1)).symm)
    | (have q1 : ¬ nI 4 ≤ v := h10
       exact (f_in_t (b := 3) (Int32.not_lt.mp h1) (le_of_dec (m := 4) (by decide) (Int32.not_lt.mp h1) q1)).symm)
  · refine R.b bk_X7_isSheet_4 (And.intro (by first | rfl | assumption) (And.intro ⟨15, by decide, by decide, rfl⟩ ?_))
    refine R.c br_X7_isSheet_10 (And.intro (fun h10 => ?_) (fun h10 => ?_))
    · refine R.b bk_X7_isSheet_17 ?_
      refine R.ri rt_X7_isSheet_18 rfl ⟨_, rfl, ?_⟩
      refine ⟨?_, rfl⟩
      first
      | exact (f_in_l h1).symm
      | (have q1 : nI 4 ≤ v := h10
         exact (f_in_g (b := 3) (lt_of_dec (m := 4) (by decide) q1)).symm)
      | (have q1 : ¬ nI 4 ≤ v := h10
         exact (f_in_t (b := 3) (Int32.not_lt.mp h1) (le_of_dec (m := 4) (by decide) (Int32.not_lt.mp h1) q1)).symm)
    · refine R.b bk_X7_isSheet_13 ?_
      refine R.j gt_X7_isSheet_14 ?_
      refine R.ri rt_X7_isSheet_18 rfl ⟨_, rfl, ?_⟩
      refine ⟨?_, rfl⟩
      first
      | exact (f_in_l h1).symm
      | (have q1 : nI 4 ≤ v := h10
         exact (f_in_g (b := 3) (lt_of_dec (m := 4) (by decide) q1)).symm)
      | (have q1 : ¬ nI 4 ≤ v := h10
         exact (f_in_t (b := 3) (Int32.not_lt.mp h1) (le_of_dec (m := 4) (by decide) (Int32.not_lt.mp h1) q1)).symm)
theorem c_X7_isSlot {l : Launch} {G : Gt} {M : Mm} {v : Int32} : Runs l G true dm_X7_isSlot 0 127 [.ref 0, .int v] M 127 (Pi (fun r M1 => r = f_in v 0 4 ∧ M1 = M)) := by
  refine mx_run ow_X7_isSlot rfl rfl (fun dp X hdp R => ?_)
  refine R.b bk_X7_isSlot_0 ?_
  refine R.c br_X7_isSlot_1 (And.intro (fun h1 => ?_) (fun h1 => ?_))
  · refine R.b bk_X7_isSlot_17 ?_
    refine R.ri rt_X7_isSlot_18 rfl ⟨_, rfl, ?_⟩
    refine ⟨?_, rfl⟩
    first
    | exact (f_in_l h1).symm
    | (have q1 : nI 5 ≤ v := h10
       exact (f_in_g (b := 4) (lt_of_dec (m := 5) (by decide) q1)).symm)
    | (have q1 : ¬ nI 5 ≤ v := h10
       exact (f_in_t (b := 4) (Int32.not_lt.mp h1) (le_of_dec (m := 5) (by decide) (Int32.not_lt.mp h1) q1)).symm)
  · refine R.b bk_X7_isSlot_4 (And.intro (by first | rfl | assumption) (And.intro ⟨16, by decide, by decide, rfl⟩ ?_))
    refine R.c br_X7_isSlot_10 (And.intro (fun h10 => ?_) (fun h10 => ?_))
    · refine R.b bk_X7_isSlot_17 ?_
      refine R.ri rt_X7_isSlot_18 rfl ⟨_, rfl, ?_⟩
      refine ⟨?_, rfl⟩
      first
      | exact (f_in_l h1).symm
      | (have q1 : nI 5 ≤ v := h10
         exact (f_in_g (b := 4) (lt_of_dec (m := 5) (by decide) q1)).symm)
      | (have q1 : ¬ nI 5 ≤ v := h10
         exact (f_in_t (b := 4) (Int32.not_lt.mp h1) (le_of_dec (m := 5) (by decide) (Int32.not_lt.mp h1) q1)).symm)
    · refine R.b bk_X7_isSlot_13 ?_
      refine R.j gt_X7_isSlot_14 ?_
      refine R.ri rt_X7_isSlot_18 rfl ⟨_, rfl, ?_⟩
      refine ⟨?_, rfl⟩
      first
      | exact (f_in_l h1).symm
      | (have q1 : nI 5 ≤ v := h10
         exact (f_in_g (b := 4) (lt_of_dec (m := 5) (by decide) q1)).symm)
      | (have q1 : ¬ nI 5 ≤ v := h10
         exact (f_in_t (b := 4) (Int32.not_lt.mp h1) (le_of_dec (m := 5) (by decide) (Int32.not_lt.mp h1) q1)).symm)
theorem c_X4_has {l : Launch} {G : Gt} {M : Mm} {v : Int32} {q : Nat} (kq : (kd q).1 = 4) {n : Nat} (hn : n ≤ 24) (h1n : M q 1 = nI n) : Runs l G true dm_X4_has 0 127 [.ref q, .int v] M 127 (Pi (fun r M1 => r = f_in v 0 (nI n - 1) ∧ M1 = M)) := by
  refine mx_run ow_X4_has rfl rfl (fun dp X hdp R => ?_)
  refine R.b bk_X4_has_0 ?_
  refine R.c br_X4_has_1 (And.intro (fun h1 => ?_) (fun h1 => ?_))
  · refine R.b bk_X4_has_16 ?_
    refine R.ri rt_X4_has_17 rfl ⟨_, rfl, ?_⟩
    refine ⟨?_, rfl⟩
    first
    | exact (f_in_l h1).symm
    | (have q1 : M q 1 ≤ v := h9
       rw [h1n] at q1
       exact (f_in_g (lt_of_dec (by omega) q1)).symm)
    | (have q1 : ¬ M q 1 ≤ v := h9
       rw [h1n] at q1
       exact (f_in_t (Int32.not_lt.mp h1) (le_of_dec (by omega) (Int32.not_lt.mp h1) q1)).symm)
  · refine R.b bk_X4_has_4 (And.intro (by first | rfl | assumption) ?_)
    refine R.c br_X4_has_9 (And.intro (fun h9 => ?_) (fun h9 => ?_))
    · refine R.b bk_X4_has_16 ?_
      refine R.ri rt_X4_has_17 rfl ⟨_, rfl, ?_⟩
      refine ⟨?_, rfl⟩
      first
      | exact (f_in_l h1).symm
      | (have q1 : M q 1 ≤ v := h9
         rw [h1n] at q1
         exact (f_in_g (lt_of_dec (by omega) q1)).symm)
      | (have q1 : ¬ M q 1 ≤ v := h9
         rw [h1n] at q1
         exact (f_in_t (Int32.not_lt.mp h1) (le_of_dec (by omega) (Int32.not_lt.mp h1) q1)).symm)
    · refine R.b bk_X4_has_12 ?_
      refine R.j gt_X4_has_13 ?_
      refine R.ri rt_X4_has_17 rfl ⟨_, rfl, ?_⟩
      refine ⟨?_, rfl⟩
      first
      | exact (f_in_l h1).symm
      | (have q1 : M q 1 ≤ v := h9
         rw [h1n] at q1
         exact (f_in_g (lt_of_dec (by omega) q1)).symm)
      | (have q1 : ¬ M q 1 ≤ v := h9
         rw [h1n] at q1
         exact (f_in_t (Int32.not_lt.mp h1) (le_of_dec (by omega) (Int32.not_lt.mp h1) q1)).symm)
theorem c_X4_isMissing {l : Launch} {G : Gt} {M : Mm} {q : Nat} (kq : (kd q).1 = 4) : Runs l G true dm_X4_isMissing 0 127 [.ref q] M 127 (Pi (fun r M1 => r = f_eq (M q 0) (-1) ∧ M1 = M)) := by
  refine mx_run ow_X4_isMissing rfl rfl (fun dp X hdp R => ?_)
  refine R.b bk_X4_isMissing_0 (And.intro (by first | rfl | assumption) ?_)
  refine R.c br_X4_isMissing_5 (And.intro (fun h5 => ?_) (fun h5 => ?_))
  · refine R.b bk_X4_isMissing_12 ?_
    refine R.ri rt_X4_isMissing_13 rfl ⟨_, rfl, ?_⟩
    exact ⟨by unfold f_eq; simp_all, rfl⟩
  · refine R.b bk_X4_isMissing_8 ?_
    refine R.j gt_X4_isMissing_9 ?_
    refine R.ri rt_X4_isMissing_13 rfl ⟨_, rfl, ?_⟩
    exact ⟨by unfold f_eq; simp_all, rfl⟩
def f_num (c : Rw) (n : Nat) (v : Int32) : Int32 := if f_in v 0 (nI n - 1) = 0 then 0 else if c (cN v) = (-1000000005) then 0 else 1
theorem f_num_out {c : Rw} {n k : Nat} (h : n ≤ k) (hk : k ≤ 1000) : f_num c n (nI k) = 0 := by
  unfold f_num
  rw [if_pos (f_in_g (lt_of_dec (by omega) (nI_le h (by omega))))]
theorem f_num_in {c : Rw} {n k : Nat} (h : k < n) (hn : n ≤ 1000) : f_num c n (nI k) = if c k = (-1000000005) then 0 else 1 := by
  unfold f_num
  rw [if_neg (f_in_d h hn), cN_nI (by omega)]
theorem c_X4_isNumberAt {l : Launch} {G : Gt} {M : Mm} {v : Int32} {q : Nat} (kq : (kd q).1 = 4) (k1 : (kd (q + 1)).1 = 11) (z1 : (kd (q + 1)).2 = 24) {n : Nat} (hn : n ≤ 24) (h1n : M q 1 = nI n) : Runs l G true dm_X4_isNumberAt 1 127 [.ref q, .int v] M 127 (Pi (fun r M1 => r = f_num (M (q + 1)) n v ∧ M1 = M)) := by
  refine mx_run ow_X4_isNumberAt rfl rfl (fun dp X hdp R => ?_)
  refine R.b bk_X4_isNumberAt_0 ?_
  refine R.V1i kc_X4_isNumberAt_2 (by first | rfl | assumption) (c_X4_has kq hn h1n) (by omega) rfl ⟨Nat.le_refl _, Nat.le_refl _⟩ (fun x2 M2 q2 => ?_)
  obtain ⟨rfl, q2⟩ := q2
  replace q2 := q2.symm
  subst q2
  refine R.c br_X4_isNumberAt_5 (And.intro (fun h5 => ?_) (fun h5 => ?_))
  · refine R.b bk_X4_isNumberAt_23 ?_
    refine R.ri rt_X4_isNumberAt_24 rfl ⟨_, rfl, ?_⟩
    refine ⟨?_, rfl⟩
    unfold f_num
    first
    | (rw [if_pos h5]; done)
    | (have q1 := h16; rw [if_neg h5, if_pos (show M (q + 1) (cN (nI vn)) = _ from q1)]; done)
    | (have q1 := h16; rw [if_neg h5, if_neg (show ¬ M (q + 1) (cN (nI vn)) = _ from q1)]; done)
  · obtain ⟨vn, hvn, rfl⟩ := f_in_dist (by omega) rfl h5
    refine R.b bk_X4_isNumberAt_8 (And.intro (by first | rfl | assumption) (And.intro (by first | rfl | assumption) (And.intro (by rw [z1]; exact vp_in_nI (show vn < 24 by omega) (by decide)) ?_)))
    refine R.c br_X4_isNumberAt_16 (And.intro (fun h16 => ?_) (fun h16 => ?_))
    · refine R.b bk_X4_isNumberAt_23 ?_
      refine R.ri rt_X4_isNumberAt_24 rfl ⟨_, rfl, ?_⟩
      refine ⟨?_, rfl⟩
      unfold f_num
      first
      | (rw [if_pos h5]; done)
      | (have q1 := h16; rw [if_neg h5, if_pos (show M (q + 1) (cN (nI vn)) = _ from q1)]; done)
      | (have q1 := h16; rw [if_neg h5, if_neg (show ¬ M (q + 1) (cN (nI vn)) = _ from q1)]; done)
    · refine R.b bk_X4_isNumberAt_19 ?_
      refine R.j gt_X4_isNumberAt_20 ?_
      refine R.ri rt_X4_isNumberAt_24 rfl ⟨_, rfl, ?_⟩
      refine ⟨?_, rfl⟩
      unfold f_num
      first
      | (rw [if_pos h5]; done)
      | (have q1 := h16; rw [if_neg h5, if_pos (show M (q + 1) (cN (nI vn)) = _ from q1)]; done)
      | (have q1 := h16; rw [if_neg h5, if_neg (show ¬ M (q + 1) (cN (nI vn)) = _ from q1)]; done)
theorem c_X4_hasNumberBehind {l : Launch} {G : Gt} {M : Mm} {k : Nat} (hk : k ≤ 24) {q : Nat} (kq : (kd q).1 = 4) (k1 : (kd (q + 1)).1 = 11) (z1 : (kd (q + 1)).2 = 24) {n : Nat} (hn : n ≤ 24) (h1n : M q 1 = nI n) : Runs l G true dm_X4_hasNumberBehind 2 127 [.ref q, .int (nI k)] M 127 (Pi (fun r M1 => ((r = 1 ∧ ∃ j, k < j ∧ j < min 6 n ∧ ¬ M (q + 1) j = (-1000000005)) ∨ (r = 0 ∧ ∀ j, k < j → j < min 6 n → M (q + 1) j = (-1000000005))) ∧ M1 = M)) := by
  refine mx_run ow_X4_hasNumberBehind rfl rfl (fun dp X hdp R => ?_)
  have hA : ∀ (fu i : Nat), min 6 n - i = fu → k < i → i ≤ 30 → (∀ j, k < j → j < i → j < min 6 n → M (q + 1) j = (-1000000005)) → X 127 M 4 [some (.ref q), some (.int (nI k)), some (.int (nI i))] [] := by
    intro fu
    induction fu with
    | zero =>
      intro i hfu hki hi30 hI
      refine R.b bk_X4_hasNumberBehind_4 ?_
      refine R.c br_X4_hasNumberBehind_7 (And.intro (fun h7 => ?_) (fun h7 => ?_))
      · refine R.b bk_X4_hasNumberBehind_34 ?_
        refine R.ri rt_X4_hasNumberBehind_35 rfl ⟨_, rfl, ?_⟩
        exact ⟨Or.inr ⟨rfl, fun j h1 h2 => hI j h1 (by omega) h2⟩, rfl⟩
      · refine R.b bk_X4_hasNumberBehind_10 (And.intro (by first | rfl | assumption) ?_)
        refine R.c br_X4_hasNumberBehind_15 (And.intro (fun h15 => ?_) (fun h15 => absurd (by rw [show M q (257 % 64) = nI n from h1n]; exact nI_le (show n ≤ i by have := nI_lt8 (n := 6) (by omega) (by decide) h7; omega) (by omega)) h15))
        refine R.b bk_X4_hasNumberBehind_34 ?_
        refine R.ri rt_X4_hasNumberBehind_35 rfl ⟨_, rfl, ?_⟩
        exact ⟨Or.inr ⟨rfl, fun j h1 h2 => hI j h1 (by omega) h2⟩, rfl⟩
    | succ fu ih =>
      intro i hfu hki hi30 hI
      have hlt : i < min 6 n := by omega
      refine R.b bk_X4_hasNumberBehind_4 ?_
      refine R.c br_X4_hasNumberBehind_7 (And.intro (fun h7 => absurd h7 (nI_ge (b := 6) (by omega) (by decide))) (fun h7 => ?_))
      refine R.b bk_X4_hasNumberBehind_10 (And.intro (by first | rfl | assumption) ?_)
      refine R.c br_X4_hasNumberBehind_15 (And.intro (fun h15 => absurd h15 (by rw [show M q (257 % 64) = nI n from h1n]; exact nI_ge (by omega) (by omega))) (fun h15 => ?_))
      refine R.b bk_X4_hasNumberBehind_18 ?_
      refine R.V1i kc_X4_hasNumberBehind_20 (by first | rfl | assumption) (c_X4_isNumberAt kq k1 z1 hn h1n) (by omega) rfl ⟨Nat.le_refl _, Nat.le_refl _⟩ (fun x20 M20 q20 => ?_)
      obtain ⟨e20, q20⟩ := q20
      replace q20 := q20.symm
      subst q20
      rw [f_num_in (by omega) (by omega)] at e20
      refine R.c br_X4_hasNumberBehind_23 (And.intro (fun h23 => ?_) (fun h23 => ?_))
      · refine R.b bk_X4_hasNumberBehind_28 ?_
        refine R.j gt_X4_hasNumberBehind_31 ?_
        rw [nI_inc]
        have hno : M (q + 1) i = (-1000000005) := by
          apply Classical.byContradiction
          intro hn
          rw [if_neg hn] at e20
          rw [e20] at h23
          exact absurd h23 (by decide)
        refine ih (i + 1) (by omega) (by omega) (by omega) (fun j h1 h2 h3 => ?_)
        by_cases hji : j = i
        · rw [hji]; exact hno
        · exact hI j h1 (by omega) h3
      · refine R.b bk_X4_hasNumberBehind_26 ?_
        refine R.ri rt_X4_hasNumberBehind_27 rfl ⟨_, rfl, ?_⟩
        refine ⟨Or.inl ⟨rfl, i, hki, hlt, fun hn => ?_⟩, rfl⟩
        rw [if_pos hn] at e20
        exact h23 e20
  refine R.b bk_X4_hasNumberBehind_0 ?_
  have hx := hA _ (k + 1) rfl (by omega) (by omega) (fun j h1 h2 => absurd h2 (by omega))
  rw [← nI_1] at hx
  exact hx
theorem run_le {n : Nat} {p m : Int32} (hn : n ≤ 24) (hp : ¬ p < 0) (hm : ¬ m < 0) : (p ≤ nI n ∧ m ≤ nI n - p) ↔ ¬ nI n - m < p := by
  have e1 := i_sub_nn (x := nI n) (y := m) (nI_pos (by omega)) hm
  have e2 := i_sub_nn (x := nI n) (y := p) (nI_pos (by omega)) hp
  rw [nI_toInt (by omega)] at e1 e2
  rw [Int32.le_iff_toInt_le, Int32.le_iff_toInt_le, Int32.lt_iff_toInt_lt, e1, e2, nI_toInt (by omega)]
  have h0 : (0 : Int32).toInt = 0 := by decide
  rw [Int32.lt_iff_toInt_lt, h0] at hp hm
  omega
theorem c_X4_hasRun {l : Launch} {G : Gt} {M : Mm} {p m : Int32} {q : Nat} (kq : (kd q).1 = 4) {n : Nat} (hn : n ≤ 24) (h1n : M q 1 = nI n) : Runs l G true dm_X4_hasRun 0 127 [.ref q, .int p, .int m] M 127 (Pi (fun r M1 => r = (if m < 0 ∨ p < 0 ∨ nI n - m < p then 0 else 1) ∧ M1 = M)) := by
  refine mx_run ow_X4_hasRun rfl rfl (fun dp X hdp R => ?_)
  refine R.b bk_X4_hasRun_0 ?_
  refine R.c br_X4_hasRun_1 (And.intro (fun h1 => ?_) (fun h1 => ?_))
  · refine R.b bk_X4_hasRun_30 ?_
    refine R.ri rt_X4_hasRun_31 rfl ⟨_, rfl, ?_⟩
    refine ⟨?_, rfl⟩
    first
    | (rw [if_pos (Or.inl h1)]; done)
    | (rw [if_pos (Or.inr (Or.inl h5))]; done)
    | (have q1 : nI n < p := by rw [← h1n]; exact h13
       rw [if_pos (Or.inr (Or.inr (Classical.byContradiction (fun hc => absurd ((run_le hn h5 h1).mpr hc).1 (Int32.not_le.mpr q1)))))]
       done)
    | (have q1 : nI n - p < m := by rw [← h1n]; exact h23
       rw [if_pos (Or.inr (Or.inr (Classical.byContradiction (fun hc => absurd ((run_le hn h5 h1).mpr hc).2 (Int32.not_le.mpr q1)))))]
       done)
    | (have q1 : ¬ nI n < p := by rw [← h1n]; exact h13
       have q2 : ¬ nI n - p < m := by rw [← h1n]; exact h23
       have q3 := (run_le hn h5 h1).mp ⟨Int32.not_lt.mp q1, Int32.not_lt.mp q2⟩
       rw [if_neg (fun q => q.elim h1 (fun q => q.elim h5 q3))]
       done)
  · refine R.b bk_X4_hasRun_4 ?_
    refine R.c br_X4_hasRun_5 (And.intro (fun h5 => ?_) (fun h5 => ?_))
    · refine R.b bk_X4_hasRun_30 ?_
      refine R.ri rt_X4_hasRun_31 rfl ⟨_, rfl, ?_⟩
      refine ⟨?_, rfl⟩
      first
      | (rw [if_pos (Or.inl h1)]; done)
      | (rw [if_pos (Or.inr (Or.inl h5))]; done)
      | (have q1 : nI n < p := by rw [← h1n]; exact h13
         rw [if_pos (Or.inr (Or.inr (Classical.byContradiction (fun hc => absurd ((run_le hn h5 h1).mpr hc).1 (Int32.not_le.mpr q1)))))]
         done)
      | (have q1 : nI n - p < m := by rw [← h1n]; exact h23
         rw [if_pos (Or.inr (Or.inr (Classical.byContradiction (fun hc => absurd ((run_le hn h5 h1).mpr hc).2 (Int32.not_le.mpr q1)))))]
         done)
      | (have q1 : ¬ nI n < p := by rw [← h1n]; exact h13
         have q2 : ¬ nI n - p < m := by rw [← h1n]; exact h23
         have q3 := (run_le hn h5 h1).mp ⟨Int32.not_lt.mp q1, Int32.not_lt.mp q2⟩
         rw [if_neg (fun q => q.elim h1 (fun q => q.elim h5 q3))]
         done)
    · refine R.b bk_X4_hasRun_8 (And.intro (by first | rfl | assumption) ?_)
      refine R.c br_X4_hasRun_13 (And.intro (fun h13 => ?_) (fun h13 => ?_))
      · refine R.b bk_X4_hasRun_30 ?_
        refine R.ri rt_X4_hasRun_31 rfl ⟨_, rfl, ?_⟩
        refine ⟨?_, rfl⟩
        first
        | (rw [if_pos (Or.inl h1)]; done)
        | (rw [if_pos (Or.inr (Or.inl h5))]; done)
        | (have q1 : nI n < p := by rw [← h1n]; exact h13
           rw [if_pos (Or.inr (Or.inr (Classical.byContradiction (fun hc => absurd ((run_le hn h5 h1).mpr hc).1 (Int32.not_le.mpr q1)))))]
           done)
        | (have q1 : nI n - p < m := by rw [← h1n]; exact h23
           rw [if_pos (Or.inr (Or.inr (Classical.byContradiction (fun hc => absurd ((run_le hn h5 h1).mpr hc).2 (Int32.not_le.mpr q1)))))]
           done)
        | (have q1 : ¬ nI n < p := by rw [← h1n]; exact h13
           have q2 : ¬ nI n - p < m := by rw [← h1n]; exact h23
           have q3 := (run_le hn h5 h1).mp ⟨Int32.not_lt.mp q1, Int32.not_lt.mp q2⟩
           rw [if_neg (fun q => q.elim h1 (fun q => q.elim h5 q3))]
           done)
      · refine R.b bk_X4_hasRun_16 (And.intro (by first | rfl | assumption) ?_)
        refine R.c br_X4_hasRun_23 (And.intro (fun h23 => ?_) (fun h23 => ?_))
        · refine R.b bk_X4_hasRun_30 ?_
          refine R.ri rt_X4_hasRun_31 rfl ⟨_, rfl, ?_⟩
          refine ⟨?_, rfl⟩
          first
          | (rw [if_pos (Or.inl h1)]; done)
          | (rw [if_pos (Or.inr (Or.inl h5))]; done)
          | (have q1 : nI n < p := by rw [← h1n]; exact h13
             rw [if_pos (Or.inr (Or.inr (Classical.byContradiction (fun hc => absurd ((run_le hn h5 h1).mpr hc).1 (Int32.not_le.mpr q1)))))]
             done)
          | (have q1 : nI n - p < m := by rw [← h1n]; exact h23
             rw [if_pos (Or.inr (Or.inr (Classical.byContradiction (fun hc => absurd ((run_le hn h5 h1).mpr hc).2 (Int32.not_le.mpr q1)))))]
             done)
          | (have q1 : ¬ nI n < p := by rw [← h1n]; exact h13
             have q2 : ¬ nI n - p < m := by rw [← h1n]; exact h23
             have q3 := (run_le hn h5 h1).mp ⟨Int32.not_lt.mp q1, Int32.not_lt.mp q2⟩
             rw [if_neg (fun q => q.elim h1 (fun q => q.elim h5 q3))]
             done)
        · refine R.b bk_X4_hasRun_26 ?_
          refine R.j gt_X4_hasRun_27 ?_
          refine R.ri rt_X4_hasRun_31 rfl ⟨_, rfl, ?_⟩
          refine ⟨?_, rfl⟩
          first
          | (rw [if_pos (Or.inl h1)]; done)
          | (rw [if_pos (Or.inr (Or.inl h5))]; done)
          | (have q1 : nI n < p := by rw [← h1n]; exact h13
             rw [if_pos (Or.inr (Or.inr (Classical.byContradiction (fun hc => absurd ((run_le hn h5 h1).mpr hc).1 (Int32.not_le.mpr q1)))))]
             done)
          | (have q1 : nI n - p < m := by rw [← h1n]; exact h23
             rw [if_pos (Or.inr (Or.inr (Classical.byContradiction (fun hc => absurd ((run_le hn h5 h1).mpr hc).2 (Int32.not_le.mpr q1)))))]
             done)
          | (have q1 : ¬ nI n < p := by rw [← h1n]; exact h13
             have q2 : ¬ nI n - p < m := by rw [← h1n]; exact h23
             have q3 := (run_le hn h5 h1).mp ⟨Int32.not_lt.mp q1, Int32.not_lt.mp q2⟩
             rw [if_neg (fun q => q.elim h1 (fun q => q.elim h5 q3))]
             done)
def z24 (r : Rw) (i : Nat) : Rw := fun j => if j < i then 0 else r j
theorem z24_up (r : Rw) (i : Nat) : up (z24 r i) i 0 = z24 r (i + 1) := by
  funext j
  simp only [up, z24]
  grind
theorem c_X4_become {l : Launch} {G : Gt} {M : Mm} {so sz : Int32} {q : Nat} (kq : (kd q).1 = 4) (k1 : (kd (q + 1)).1 = 11) (z1 : (kd (q + 1)).2 = 24) : Runs l G true dm_X4_become 0 127 [.ref q, .int so, .int sz] M 127 (Pv (fun M1 => M1 = mx_rw (mx_wr (mx_wr M q 0 so) q 1 sz) (q + 1) (z24 (M (q + 1)) 24))) := by
  refine mx_run ow_X4_become rfl rfl (fun dp X hdp R => ?_)
  have hA : ∀ (fu i : Nat) (M1 : Mm), 24 - i = fu → i ≤ 24 → (M1 = mx_rw (mx_wr (mx_wr M q 0 so) q 1 sz) (q + 1) (z24 (M (q + 1)) i)) → X 127 M1 12 [some (.ref q), some (.int so), some (.int sz), some (.int (nI i))] [] := by
    intro fu
    induction fu with
    | zero =>
      intro i M1 hfu hi hI1
      have hiN : i = 24 := by omega
      refine R.b bk_X4_become_12 (And.intro (by first | rfl | assumption) (And.intro ⟨11, by decide, by decide, k1⟩ ?_))
      refine R.c br_X4_become_18 (And.intro (fun h18 => ?_) (fun h18 => absurd (by rw [hiN, z1]; decide) h18))
      refine R.rv rt_X4_become_34 ⟨rfl, ?_⟩
      subst hiN
      exact hI1
    | succ fu ih =>
      intro i M1 hfu hi hI1
      have hlt : i < 24 := by omega
      refine R.b bk_X4_become_12 (And.intro (by first | rfl | assumption) (And.intro ⟨11, by decide, by decide, k1⟩ ?_))
      refine R.c br_X4_become_18 (And.intro (fun h18 => absurd h18 (by rw [z1]; exact nI_ge (b := 24) hlt (by decide))) (fun h18 => ?_))
      refine R.b bk_X4_become_21 (And.intro (by first | rfl | assumption) (And.intro (by first | rfl | assumption) (And.intro (by rw [z1]; exact vp_in_nI hlt (by decide)) ?_)))
      refine R.j gt_X4_become_31 ?_
      rw [nI_inc]
      refine ih (i + 1) _ (by omega) (by omega) ?_
      subst hI1
      rw [nI_clamp (by omega), mx_wr_up, mx_rw_rw, mx_rw_at, z24_up]
  refine R.b bk_X4_become_0 (And.intro (by first | rfl | assumption) (And.intro rfl (And.intro rfl (And.intro (by first | rfl | assumption) (And.intro rfl (And.intro rfl ?_))))))
  refine hA 24 0 _ rfl (by decide) ?_
  show (mx_wr (mx_wr M q 0 so) q 1 sz) = _
  have e : z24 (M (q + 1)) 0 = (mx_wr (mx_wr M q 0 so) q 1 sz) (q + 1) := by
    rw [mx_wr_ne (by omega), mx_wr_ne (by omega)]
    funext j
    simp [z24]
  rw [e, mx_rw_id]
theorem c_X4_becomeLike {l : Launch} {G : Gt} {M : Mm} {q q2 : Nat} (hq : (kd q).1 = 4) (hq2 : (kd q2).1 = 4) (k1 : (kd (q + 1)).1 = 11) (z1 : (kd (q + 1)).2 = 24) (k2 : (kd (q2 + 1)).1 = 11) (z2 : (kd (q2 + 1)).2 = 24) (hne : q + 2 ≤ q2 ∨ q2 + 2 ≤ q) : Runs l G true dm_X4_becomeLike 1 127 [.ref q, .ref q2] M 127 (Pv (fun M1 => M1 q = cut 2 (M q2) (M q) ∧ (∀ j, j < 24 → M1 (q + 1) j = M (q2 + 1) j) ∧ ∀ p, p ≠ q → p ≠ q + 1 → M1 p = M p)) := by
  refine mx_run ow_X4_becomeLike rfl rfl (fun dp X hdp R => ?_)
  refine R.b bk_X4_becomeLike_0 (And.intro (by first | rfl | assumption) (And.intro (by first | rfl | assumption) (And.intro rfl (And.intro rfl (And.intro (by first | rfl | assumption) (And.intro (by first | rfl | assumption) (And.intro rfl (And.intro rfl (And.intro (by first | rfl | assumption) (And.intro (by first | rfl | assumption) (And.intro (by first | rfl | assumption) (And.intro ⟨11, by decide, by decide, k1⟩ ?_))))))))))))
  refine R.copy kc_X4_becomeLike_31 (by omega) rfl (by exact k2) (by exact k1) (by rw [z1]; decide) (by rw [z1, z2]; decide) ?_
  refine R.rv rt_X4_becomeLike_34 ⟨rfl, ?_⟩
  have hq2q : q2 ≠ q := by omega
  refine ⟨?_, ?_, ?_⟩
  · rw [mx_cpy, if_neg (by omega)]
    simp only [mx_wr_up, mx_rw_rw, mx_rw_at, mx_rw_ne hq2q]
    funext j
    simp only [up, cut]
    grind
  · intro j hj
    rw [mx_cpy, if_pos rfl, z1, nI_clamp (by decide), show Int32.toNatClampNeg 0 = 0 from rfl, pk_cpy_in (Nat.zero_le j) (by omega)]
    simp only [mx_wr_up, mx_rw_rw, mx_rw_ne (show q2 + 1 ≠ q by omega)]
    congr 1
    simp
  · intro p h1 h2
    rw [mx_cpy, if_neg h2]
    simp only [mx_wr_up, mx_rw_rw, mx_rw_ne h1]
theorem RS_at {M M1 : Mm} {so sz ce so' sz' ce' : Rw} {s : Nat} (h : RS M so sz ce) (hs : s < 4) (h0 : M1 (42 + 2 * s) 0 = so' s) (h1 : M1 (42 + 2 * s) 1 = sz' s) (h2 : ∀ k, k < 24 → M1 (42 + 2 * s + 1) k = ce' (24 * s + k)) (hf : ∀ q, q ≠ 42 + 2 * s → q ≠ 42 + 2 * s + 1 → 42 ≤ q → q < 50 → M1 q = M q) (ho : ∀ t, t ≠ s → so' t = so t ∧ sz' t = sz t) (hc : ∀ t k, t ≠ s → k < 24 → ce' (24 * t + k) = ce (24 * t + k)) : RS M1 so' sz' ce' := by
  intro t ht
  by_cases hts : t = s
  · subst hts
    exact ⟨h0, h1, h2⟩
  · obtain ⟨g0, g1, g2⟩ := h t ht
    obtain ⟨o0, o1⟩ := ho t hts
    refine ⟨?_, ?_, fun k hk => ?_⟩
    · rw [hf _ (by omega) (by omega) (by omega) (by omega), o0]; exact g0
    · rw [hf _ (by omega) (by omega) (by omega) (by omega), o1]; exact g1
    · rw [hf _ (by omega) (by omega) (by omega) (by omega), hc t k hts hk]; exact g2 k hk
theorem RS_become {M : Mm} {so sz ce : Rw} {sn : Nat} {t n : Int32} (hS : RS M so sz ce) (hs : sn < 4) : RS (mx_rw (mx_wr (mx_wr M (42 + 2 * sn) 0 t) (42 + 2 * sn) 1 n) (42 + 2 * sn + 1) (z24 (M (42 + 2 * sn + 1)) 24)) (up so sn t) (up sz sn n) (f_zero ce sn 24) := by
  refine RS_at hS hs ?_ ?_ ?_ ?_ ?_ ?_
  · rw [mx_rw_ne (by omega), mx_wr_up, mx_rw_at, up_ne (by decide), mx_wr_up, mx_rw_at, up_at, up_at]
  · rw [mx_rw_ne (by omega), mx_wr_up, mx_rw_at, up_at, up_at]
  · intro k hk
    rw [mx_rw_at, z24, if_pos hk, f_zero, if_pos (by omega)]
  · intro q h1 h2 _ _
    rw [mx_rw_ne h2, mx_wr_ne h1, mx_wr_ne h1]
  · intro t ht
    exact ⟨up_ne ht, up_ne ht⟩
  · intro t k ht hk
    rw [f_zero, if_neg (by omega)]
theorem so_cases {t : Int32} (h : ¬ f_in t (-1) 1 = 0) : t = -1 ∨ (¬ t = -1 ∧ ¬ t < 0) := by
  obtain ⟨h1, h2⟩ := f_in_ne h
  by_cases hq : t = -1
  · exact Or.inl hq
  · refine Or.inr ⟨hq, ?_⟩
    intro hlt
    apply hq
    apply Int32.toInt_inj.mp
    rw [Int32.le_iff_toInt_le] at h1
    rw [Int32.lt_iff_toInt_lt] at hlt
    have e1 : (-1 : Int32).toInt = -1 := by decide
    have e0 : (0 : Int32).toInt = 0 := by decide
    omega
theorem c_X7_sheet {l : Launch} {G : Gt} {M : Mm} {s t n : Int32} {so sz ce : Rw} (hS : RS M so sz ce) : Runs l G true dm_X7_sheet 1 127 [.ref 0, .int s, .int t, .int n] M 127 (Pi (fun r M1 => (k_sheet s t n ≠ 0 → r = k_sheet s t n ∧ M1 = M) ∧ (k_sheet s t n = 0 → r = f_size t n ∧ RS M1 (up so (cN s) t) (up sz (cN s) (f_size t n)) (f_zero ce (cN s) 24) ∧ ∀ q, ¬ (42 ≤ q ∧ q < 50) → M1 q = M q))) := by
  refine mx_run ow_X7_sheet rfl rfl (fun dp X hdp R => ?_)
  refine R.b bk_X7_sheet_0 ?_
  refine R.V1i kc_X7_sheet_2 (by first | rfl | assumption | exact (kd_sh (by omega)).1 | exact (kd_sh (by omega)).2.1) (c_X7_isSheet) (by omega) rfl ⟨Nat.le_refl _, Nat.le_refl _⟩ (fun x2 M2 q2 => ?_)
  obtain ⟨rfl, q2⟩ := q2
  replace q2 := q2.symm
  subst q2
  refine R.c br_X7_sheet_5 (And.intro (fun h5 => ?_) (fun h5 => ?_))
  · refine R.b bk_X7_sheet_17 ?_
    refine R.ri rt_X7_sheet_19 rfl ⟨_, rfl, ?_⟩
    have e : k_sheet s t n = (-1000000001) := by rw [k_sheet, if_pos (by simp_all)]
    exact ⟨fun _ => ⟨e.symm, rfl⟩, fun h => absurd (e.symm.trans h) (by decide)⟩
  · refine R.b bk_X7_sheet_8 ?_
    refine R.S3i kc_X7_sheet_11 (c_X7_within) (by omega) rfl ⟨Nat.le_refl _, Nat.le_refl _⟩ (fun x11 M11 q11 => ?_)
    obtain ⟨rfl, q11⟩ := q11
    replace q11 := q11.symm
    subst q11
    refine R.c br_X7_sheet_14 (And.intro (fun h14 => ?_) (fun h14 => ?_))
    · obtain ⟨sn, hsn, rfl⟩ := f_in_nat (n := 3) (by decide) h5
      have hcsn : cN (nI sn) = sn := cN_nI (by omega)
      have htt : t = -1 ∨ (¬ t = -1 ∧ ¬ t < 0) := so_cases h14
      refine R.b bk_X7_sheet_20 ?_
      refine R.c br_X7_sheet_22 (And.intro (fun h22 => ?_) (fun h22 => ?_))
      · refine R.b bk_X7_sheet_38 ?_
        refine R.c br_X7_sheet_41 (And.intro (fun h41 => ?_) (fun h41 => ?_))
        · refine R.b bk_X7_sheet_47 ?_
          refine R.c br_X7_sheet_48 (And.intro (fun h48 => ?_) (fun h48 => ?_))
          · refine R.b bk_X7_sheet_54 (And.intro (by first | rfl | assumption | exact (kd_sh (by omega)).1 | exact (kd_sh (by omega)).2.1) (And.intro ⟨by decide, by decide, rfl⟩ (And.intro (by first | rfl | assumption | exact (kd_sh (by omega)).1 | exact (kd_sh (by omega)).2.1) (And.intro (by exact vp_in_nI (show sn < 4 by omega) (by decide)) ?_))))
            rw [el15 (show sn < 4 by omega)]
            refine R.V2v kc_X7_sheet_62 (by first | rfl | assumption | exact (kd_sh (by omega)).1 | exact (kd_sh (by omega)).2.1) (c_X4_become (q := 42 + 2 * sn) (kd_sh (by omega)).1 (kd_sh (by omega)).2.1 (kd_sh (by omega)).2.2) (by omega) rfl ⟨Nat.le_refl _, Nat.le_refl _⟩ (fun M62 q62 => ?_)
            replace q62 := q62.symm
            subst q62
            refine R.b bk_X7_sheet_65 ?_
            refine R.ri rt_X7_sheet_66 rfl ⟨_, rfl, ?_⟩
            have ht0 : ¬ t < 0 := (htt.resolve_left h22).2
            have e : k_sheet (nI sn) t n = 0 := by rw [k_sheet, if_neg (fun q => q.elim h5 (fun q => q.elim h14 (fun q => absurd q.2 (Int32.not_lt.mpr h41)))), if_neg (fun q => absurd q.2 (Int32.not_lt.mpr h48))]
            refine ⟨fun h => absurd e h, fun _ => ?_⟩
            have ef : f_size t n = n := by rw [f_size, if_neg ht0]
            refine ⟨ef.symm, ?_, fun q hq => by rw [mx_rw_ne (by omega), mx_wr_ne (by omega), mx_wr_ne (by omega)]⟩
            rw [hcsn, ef]
            exact RS_become hS (by omega)
          · refine R.b bk_X7_sheet_51 ?_
            refine R.ri rt_X7_sheet_53 rfl ⟨_, rfl, ?_⟩
            have ht0 : ¬ t < 0 := (htt.resolve_left h22).2
            have e : k_sheet (nI sn) t n = (-1000000014) := by rw [k_sheet, if_neg (fun q => q.elim h5 (fun q => q.elim h14 (fun q => absurd q.2 (Int32.not_lt.mpr h41)))), if_pos ⟨ht0, Int32.not_le.mp h48⟩]
            exact ⟨fun _ => ⟨e.symm, rfl⟩, fun h => absurd (e.symm.trans h) (by decide)⟩
        · refine R.b bk_X7_sheet_44 ?_
          refine R.ri rt_X7_sheet_46 rfl ⟨_, rfl, ?_⟩
          have ht0 : ¬ t < 0 := (htt.resolve_left h22).2
          have e : k_sheet (nI sn) t n = (-1000000001) := by rw [k_sheet, if_pos (Or.inr (Or.inr ⟨ht0, Int32.not_le.mp h41⟩))]
          exact ⟨fun _ => ⟨e.symm, rfl⟩, fun h => absurd (e.symm.trans h) (by decide)⟩
      · refine R.b bk_X7_sheet_25 (And.intro (by first | rfl | assumption | exact (kd_sh (by omega)).1 | exact (kd_sh (by omega)).2.1) (And.intro ⟨by decide, by decide, rfl⟩ (And.intro (by first | rfl | assumption | exact (kd_sh (by omega)).1 | exact (kd_sh (by omega)).2.1) (And.intro (by exact vp_in_nI (show sn < 4 by omega) (by decide)) ?_))))
        rw [el15 (show sn < 4 by omega)]
        refine R.V2v kc_X7_sheet_33 (by first | rfl | assumption | exact (kd_sh (by omega)).1 | exact (kd_sh (by omega)).2.1) (c_X4_become (q := 42 + 2 * sn) (kd_sh (by omega)).1 (kd_sh (by omega)).2.1 (kd_sh (by omega)).2.2) (by omega) rfl ⟨Nat.le_refl _, Nat.le_refl _⟩ (fun M33 q33 => ?_)
        replace q33 := q33.symm
        subst q33
        refine R.b bk_X7_sheet_36 ?_
        refine R.ri rt_X7_sheet_37 rfl ⟨_, rfl, ?_⟩
        have e : k_sheet (nI sn) t n = 0 := by rw [k_sheet, if_neg (by subst h22; simp_all), if_neg (by subst h22; exact fun q => q.1 (by decide))]
        refine ⟨fun h => absurd e h, fun _ => ?_⟩
        subst h22
        refine ⟨by rfl, ?_, fun q hq => by rw [mx_rw_ne (by omega), mx_wr_ne (by omega), mx_wr_ne (by omega)]⟩
        rw [hcsn]
        exact RS_become hS (by omega)
    · refine R.b bk_X7_sheet_17 ?_
      refine R.ri rt_X7_sheet_19 rfl ⟨_, rfl, ?_⟩
      have e : k_sheet s t n = (-1000000001) := by rw [k_sheet, if_pos (by simp_all)]
      exact ⟨fun _ => ⟨e.symm, rfl⟩, fun h => absurd (e.symm.trans h) (by decide)⟩
