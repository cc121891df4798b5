theorem clit : Int32.toNatClampNeg 0 = 0 ∧ Int32.toNatClampNeg 1 = 1 ∧ Int32.toNatClampNeg 2 = 2 ∧ Int32.toNatClampNeg 3 = 3 ∧ Int32.toNatClampNeg 4 = 4 ∧ Int32.toNatClampNeg 5 = 5 ∧ Int32.toNatClampNeg 6 = 6 := by decide
/-! what the calls answer, and what becomes of the row a (laid out as the model's now) -/
abbrev Rw : Type := Nat → Int32
def cN (x : Int32) : Nat := x.toNatClampNeg
theorem cN_nI {n : Nat} (h : n < 2 ^ 31) : cN (nI n) = n := nI_clamp h
def isD (a : Rw) (d : Int32) : Int32 := f_in d 0 (a 1 - 1)
def F_district (a : Rw) (k r : Int32) : Int32 := if f_in k 0 5 = 0 ∨ f_in r 0 9 = 0 then (-1000000001) else if a 1 = 6 then (-1000000003) else a 1
def A_district (a : Rw) (k r : Int32) : Rw := if f_in k 0 5 = 0 ∨ f_in r 0 9 = 0 ∨ a 1 = 6 then a else A_come a k r
def F_told (a : Rw) (d w : Int32) : Int32 := if isD a d = 0 ∨ f_in w 0 9 = 0 then (-1000000001) else if w < 8 then a (7 + 8 * cN d + cN w) else if w = 8 then f_worth (a (7 + 8 * cN d)) (a (7 + 8 * cN d + 1)) else f_eq (a (7 + 8 * cN d + 4)) (a 5)
def f_under (k one : Int32) : Int32 := if one = 0 ∨ k = one ∨ one = 1 ∧ k = 3 ∨ one = 2 ∧ k = 4 then 1 else 0
def F_as (a : Rw) (d k : Int32) : Int32 := if isD a d = 0 ∨ f_in k 0 5 = 0 then (-1000000001) else if f_under (a (7 + 8 * cN d)) k = 0 then (-1000000012) else a (7 + 8 * cN d + 1)
def F_turns (a : Rw) (d k : Int32) : Int32 := if isD a d = 0 ∨ f_in k 0 5 = 0 then (-1000000001) else a (7 + 8 * cN d)
def A_turns (a : Rw) (d k : Int32) : Rw := if isD a d = 0 ∨ f_in k 0 5 = 0 then a else up a (7 + 8 * cN d) k
def f_setlo (w : Int32) : Int32 := if w = 1 then 0 else if w = 2 then 2 else -99999
def f_sethi (w : Int32) : Int32 := if w = 1 then 9 else if w = 2 then 60 else 99999
def f_setix (w : Int32) : Nat := if w = 1 then 1 else if w = 2 then 3 else 7
def f_setbad (a : Rw) (d w v : Int32) : Prop := isD a d = 0 ∨ f_in w 1 3 = 0 ∨ f_in v (f_setlo w) (f_sethi w) = 0
def F_set (a : Rw) (d w v : Int32) : Int32 := if isD a d = 0 ∨ f_in w 1 3 = 0 ∨ f_in v (f_setlo w) (f_sethi w) = 0 then (-1000000001) else a (7 + 8 * cN d + f_setix w)
def A_set (a : Rw) (d w v : Int32) : Rw := if isD a d = 0 ∨ f_in w 1 3 = 0 ∨ f_in v (f_setlo w) (f_sethi w) = 0 then a else up (if w = 2 then up a (7 + 8 * cN d + 4) 0 else a) (7 + 8 * cN d + f_setix w) v
def A_hides (a : Rw) (d : Nat) : Rw := up (up a (7 + 8 * d + 5) (a (7 + 8 * d + 5) - 1)) (7 + 8 * d + 6) (a (7 + 8 * d + 6) + 1)
def F_hide (a : Rw) (d : Int32) : Int32 := if isD a d = 0 then (-1000000001) else if a (7 + 8 * cN d + 5) = 0 then (-1000000002) else a (7 + 8 * cN d + 6) + 1
def A_hide (a : Rw) (d : Int32) : Rw := if isD a d = 0 ∨ a (7 + 8 * cN d + 5) = 0 then a else A_hides a (cN d)
def f_rulehi (w : Int32) : Int32 := if w = 0 then 999 else if w = 1 then 99 else 59
def F_rule (a : Rw) (w v : Int32) : Int32 := if f_in w 0 2 = 0 ∨ f_in v 0 (f_rulehi w) = 0 then (-1000000001) else a (3 + cN w)
def A_rule (a : Rw) (w v : Int32) : Rw := if f_in w 0 2 = 0 ∨ f_in v 0 (f_rulehi w) = 0 then a else up a (3 + cN w) v
def f_dz (z : Int32) : Int32 := z * 1103515245 + 12345
def f_dr (z : Int32) : Int32 := (z.toUInt32 >>> ((8 : Int32).toUInt32 &&& Int32.toUInt32 31)).toInt32
def A_draw (a : Rw) : Rw := up a 0 (f_dz (a 0))
def f_rem (x y : Int32) : Int32 := x - x / y * y
theorem e_ix0 (d : Nat) : (7 : Int32) + 8 * nI d = nI (7 + 8 * d) := by rw [show (7 : Int32) = nI 7 from rfl, show (8 : Int32) = nI 8 from rfl, pk_mul, nI_add]
theorem f_under_nar (a b : Int32) : narrow .boolean (.int (f_under a b)) = .int (f_under a b) := by
  unfold f_under
  split <;> rfl
theorem nI_lt8 {w n : Nat} (hw : w < 2 ^ 31) (hn : n < 2 ^ 31) (h : ¬ nI n ≤ nI w) : w < n := Nat.lt_of_not_le (fun q => h (nI_le q hw))
theorem up_same (a : Rw) (i : Nat) : up a i (a i) = a := by
  funext j
  unfold up
  split
  · rename_i h; rw [h]
  · rfl
theorem c_X8_district {l : Launch} {G : Gt} {M : Mm} {k r : Int32} {m : Nat} (hm : m ≤ 6) (h1 : M 104 1 = nI m) : Runs l G true dm_X8_district 2 127 [.ref 103, .int k, .int r] M 127 (Pi (fun x M1 => x = F_district (M 104) k r ∧ M1 = mx_rw M 104 (A_district (M 104) k r))) := by
  refine mx_run ow_X8_district rfl rfl (fun dp X hdp R => ?_)
  refine R.b bk_X8_district_0 ?_
  refine R.S3i kc_X8_district_3 (c_X8_in) (by omega) rfl ⟨Nat.le_refl _, Nat.le_refl _⟩ (fun x3 M3 q3 => ?_)
  obtain ⟨rfl, q3⟩ := q3
  replace q3 := q3.symm
  subst q3
  refine R.c br_X8_district_6 (And.intro (fun h6 => ?_) (fun h6 => ?_))
  · refine R.b bk_X8_district_19 ?_
    refine R.ri rt_X8_district_21 rfl ⟨_, rfl, ?_⟩
    exact ⟨by simp [F_district, *], by simp [A_district, *, mx_rw_id]⟩
  · refine R.b bk_X8_district_9 ?_
    refine R.S3i kc_X8_district_13 (c_X8_in) (by omega) rfl ⟨Nat.le_refl _, Nat.le_refl _⟩ (fun x13 M13 q13 => ?_)
    obtain ⟨rfl, q13⟩ := q13
    replace q13 := q13.symm
    subst q13
    refine R.c br_X8_district_16 (And.intro (fun h16 => ?_) (fun h16 => ?_))
    · refine R.b bk_X8_district_22 (And.intro (by first | rfl | assumption) (And.intro (by first | rfl | assumption) (And.intro (by exact vp_lit rfl) ?_)))
      refine R.c br_X8_district_30 (And.intro (fun h30 => ?_) (fun h30 => ?_))
      · have hm5 : m < 6 := by
          have : ¬ nI m = 6 := by rw [← h1]; exact h30
          rcases Nat.lt_or_ge m 6 with q | q
          · exact q
          · have e : m = 6 := by omega
            subst e
            exact absurd rfl this
        refine R.b bk_X8_district_38 ?_
        refine R.V2i kc_X8_district_41 (by first | rfl | assumption) (c_X8_comes hm5 h1) (by omega) rfl ⟨Nat.le_refl _, Nat.le_refl _⟩ (fun x41 M41 q41 => ?_)
        obtain ⟨rfl, q41⟩ := q41
        replace q41 := q41.symm
        subst q41
        refine R.ri rt_X8_district_44 rfl ⟨_, rfl, ?_⟩
        exact ⟨by simp_all [F_district, clit], by simp_all [A_district, clit, mx_rw_id]⟩
      · refine R.b bk_X8_district_33 ?_
        refine R.j gt_X8_district_35 ?_
        refine R.ri rt_X8_district_44 rfl ⟨_, rfl, ?_⟩
        exact ⟨by simp_all [F_district, clit], by simp_all [A_district, clit, mx_rw_id]⟩
    · refine R.b bk_X8_district_19 ?_
      refine R.ri rt_X8_district_21 rfl ⟨_, rfl, ?_⟩
      exact ⟨by simp [F_district, *], by simp [A_district, *, mx_rw_id]⟩
theorem c_X8_told {l : Launch} {G : Gt} {M : Mm} {d w : Int32} {m : Nat} (hm : m ≤ 6) (h1 : M 104 1 = nI m) : Runs l G true dm_X8_told 2 127 [.ref 103, .int d, .int w] M 127 (Pi (fun x M1 => x = F_told (M 104) d w ∧ M1 = M)) := by
  refine mx_run ow_X8_told rfl rfl (fun dp X hdp R => ?_)
  refine R.b bk_X8_told_0 ?_
  refine R.V1i kc_X8_told_2 (by first | rfl | assumption) (c_X8_isDistrict) (by omega) rfl ⟨Nat.le_refl _, Nat.le_refl _⟩ (fun x2 M2 q2 => ?_)
  obtain ⟨rfl, q2⟩ := q2
  replace q2 := q2.symm
  subst q2
  refine R.c br_X8_told_5 (And.intro (fun h5 => ?_) (fun h5 => ?_))
  · refine R.b bk_X8_told_18 ?_
    refine R.ri rt_X8_told_20 rfl ⟨_, rfl, ?_⟩
    exact ⟨by simp_all [F_told, isD], rfl⟩
  · refine R.b bk_X8_told_8 ?_
    refine R.S3i kc_X8_told_12 (c_X8_in) (by omega) rfl ⟨Nat.le_refl _, Nat.le_refl _⟩ (fun x12 M12 q12 => ?_)
    obtain ⟨rfl, q12⟩ := q12
    replace q12 := q12.symm
    subst q12
    refine R.c br_X8_told_15 (And.intro (fun h15 => ?_) (fun h15 => ?_))
    · obtain ⟨dn, hdn, rfl⟩ := f_in_dist (by omega) h1 h5
      have hcd : cN (nI dn) = dn := cN_nI (by omega)
      obtain ⟨wn, hwn, rfl⟩ := f_in_nat (n := 9) rfl h15
      have hcw : cN (nI wn) = wn := cN_nI (by omega)
      refine R.b bk_X8_told_21 ?_
      refine R.c br_X8_told_24 (And.intro (fun h24 => ?_) (fun h24 => ?_))
      · have h24b : ¬ nI wn < 8 := Int32.not_lt.mpr h24
        refine R.b bk_X8_told_36 ?_
        refine R.c br_X8_told_39 (And.intro (fun h39 => ?_) (fun h39 => ?_))
        · refine R.b bk_X8_told_50 ?_
          refine R.V1i kc_X8_told_52 (by first | rfl | assumption) (c_X8_isFair (d := dn) (by omega)) (by omega) rfl ⟨Nat.le_refl _, Nat.le_refl _⟩ (fun x52 M52 q52 => ?_)
          obtain ⟨rfl, q52⟩ := q52
          replace q52 := q52.symm
          subst q52
          refine R.c br_X8_told_55 (And.intro (fun h55 => ?_) (fun h55 => ?_))
          · refine R.b bk_X8_told_62 ?_
            refine R.ri rt_X8_told_63 rfl ⟨_, rfl, ?_⟩
            exact ⟨by simp_all [F_told, isD, f_eq] <;> (intro hq; exact absurd hq (Int32.not_lt.mpr (by assumption))), rfl⟩
          · refine R.b bk_X8_told_58 ?_
            refine R.j gt_X8_told_59 ?_
            refine R.ri rt_X8_told_63 rfl ⟨_, rfl, ?_⟩
            exact ⟨by simp_all [F_told, isD, f_eq] <;> (intro hq; exact absurd hq (Int32.not_lt.mpr (by assumption))), rfl⟩
        · refine R.b bk_X8_told_42 ?_
          refine R.V1i kc_X8_told_44 (by first | rfl | assumption) (c_X8_worthOf (d := dn) (by omega)) (by omega) rfl ⟨Nat.le_refl _, Nat.le_refl _⟩ (fun x44 M44 q44 => ?_)
          obtain ⟨rfl, q44⟩ := q44
          replace q44 := q44.symm
          subst q44
          refine R.j gt_X8_told_47 ?_
          refine R.ri rt_X8_told_63 rfl ⟨_, rfl, ?_⟩
          exact ⟨by simp_all [F_told, isD, f_eq] <;> (intro hq; exact absurd hq (Int32.not_lt.mpr (by assumption))), rfl⟩
      · have hw8 : wn < 8 := nI_lt8 (by omega) (by decide) h24
        have h24c : nI wn < 8 := Int32.not_le.mp h24
        refine R.b bk_X8_told_27 ?_
        refine R.V2i kc_X8_told_30 (by first | rfl | assumption) (c_X8_of (d := dn) (w := wn) (by omega)) (by omega) rfl ⟨Nat.le_refl _, Nat.le_refl _⟩ (fun x30 M30 q30 => ?_)
        obtain ⟨rfl, q30⟩ := q30
        replace q30 := q30.symm
        subst q30
        refine R.j gt_X8_told_33 ?_
        refine R.ri rt_X8_told_63 rfl ⟨_, rfl, ?_⟩
        exact ⟨by simp_all [F_told, isD, f_eq] <;> (intro hq; exact absurd hq (Int32.not_lt.mpr (by assumption))), rfl⟩
    · refine R.b bk_X8_told_18 ?_
      refine R.ri rt_X8_told_20 rfl ⟨_, rfl, ?_⟩
      exact ⟨by simp_all [F_told, isD], rfl⟩
theorem c_X8_isUnder {l : Launch} {G : Gt} {M : Mm} {k one : Int32} : Runs l G true dm_X8_isUnder 0 127 [.int k, .int one] M 127 (Pi (fun x M1 => x = f_under k one ∧ M1 = M)) := by
  refine mx_run ow_X8_isUnder rfl rfl (fun dp X hdp R => ?_)
  refine R.b bk_X8_isUnder_0 ?_
  refine R.c br_X8_isUnder_1 (And.intro (fun h1 => ?_) (fun h1 => ?_))
  · refine R.b bk_X8_isUnder_29 ?_
    refine R.j gt_X8_isUnder_30 ?_
    refine R.ri rt_X8_isUnder_34 rfl ⟨_, rfl, ?_⟩
    exact ⟨by unfold f_under; grind, rfl⟩
  · refine R.b bk_X8_isUnder_4 ?_
    refine R.c br_X8_isUnder_6 (And.intro (fun h6 => ?_) (fun h6 => ?_))
    · refine R.b bk_X8_isUnder_29 ?_
      refine R.j gt_X8_isUnder_30 ?_
      refine R.ri rt_X8_isUnder_34 rfl ⟨_, rfl, ?_⟩
      exact ⟨by unfold f_under; grind, rfl⟩
    · refine R.b bk_X8_isUnder_9 ?_
      refine R.c br_X8_isUnder_11 (And.intro (fun h11 => ?_) (fun h11 => ?_))
      · refine R.b bk_X8_isUnder_19 ?_
        refine R.c br_X8_isUnder_21 (And.intro (fun h21 => ?_) (fun h21 => ?_))
        · refine R.b bk_X8_isUnder_33 ?_
          refine R.ri rt_X8_isUnder_34 rfl ⟨_, rfl, ?_⟩
          exact ⟨by unfold f_under; grind, rfl⟩
        · refine R.b bk_X8_isUnder_24 ?_
          refine R.c br_X8_isUnder_26 (And.intro (fun h26 => ?_) (fun h26 => ?_))
          · refine R.b bk_X8_isUnder_33 ?_
            refine R.ri rt_X8_isUnder_34 rfl ⟨_, rfl, ?_⟩
            exact ⟨by unfold f_under; grind, rfl⟩
          · refine R.b bk_X8_isUnder_29 ?_
            refine R.j gt_X8_isUnder_30 ?_
            refine R.ri rt_X8_isUnder_34 rfl ⟨_, rfl, ?_⟩
            exact ⟨by unfold f_under; grind, rfl⟩
      · refine R.b bk_X8_isUnder_14 ?_
        refine R.c br_X8_isUnder_16 (And.intro (fun h16 => ?_) (fun h16 => ?_))
        · refine R.b bk_X8_isUnder_29 ?_
          refine R.j gt_X8_isUnder_30 ?_
          refine R.ri rt_X8_isUnder_34 rfl ⟨_, rfl, ?_⟩
          exact ⟨by unfold f_under; grind, rfl⟩
        · refine R.b bk_X8_isUnder_19 ?_
          refine R.c br_X8_isUnder_21 (And.intro (fun h21 => ?_) (fun h21 => absurd (h11.symm.trans h21) (by decide)))
          refine R.b bk_X8_isUnder_33 ?_
          refine R.ri rt_X8_isUnder_34 rfl ⟨_, rfl, ?_⟩
          exact ⟨by unfold f_under; grind, rfl⟩
theorem c_X8_as {l : Launch} {G : Gt} {M : Mm} {d k : Int32} {m : Nat} (hm : m ≤ 6) (h1 : M 104 1 = nI m) : Runs l G true dm_X8_as 2 127 [.ref 103, .int d, .int k] M 127 (Pi (fun x M1 => x = F_as (M 104) d k ∧ M1 = M)) := by
  refine mx_run ow_X8_as rfl rfl (fun dp X hdp R => ?_)
  refine R.b bk_X8_as_0 ?_
  refine R.V1i kc_X8_as_2 (by first | rfl | assumption) (c_X8_isDistrict) (by omega) rfl ⟨Nat.le_refl _, Nat.le_refl _⟩ (fun x2 M2 q2 => ?_)
  obtain ⟨rfl, q2⟩ := q2
  replace q2 := q2.symm
  subst q2
  refine R.c br_X8_as_5 (And.intro (fun h5 => ?_) (fun h5 => ?_))
  · refine R.b bk_X8_as_17 ?_
    refine R.ri rt_X8_as_19 rfl ⟨_, rfl, ?_⟩
    exact ⟨by simp_all [F_as, isD], rfl⟩
  · refine R.b bk_X8_as_8 ?_
    refine R.S3i kc_X8_as_11 (c_X8_in) (by omega) rfl ⟨Nat.le_refl _, Nat.le_refl _⟩ (fun x11 M11 q11 => ?_)
    obtain ⟨rfl, q11⟩ := q11
    replace q11 := q11.symm
    subst q11
    refine R.c br_X8_as_14 (And.intro (fun h14 => ?_) (fun h14 => ?_))
    · obtain ⟨dn, hdn, rfl⟩ := f_in_dist (by omega) h1 h5
      have hcd : cN (nI dn) = dn := cN_nI (by omega)
      refine R.b bk_X8_as_20 ?_
      refine R.V2i kc_X8_as_23 (by first | rfl | assumption) (c_X8_of (d := dn) (w := 0) (by omega)) (by omega) rfl ⟨Nat.le_refl _, Nat.le_refl _⟩ (fun x23 M23 q23 => ?_)
      obtain ⟨rfl, q23⟩ := q23
      replace q23 := q23.symm
      subst q23
      refine R.b bk_X8_as_26 ?_
      refine R.S2i kc_X8_as_27 (c_X8_isUnder) (by omega) rfl ⟨Nat.le_refl _, Nat.le_refl _⟩ (fun x27 M27 q27 => ?_)
      obtain ⟨rfl, q27⟩ := q27
      replace q27 := q27.symm
      subst q27
      refine R.c br_X8_as_30 (And.intro (fun h30 => ?_) (fun h30 => ?_))
      · refine R.b bk_X8_as_42 ?_
        refine R.ri rt_X8_as_44 rfl ⟨_, rfl, ?_⟩
        exact ⟨by simp_all [F_as, isD], rfl⟩
      · refine R.b bk_X8_as_33 ?_
        refine R.V2i kc_X8_as_36 (by first | rfl | assumption) (c_X8_of (d := dn) (w := 1) (by omega)) (by omega) rfl ⟨Nat.le_refl _, Nat.le_refl _⟩ (fun x36 M36 q36 => ?_)
        obtain ⟨rfl, q36⟩ := q36
        replace q36 := q36.symm
        subst q36
        refine R.j gt_X8_as_39 ?_
        refine R.ri rt_X8_as_44 rfl ⟨_, rfl, ?_⟩
        exact ⟨by simp_all [F_as, isD], rfl⟩
    · refine R.b bk_X8_as_17 ?_
      refine R.ri rt_X8_as_19 rfl ⟨_, rfl, ?_⟩
      exact ⟨by simp_all [F_as, isD], rfl⟩
theorem c_X8_turns {l : Launch} {G : Gt} {M : Mm} {d k : Int32} {m : Nat} (hm : m ≤ 6) (h1 : M 104 1 = nI m) : Runs l G true dm_X8_turns 2 127 [.ref 103, .int d, .int k] M 127 (Pi (fun x M1 => x = F_turns (M 104) d k ∧ M1 = mx_rw M 104 (A_turns (M 104) d k))) := by
  refine mx_run ow_X8_turns rfl rfl (fun dp X hdp R => ?_)
  refine R.b bk_X8_turns_0 ?_
  refine R.V1i kc_X8_turns_2 (by first | rfl | assumption) (c_X8_isDistrict) (by omega) rfl ⟨Nat.le_refl _, Nat.le_refl _⟩ (fun x2 M2 q2 => ?_)
  obtain ⟨rfl, q2⟩ := q2
  replace q2 := q2.symm
  subst q2
  refine R.c br_X8_turns_5 (And.intro (fun h5 => ?_) (fun h5 => ?_))
  · refine R.b bk_X8_turns_32 ?_
    refine R.ri rt_X8_turns_34 rfl ⟨_, rfl, ?_⟩
    exact ⟨by simp_all [F_turns, isD], by simp_all [A_turns, isD, mx_rw_id, mx_wr_up]⟩
  · refine R.b bk_X8_turns_8 ?_
    refine R.S3i kc_X8_turns_11 (c_X8_in) (by omega) rfl ⟨Nat.le_refl _, Nat.le_refl _⟩ (fun x11 M11 q11 => ?_)
    obtain ⟨rfl, q11⟩ := q11
    replace q11 := q11.symm
    subst q11
    refine R.c br_X8_turns_14 (And.intro (fun h14 => ?_) (fun h14 => ?_))
    · refine R.b bk_X8_turns_32 ?_
      refine R.ri rt_X8_turns_34 rfl ⟨_, rfl, ?_⟩
      exact ⟨by simp_all [F_turns, isD], by simp_all [A_turns, isD, mx_rw_id, mx_wr_up]⟩
    · obtain ⟨dn, hdn, rfl⟩ := f_in_dist (by omega) h1 h5
      have hcd : cN (nI dn) = dn := cN_nI (by omega)
      refine R.b bk_X8_turns_17 ?_
      refine R.V2i kc_X8_turns_26 (by first | rfl | assumption) (c_X8_becomes (i := 7 + 8 * dn) (e_ix0 dn) (by omega)) (by omega) rfl ⟨Nat.le_refl _, Nat.le_refl _⟩ (fun x26 M26 q26 => ?_)
      obtain ⟨rfl, q26⟩ := q26
      replace q26 := q26.symm
      subst q26
      refine R.j gt_X8_turns_29 ?_
      refine R.ri rt_X8_turns_34 rfl ⟨_, rfl, ?_⟩
      exact ⟨by simp_all [F_turns, isD], by simp_all [A_turns, isD, mx_rw_id, mx_wr_up]⟩
theorem c_X8_set {l : Launch} {G : Gt} {M : Mm} {d w v : Int32} {m : Nat} (hm : m ≤ 6) (h1 : M 104 1 = nI m) : Runs l G true dm_X8_set 2 127 [.ref 103, .int d, .int w, .int v] M 127 (Pi (fun x M1 => x = F_set (M 104) d w v ∧ M1 = mx_rw M 104 (A_set (M 104) d w v))) := by
  refine mx_run ow_X8_set rfl rfl (fun dp X hdp R => ?_)
  refine R.b bk_X8_set_0 ?_
  refine R.V1i kc_X8_set_2 (by first | rfl | assumption) (c_X8_isDistrict) (by omega) rfl ⟨Nat.le_refl _, Nat.le_refl _⟩ (fun x2 M2 q2 => ?_)
  obtain ⟨rfl, q2⟩ := q2
  replace q2 := q2.symm
  subst q2
  refine R.c br_X8_set_5 (And.intro (fun h5 => ?_) (fun h5 => ?_))
  · refine R.b bk_X8_set_17 ?_
    refine R.ri rt_X8_set_19 rfl ⟨_, rfl, ?_⟩
    exact ⟨by simp_all [F_set, isD], by simp_all [A_set, isD, mx_rw_id]⟩
  · refine R.b bk_X8_set_8 ?_
    refine R.S3i kc_X8_set_11 (c_X8_in) (by omega) rfl ⟨Nat.le_refl _, Nat.le_refl _⟩ (fun x11 M11 q11 => ?_)
    obtain ⟨rfl, q11⟩ := q11
    replace q11 := q11.symm
    subst q11
    refine R.c br_X8_set_14 (And.intro (fun h14 => ?_) (fun h14 => ?_))
    · obtain ⟨dn, hdn, rfl⟩ := f_in_dist (by omega) h1 h5
      have hcd : cN (nI dn) = dn := cN_nI (by omega)
      refine R.b bk_X8_set_20 ?_
      refine R.c br_X8_set_23 (And.intro (fun h23 => ?_) (fun h23 => ?_))
      · refine R.b bk_X8_set_30 ?_
        refine R.c br_X8_set_32 (And.intro (fun h32 => ?_) (fun h32 => ?_))
        · refine R.b bk_X8_set_39 ?_
          refine R.b bk_X8_set_41 ?_
          refine R.c br_X8_set_43 (And.intro (fun h43 => ?_) (fun h43 => absurd h43 h23))
          refine R.b bk_X8_set_51 ?_
          refine R.c br_X8_set_53 (And.intro (fun h53 => ?_) (fun h53 => absurd h53 h32))
          refine R.b bk_X8_set_61 ?_
          refine R.S3i kc_X8_set_63 (c_X8_in) (by omega) rfl ⟨Nat.le_refl _, Nat.le_refl _⟩ (fun x63 M63 q63 => ?_)
          obtain ⟨rfl, q63⟩ := q63
          replace q63 := q63.symm
          subst q63
          refine R.c br_X8_set_66 (And.intro (fun h66 => ?_) (fun h66 => ?_))
          · refine R.b bk_X8_set_72 ?_
            refine R.c br_X8_set_77 (And.intro (fun h77 => ?_) (fun h77 => absurd h77 h32))
            refine R.b bk_X8_set_84 ?_
            refine R.V2i kc_X8_set_87 (by first | rfl | assumption) (c_X8_of (d := dn) (w := 4) (by omega)) (by omega) rfl ⟨Nat.le_refl _, Nat.le_refl _⟩ (fun x87 M87 q87 => ?_)
            obtain ⟨rfl, q87⟩ := q87
            replace q87 := q87.symm
            subst q87
            refine R.V3v kc_X8_set_90 (by first | rfl | assumption) (c_X8_put (d := dn) (w := 4) (by omega)) (by omega) rfl ⟨Nat.le_refl _, Nat.le_refl _⟩ (fun M90 q90 => ?_)
            replace q90 := q90.symm
            subst q90
            refine R.b bk_X8_set_93 ?_
            refine R.c br_X8_set_103 (And.intro (fun h103 => ?_) (fun h103 => absurd h103 h23))
            refine R.b bk_X8_set_110 ?_
            refine R.c br_X8_set_112 (And.intro (fun h112 => ?_) (fun h112 => absurd h112 h32))
            refine R.b bk_X8_set_119 ?_
            refine R.b bk_X8_set_121 ?_
            refine R.V2i kc_X8_set_123 (by first | rfl | assumption) (c_X8_becomes (i := 7 + 8 * dn + f_setix w) (by simp [f_setix, *]; first | exact e_ix dn 1 | exact e_ix dn 3 | exact e_ix dn 7) (by unfold f_setix; split <;> (try split) <;> omega)) (by omega) rfl ⟨Nat.le_refl _, Nat.le_refl _⟩ (fun x123 M123 q123 => ?_)
            obtain ⟨rfl, q123⟩ := q123
            replace q123 := q123.symm
            subst q123
            refine R.ri rt_X8_set_126 rfl ⟨_, rfl, ?_⟩
            refine ⟨?_, ?_⟩
            · simp_all [F_set, isD, f_setlo, f_sethi, f_setix, mx_wr_up, mx_rw_at, up_same] <;> simp [mx_rw, up]
            · simp_all [A_set, isD, f_setlo, f_sethi, f_setix, mx_wr_up, mx_rw_at, mx_rw_rw, up_same] <;> simp [mx_rw, up]
          · refine R.b bk_X8_set_69 ?_
            refine R.ri rt_X8_set_71 rfl ⟨_, rfl, ?_⟩
            exact ⟨by simp_all [F_set, isD, f_setlo, f_sethi], by simp_all [A_set, isD, f_setlo, f_sethi, mx_rw_id]⟩
        · refine R.b bk_X8_set_35 ?_
          refine R.j gt_X8_set_36 ?_
          refine R.b bk_X8_set_41 ?_
          refine R.c br_X8_set_43 (And.intro (fun h43 => ?_) (fun h43 => absurd (h32.symm.trans h43) (by decide)))
          refine R.b bk_X8_set_51 ?_
          refine R.c br_X8_set_53 (And.intro (fun h53 => absurd h32 h53) (fun h53 => ?_))
          refine R.b bk_X8_set_56 ?_
          refine R.j gt_X8_set_58 ?_
          refine R.S3i kc_X8_set_63 (c_X8_in) (by omega) rfl ⟨Nat.le_refl _, Nat.le_refl _⟩ (fun x63 M63 q63 => ?_)
          obtain ⟨rfl, q63⟩ := q63
          replace q63 := q63.symm
          subst q63
          refine R.c br_X8_set_66 (And.intro (fun h66 => ?_) (fun h66 => ?_))
          · refine R.b bk_X8_set_72 ?_
            refine R.c br_X8_set_77 (And.intro (fun h77 => absurd h32 h77) (fun h77 => ?_))
            refine R.b bk_X8_set_80 ?_
            refine R.j gt_X8_set_81 ?_
            refine R.V3v kc_X8_set_90 (by first | rfl | assumption) (c_X8_put (d := dn) (w := 4) (by omega)) (by omega) rfl ⟨Nat.le_refl _, Nat.le_refl _⟩ (fun M90 q90 => ?_)
            replace q90 := q90.symm
            subst q90
            refine R.b bk_X8_set_93 ?_
            refine R.c br_X8_set_103 (And.intro (fun h103 => ?_) (fun h103 => absurd (h32.symm.trans h103) (by decide)))
            refine R.b bk_X8_set_110 ?_
            refine R.c br_X8_set_112 (And.intro (fun h112 => absurd h32 h112) (fun h112 => ?_))
            refine R.b bk_X8_set_115 ?_
            refine R.j gt_X8_set_116 ?_
            refine R.b bk_X8_set_121 ?_
            refine R.V2i kc_X8_set_123 (by first | rfl | assumption) (c_X8_becomes (i := 7 + 8 * dn + f_setix w) (by simp [f_setix, *]; first | exact e_ix dn 1 | exact e_ix dn 3 | exact e_ix dn 7) (by unfold f_setix; split <;> (try split) <;> omega)) (by omega) rfl ⟨Nat.le_refl _, Nat.le_refl _⟩ (fun x123 M123 q123 => ?_)
            obtain ⟨rfl, q123⟩ := q123
            replace q123 := q123.symm
            subst q123
            refine R.ri rt_X8_set_126 rfl ⟨_, rfl, ?_⟩
            refine ⟨?_, ?_⟩
            · simp_all [F_set, isD, f_setlo, f_sethi, f_setix, mx_wr_up, mx_rw_at, up_same] <;> simp [mx_rw, up]
            · simp_all [A_set, isD, f_setlo, f_sethi, f_setix, mx_wr_up, mx_rw_at, mx_rw_rw, up_same] <;> simp [mx_rw, up]
          · refine R.b bk_X8_set_69 ?_
            refine R.ri rt_X8_set_71 rfl ⟨_, rfl, ?_⟩
            exact ⟨by simp_all [F_set, isD, f_setlo, f_sethi], by simp_all [A_set, isD, f_setlo, f_sethi, mx_rw_id]⟩
      · refine R.b bk_X8_set_26 ?_
        refine R.j gt_X8_set_27 ?_
        refine R.b bk_X8_set_41 ?_
        refine R.c br_X8_set_43 (And.intro (fun h43 => absurd h23 h43) (fun h43 => ?_))
        refine R.b bk_X8_set_46 ?_
        refine R.j gt_X8_set_48 ?_
        refine R.S3i kc_X8_set_63 (c_X8_in) (by omega) rfl ⟨Nat.le_refl _, Nat.le_refl _⟩ (fun x63 M63 q63 => ?_)
        obtain ⟨rfl, q63⟩ := q63
        replace q63 := q63.symm
        subst q63
        refine R.c br_X8_set_66 (And.intro (fun h66 => ?_) (fun h66 => ?_))
        · refine R.b bk_X8_set_72 ?_
          refine R.c br_X8_set_77 (And.intro (fun h77 => ?_) (fun h77 => absurd (h23.symm.trans h77) (by decide)))
          refine R.b bk_X8_set_84 ?_
          refine R.V2i kc_X8_set_87 (by first | rfl | assumption) (c_X8_of (d := dn) (w := 4) (by omega)) (by omega) rfl ⟨Nat.le_refl _, Nat.le_refl _⟩ (fun x87 M87 q87 => ?_)
          obtain ⟨rfl, q87⟩ := q87
          replace q87 := q87.symm
          subst q87
          refine R.V3v kc_X8_set_90 (by first | rfl | assumption) (c_X8_put (d := dn) (w := 4) (by omega)) (by omega) rfl ⟨Nat.le_refl _, Nat.le_refl _⟩ (fun M90 q90 => ?_)
          replace q90 := q90.symm
          subst q90
          refine R.b bk_X8_set_93 ?_
          refine R.c br_X8_set_103 (And.intro (fun h103 => absurd h23 h103) (fun h103 => ?_))
          refine R.b bk_X8_set_106 ?_
          refine R.j gt_X8_set_107 ?_
          refine R.b bk_X8_set_121 ?_
          refine R.V2i kc_X8_set_123 (by first | rfl | assumption) (c_X8_becomes (i := 7 + 8 * dn + f_setix w) (by simp [f_setix, *]; first | exact e_ix dn 1 | exact e_ix dn 3 | exact e_ix dn 7) (by unfold f_setix; split <;> (try split) <;> omega)) (by omega) rfl ⟨Nat.le_refl _, Nat.le_refl _⟩ (fun x123 M123 q123 => ?_)
          obtain ⟨rfl, q123⟩ := q123
          replace q123 := q123.symm
          subst q123
          refine R.ri rt_X8_set_126 rfl ⟨_, rfl, ?_⟩
          refine ⟨?_, ?_⟩
          · simp_all [F_set, isD, f_setlo, f_sethi, f_setix, mx_wr_up, mx_rw_at, up_same] <;> simp [mx_rw, up]
          · simp_all [A_set, isD, f_setlo, f_sethi, f_setix, mx_wr_up, mx_rw_at, mx_rw_rw, up_same] <;> simp [mx_rw, up]
        · refine R.b bk_X8_set_69 ?_
          refine R.ri rt_X8_set_71 rfl ⟨_, rfl, ?_⟩
          exact ⟨by simp_all [F_set, isD, f_setlo, f_sethi], by simp_all [A_set, isD, f_setlo, f_sethi, mx_rw_id]⟩
    · refine R.b bk_X8_set_17 ?_
      refine R.ri rt_X8_set_19 rfl ⟨_, rfl, ?_⟩
      exact ⟨by simp_all [F_set, isD], by simp_all [A_set, isD, mx_rw_id]⟩
theorem c_X8_hides {l : Launch} {G : Gt} {M : Mm} {d : Nat} (h : d < 6) : Runs l G true dm_X8_hides 1 127 [.ref 103, .int (nI d)] M 127 (Pv (fun M1 => M1 = mx_rw M 104 (A_hides (M 104) d))) := by
  refine mx_run ow_X8_hides rfl rfl (fun dp X hdp R => ?_)
  refine R.b bk_X8_hides_0 ?_
  refine R.V2i kc_X8_hides_6 (by first | rfl | assumption) (c_X8_of (d := d) (w := 5) (by omega)) (by omega) rfl ⟨Nat.le_refl _, Nat.le_refl _⟩ (fun x6 M6 q6 => ?_)
  obtain ⟨rfl, q6⟩ := q6
  replace q6 := q6.symm
  subst q6
  refine R.b bk_X8_hides_9 ?_
  refine R.V3v kc_X8_hides_11 (by first | rfl | assumption) (c_X8_put (d := d) (w := 5) (by omega)) (by omega) rfl ⟨Nat.le_refl _, Nat.le_refl _⟩ (fun M11 q11 => ?_)
  replace q11 := q11.symm
  subst q11
  refine R.b bk_X8_hides_14 ?_
  refine R.V2i kc_X8_hides_22 (by first | rfl | assumption) (c_X8_of (d := d) (w := 6) (by omega)) (by omega) rfl ⟨Nat.le_refl _, Nat.le_refl _⟩ (fun x22 M22 q22 => ?_)
  obtain ⟨rfl, q22⟩ := q22
  replace q22 := q22.symm
  subst q22
  refine R.b bk_X8_hides_25 ?_
  refine R.V3v kc_X8_hides_27 (by first | rfl | assumption) (c_X8_put (d := d) (w := 6) (by omega)) (by omega) rfl ⟨Nat.le_refl _, Nat.le_refl _⟩ (fun M27 q27 => ?_)
  replace q27 := q27.symm
  subst q27
  refine R.rv rt_X8_hides_30 ⟨rfl, ?_⟩
  simp only [mx_wr_up, mx_rw_rw, mx_rw_at, A_hides]
  rw [up_ne (by omega)]
theorem c_X8_hide {l : Launch} {G : Gt} {M : Mm} {d : Int32} {m : Nat} (hm : m ≤ 6) (h1 : M 104 1 = nI m) : Runs l G true dm_X8_hide 2 127 [.ref 103, .int d] M 127 (Pi (fun x M1 => x = F_hide (M 104) d ∧ M1 = mx_rw M 104 (A_hide (M 104) d))) := by
  refine mx_run ow_X8_hide rfl rfl (fun dp X hdp R => ?_)
  refine R.b bk_X8_hide_0 ?_
  refine R.V1i kc_X8_hide_2 (by first | rfl | assumption) (c_X8_isDistrict) (by omega) rfl ⟨Nat.le_refl _, Nat.le_refl _⟩ (fun x2 M2 q2 => ?_)
  obtain ⟨rfl, q2⟩ := q2
  replace q2 := q2.symm
  subst q2
  refine R.c br_X8_hide_5 (And.intro (fun h5 => ?_) (fun h5 => ?_))
  · obtain ⟨dn, hdn, rfl⟩ := f_in_dist (by omega) h1 h5
    have hcd : cN (nI dn) = dn := cN_nI (by omega)
    refine R.b bk_X8_hide_11 ?_
    refine R.V2i kc_X8_hide_14 (by first | rfl | assumption) (c_X8_of (d := dn) (w := 5) (by omega)) (by omega) rfl ⟨Nat.le_refl _, Nat.le_refl _⟩ (fun x14 M14 q14 => ?_)
    obtain ⟨rfl, q14⟩ := q14
    replace q14 := q14.symm
    subst q14
    refine R.c br_X8_hide_17 (And.intro (fun h17 => ?_) (fun h17 => ?_))
    · refine R.b bk_X8_hide_23 ?_
      refine R.V1v kc_X8_hide_25 (by first | rfl | assumption) (c_X8_hides (d := dn) (by omega)) (by omega) rfl ⟨Nat.le_refl _, Nat.le_refl _⟩ (fun M25 q25 => ?_)
      replace q25 := q25.symm
      subst q25
      refine R.b bk_X8_hide_28 ?_
      refine R.V2i kc_X8_hide_32 (by first | rfl | assumption) (c_X8_of (d := dn) (w := 6) (by omega)) (by omega) rfl ⟨Nat.le_refl _, Nat.le_refl _⟩ (fun x32 M32 q32 => ?_)
      obtain ⟨rfl, q32⟩ := q32
      replace q32 := q32.symm
      subst q32
      refine R.ri rt_X8_hide_35 rfl ⟨_, rfl, ?_⟩
      exact ⟨by simp_all [F_hide, isD, mx_rw_at, A_hides, up], by simp_all [A_hide, isD]⟩
    · refine R.b bk_X8_hide_20 ?_
      refine R.ri rt_X8_hide_22 rfl ⟨_, rfl, ?_⟩
      exact ⟨by simp_all [F_hide, isD], by simp_all [A_hide, isD, mx_rw_id]⟩
  · refine R.b bk_X8_hide_8 ?_
    refine R.ri rt_X8_hide_10 rfl ⟨_, rfl, ?_⟩
    exact ⟨by simp_all [F_hide, isD], by simp_all [A_hide, isD, mx_rw_id]⟩
theorem c_X8_rule {l : Launch} {G : Gt} {M : Mm} {w v : Int32} : Runs l G true dm_X8_rule 1 127 [.ref 103, .int w, .int v] M 127 (Pi (fun x M1 => x = F_rule (M 104) w v ∧ M1 = mx_rw M 104 (A_rule (M 104) w v))) := by
  refine mx_run ow_X8_rule rfl rfl (fun dp X hdp R => ?_)
  refine R.b bk_X8_rule_0 ?_
  refine R.S3i kc_X8_rule_3 (c_X8_in) (by omega) rfl ⟨Nat.le_refl _, Nat.le_refl _⟩ (fun x3 M3 q3 => ?_)
  obtain ⟨rfl, q3⟩ := q3
  replace q3 := q3.symm
  subst q3
  refine R.c br_X8_rule_6 (And.intro (fun h6 => ?_) (fun h6 => ?_))
  · refine R.b bk_X8_rule_50 ?_
    refine R.ri rt_X8_rule_52 rfl ⟨_, rfl, ?_⟩
    refine ⟨?_, ?_⟩
    · simp_all [F_rule, f_rulehi]
    · simp_all [A_rule, f_rulehi, mx_wr_up, mx_rw_id]
  · refine R.b bk_X8_rule_9 ?_
    refine R.c br_X8_rule_12 (And.intro (fun h12 => ?_) (fun h12 => ?_))
    · refine R.b bk_X8_rule_21 ?_
      refine R.c br_X8_rule_23 (And.intro (fun h23 => ?_) (fun h23 => ?_))
      · refine R.b bk_X8_rule_31 ?_
        refine R.S3i kc_X8_rule_33 (c_X8_in) (by omega) rfl ⟨Nat.le_refl _, Nat.le_refl _⟩ (fun x33 M33 q33 => ?_)
        obtain ⟨rfl, q33⟩ := q33
        replace q33 := q33.symm
        subst q33
        refine R.c br_X8_rule_36 (And.intro (fun h36 => ?_) (fun h36 => ?_))
        · refine R.b bk_X8_rule_50 ?_
          refine R.ri rt_X8_rule_52 rfl ⟨_, rfl, ?_⟩
          refine ⟨?_, ?_⟩
          · simp_all [F_rule, f_rulehi]
          · simp_all [A_rule, f_rulehi, mx_wr_up, mx_rw_id]
        · have h6b := h6
          obtain ⟨wn, hwn, rfl⟩ := f_in_nat (n := 2) rfl h6b
          have hcw : cN (nI wn) = wn := cN_nI (by omega)
          refine R.b bk_X8_rule_39 ?_
          refine R.V2i kc_X8_rule_44 (by first | rfl | assumption) (c_X8_becomes (i := 3 + wn) (nI_add 3 wn) (by omega)) (by omega) rfl ⟨Nat.le_refl _, Nat.le_refl _⟩ (fun x44 M44 q44 => ?_)
          obtain ⟨rfl, q44⟩ := q44
          replace q44 := q44.symm
          subst q44
          refine R.j gt_X8_rule_47 ?_
          refine R.ri rt_X8_rule_52 rfl ⟨_, rfl, ?_⟩
          refine ⟨?_, ?_⟩
          · simp_all [F_rule, f_rulehi]
          · simp_all [A_rule, f_rulehi, mx_wr_up, mx_rw_id]
      · refine R.b bk_X8_rule_26 ?_
        refine R.j gt_X8_rule_28 ?_
        refine R.S3i kc_X8_rule_33 (c_X8_in) (by omega) rfl ⟨Nat.le_refl _, Nat.le_refl _⟩ (fun x33 M33 q33 => ?_)
        obtain ⟨rfl, q33⟩ := q33
        replace q33 := q33.symm
        subst q33
        refine R.c br_X8_rule_36 (And.intro (fun h36 => ?_) (fun h36 => ?_))
        · refine R.b bk_X8_rule_50 ?_
          refine R.ri rt_X8_rule_52 rfl ⟨_, rfl, ?_⟩
          refine ⟨?_, ?_⟩
          · simp_all [F_rule, f_rulehi]
          · simp_all [A_rule, f_rulehi, mx_wr_up, mx_rw_id]
        · have h6b := h6
          obtain ⟨wn, hwn, rfl⟩ := f_in_nat (n := 2) rfl h6b
          have hcw : cN (nI wn) = wn := cN_nI (by omega)
          refine R.b bk_X8_rule_39 ?_
          refine R.V2i kc_X8_rule_44 (by first | rfl | assumption) (c_X8_becomes (i := 3 + wn) (nI_add 3 wn) (by omega)) (by omega) rfl ⟨Nat.le_refl _, Nat.le_refl _⟩ (fun x44 M44 q44 => ?_)
          obtain ⟨rfl, q44⟩ := q44
          replace q44 := q44.symm
          subst q44
          refine R.j gt_X8_rule_47 ?_
          refine R.ri rt_X8_rule_52 rfl ⟨_, rfl, ?_⟩
          refine ⟨?_, ?_⟩
          · simp_all [F_rule, f_rulehi]
          · simp_all [A_rule, f_rulehi, mx_wr_up, mx_rw_id]
    · refine R.b bk_X8_rule_15 ?_
      refine R.j gt_X8_rule_18 ?_
      refine R.S3i kc_X8_rule_33 (c_X8_in) (by omega) rfl ⟨Nat.le_refl _, Nat.le_refl _⟩ (fun x33 M33 q33 => ?_)
      obtain ⟨rfl, q33⟩ := q33
      replace q33 := q33.symm
      subst q33
      refine R.c br_X8_rule_36 (And.intro (fun h36 => ?_) (fun h36 => ?_))
      · refine R.b bk_X8_rule_50 ?_
        refine R.ri rt_X8_rule_52 rfl ⟨_, rfl, ?_⟩
        refine ⟨?_, ?_⟩
        · simp_all [F_rule, f_rulehi]
        · simp_all [A_rule, f_rulehi, mx_wr_up, mx_rw_id]
      · have h6b := h6
        obtain ⟨wn, hwn, rfl⟩ := f_in_nat (n := 2) rfl h6b
        have hcw : cN (nI wn) = wn := cN_nI (by omega)
        refine R.b bk_X8_rule_39 ?_
        refine R.V2i kc_X8_rule_44 (by first | rfl | assumption) (c_X8_becomes (i := 3 + wn) (nI_add 3 wn) (by omega)) (by omega) rfl ⟨Nat.le_refl _, Nat.le_refl _⟩ (fun x44 M44 q44 => ?_)
        obtain ⟨rfl, q44⟩ := q44
        replace q44 := q44.symm
        subst q44
        refine R.j gt_X8_rule_47 ?_
        refine R.ri rt_X8_rule_52 rfl ⟨_, rfl, ?_⟩
        refine ⟨?_, ?_⟩
        · simp_all [F_rule, f_rulehi]
        · simp_all [A_rule, f_rulehi, mx_wr_up, mx_rw_id]
theorem c_X8_draw {l : Launch} {G : Gt} {M : Mm}  : Runs l G true dm_X8_draw 0 127 [.ref 103] M 127 (Pi (fun x M1 => x = f_dr (f_dz (M 104 0)) ∧ M1 = mx_rw M 104 (A_draw (M 104)))) := by
  refine mx_run ow_X8_draw rfl rfl (fun dp X hdp R => ?_)
  refine R.b bk_X8_draw_0 (And.intro (by first | rfl | assumption) (And.intro (by first | rfl | assumption) (And.intro (by first | rfl | assumption) (And.intro (by exact vp_lit rfl) (And.intro (by first | rfl | assumption) (And.intro (by exact vp_lit rfl) (And.intro (by first | rfl | assumption) (And.intro (by first | rfl | assumption) (And.intro (by exact vp_lit rfl) ?_)))))))))
  refine R.ri rt_X8_draw_28 rfl ⟨_, rfl, ?_⟩
  refine ⟨?_, rfl⟩
  rfl
theorem c_X8_seed {l : Launch} {G : Gt} {M : Mm} {v : Int32} : Runs l G true dm_X8_seed 1 127 [.ref 103, .int v] M 127 (Pi (fun x M1 => x = M 104 0 ∧ M1 = mx_rw M 104 (up (M 104) 0 v))) := by
  refine mx_run ow_X8_seed rfl rfl (fun dp X hdp R => ?_)
  refine R.b bk_X8_seed_0 ?_
  refine R.V2i kc_X8_seed_3 (by first | rfl | assumption) (c_X8_becomes (i := 0) rfl (by omega)) (by omega) rfl ⟨Nat.le_refl _, Nat.le_refl _⟩ (fun x3 M3 q3 => ?_)
  obtain ⟨rfl, q3⟩ := q3
  replace q3 := q3.symm
  subst q3
  refine R.ri rt_X8_seed_6 rfl ⟨_, rfl, ?_⟩
  exact ⟨rfl, rfl⟩
