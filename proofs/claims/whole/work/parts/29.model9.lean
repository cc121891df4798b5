/-! thoughts of the model -/
/-- what a thought leaves, once it is put back -/
theorem put_back {M M1 : Mm} {b r : Rw} (e : M1 104 = b) (h : ∀ j, 55 ≤ j → b j = M 104 j) (f : ∀ q, q ≠ 104 → q ≠ 116 → q ≠ 117 → M1 q = mx_rw M 107 (cut 55 (M 104) r) q) (q : Nat) (h1 : q ≠ 107) (h2 : q ≠ 116) (h3 : q ≠ 117) : mx_rw M1 104 (cut 55 (M1 107) (M1 104)) q = M q := by
  by_cases hq : q = 104
  · subst hq
    rw [mx_rw_at, f 107 (by decide) (by decide) (by decide), mx_rw_at, e]
    exact cut_back h
  · rw [mx_rw_ne hq, f q hq h2 h3, mx_rw_ne h1]
def A_sun (a : Rw) (d : Nat) : Nat → Int32
  | 0 => 0
  | n + 1 => A_sun a d n + (if A_go a (n + 1) (7 + 8 * d + 4) = 0 then 1 else 0)
def F_sundays (a : Rw) (d n : Int32) : Int32 := if isD a d = 0 ∨ f_in n 0 300 = 0 then (-1000000001) else A_sun a (cN d) (cN n)
def A_mt (a : Rw) (d e : Nat) : Nat → Nat → Nat
  | 0, n => n
  | f + 1, n => if A_go a n (7 + 8 * d + 4) = A_go a n 5 ∧ A_go a n (7 + 8 * e + 4) = A_go a n 5 then n else A_mt a d e f (n + 1)
def F_meets (a : Rw) (d e : Int32) : Int32 := if isD a d = 0 ∨ isD a e = 0 then (-1000000001) else if A_mt a (cN d) (cN e) 201 0 ≤ 200 then nI (A_mt a (cN d) (cN e) 201 0) else (-1000000005)
def A_rich (a : Rw) : Nat → Int32
  | 0 => (-1000000005)
  | d + 1 => if A_rich a d = (-1000000005) ∨ a (7 + 8 * cN (A_rich a d) + 7) < a (7 + 8 * d + 7) then nI d else A_rich a d
theorem A_rich_spec (a : Rw) : ∀ n, n ≤ 6 → A_rich a n = (-1000000005) ∨ ∃ b, b < n ∧ A_rich a n = nI b
  | 0, _ => Or.inl rfl
  | n + 1, h => by
    right
    unfold A_rich
    split
    · exact ⟨n, Nat.lt_succ_self n, rfl⟩
    · rename_i hc
      rcases A_rich_spec a n (by omega) with h1 | ⟨b, hb, h1⟩
      · exact absurd (Or.inl h1) hc
      · exact ⟨b, by omega, h1⟩
def F_richest (a : Rw) (n : Int32) : Int32 := if f_in n 0 300 = 0 then (-1000000001) else A_rich (A_go a (cN n)) (cN (a 1))
def F_brings (a : Rw) (d n : Int32) : Int32 := if isD a d = 0 ∨ f_in n 0 300 = 0 then (-1000000001) else if a (7 + 8 * cN d + 5) = 0 then (-1000000002) else A_go (A_hides a (cN d)) (cN n) (7 + 8 * cN d + 7) - A_go a (cN n) (7 + 8 * cN d + 7)
theorem VR_hides {a : Rw} {mm d : Nat} (h : VR a mm) (hd : d < 6) : VR (A_hides a d) mm := by
  obtain ⟨h1, h2, h3, h4⟩ := h
  unfold A_hides
  refine ⟨h1, by rw [up_ne (by omega), up_ne (by omega)]; exact h2, VT_congr (fun j hj => by rw [up_ne (by omega), up_ne (by omega)]) h3, fun e he => ?_⟩
  obtain ⟨rt, g1, g2⟩ := h4 e he
  exact ⟨rt, g1, by rw [up_ne (by omega), up_ne (by omega)]; exact g2⟩
theorem c_X8_sundays {l : Launch} {G : Gt} {M : Mm} {d n : Int32} {mm : Nat} (hV : VR (M 104) mm) : Runs l G true dm_X8_sundays 6 127 [.ref 103, .int d, .int n] M 127 (Pi (fun x M1 => x = F_sundays (M 104) d n ∧ ∀ q, q ≠ 107 → q ≠ 116 → q ≠ 117 → M1 q = M q)) := by
  refine mx_run ow_X8_sundays rfl rfl (fun dp X hdp R => ?_)
  refine R.b bk_X8_sundays_0 ?_
  refine R.V1i kc_X8_sundays_2 (by first | rfl | assumption) (c_X8_isDistrict) (by omega) rfl ⟨Nat.le_refl _, Nat.le_refl _⟩ (fun x2 M2 q2 => ?_)
  obtain ⟨rfl, q2⟩ := q2
  replace q2 := q2.symm
  subst q2
  refine R.c br_X8_sundays_5 (And.intro (fun h5 => ?_) (fun h5 => ?_))
  · refine R.b bk_X8_sundays_19 ?_
    refine R.ri rt_X8_sundays_21 rfl ⟨_, rfl, ?_⟩
    exact ⟨by simp_all [F_sundays, isD], fun q _ _ _ => rfl⟩
  · refine R.b bk_X8_sundays_8 ?_
    refine R.S3i kc_X8_sundays_13 (c_X8_in) (by omega) rfl ⟨Nat.le_refl _, Nat.le_refl _⟩ (fun x13 M13 q13 => ?_)
    obtain ⟨rfl, q13⟩ := q13
    replace q13 := q13.symm
    subst q13
    refine R.c br_X8_sundays_16 (And.intro (fun h16 => ?_) (fun h16 => ?_))
    · have hmm := hV.1
      obtain ⟨dn, hdn, rfl⟩ := f_in_dist (by omega) hV.2.1 h5
      have hcd : cN (nI dn) = dn := cN_nI (by omega)
      obtain ⟨nn, hnn, rfl⟩ := f_in_nat (n := 300) (by decide) h16
      have hcnn : cN (nI nn) = nn := cN_nI (by omega)
      refine R.b bk_X8_sundays_22 ?_
      refine R.V0v kc_X8_sundays_23 (by first | rfl | assumption) (c_X8_thinks) (by omega) rfl ⟨Nat.le_refl _, Nat.le_refl _⟩ (fun M23 q23 => ?_)
      replace q23 := q23.symm
      subst q23
      refine R.b bk_X8_sundays_26 ?_
      have hA : ∀ (fu i : Nat) (M1 : Mm) (c5 : Option Value), nn - i = fu → i ≤ nn → (M1 104 = A_go (M 104) i) → (∀ q, q ≠ 104 → q ≠ 116 → q ≠ 117 → M1 q = mx_rw M 107 (cut 55 (M 104) (M 107)) q) → X 127 M1 31 [some (.ref 103), some (.int (nI dn)), some (.int (nI nn)), some (.int (A_sun (M 104) dn i)), some (.int (nI i)), c5] [] := by
        intro fu
        induction fu with
        | zero =>
          intro i M1 c5 hfu hi hI1 hI2
          have hiN : i = nn := by omega
          refine R.b bk_X8_sundays_31 ?_
          refine R.c br_X8_sundays_34 (And.intro (fun h34 => ?_) (fun h34 => absurd (by rw [hiN]; exact nI_le (Nat.le_refl nn) (by omega)) h34))
          refine R.b bk_X8_sundays_66 ?_
          refine R.V0v kc_X8_sundays_67 (by first | rfl | assumption) (c_X8_putsBack) (by omega) rfl ⟨Nat.le_refl _, Nat.le_refl _⟩ (fun M67 q67 => ?_)
          replace q67 := q67.symm
          subst q67
          refine R.b bk_X8_sundays_70 ?_
          refine R.ri rt_X8_sundays_71 rfl ⟨_, rfl, ?_⟩
          subst hiN
          refine ⟨?_, put_back hI1 (fun j hj => A_go_keep hV hj i) hI2⟩
          unfold F_sundays isD
          rw [if_neg (not_or.mpr ⟨h5, h16⟩), hcd, hcnn]
        | succ fu ih =>
          intro i M1 c5 hfu hi hI1 hI2
          have hlt : i < nn := by omega
          refine R.b bk_X8_sundays_31 ?_
          refine R.c br_X8_sundays_34 (And.intro (fun h34 => absurd h34 (nI_ge hlt (by omega))) (fun h34 => ?_))
          refine R.b bk_X8_sundays_37 ?_
          refine R.V0i kc_X8_sundays_38 (by first | rfl | assumption) (c_X8_day (mm := mm) (by rw [hI1]; exact VR_go hV i)) (by omega) rfl ⟨Nat.le_refl _, Nat.le_refl _⟩ (fun x38 M38 q38 => ?_)
          obtain ⟨-, e38, f38⟩ := q38
          have g38 : M38 104 = A_go (M 104) (i + 1) := by rw [e38, hI1]; rfl
          have k38 : ∀ q, q ≠ 104 → q ≠ 116 → q ≠ 117 → M38 q = mx_rw M 107 (cut 55 (M 104) (M 107)) q := fun q g1 g2 g3 => by rw [f38 q g1 g2 g3]; exact hI2 q g1 g2 g3
          refine R.b bk_X8_sundays_41 ?_
          refine R.V2i kc_X8_sundays_47 (by first | rfl | assumption) (c_X8_of (d := dn) (w := 4) (by omega)) (by omega) rfl ⟨Nat.le_refl _, Nat.le_refl _⟩ (fun x47 M47 q47 => ?_)
          obtain ⟨rfl, q47⟩ := q47
          replace q47 := q47.symm
          subst q47
          refine R.c br_X8_sundays_50 (And.intro (fun h50 => ?_) (fun h50 => ?_))
          · refine R.b bk_X8_sundays_57 ?_
            refine R.b bk_X8_sundays_58 ?_
            refine R.j gt_X8_sundays_63 ?_
            rw [nI_inc]
            have hx := ih (i + 1) M38 (some (.int x38)) (by omega) (by omega) g38 k38
            rw [A_sun] at hx
            rw [g38] at h50
            first | (rw [if_pos h50] at hx; exact hx) | (rw [if_neg h50] at hx; exact hx)
          · refine R.b bk_X8_sundays_53 ?_
            refine R.j gt_X8_sundays_54 ?_
            refine R.b bk_X8_sundays_58 ?_
            refine R.j gt_X8_sundays_63 ?_
            rw [nI_inc]
            have hx := ih (i + 1) M38 (some (.int x38)) (by omega) (by omega) g38 k38
            rw [A_sun] at hx
            rw [g38] at h50
            first | (rw [if_pos h50] at hx; exact hx) | (rw [if_neg h50] at hx; exact hx)
      exact hA nn 0 _ _ rfl (Nat.zero_le _) (by rw [mx_rw_ne (by decide)]; rfl) (fun q _ _ _ => rfl)
    · refine R.b bk_X8_sundays_19 ?_
      refine R.ri rt_X8_sundays_21 rfl ⟨_, rfl, ?_⟩
      exact ⟨by simp_all [F_sundays, isD], fun q _ _ _ => rfl⟩
theorem c_X8_meets {l : Launch} {G : Gt} {M : Mm} {d e : Int32} {mm : Nat} (hV : VR (M 104) mm) : Runs l G true dm_X8_meets 5 127 [.ref 103, .int d, .int e] M 127 (Pi (fun x M1 => x = F_meets (M 104) d e ∧ ∀ q, q ≠ 107 → q ≠ 116 → q ≠ 117 → M1 q = M q)) := by
  refine mx_run ow_X8_meets rfl rfl (fun dp X hdp R => ?_)
  refine R.b bk_X8_meets_0 ?_
  refine R.V1i kc_X8_meets_2 (by first | rfl | assumption) (c_X8_isDistrict) (by omega) rfl ⟨Nat.le_refl _, Nat.le_refl _⟩ (fun x2 M2 q2 => ?_)
  obtain ⟨rfl, q2⟩ := q2
  replace q2 := q2.symm
  subst q2
  refine R.c br_X8_meets_5 (And.intro (fun h5 => ?_) (fun h5 => ?_))
  · refine R.b bk_X8_meets_16 ?_
    refine R.ri rt_X8_meets_18 rfl ⟨_, rfl, ?_⟩
    exact ⟨by simp_all [F_meets, isD], fun q _ _ _ => rfl⟩
  · refine R.b bk_X8_meets_8 ?_
    refine R.V1i kc_X8_meets_10 (by first | rfl | assumption) (c_X8_isDistrict) (by omega) rfl ⟨Nat.le_refl _, Nat.le_refl _⟩ (fun x10 M10 q10 => ?_)
    obtain ⟨rfl, q10⟩ := q10
    replace q10 := q10.symm
    subst q10
    refine R.c br_X8_meets_13 (And.intro (fun h13 => ?_) (fun h13 => ?_))
    · have hmm := hV.1
      obtain ⟨dn, hdn, rfl⟩ := f_in_dist (by omega) hV.2.1 h5
      have hcd : cN (nI dn) = dn := cN_nI (by omega)
      obtain ⟨en, hen, rfl⟩ := f_in_dist (by omega) hV.2.1 h13
      have hce : cN (nI en) = en := cN_nI (by omega)
      refine R.b bk_X8_meets_19 ?_
      refine R.V0v kc_X8_meets_20 (by first | rfl | assumption) (c_X8_thinks) (by omega) rfl ⟨Nat.le_refl _, Nat.le_refl _⟩ (fun M20 q20 => ?_)
      replace q20 := q20.symm
      subst q20
      refine R.b bk_X8_meets_23 ?_
      have hA : ∀ (fu i : Nat) (M1 : Mm) (c4 : Option Value), 201 - i = fu → i ≤ 201 → (M1 104 = A_go (M 104) i) → (∀ q, q ≠ 104 → q ≠ 116 → q ≠ 117 → M1 q = mx_rw M 107 (cut 55 (M 104) (M 107)) q) → (A_mt (M 104) dn en (201 - i) i = A_mt (M 104) dn en 201 0) → X 127 M1 25 [some (.ref 103), some (.int (nI dn)), some (.int (nI en)), some (.int (nI i)), c4] [] := by
        intro fu
        induction fu with
        | zero =>
          intro i M1 c4 hfu hi hI1 hI2 hI3
          have hiN : i = 201 := by omega
          refine R.b bk_X8_meets_25 ?_
          refine R.c br_X8_meets_29 (And.intro (fun h29 => ?_) (fun h29 => absurd (by rw [hiN]; decide) h29))
          refine R.b bk_X8_meets_60 ?_
          refine R.V0v kc_X8_meets_61 (by first | rfl | assumption) (c_X8_putsBack) (by omega) rfl ⟨Nat.le_refl _, Nat.le_refl _⟩ (fun M61 q61 => ?_)
          replace q61 := q61.symm
          subst q61
          refine R.b bk_X8_meets_64 ?_
          refine R.c br_X8_meets_68 (And.intro (fun h68 => ?_) (fun h68 => absurd (by rw [hiN]; decide) h68))
          refine R.b bk_X8_meets_75 ?_
          refine R.ri rt_X8_meets_77 rfl ⟨_, rfl, ?_⟩
          subst hiN
          refine ⟨?_, put_back hI1 (fun j hj => A_go_keep hV hj 201) hI2⟩
          unfold F_meets isD
          rw [if_neg (not_or.mpr ⟨h5, h13⟩), hcd, hce, ← hI3]
          rfl
        | succ fu ih =>
          intro i M1 c4 hfu hi hI1 hI2 hI3
          have hlt : i < 201 := by omega
          refine R.b bk_X8_meets_25 ?_
          refine R.c br_X8_meets_29 (And.intro (fun h29 => absurd h29 (nI_nlt (b := i) (a := 200) (by omega) (by decide))) (fun h29 => ?_))
          refine R.b bk_X8_meets_32 ?_
          refine R.V1i kc_X8_meets_34 (by first | rfl | assumption) (c_X8_isFair (d := dn) (by omega)) (by omega) rfl ⟨Nat.le_refl _, Nat.le_refl _⟩ (fun x34 M34 q34 => ?_)
          obtain ⟨rfl, q34⟩ := q34
          replace q34 := q34.symm
          subst q34
          refine R.c br_X8_meets_37 (And.intro (fun h37 => ?_) (fun h37 => ?_))
          · refine R.b bk_X8_meets_48 ?_
            refine R.V0i kc_X8_meets_49 (by first | rfl | assumption) (c_X8_day (mm := mm) (by rw [hI1]; exact VR_go hV i)) (by omega) rfl ⟨Nat.le_refl _, Nat.le_refl _⟩ (fun x49 M49 q49 => ?_)
            obtain ⟨-, e49, f49⟩ := q49
            have g49 : M49 104 = A_go (M 104) (i + 1) := by rw [e49, hI1]; rfl
            have k49 : ∀ q, q ≠ 104 → q ≠ 116 → q ≠ 117 → M49 q = mx_rw M 107 (cut 55 (M 104) (M 107)) q := fun q g1 g2 g3 => by rw [f49 q g1 g2 g3]; exact hI2 q g1 g2 g3
            refine R.b bk_X8_meets_52 ?_
            refine R.j gt_X8_meets_57 ?_
            rw [nI_inc]
            refine ih (i + 1) M49 _ (by omega) (by omega) g49 k49 ?_
            rw [show 201 - i = (201 - (i + 1)) + 1 by omega, A_mt, if_neg ?_] at hI3
            exact hI3
            intro hc
            rw [← hI1] at hc
            first | exact absurd h37 (by rw [f_eq, if_pos hc.1]; decide) | exact absurd h45 (by rw [f_eq, if_pos hc.2]; decide)
          · refine R.b bk_X8_meets_40 ?_
            refine R.V1i kc_X8_meets_42 (by first | rfl | assumption) (c_X8_isFair (d := en) (by omega)) (by omega) rfl ⟨Nat.le_refl _, Nat.le_refl _⟩ (fun x42 M42 q42 => ?_)
            obtain ⟨rfl, q42⟩ := q42
            replace q42 := q42.symm
            subst q42
            refine R.c br_X8_meets_45 (And.intro (fun h45 => ?_) (fun h45 => ?_))
            · refine R.b bk_X8_meets_60 ?_
              refine R.V0v kc_X8_meets_61 (by first | rfl | assumption) (c_X8_putsBack) (by omega) rfl ⟨Nat.le_refl _, Nat.le_refl _⟩ (fun M61 q61 => ?_)
              replace q61 := q61.symm
              subst q61
              refine R.b bk_X8_meets_64 ?_
              refine R.c br_X8_meets_68 (And.intro (fun h68 => absurd h68 (nI_nlt (b := i) (a := 200) (by omega) (by decide))) (fun h68 => ?_))
              refine R.b bk_X8_meets_71 ?_
              refine R.j gt_X8_meets_72 ?_
              refine R.ri rt_X8_meets_77 rfl ⟨_, rfl, ?_⟩
              rw [show 201 - i = (201 - (i + 1)) + 1 by omega, A_mt, if_pos ?_] at hI3
              · refine ⟨?_, put_back hI1 (fun j hj => A_go_keep hV hj i) hI2⟩
                unfold F_meets isD
                rw [if_neg (not_or.mpr ⟨h5, h13⟩), hcd, hce, ← hI3, if_pos (by omega)]
              · rw [← hI1]
                constructor
                · apply Classical.byContradiction; intro hc; exact h37 (by rw [f_eq, if_neg hc])
                · apply Classical.byContradiction; intro hc; exact h45 (by rw [f_eq, if_neg hc])
            · refine R.b bk_X8_meets_48 ?_
              refine R.V0i kc_X8_meets_49 (by first | rfl | assumption) (c_X8_day (mm := mm) (by rw [hI1]; exact VR_go hV i)) (by omega) rfl ⟨Nat.le_refl _, Nat.le_refl _⟩ (fun x49 M49 q49 => ?_)
              obtain ⟨-, e49, f49⟩ := q49
              have g49 : M49 104 = A_go (M 104) (i + 1) := by rw [e49, hI1]; rfl
              have k49 : ∀ q, q ≠ 104 → q ≠ 116 → q ≠ 117 → M49 q = mx_rw M 107 (cut 55 (M 104) (M 107)) q := fun q g1 g2 g3 => by rw [f49 q g1 g2 g3]; exact hI2 q g1 g2 g3
              refine R.b bk_X8_meets_52 ?_
              refine R.j gt_X8_meets_57 ?_
              rw [nI_inc]
              refine ih (i + 1) M49 _ (by omega) (by omega) g49 k49 ?_
              rw [show 201 - i = (201 - (i + 1)) + 1 by omega, A_mt, if_neg ?_] at hI3
              exact hI3
              intro hc
              rw [← hI1] at hc
              first | exact absurd h37 (by rw [f_eq, if_pos hc.1]; decide) | exact absurd h45 (by rw [f_eq, if_pos hc.2]; decide)
      exact hA 201 0 _ _ rfl (Nat.zero_le _) (by rw [mx_rw_ne (by decide)]; rfl) (fun q _ _ _ => rfl) rfl
    · refine R.b bk_X8_meets_16 ?_
      refine R.ri rt_X8_meets_18 rfl ⟨_, rfl, ?_⟩
      exact ⟨by simp_all [F_meets, isD], fun q _ _ _ => rfl⟩
theorem c_X8_richest {l : Launch} {G : Gt} {M : Mm} {n : Int32} {mm : Nat} (hV : VR (M 104) mm) : Runs l G true dm_X8_richest 6 127 [.ref 103, .int n] M 127 (Pi (fun x M1 => x = F_richest (M 104) n ∧ ∀ q, q ≠ 107 → q ≠ 116 → q ≠ 117 → M1 q = M q)) := by
  refine mx_run ow_X8_richest rfl rfl (fun dp X hdp R => ?_)
  refine R.b bk_X8_richest_0 ?_
  refine R.S3i kc_X8_richest_5 (c_X8_in) (by omega) rfl ⟨Nat.le_refl _, Nat.le_refl _⟩ (fun x5 M5 q5 => ?_)
  obtain ⟨rfl, q5⟩ := q5
  replace q5 := q5.symm
  subst q5
  refine R.c br_X8_richest_8 (And.intro (fun h8 => ?_) (fun h8 => ?_))
  · have hmm := hV.1
    obtain ⟨nn, hnn, rfl⟩ := f_in_nat (n := 300) (by decide) h8
    have hcnn : cN (nI nn) = nn := cN_nI (by omega)
    refine R.b bk_X8_richest_14 ?_
    refine R.V0v kc_X8_richest_15 (by first | rfl | assumption) (c_X8_thinks) (by omega) rfl ⟨Nat.le_refl _, Nat.le_refl _⟩ (fun M15 q15 => ?_)
    replace q15 := q15.symm
    subst q15
    refine R.b bk_X8_richest_18 ?_
    refine R.V1i kc_X8_richest_20 (by first | rfl | assumption) (c_X8_goesOn (n := nn) (by omega) (by rw [mx_rw_ne (show 104 ≠ 107 by decide)]; exact hV)) (by omega) rfl ⟨Nat.le_refl _, Nat.le_refl _⟩ (fun x20 M20 q20 => ?_)
    obtain ⟨-, hI1, hI2⟩ := q20
    rw [mx_rw_ne (show 104 ≠ 107 by decide)] at hI1
    refine R.b bk_X8_richest_23 ?_
    generalize x20 = c2
    generalize M20 = M1 at hI1 hI2 ⊢
    have e1 : M1 104 (Int32.toNatClampNeg 1) = nI mm := by rw [hI1]; exact (VR_go hV nn).2.1
    have hA : ∀ (fu i : Nat) , mm - i = fu → i ≤ mm → X 127 M1 30 [some (.ref 103), some (.int (nI nn)), some (.int c2), some (.int (A_rich (A_go (M 104) nn) i)), some (.int (nI i))] [] := by
      intro fu
      induction fu with
      | zero =>
        intro i  hfu hi 
        have hiN : i = mm := by omega
        refine R.b bk_X8_richest_30 (And.intro (by first | rfl | assumption) (And.intro (by first | rfl | assumption) (And.intro (by exact vp_lit rfl) ?_)))
        refine R.c br_X8_richest_38 (And.intro (fun h38 => ?_) (fun h38 => absurd (by rw [e1, hiN]; exact nI_le (Nat.le_refl mm) (by omega)) h38))
        refine R.b bk_X8_richest_78 ?_
        refine R.V0v kc_X8_richest_79 (by first | rfl | assumption) (c_X8_putsBack) (by omega) rfl ⟨Nat.le_refl _, Nat.le_refl _⟩ (fun M79 q79 => ?_)
        replace q79 := q79.symm
        subst q79
        refine R.b bk_X8_richest_82 ?_
        refine R.ri rt_X8_richest_83 rfl ⟨_, rfl, ?_⟩
        subst hiN
        refine ⟨?_, put_back hI1 (fun j hj => A_go_keep hV hj nn) hI2⟩
        rw [F_richest, if_neg h8, hcnn, hV.2.1, cN_nI (by omega)]
      | succ fu ih =>
        intro i  hfu hi 
        have hlt : i < mm := by omega
        refine R.b bk_X8_richest_30 (And.intro (by first | rfl | assumption) (And.intro (by first | rfl | assumption) (And.intro (by exact vp_lit rfl) ?_)))
        refine R.c br_X8_richest_38 (And.intro (fun h38 => absurd h38 (by rw [e1]; exact nI_ge hlt (by omega))) (fun h38 => ?_))
        refine R.b bk_X8_richest_41 ?_
        refine R.c br_X8_richest_44 (And.intro (fun h44 => ?_) (fun h44 => ?_))
        · refine R.b bk_X8_richest_65 ?_
          refine R.j gt_X8_richest_67 ?_
          refine R.b bk_X8_richest_71 ?_
          refine R.j gt_X8_richest_75 ?_
          rw [nI_inc]
          have hx := ih (i + 1) (by omega) (by omega)
          rw [A_rich] at hx
          first
          | (rw [if_pos (Or.inl h44)] at hx; exact hx)
          | (rw [hI1] at h62; rw [if_neg (not_or.mpr ⟨h44, by rw [hbe, hcb]; exact Int32.not_lt.mpr h62⟩), hbe] at hx; exact hx)
          | (rw [hI1] at h62; rw [if_pos (Or.inr (by rw [hbe, hcb]; exact Int32.not_le.mp h62))] at hx; exact hx)
        · obtain ⟨b, hb, hbe⟩ := (A_rich_spec (A_go (M 104) nn) i (by omega)).resolve_left h44
          have hcb : cN (nI b) = b := cN_nI (by omega)
          refine R.b bk_X8_richest_47 ?_
          refine R.V2i kc_X8_richest_52 (by first | rfl | assumption) (c_X8_of (d := i) (w := 7) (by omega)) (by omega) rfl ⟨Nat.le_refl _, Nat.le_refl _⟩ (fun x52 M52 q52 => ?_)
          obtain ⟨rfl, q52⟩ := q52
          replace q52 := q52.symm
          subst q52
          rw [hbe]
          refine R.b bk_X8_richest_55 ?_
          refine R.V2i kc_X8_richest_59 (by first | rfl | assumption) (c_X8_of (d := b) (w := 7) (by omega)) (by omega) rfl ⟨Nat.le_refl _, Nat.le_refl _⟩ (fun x59 M59 q59 => ?_)
          obtain ⟨rfl, q59⟩ := q59
          replace q59 := q59.symm
          subst q59
          refine R.c br_X8_richest_62 (And.intro (fun h62 => ?_) (fun h62 => ?_))
          · refine R.b bk_X8_richest_70 ?_
            refine R.b bk_X8_richest_71 ?_
            refine R.j gt_X8_richest_75 ?_
            rw [nI_inc]
            have hx := ih (i + 1) (by omega) (by omega)
            rw [A_rich] at hx
            first
            | (rw [if_pos (Or.inl h44)] at hx; exact hx)
            | (rw [hI1] at h62; rw [if_neg (not_or.mpr ⟨h44, by rw [hbe, hcb]; exact Int32.not_lt.mpr h62⟩), hbe] at hx; exact hx)
            | (rw [hI1] at h62; rw [if_pos (Or.inr (by rw [hbe, hcb]; exact Int32.not_le.mp h62))] at hx; exact hx)
          · refine R.b bk_X8_richest_65 ?_
            refine R.j gt_X8_richest_67 ?_
            refine R.b bk_X8_richest_71 ?_
            refine R.j gt_X8_richest_75 ?_
            rw [nI_inc]
            have hx := ih (i + 1) (by omega) (by omega)
            rw [A_rich] at hx
            first
            | (rw [if_pos (Or.inl h44)] at hx; exact hx)
            | (rw [hI1] at h62; rw [if_neg (not_or.mpr ⟨h44, by rw [hbe, hcb]; exact Int32.not_lt.mpr h62⟩), hbe] at hx; exact hx)
            | (rw [hI1] at h62; rw [if_pos (Or.inr (by rw [hbe, hcb]; exact Int32.not_le.mp h62))] at hx; exact hx)
    exact hA mm 0 rfl (Nat.zero_le _)
  · refine R.b bk_X8_richest_11 ?_
    refine R.ri rt_X8_richest_13 rfl ⟨_, rfl, ?_⟩
    exact ⟨by simp_all [F_richest, isD], fun q _ _ _ => rfl⟩
theorem c_X8_brings {l : Launch} {G : Gt} {M : Mm} {d n : Int32} {mm : Nat} (hV : VR (M 104) mm) : Runs l G true dm_X8_brings 6 127 [.ref 103, .int d, .int n] M 127 (Pi (fun x M1 => x = F_brings (M 104) d n ∧ ∀ q, q ≠ 107 → q ≠ 116 → q ≠ 117 → M1 q = M q)) := by
  refine mx_run ow_X8_brings rfl rfl (fun dp X hdp R => ?_)
  refine R.b bk_X8_brings_0 ?_
  refine R.V1i kc_X8_brings_2 (by first | rfl | assumption) (c_X8_isDistrict) (by omega) rfl ⟨Nat.le_refl _, Nat.le_refl _⟩ (fun x2 M2 q2 => ?_)
  obtain ⟨rfl, q2⟩ := q2
  replace q2 := q2.symm
  subst q2
  refine R.c br_X8_brings_5 (And.intro (fun h5 => ?_) (fun h5 => ?_))
  · refine R.b bk_X8_brings_19 ?_
    refine R.ri rt_X8_brings_21 rfl ⟨_, rfl, ?_⟩
    exact ⟨by simp_all [F_brings, isD], fun q _ _ _ => rfl⟩
  · refine R.b bk_X8_brings_8 ?_
    refine R.S3i kc_X8_brings_13 (c_X8_in) (by omega) rfl ⟨Nat.le_refl _, Nat.le_refl _⟩ (fun x13 M13 q13 => ?_)
    obtain ⟨rfl, q13⟩ := q13
    replace q13 := q13.symm
    subst q13
    refine R.c br_X8_brings_16 (And.intro (fun h16 => ?_) (fun h16 => ?_))
    · have hmm := hV.1
      obtain ⟨dn, hdn, rfl⟩ := f_in_dist (by omega) hV.2.1 h5
      have hcd : cN (nI dn) = dn := cN_nI (by omega)
      obtain ⟨nn, hnn, rfl⟩ := f_in_nat (n := 300) (by decide) h16
      have hcnn : cN (nI nn) = nn := cN_nI (by omega)
      refine R.b bk_X8_brings_22 ?_
      refine R.V2i kc_X8_brings_25 (by first | rfl | assumption) (c_X8_of (d := dn) (w := 5) (by omega)) (by omega) rfl ⟨Nat.le_refl _, Nat.le_refl _⟩ (fun x25 M25 q25 => ?_)
      obtain ⟨rfl, q25⟩ := q25
      replace q25 := q25.symm
      subst q25
      refine R.c br_X8_brings_28 (And.intro (fun h28 => ?_) (fun h28 => ?_))
      · refine R.b bk_X8_brings_34 ?_
        refine R.V0v kc_X8_brings_35 (by first | rfl | assumption) (c_X8_thinks) (by omega) rfl ⟨Nat.le_refl _, Nat.le_refl _⟩ (fun M35 q35 => ?_)
        replace q35 := q35.symm
        subst q35
        refine R.b bk_X8_brings_38 ?_
        refine R.V1i kc_X8_brings_40 (by first | rfl | assumption) (c_X8_goesOn (n := nn) (by omega) (by rw [mx_rw_ne (show 104 ≠ 107 by decide)]; exact hV)) (by omega) rfl ⟨Nat.le_refl _, Nat.le_refl _⟩ (fun x40 M40 q40 => ?_)
        obtain ⟨-, e40, f40⟩ := q40
        rw [mx_rw_ne (show 104 ≠ 107 by decide)] at e40
        refine R.b bk_X8_brings_43 ?_
        refine R.V2i kc_X8_brings_48 (by first | rfl | assumption) (c_X8_of (d := dn) (w := 7) (by omega)) (by omega) rfl ⟨Nat.le_refl _, Nat.le_refl _⟩ (fun x48 M48 q48 => ?_)
        obtain ⟨rfl, q48⟩ := q48
        replace q48 := q48.symm
        subst q48
        refine R.b bk_X8_brings_51 ?_
        refine R.V0v kc_X8_brings_54 (by first | rfl | assumption) (c_X8_putsBack) (by omega) rfl ⟨Nat.le_refl _, Nat.le_refl _⟩ (fun M54 q54 => ?_)
        have p54 := put_back e40 (fun j hj => A_go_keep hV hj nn) f40
        rw [← q54] at p54
        have e54 : M54 104 = M 104 := p54 104 (by decide) (by decide) (by decide)
        have t54 : M54 107 = cut 55 (M 104) (M 107) := by rw [q54, mx_rw_ne (by decide), f40 107 (by decide) (by decide) (by decide), mx_rw_at]
        refine R.b bk_X8_brings_57 ?_
        refine R.V1v kc_X8_brings_59 (by first | rfl | assumption) (c_X8_hides (d := dn) (by omega)) (by omega) rfl ⟨Nat.le_refl _, Nat.le_refl _⟩ (fun M59 q59 => ?_)
        replace q59 := q59.symm
        subst q59
        refine R.b bk_X8_brings_62 ?_
        refine R.V1i kc_X8_brings_64 (by first | rfl | assumption) (c_X8_goesOn (n := nn) (mm := mm) (by omega) (by rw [mx_rw_at, e54]; exact VR_hides hV (by omega))) (by omega) rfl ⟨Nat.le_refl _, Nat.le_refl _⟩ (fun x64 M64 q64 => ?_)
        obtain ⟨-, e64, f64⟩ := q64
        rw [mx_rw_at, e54] at e64
        refine R.b bk_X8_brings_67 ?_
        refine R.V2i kc_X8_brings_72 (by first | rfl | assumption) (c_X8_of (d := dn) (w := 7) (by omega)) (by omega) rfl ⟨Nat.le_refl _, Nat.le_refl _⟩ (fun x72 M72 q72 => ?_)
        obtain ⟨rfl, q72⟩ := q72
        replace q72 := q72.symm
        subst q72
        refine R.b bk_X8_brings_75 ?_
        refine R.V0v kc_X8_brings_78 (by first | rfl | assumption) (c_X8_putsBack) (by omega) rfl ⟨Nat.le_refl _, Nat.le_refl _⟩ (fun M78 q78 => ?_)
        replace q78 := q78.symm
        subst q78
        refine R.b bk_X8_brings_81 ?_
        refine R.ri rt_X8_brings_86 rfl ⟨_, rfl, ?_⟩
        refine ⟨?_, ?_⟩
        · unfold F_brings isD
          rw [if_neg (not_or.mpr ⟨h5, h16⟩), hcd, hcnn, if_neg h28, e40, e64]
        · intro q h1 h2 h3
          by_cases hq : q = 104
          · subst hq
            rw [mx_rw_at, f64 107 (by decide) (by decide) (by decide), mx_rw_ne (by decide), t54, e64]
            refine cut_back (fun j hj => ?_)
            rw [A_go_keep (VR_hides hV (by omega)) hj nn, A_hides, up_ne (by omega), up_ne (by omega)]
          · rw [mx_rw_ne hq, f64 q hq h2 h3, mx_rw_ne hq]
            exact p54 q h1 h2 h3
      · refine R.b bk_X8_brings_31 ?_
        refine R.ri rt_X8_brings_33 rfl ⟨_, rfl, ?_⟩
        exact ⟨by simp_all [F_brings, isD], fun q _ _ _ => rfl⟩
    · refine R.b bk_X8_brings_19 ?_
      refine R.ri rt_X8_brings_21 rfl ⟨_, rfl, ?_⟩
      exact ⟨by simp_all [F_brings, isD], fun q _ _ _ => rfl⟩
