/-! the check -/
abbrev C1 (b wt : Rw) (wn mm i : Nat) : Prop := 2 * i < wn ∧ wt (2 * i) = A_fairs (A_go b (i + 1)) mm
abbrev C2 (b wt : Rw) (wn mm i : Nat) : Prop := 2 * i + 1 < wn ∧ wt (2 * i + 1) = A_sum (A_go b (i + 1)) 7 mm
def A_ck (b wt : Rw) (wn mm : Nat) : Nat → Nat
  | 0 => 0
  | i + 1 => if A_ck b wt wn mm i = 2 * i then (if C1 b wt wn mm i then (if C2 b wt wn mm i then 2 * i + 2 else 2 * i + 1) else 2 * i) else A_ck b wt wn mm i
theorem A_ck_le (b wt : Rw) (wn mm : Nat) : ∀ i, A_ck b wt wn mm i ≤ 2 * i
  | 0 => Nat.le_refl 0
  | i + 1 => by
    have h := A_ck_le b wt wn mm i
    unfold A_ck
    split
    · split
      · split <;> omega
      · omega
    · omega
theorem A_ck_stop {b wt : Rw} {wn mm i : Nat} (h : A_ck b wt wn mm i ≠ 2 * i) : ∀ j, A_ck b wt wn mm (i + j) = A_ck b wt wn mm i
  | 0 => rfl
  | j + 1 => by
    have h1 := A_ck_stop h j
    have h2 := A_ck_le b wt wn mm i
    rw [← Nat.add_assoc, A_ck, if_neg (by omega), h1]
def F_check (b : Rw) (has : Int32) (wt : Rw) (wn : Nat) (n : Int32) : Int32 := if f_in n 1 30 = 0 then (-1000000001) else if has = 0 then (-1000000002) else if A_ck b wt wn (cN (b 1)) (f_days b n) = wn ∧ A_ck b wt wn (cN (b 1)) (f_days b n) = 2 * f_days b n then 0 else nI (1 + A_ck b wt wn (cN (b 1)) (f_days b n))
theorem cut_all {n : Nat} {f g : Rw} (h : ∀ j, n ≤ j → f j = g j) : cut n f g = f := by
  funext j
  simp only [cut]
  split
  · rfl
  · exact (h j (by omega)).symm
theorem nI_2 (i : Nat) : (2 : Int32) * nI i = nI (2 * i) := pk_mul 2 i
theorem c_X8_check {l : Launch} {G : Gt} {M : Mm} {n : Int32} {mm wn : Nat} (hwn : wn ≤ 60) (hw : M 103 34 = nI wn) (hV0 : M 103 3 ≠ 0 → VR (M 105) mm) (z104 : ∀ j, 1427 ≤ j → M 104 j = 0) (z105 : ∀ j, 1427 ≤ j → M 105 j = 0) (hz6 : ∀ j, 1427 ≤ j → M 106 j = 0) : Runs l G true dm_X8_check 6 127 [.ref 103, .int n] M 127 (Pi (fun x M1 => x = F_check (M 105) (M 103 3) (M 126) wn n ∧ (∀ j, 1427 ≤ j → M1 106 j = 0) ∧ ∀ q, q ≠ 106 → q ≠ 116 → q ≠ 117 → M1 q = (mx_wr M 103 34 0) q)) := by
  refine mx_run ow_X8_check rfl rfl (fun dp X hdp R => ?_)
  refine R.b bk_X8_check_0 (And.intro (by first | rfl | assumption) (And.intro (by first | rfl | assumption) (And.intro rfl (And.intro rfl ?_))))
  refine R.S3i kc_X8_check_14 (c_X8_in) (by omega) rfl ⟨Nat.le_refl _, Nat.le_refl _⟩ (fun x14 M14 q14 => ?_)
  obtain ⟨rfl, q14⟩ := q14
  replace q14 := q14.symm
  subst q14
  refine R.c br_X8_check_17 (And.intro (fun h17 => ?_) (fun h17 => ?_))
  · refine R.b bk_X8_check_23 (And.intro (by first | rfl | assumption) ?_)
    refine R.c br_X8_check_27 (And.intro (fun h27 => ?_) (fun h27 => ?_))
    · obtain ⟨nn, hnn, rfl⟩ := f_in_1 (n := 30) (by decide) h17
      have hV := hV0 h27
      have hmm := hV.1
      obtain ⟨K, hK, eK⟩ := f_held_nat (v := 99999 - M 105 2) (b := nI nn) (nI_toInt (by omega))
      refine R.b bk_X8_check_33 (And.intro (by first | rfl | assumption) (And.intro (by first | rfl | assumption) ?_))
      refine R.S2v kc_X8_check_41 (c_X8_copyAll (k1 := 104) (k2 := 106) rfl rfl (by decide)) (by omega) rfl ⟨Nat.le_refl _, Nat.le_refl _⟩ (fun M41 q41 => ?_)
      replace q41 := q41.symm
      subst q41
      refine R.b bk_X8_check_44 (And.intro (by first | rfl | assumption) (And.intro (by first | rfl | assumption) ?_))
      refine R.S2v kc_X8_check_52 (c_X8_copyAll (k1 := 105) (k2 := 104) rfl rfl (by decide)) (by omega) rfl ⟨Nat.le_refl _, Nat.le_refl _⟩ (fun M52 q52 => ?_)
      have e52 : M52 = (mx_rw (mx_rw (mx_wr M 103 34 0) 106 (cut 1427 (M 104) (M 106))) 104 (M 105)) := by
        rw [q52]
        exact congrArg (fun t => mx_rw (mx_rw (mx_wr M 103 34 0) 106 (cut 1427 (M 104) (M 106))) 104 t) (cut_all (f := M 105) (g := M 104) (fun j hj => (z105 j hj).trans (z104 j hj).symm))
      clear q52
      subst e52
      refine R.b bk_X8_check_55 (And.intro (by first | rfl | assumption) (And.intro (by first | rfl | assumption) (And.intro (by exact vp_lit rfl) ?_)))
      refine R.S3i kc_X8_check_67 (c_X8_within) (by omega) rfl ⟨Nat.le_refl _, Nat.le_refl _⟩ (fun x67 M67 q67 => ?_)
      obtain ⟨e67, q67⟩ := q67
      replace e67 : x67 = f_held (99999 - M 105 2) 0 (nI nn) := e67
      rw [eK] at e67
      subst e67
      replace q67 := q67.symm
      subst q67
      refine R.b bk_X8_check_70 ?_
      have hcK : f_days (M 105) (nI nn) = K := by rw [f_days, eK]; exact cN_nI (by omega)
      have hF : F_check (M 105) (M 103 3) (M 126) wn (nI nn) = if A_ck (M 105) (M 126) wn mm K = wn ∧ A_ck (M 105) (M 126) wn mm K = 2 * K then 0 else nI (1 + A_ck (M 105) (M 126) wn mm K) := by
        rw [F_check, if_neg h17, if_neg (show ¬ M 103 3 = 0 from h27), hcK, hV.2.1, cN_nI (by omega)]
      have hX : ∀ (M1 : Mm) (i : Nat) (c6 : Option Value), M1 104 = A_go (M 105) i → (∀ q, q ≠ 104 → q ≠ 116 → q ≠ 117 → M1 q = (mx_rw (mx_rw (mx_wr M 103 34 0) 106 (cut 1427 (M 104) (M 106))) 104 (M 105)) q) → i ≤ K → A_ck (M 105) (M 126) wn mm K = A_ck (M 105) (M 126) wn mm i → X 127 M1 180 [some (.ref 103), some (.int (nI nn)), some (.int (nI wn)), some (.int (nI (2 * K))), some (.int (nI (A_ck (M 105) (M 126) wn mm i))), some (.int (nI i)), c6] [] := by
        intro M1 i c6 e104 hfr hiK hR
        rw [← hR]
        have hRK := A_ck_le (M 105) (M 126) wn mm K
        have k106 : M1 106 = cut 1427 (M 104) (M 106) := by rw [hfr 106 (by decide) (by decide) (by decide), mx_rw_ne (by decide), mx_rw_at]
        refine R.b bk_X8_check_180 (And.intro (by first | rfl | assumption) (And.intro (by first | rfl | assumption) ?_))
        refine R.S2v kc_X8_check_188 (c_X8_copyAll (k1 := 106) (k2 := 104) rfl rfl (by decide)) (by omega) rfl ⟨Nat.le_refl _, Nat.le_refl _⟩ (fun M188 q188 => ?_)
        replace q188 := q188.symm
        subst q188
        refine R.b bk_X8_check_191 ?_
        refine R.c br_X8_check_194 (And.intro (fun h194 => ?_) (fun h194 => ?_))
        · refine R.b bk_X8_check_207 ?_
          refine R.ri rt_X8_check_211 rfl ⟨_, rfl, ?_⟩
          refine ⟨?_, fun j hj => ?_, fun q g1 g2 g3 => ?_⟩
          · rw [hF]
            first | (rw [if_pos ⟨(nI_eq (by omega) (by omega)).mp h194, (nI_eq (by omega) (by omega)).mp h200⟩]; done) | (rw [if_neg (fun q => h194 (by rw [q.1]))]; exact nI_add 1 _) | (rw [if_neg (fun q => h200 (by rw [q.2]))]; exact nI_add 1 _)
          · rw [mx_rw_ne (by decide), k106, cut, if_neg (by omega)]
            exact hz6 j hj
          · by_cases hq : q = 104
            · subst hq
              rw [mx_rw_at, k106, e104]
              refine (cut_all (fun j hj => ?_)).trans ?_
              · rw [cut, if_neg (by omega), A_go_keep hV (by omega), z105 j hj]; exact hz6 j hj
              · rw [cut_all (fun j hj => (z104 j hj).trans (hz6 j hj).symm)]; rfl
            · rw [mx_rw_ne hq, hfr q hq g2 g3, mx_rw_ne hq, mx_rw_ne g1]
        · refine R.b bk_X8_check_197 ?_
          refine R.c br_X8_check_200 (And.intro (fun h200 => ?_) (fun h200 => ?_))
          · refine R.b bk_X8_check_207 ?_
            refine R.ri rt_X8_check_211 rfl ⟨_, rfl, ?_⟩
            refine ⟨?_, fun j hj => ?_, fun q g1 g2 g3 => ?_⟩
            · rw [hF]
              first | (rw [if_pos ⟨(nI_eq (by omega) (by omega)).mp h194, (nI_eq (by omega) (by omega)).mp h200⟩]; done) | (rw [if_neg (fun q => h194 (by rw [q.1]))]; exact nI_add 1 _) | (rw [if_neg (fun q => h200 (by rw [q.2]))]; exact nI_add 1 _)
            · rw [mx_rw_ne (by decide), k106, cut, if_neg (by omega)]
              exact hz6 j hj
            · by_cases hq : q = 104
              · subst hq
                rw [mx_rw_at, k106, e104]
                refine (cut_all (fun j hj => ?_)).trans ?_
                · rw [cut, if_neg (by omega), A_go_keep hV (by omega), z105 j hj]; exact hz6 j hj
                · rw [cut_all (fun j hj => (z104 j hj).trans (hz6 j hj).symm)]; rfl
              · rw [mx_rw_ne hq, hfr q hq g2 g3, mx_rw_ne hq, mx_rw_ne g1]
          · refine R.b bk_X8_check_203 ?_
            refine R.j gt_X8_check_204 ?_
            refine R.ri rt_X8_check_211 rfl ⟨_, rfl, ?_⟩
            refine ⟨?_, fun j hj => ?_, fun q g1 g2 g3 => ?_⟩
            · rw [hF]
              first | (rw [if_pos ⟨(nI_eq (by omega) (by omega)).mp h194, (nI_eq (by omega) (by omega)).mp h200⟩]; done) | (rw [if_neg (fun q => h194 (by rw [q.1]))]; exact nI_add 1 _) | (rw [if_neg (fun q => h200 (by rw [q.2]))]; exact nI_add 1 _)
            · rw [mx_rw_ne (by decide), k106, cut, if_neg (by omega)]
              exact hz6 j hj
            · by_cases hq : q = 104
              · subst hq
                rw [mx_rw_at, k106, e104]
                refine (cut_all (fun j hj => ?_)).trans ?_
                · rw [cut, if_neg (by omega), A_go_keep hV (by omega), z105 j hj]; exact hz6 j hj
                · rw [cut_all (fun j hj => (z104 j hj).trans (hz6 j hj).symm)]; rfl
              · rw [mx_rw_ne hq, hfr q hq g2 g3, mx_rw_ne hq, mx_rw_ne g1]
      have hA : ∀ (fu i : Nat) (M1 : Mm) (c6 : Option Value), K - i = fu → i ≤ K → (M1 104 = A_go (M 105) i) → (∀ q, q ≠ 104 → q ≠ 116 → q ≠ 117 → M1 q = (mx_rw (mx_rw (mx_wr M 103 34 0) 106 (cut 1427 (M 104) (M 106))) 104 (M 105)) q) → True → X 127 M1 78 [some (.ref 103), some (.int (nI nn)), some (.int (nI wn)), some (.int (nI (2 * K))), some (.int (nI (A_ck (M 105) (M 126) wn mm i))), some (.int (nI i)), c6] [] := by
        intro fu
        induction fu with
        | zero =>
          intro i M1 c6 hfu hi hI1 hI2 _
          have hiN : i = K := by omega
          refine R.b bk_X8_check_78 ?_
          refine R.c br_X8_check_83 (And.intro (fun h83 => ?_) (fun h83 => absurd (by rw [nI_2, hiN]; exact nI_le (Nat.le_refl _) (by omega)) h83))
          exact hX M1 i c6 hI1 hI2 (by omega) (by rw [hiN])
        | succ fu ih =>
          intro i M1 c6 hfu hi hI1 hI2 _
          have hRi := A_ck_le (M 105) (M 126) wn mm i
          refine R.b bk_X8_check_78 ?_
          refine R.c br_X8_check_83 (And.intro (fun h83 => absurd h83 (by rw [nI_2]; exact nI_ge (by omega) (by omega))) (fun h83 => ?_))
          refine R.b bk_X8_check_86 ?_
          refine R.c br_X8_check_92 (And.intro (fun h92 => ?_) (fun h92 => ?_))
          · exact hX M1 i c6 hI1 hI2 (by omega) (by rw [nI_2, nI_eq (by omega) (by omega)] at h92; rw [show K = i + (K - i) by omega]; exact A_ck_stop h92 _)
          · rw [nI_2, nI_eq (by omega) (by omega)] at h92
            have hI3 := h92
            rw [h92]
            refine R.b bk_X8_check_95 ?_
            refine R.V0i kc_X8_check_96 (by first | rfl | assumption) (c_X8_day (mm := mm) (by rw [hI1]; exact VR_go hV i)) (by omega) rfl ⟨Nat.le_refl _, Nat.le_refl _⟩ (fun x96 M96 q96 => ?_)
            obtain ⟨-, e96, f96⟩ := q96
            rw [hI1] at e96
            replace e96 : M96 104 = A_go (M 105) (i + 1) := e96
            have k96 : ∀ q, q ≠ 104 → q ≠ 116 → q ≠ 117 → M96 q = (mx_rw (mx_rw (mx_wr M 103 34 0) 106 (cut 1427 (M 104) (M 106))) 104 (M 105)) q := fun q g1 g2 g3 => by rw [f96 q g1 g2 g3]; exact hI2 q g1 g2 g3
            have e1 : M96 104 1 = nI mm := by rw [e96]; exact (VR_go hV (i + 1)).2.1
            have w96 : M96 126 = M 126 := by rw [k96 126 (by decide) (by decide) (by decide), mx_rw_ne (by decide), mx_rw_ne (by decide)]; rfl
            have hY : C1 (M 105) (M 126) wn mm i → X 127 M96 128 [some (.ref 103), some (.int (nI nn)), some (.int (nI wn)), some (.int (nI (2 * K))), some (.int (nI (2 * i))), some (.int (nI i)), some (.int x96)] [.int 1, .int (nI (2 * i))] := by
              intro hc
              refine R.b bk_X8_check_128 ?_
              refine R.c br_X8_check_141 (And.intro (fun h141 => absurd (by rw [nI_2]) h141) (fun h141 => ?_))
              refine R.b bk_X8_check_144 ?_
              refine R.c br_X8_check_147 (And.intro (fun h147 => ?_) (fun h147 => ?_))
              · refine R.b bk_X8_check_170 ?_
                refine R.b bk_X8_check_171 ?_
                refine R.j gt_X8_check_177 ?_
                have hcl : (nI (2 * i) + 1).toNatClampNeg = 2 * i + 1 := cl_n (nI_1 _) (by omega)
                rw [nI_inc]
                have hx := fun h => ih (i + 1) M96 (some (.int x96)) (by omega) (by omega) e96 k96 h
                have hR : A_ck (M 105) (M 126) wn mm (i + 1) = if C2 (M 105) (M 126) wn mm i then 2 * i + 2 else 2 * i + 1 := by rw [A_ck, if_pos hI3, if_pos hc]
                first
                | (rw [if_neg (fun q : C2 (M 105) (M 126) wn mm i => absurd q.1 (Nat.not_lt.mpr ((nI_leI (by omega) (by omega)).mp (show nI wn ≤ nI (2 * i + 1) by rw [← nI_1]; exact h147))))] at hR; rw [hR] at hx; rw [Int32.add_zero, nI_1]; exact hx trivial)
                | (rw [hcl, w96, e96] at h163; rw [if_neg (fun q : C2 (M 105) (M 126) wn mm i => h163 q.2)] at hR; rw [hR] at hx; rw [Int32.add_zero, nI_1]; exact hx trivial)
                | (rw [hcl, w96, e96] at h163; rw [if_pos (show C2 (M 105) (M 126) wn mm i from ⟨by have := nI_lt8 (by omega) (by omega) (show ¬ nI wn ≤ nI (2 * i + 1) by rw [← nI_1]; exact h147); omega, h163⟩)] at hR; rw [hR] at hx; rw [nI_1, nI_1]; exact hx trivial)
              · refine R.b bk_X8_check_150 (And.intro (by first | rfl | assumption) (And.intro (by first | rfl | assumption) (And.intro (by rw [nI_1]; exact (vp_in_nI (show 2 * i + 1 < 60 by have := nI_lt8 (by omega) (by omega) (show ¬ nI wn ≤ nI (2 * i + 1) by rw [← nI_1]; exact h147); omega) (by decide))) ?_)))
                refine R.V1i kc_X8_check_160 (by first | rfl | assumption) (c_X8_sumOf (w := 7) (m := mm) (by decide) hmm e1) (by omega) rfl ⟨Nat.le_refl _, Nat.le_refl _⟩ (fun x160 M160 q160 => ?_)
                obtain ⟨rfl, q160⟩ := q160
                replace q160 := q160.symm
                subst q160
                refine R.c br_X8_check_163 (And.intro (fun h163 => ?_) (fun h163 => ?_))
                · refine R.b bk_X8_check_170 ?_
                  refine R.b bk_X8_check_171 ?_
                  refine R.j gt_X8_check_177 ?_
                  have hcl : (nI (2 * i) + 1).toNatClampNeg = 2 * i + 1 := cl_n (nI_1 _) (by omega)
                  rw [nI_inc]
                  have hx := fun h => ih (i + 1) M96 (some (.int x96)) (by omega) (by omega) e96 k96 h
                  have hR : A_ck (M 105) (M 126) wn mm (i + 1) = if C2 (M 105) (M 126) wn mm i then 2 * i + 2 else 2 * i + 1 := by rw [A_ck, if_pos hI3, if_pos hc]
                  first
                  | (rw [if_neg (fun q : C2 (M 105) (M 126) wn mm i => absurd q.1 (Nat.not_lt.mpr ((nI_leI (by omega) (by omega)).mp (show nI wn ≤ nI (2 * i + 1) by rw [← nI_1]; exact h147))))] at hR; rw [hR] at hx; rw [Int32.add_zero, nI_1]; exact hx trivial)
                  | (rw [hcl, w96, e96] at h163; rw [if_neg (fun q : C2 (M 105) (M 126) wn mm i => h163 q.2)] at hR; rw [hR] at hx; rw [Int32.add_zero, nI_1]; exact hx trivial)
                  | (rw [hcl, w96, e96] at h163; rw [if_pos (show C2 (M 105) (M 126) wn mm i from ⟨by have := nI_lt8 (by omega) (by omega) (show ¬ nI wn ≤ nI (2 * i + 1) by rw [← nI_1]; exact h147); omega, h163⟩)] at hR; rw [hR] at hx; rw [nI_1, nI_1]; exact hx trivial)
                · refine R.b bk_X8_check_166 ?_
                  refine R.j gt_X8_check_167 ?_
                  refine R.b bk_X8_check_171 ?_
                  refine R.j gt_X8_check_177 ?_
                  have hcl : (nI (2 * i) + 1).toNatClampNeg = 2 * i + 1 := cl_n (nI_1 _) (by omega)
                  rw [nI_inc]
                  have hx := fun h => ih (i + 1) M96 (some (.int x96)) (by omega) (by omega) e96 k96 h
                  have hR : A_ck (M 105) (M 126) wn mm (i + 1) = if C2 (M 105) (M 126) wn mm i then 2 * i + 2 else 2 * i + 1 := by rw [A_ck, if_pos hI3, if_pos hc]
                  first
                  | (rw [if_neg (fun q : C2 (M 105) (M 126) wn mm i => absurd q.1 (Nat.not_lt.mpr ((nI_leI (by omega) (by omega)).mp (show nI wn ≤ nI (2 * i + 1) by rw [← nI_1]; exact h147))))] at hR; rw [hR] at hx; rw [Int32.add_zero, nI_1]; exact hx trivial)
                  | (rw [hcl, w96, e96] at h163; rw [if_neg (fun q : C2 (M 105) (M 126) wn mm i => h163 q.2)] at hR; rw [hR] at hx; rw [Int32.add_zero, nI_1]; exact hx trivial)
                  | (rw [hcl, w96, e96] at h163; rw [if_pos (show C2 (M 105) (M 126) wn mm i from ⟨by have := nI_lt8 (by omega) (by omega) (show ¬ nI wn ≤ nI (2 * i + 1) by rw [← nI_1]; exact h147); omega, h163⟩)] at hR; rw [hR] at hx; rw [nI_1, nI_1]; exact hx trivial)
            have hN : ¬ C1 (M 105) (M 126) wn mm i → X 127 M96 128 [some (.ref 103), some (.int (nI nn)), some (.int (nI wn)), some (.int (nI (2 * K))), some (.int (nI (2 * i))), some (.int (nI i)), some (.int x96)] [.int 0, .int (nI (2 * i))] := by
              intro hc
              refine R.b bk_X8_check_128 ?_
              refine R.c br_X8_check_141 (And.intro (fun h141 => ?_) (fun h141 => absurd h141 (by rw [nI_2, nI_1, Int32.add_zero, nI_eq (by omega) (by omega)]; omega)))
              refine R.b bk_X8_check_170 ?_
              refine R.b bk_X8_check_171 ?_
              refine R.j gt_X8_check_177 ?_
              rw [nI_inc]
              have hx := fun h => ih (i + 1) M96 (some (.int x96)) (by omega) (by omega) e96 k96 h
              have hR : A_ck (M 105) (M 126) wn mm (i + 1) = 2 * i := by rw [A_ck, if_pos hI3, if_neg hc]
              rw [hR] at hx
              rw [Int32.add_zero, Int32.add_zero]
              exact hx trivial
            refine R.b bk_X8_check_99 ?_
            refine R.c br_X8_check_106 (And.intro (fun h106 => ?_) (fun h106 => ?_))
            · refine R.b bk_X8_check_127 ?_
              have hcl : (nI (2 * i)).toNatClampNeg = 2 * i := nI_clamp (by omega)
              first
              | exact hN (fun q => absurd q.1 (Nat.not_lt.mpr ((nI_leI (by omega) (by omega)).mp h106)))
              | (rw [hcl, w96, e96] at h120; exact hN (fun q => h120 q.2))
              | (rw [hcl, w96, e96] at h120; exact hY ⟨nI_lt8 (by omega) (by omega) h106, h120⟩)
            · refine R.b bk_X8_check_109 (And.intro (by first | rfl | assumption) (And.intro (by first | rfl | assumption) (And.intro (vp_in_nI (show 2 * i < 60 by have := nI_lt8 (by omega) (by omega) h106; omega) (by decide)) ?_)))
              refine R.V0i kc_X8_check_117 (by first | rfl | assumption) (c_X8_fairs (m := mm) hmm e1) (by omega) rfl ⟨Nat.le_refl _, Nat.le_refl _⟩ (fun x117 M117 q117 => ?_)
              obtain ⟨rfl, q117⟩ := q117
              replace q117 := q117.symm
              subst q117
              refine R.c br_X8_check_120 (And.intro (fun h120 => ?_) (fun h120 => ?_))
              · refine R.b bk_X8_check_127 ?_
                have hcl : (nI (2 * i)).toNatClampNeg = 2 * i := nI_clamp (by omega)
                first
                | exact hN (fun q => absurd q.1 (Nat.not_lt.mpr ((nI_leI (by omega) (by omega)).mp h106)))
                | (rw [hcl, w96, e96] at h120; exact hN (fun q => h120 q.2))
                | (rw [hcl, w96, e96] at h120; exact hY ⟨nI_lt8 (by omega) (by omega) h106, h120⟩)
              · refine R.b bk_X8_check_123 ?_
                refine R.j gt_X8_check_124 ?_
                have hcl : (nI (2 * i)).toNatClampNeg = 2 * i := nI_clamp (by omega)
                first
                | exact hN (fun q => absurd q.1 (Nat.not_lt.mpr ((nI_leI (by omega) (by omega)).mp h106)))
                | (rw [hcl, w96, e96] at h120; exact hN (fun q => h120 q.2))
                | (rw [hcl, w96, e96] at h120; exact hY ⟨nI_lt8 (by omega) (by omega) h106, h120⟩)
      have hx := hA K 0 (mx_rw (mx_rw (mx_wr M 103 34 0) 106 (cut 1427 (M 104) (M 106))) 104 (M 105)) none rfl (Nat.zero_le _) (mx_rw_at _ _ _) (fun q _ _ _ => rfl) trivial
      rw [← nI_2, ← hw] at hx
      exact hx
    · refine R.b bk_X8_check_30 ?_
      refine R.ri rt_X8_check_32 rfl ⟨_, rfl, ?_⟩
      first | exact ⟨by rw [F_check, if_pos h17], hz6, fun q _ _ _ => rfl⟩ | exact ⟨by rw [F_check, if_neg h17]; exact (if_pos h27).symm, hz6, fun q _ _ _ => rfl⟩
  · refine R.b bk_X8_check_20 ?_
    refine R.ri rt_X8_check_22 rfl ⟨_, rfl, ?_⟩
    first | exact ⟨by rw [F_check, if_pos h17], hz6, fun q _ _ _ => rfl⟩ | exact ⟨by rw [F_check, if_neg h17]; exact (if_pos h27).symm, hz6, fun q _ _ _ => rfl⟩
