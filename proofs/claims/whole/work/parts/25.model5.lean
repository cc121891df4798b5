/-! a day of all districts -/
def F_births (a : Rw) (d x : Int32) : Int32 := if isD a d = 0 ∨ f_in x 0 9 = 0 then (-1000000001) else A_births a (cN d) x
def A_x (a : Rw) (d : Nat) : Int32 := f_rem (f_dr (f_dz (a 0))) (a (7 + 8 * d + 1) + 1)
def A_d2 (a : Rw) (d : Nat) : Rw := fun j => if j = 7 + 8 * d + 5 then a j + A_births (A_draw a) d (A_x a d) else if j = 7 + 8 * d + 7 then a j - a 4 else if j = 7 + 8 * d + 4 then a j + 1 else if j = 0 then f_dz (a 0) else a j
def A_end (a : Rw) (d : Nat) : Prop := A_d2 a d (7 + 8 * d + 4) = A_d2 a d (7 + 8 * d + 3)
def A_dayD (a : Rw) (d : Nat) : Rw := if A_d2 a d (7 + 8 * d + 4) = A_d2 a d (7 + 8 * d + 3) then A_week (A_d2 a d) d else A_d2 a d
def A_wkD (a : Rw) (d : Nat) : Int32 := if A_d2 a d (7 + 8 * d + 4) = A_d2 a d (7 + 8 * d + 3) then 1 else 0
def A_dayN (a : Rw) : Nat → Rw
  | 0 => a
  | d + 1 => A_dayD (A_dayN a d) d
def A_wkN (a : Rw) : Nat → Int32
  | 0 => 0
  | d + 1 => A_wkN a d + A_wkD (A_dayN a d) d
def A_day (a : Rw) : Rw := up (A_dayN a (cN (a 1))) 2 (A_dayN a (cN (a 1)) 2 + 1)
def A_wk (a : Rw) : Int32 := A_wkN a (cN (a 1))
theorem A_dayD_keep {a : Rw} {d j : Nat} (h0 : j ≠ 0) (h : j < 7 + 8 * d ∨ 15 + 8 * d ≤ j ∨ j = 7 + 8 * d ∨ j = 7 + 8 * d + 1) : A_dayD a d j = a j := by
  unfold A_dayD
  split
  · simp only [A_week, A_d2]
    grind
  · simp only [A_d2]
    grind
theorem A_dayN_keep {a : Rw} {j : Nat} (h0 : j ≠ 0) : ∀ n, (j < 7 ∨ 7 + 8 * n ≤ j ∨ j % 8 = 7 ∨ j % 8 = 0) → A_dayN a n j = a j
  | 0, _ => rfl
  | n + 1, h => by
    unfold A_dayN
    rw [A_dayD_keep h0 (by omega), A_dayN_keep h0 n (by omega)]
theorem VT_congr {a b : Rw} (h : ∀ j, j = 6 ∨ 55 ≤ j → b j = a j) (hV : VT a) : VT b := by
  obtain ⟨T, h1, h2, h3⟩ := hV
  refine ⟨T, h1, by rw [h 6 (Or.inl rfl)]; exact h2, fun t ht => ?_⟩
  obtain ⟨k, n, g1, g2, g3, g4⟩ := h3 t ht
  refine ⟨k, n, g1, g2, by rw [h _ (Or.inr (by omega))]; exact g3, ?_⟩
  have e : (fun j => b (83 + 96 * t + j)) = fun j => a (83 + 96 * t + j) := by
    funext j
    exact h _ (Or.inr (by omega))
  rw [e]
  exact g4
/-- what a day needs of a row -/
def VR (a : Rw) (mm : Nat) : Prop := mm ≤ 6 ∧ a 1 = nI mm ∧ VT a ∧ ∀ d, d < mm → ∃ rt, rt ≤ 9 ∧ a (7 + 8 * d + 1) = nI rt
theorem VR_dayN {a : Rw} {mm : Nat} (h : VR a mm) : ∀ n, n ≤ mm → VR (A_dayN a n) mm := by
  intro n hn
  obtain ⟨h1, h2, h3, h4⟩ := h
  refine ⟨h1, by rw [A_dayN_keep (by decide) n (by omega)]; exact h2, VT_congr (fun j hj => A_dayN_keep (by omega) n (by omega)) h3, fun d hd => ?_⟩
  obtain ⟨rt, g1, g2⟩ := h4 d hd
  exact ⟨rt, g1, by rw [A_dayN_keep (by omega) n (by omega)]; exact g2⟩
theorem VR_day {a : Rw} {mm : Nat} (h : VR a mm) : VR (A_day a) mm := by
  have hm := h.1
  have hc : cN (a 1) = mm := by rw [h.2.1]; exact cN_nI (by omega)
  obtain ⟨h1, h2, h3, h4⟩ := VR_dayN h mm (Nat.le_refl mm)
  unfold A_day
  rw [hc]
  refine ⟨h1, by rw [up_ne (by decide)]; exact h2, VT_congr (fun j hj => up_ne (by omega)) h3, fun d hd => ?_⟩
  obtain ⟨rt, g1, g2⟩ := h4 d hd
  exact ⟨rt, g1, by rw [up_ne (by omega)]; exact g2⟩
theorem nI_succ_ne {r : Nat} (h : r ≤ 9) : ¬ nI r + 1 = 0 := by
  rw [nI_1]
  exact nI_ne0 (by omega) (by omega)
theorem c_X8_births {l : Launch} {G : Gt} {M : Mm} {d x : Int32} {m : Nat} (hm : m ≤ 6) (h1 : M 104 1 = nI m) (hV : VT (M 104)) : Runs l G true dm_X8_births 3 127 [.ref 103, .int d, .int x] M 127 (Pi (fun r M1 => r = F_births (M 104) d x ∧ ∀ q, q ≠ 116 → q ≠ 117 → M1 q = M q)) := by
  refine mx_run ow_X8_births rfl rfl (fun dp X hdp R => ?_)
  refine R.b bk_X8_births_0 ?_
  refine R.V1i kc_X8_births_2 (by first | rfl | assumption) (c_X8_isDistrict) (by omega) rfl ⟨Nat.le_refl _, Nat.le_refl _⟩ (fun x2 M2 q2 => ?_)
  obtain ⟨rfl, q2⟩ := q2
  replace q2 := q2.symm
  subst q2
  refine R.c br_X8_births_5 (And.intro (fun h5 => ?_) (fun h5 => ?_))
  · refine R.b bk_X8_births_27 ?_
    refine R.ri rt_X8_births_29 rfl ⟨_, rfl, ?_⟩
    first | exact ⟨by simp_all [F_births, isD], f21⟩ | exact ⟨by simp_all [F_births, isD], fun q _ _ => rfl⟩
  · refine R.b bk_X8_births_8 ?_
    refine R.S3i kc_X8_births_12 (c_X8_in) (by omega) rfl ⟨Nat.le_refl _, Nat.le_refl _⟩ (fun x12 M12 q12 => ?_)
    obtain ⟨rfl, q12⟩ := q12
    replace q12 := q12.symm
    subst q12
    refine R.c br_X8_births_15 (And.intro (fun h15 => ?_) (fun h15 => ?_))
    · refine R.b bk_X8_births_27 ?_
      refine R.ri rt_X8_births_29 rfl ⟨_, rfl, ?_⟩
      first | exact ⟨by simp_all [F_births, isD], f21⟩ | exact ⟨by simp_all [F_births, isD], fun q _ _ => rfl⟩
    · obtain ⟨dn, hdn, rfl⟩ := f_in_dist (by omega) h1 h5
      have hcd : cN (nI dn) = dn := cN_nI (by omega)
      refine R.b bk_X8_births_18 ?_
      refine R.V2i kc_X8_births_21 (by first | rfl | assumption) (c_X8_birthsOf (by omega) hV) (by omega) rfl ⟨Nat.le_refl _, Nat.le_refl _⟩ (fun x21 M21 q21 => ?_)
      obtain ⟨rfl, f21⟩ := q21
      refine R.j gt_X8_births_24 ?_
      refine R.ri rt_X8_births_29 rfl ⟨_, rfl, ?_⟩
      first | exact ⟨by simp_all [F_births, isD], f21⟩ | exact ⟨by simp_all [F_births, isD], fun q _ _ => rfl⟩
theorem c_X8_day {l : Launch} {G : Gt} {M : Mm} {mm : Nat} (hV : VR (M 104) mm) : Runs l G true dm_X8_day 4 127 [.ref 103] M 127 (Pi (fun x M1 => x = A_wk (M 104) ∧ M1 104 = A_day (M 104) ∧ ∀ q, q ≠ 104 → q ≠ 116 → q ≠ 117 → M1 q = M q)) := by
  refine mx_run ow_X8_day rfl rfl (fun dp X hdp R => ?_)
  have hm6 := hV.1
  have hcm : cN (M 104 1) = mm := by rw [hV.2.1]; exact cN_nI (by omega)
  have hA : ∀ (i : Nat) (s : Mm × Option Value), i ≤ mm → (s.1 104 = A_dayN (M 104) i ∧ ∀ q, q ≠ 104 → q ≠ 116 → q ≠ 117 → s.1 q = M q) → X 127 s.1 4 [some (.ref 103), some (.int (A_wkN (M 104) i)), some (.int (nI i)), s.2] [] := by
    refine mx_loop (σ := Mm × Option Value) (fun i s => X 127 s.1 4 [some (.ref 103), some (.int (A_wkN (M 104) i)), some (.int (nI i)), s.2] []) mm (fun i s => s.1 104 = A_dayN (M 104) i ∧ ∀ q, q ≠ 104 → q ≠ 116 → q ≠ 117 → s.1 q = M q) (fun i s hi hI ih => ?_) (fun s hI => ?_)
    · obtain ⟨M1, c3⟩ := s
      obtain ⟨hI1, hI2⟩ := hI
      dsimp only at hI1 hI2 ⊢
      have ih2 : ∀ (M2 : Mm) (c : Option Value), M2 104 = A_dayN (M 104) (i + 1) → (∀ q, q ≠ 104 → q ≠ 116 → q ≠ 117 → M2 q = M q) → X 127 M2 4 [some (.ref 103), some (.int (A_wkN (M 104) (i + 1))), some (.int (nI (i + 1))), c] [] := fun M2 c g1 g2 => ih (M2, c) ⟨g1, g2⟩
      clear ih
      have hV1 : VR (M1 104) mm := by rw [hI1]; exact VR_dayN hV i (by omega)
      obtain ⟨rt, hrt, hrt2⟩ := hV1.2.2.2 i hi
      refine R.b bk_X8_day_4 (And.intro (by first | rfl | assumption) (And.intro (by first | rfl | assumption) (And.intro (vp_lit rfl) ?_)))
      refine R.c br_X8_day_11 (And.intro (fun h11 => absurd h11 (by rw [show M1 104 (Int32.toNatClampNeg 1) = nI mm from hV1.2.1]; exact nI_ge hi (by omega))) (fun h11 => ?_))
      refine R.b bk_X8_day_14 ?_
      refine R.V0i kc_X8_day_15 (by first | rfl | assumption) (c_X8_draw) (by omega) rfl ⟨Nat.le_refl _, Nat.le_refl _⟩ (fun x15 M15 q15 => ?_)
      obtain ⟨rfl, q15⟩ := q15
      replace q15 := q15.symm
      subst q15
      refine R.b bk_X8_day_18 ?_
      refine R.V2i kc_X8_day_21 (by first | rfl | assumption) (c_X8_of (d := i) (w := 1) (by omega)) (by omega) rfl ⟨Nat.le_refl _, Nat.le_refl _⟩ (fun x21 M21 q21 => ?_)
      obtain ⟨rfl, q21⟩ := q21
      replace q21 := q21.symm
      subst q21
      refine R.b bk_X8_day_24 (And.intro (by rw [show mx_rw M1 104 (A_draw (M1 104)) 104 (7 + 8 * i + 1) = nI rt by rw [mx_rw_at, A_draw, up_ne (by omega)]; exact hrt2]; exact nI_succ_ne hrt) ?_)
      show X 127 (mx_rw M1 104 (A_draw (M1 104))) 34 [some (.ref 103), some (.int (A_wkN (M 104) i)), some (.int (nI i)), some (.int (A_x (M1 104) i))] _
      refine R.V2i kc_X8_day_34 (by first | rfl | assumption) (c_X8_of (d := i) (w := 5) (by omega)) (by omega) rfl ⟨Nat.le_refl _, Nat.le_refl _⟩ (fun x34 M34 q34 => ?_)
      obtain ⟨rfl, q34⟩ := q34
      replace q34 := q34.symm
      subst q34
      refine R.b bk_X8_day_37 ?_
      refine R.V2i kc_X8_day_40 (by first | rfl | assumption) (c_X8_birthsOf (d := i) (by omega) (VT_congr (fun j hj => by rw [mx_rw_at, A_draw, up_ne (by omega)]) hV1.2.2.1)) (by omega) rfl ⟨Nat.le_refl _, Nat.le_refl _⟩ (fun x40 M40 q40 => ?_)
      obtain ⟨rfl, f40⟩ := q40
      have e40 : M40 104 = A_draw (M1 104) := (f40 104 (by decide) (by decide)).trans (mx_rw_at _ _ _)
      rw [mx_rw_at]
      refine R.b bk_X8_day_43 ?_
      refine R.V3v kc_X8_day_44 (by first | rfl | assumption) (c_X8_put (d := i) (w := 5) (by omega)) (by omega) rfl ⟨Nat.le_refl _, Nat.le_refl _⟩ (fun M44 q44 => ?_)
      replace q44 := q44.symm
      subst q44
      refine R.b bk_X8_day_47 ?_
      refine R.V2i kc_X8_day_55 (by first | rfl | assumption) (c_X8_of (d := i) (w := 7) (by omega)) (by omega) rfl ⟨Nat.le_refl _, Nat.le_refl _⟩ (fun x55 M55 q55 => ?_)
      obtain ⟨rfl, q55⟩ := q55
      replace q55 := q55.symm
      subst q55
      refine R.b bk_X8_day_58 (And.intro (by first | rfl | assumption) (And.intro (by first | rfl | assumption) (And.intro (vp_lit rfl) ?_)))
      refine R.V3v kc_X8_day_65 (by first | rfl | assumption) (c_X8_put (d := i) (w := 7) (by omega)) (by omega) rfl ⟨Nat.le_refl _, Nat.le_refl _⟩ (fun M65 q65 => ?_)
      replace q65 := q65.symm
      subst q65
      refine R.b bk_X8_day_68 ?_
      refine R.V2i kc_X8_day_74 (by first | rfl | assumption) (c_X8_of (d := i) (w := 4) (by omega)) (by omega) rfl ⟨Nat.le_refl _, Nat.le_refl _⟩ (fun x74 M74 q74 => ?_)
      obtain ⟨rfl, q74⟩ := q74
      replace q74 := q74.symm
      subst q74
      refine R.b bk_X8_day_77 ?_
      refine R.V3v kc_X8_day_79 (by first | rfl | assumption) (c_X8_put (d := i) (w := 4) (by omega)) (by omega) rfl ⟨Nat.le_refl _, Nat.le_refl _⟩ (fun M79 q79 => ?_)
      have e79 : M79 104 = A_d2 (M1 104) i := by
        rw [q79]
        funext j
        simp only [mx_wr, ↓reduceIte, e40, A_d2, A_draw, up]
        grind
      have f79 : ∀ q, q ≠ 104 → q ≠ 116 → q ≠ 117 → M79 q = M1 q := fun q g1 g2 g3 => by
        rw [q79]
        simp only [mx_wr, if_neg g1]
        rw [f40 q g2 g3, mx_rw_ne g1]
      clear q79
      refine R.b bk_X8_day_82 ?_
      refine R.V2i kc_X8_day_85 (by first | rfl | assumption) (c_X8_of (d := i) (w := 4) (by omega)) (by omega) rfl ⟨Nat.le_refl _, Nat.le_refl _⟩ (fun x85 M85 q85 => ?_)
      obtain ⟨rfl, q85⟩ := q85
      replace q85 := q85.symm
      subst q85
      refine R.b bk_X8_day_88 ?_
      refine R.V2i kc_X8_day_91 (by first | rfl | assumption) (c_X8_of (d := i) (w := 3) (by omega)) (by omega) rfl ⟨Nat.le_refl _, Nat.le_refl _⟩ (fun x91 M91 q91 => ?_)
      obtain ⟨rfl, q91⟩ := q91
      replace q91 := q91.symm
      subst q91
      refine R.c br_X8_day_94 (And.intro (fun h94 => ?_) (fun h94 => ?_))
      · refine R.b bk_X8_day_105 ?_
        refine R.j gt_X8_day_108 ?_
        rw [nI_inc]
        rw [e79] at h94
        first
        | (have hx := ih2 M99 (some (.int (A_x (M1 104) i))) (by rw [e99, e79, A_dayN, A_dayD, ← hI1, if_pos h94]) (fun q g1 g2 g3 => by rw [f99 q g1 g2 g3, f79 q g1 g2 g3]; exact hI2 q g1 g2 g3)
           have hw : A_wkN (M 104) (i + 1) = A_wkN (M 104) i + Int32.ofInt 1 := by rw [A_wkN, A_wkD, ← hI1, if_pos h94]; rfl
           rw [hw] at hx
           exact hx)
        | (have hx := ih2 M79 (some (.int (A_x (M1 104) i))) (by rw [e79, A_dayN, A_dayD, ← hI1, if_neg h94]) (fun q g1 g2 g3 => by rw [f79 q g1 g2 g3]; exact hI2 q g1 g2 g3)
           have hw : A_wkN (M 104) (i + 1) = A_wkN (M 104) i := by rw [A_wkN, A_wkD, ← hI1, if_neg h94]; simp
           rw [hw] at hx
           exact hx)
      · refine R.b bk_X8_day_97 ?_
        refine R.V1v kc_X8_day_99 (by first | rfl | assumption) (c_X8_weekEnds (d := i) (by omega) (VT_congr (fun j hj => by rw [e79]; simp only [A_d2]; grind) hV1.2.2.1)) (by omega) rfl ⟨Nat.le_refl _, Nat.le_refl _⟩ (fun M99 q99 => ?_)
        obtain ⟨e99, f99⟩ := q99
        refine R.b bk_X8_day_102 ?_
        refine R.b bk_X8_day_105 ?_
        refine R.j gt_X8_day_108 ?_
        rw [nI_inc]
        rw [e79] at h94
        first
        | (have hx := ih2 M99 (some (.int (A_x (M1 104) i))) (by rw [e99, e79, A_dayN, A_dayD, ← hI1, if_pos h94]) (fun q g1 g2 g3 => by rw [f99 q g1 g2 g3, f79 q g1 g2 g3]; exact hI2 q g1 g2 g3)
           have hw : A_wkN (M 104) (i + 1) = A_wkN (M 104) i + Int32.ofInt 1 := by rw [A_wkN, A_wkD, ← hI1, if_pos h94]; rfl
           rw [hw] at hx
           exact hx)
        | (have hx := ih2 M79 (some (.int (A_x (M1 104) i))) (by rw [e79, A_dayN, A_dayD, ← hI1, if_neg h94]) (fun q g1 g2 g3 => by rw [f79 q g1 g2 g3]; exact hI2 q g1 g2 g3)
           have hw : A_wkN (M 104) (i + 1) = A_wkN (M 104) i := by rw [A_wkN, A_wkD, ← hI1, if_neg h94]; simp
           rw [hw] at hx
           exact hx)
    · obtain ⟨M1, c3⟩ := s
      obtain ⟨hI1, hI2⟩ := hI
      dsimp only at hI1 hI2 ⊢
      have hV1 : VR (M1 104) mm := by rw [hI1]; exact VR_dayN hV mm (by omega)
      refine R.b bk_X8_day_4 (And.intro (by first | rfl | assumption) (And.intro (by first | rfl | assumption) (And.intro (vp_lit rfl) ?_)))
      refine R.c br_X8_day_11 (And.intro (fun h11 => ?_) (fun h11 => absurd (by rw [show M1 104 (Int32.toNatClampNeg 1) = nI mm from hV1.2.1]; exact nI_le (Nat.le_refl mm) (by omega)) h11))
      refine R.b bk_X8_day_111 (And.intro (by first | rfl | assumption) (And.intro (by first | rfl | assumption) (And.intro (by exact vp_lit rfl) (And.intro (by first | rfl | assumption) (And.intro (by exact vp_lit rfl) ?_)))))
      refine R.ri rt_X8_day_122 rfl ⟨_, rfl, ?_⟩
      refine ⟨?_, ?_, ?_⟩
      · rw [A_wk, hcm]
      · rw [mx_wr_up, mx_rw_at, A_day, hcm, ← hI1]
        rfl
      · intro q g1 g2 g3
        rw [mx_wr_ne g1]
        exact hI2 q g1 g2 g3
  refine R.b bk_X8_day_0 ?_
  exact hA 0 (M, none) (Nat.zero_le mm) ⟨rfl, fun q _ _ _ => rfl⟩
