/-! worlds made like others -/
theorem RW_row {M M1 : Mm} {w mm : Nat} {a b : Rw} {S : Nat → Bool} (hR : RW M w a S mm) (hg : ∀ j, j < 7 → b j = a j) (ht : ∀ j, 55 ≤ j → b j = a j) (h0 : M1 w = M w) (h2 : M1 (w + 2) = M (w + 2)) (hD : ∀ d, d < mm → S d = true → ∀ f, f < 8 → M1 (w + 5 + d) f = b (7 + 8 * d + f)) : RW M1 w b S mm := by
  obtain ⟨h1, h4, h5, h6, h7, h8, h9, h10, hc, -⟩ := hR
  refine ⟨by rw [hg 1 (by decide)]; exact h1, ?_, ?_, ?_, ?_, ?_, ?_, ?_, ?_, hD⟩
  · rw [h0, hg 1 (by decide)]; exact h4
  · rw [h0, hg 2 (by decide)]; exact h5
  · rw [h0, hg 3 (by decide)]; exact h6
  · rw [h0, hg 4 (by decide)]; exact h7
  · rw [h0, hg 5 (by decide)]; exact h8
  · rw [h0, hg 0 (by decide)]; exact h9
  · rw [h0, hg 6 (by decide)]; exact h10
  · intro k hk
    rw [h2, A_cnt_congr (a := a) (fun j hj => by rcases hj with rfl | hj; exact hg 6 (by decide); exact ht j hj)]
    exact hc k hk
theorem RW_wr {M : Mm} {w mm d f : Nat} {a : Rw} {v : Int32} (hm : mm ≤ 6) (hd : d < mm) (hf : f < 8) (hR : RW M w a Sall mm) : RW (mx_wr M (w + 5 + d) f v) w (up a (7 + 8 * d + f) v) Sall mm := by
  have hD := hR.2.2.2.2.2.2.2.2.2
  refine RW_row hR (fun j hj => up_ne (by omega)) (fun j hj => up_ne (by omega)) (mx_wr_ne (by omega)) (mx_wr_ne (by omega)) (fun e he _ g hg => ?_)
  by_cases hed : e = d
  · subst hed
    rw [mx_wr_up, mx_rw_at]
    unfold up
    by_cases hgf : g = f
    · rw [if_pos hgf, if_pos (by omega)]
    · rw [if_neg hgf, if_neg (by omega)]
      exact hD e he rfl g hg
  · rw [mx_wr_ne (by omega), up_ne (by omega)]
    exact hD e he rfl g hg
theorem RW_S {M : Mm} {w mm : Nat} {a : Rw} {S S' : Nat → Bool} (h : RW M w a S mm) (hS : ∀ d, d < mm → S' d = true → S d = true) : RW M w a S' mm := by
  obtain ⟨h1, h4, h5, h6, h7, h8, h9, h10, hc, hD⟩ := h
  exact ⟨h1, h4, h5, h6, h7, h8, h9, h10, hc, fun d hd hs f hf => hD d hd (hS d hd hs) f hf⟩
theorem RW_frame {M M1 : Mm} {w mm : Nat} {a : Rw} {S : Nat → Bool} (hm : mm ≤ 6) (hR : RW M w a S mm) (h : ∀ q, w ≤ q ∧ q < w + 11 → M1 q = M q) : RW M1 w a S mm := RW_keep hm (h w (by omega)) (h (w + 2) (by omega)) (fun d hd => h (w + 5 + d) (by omega)) hR
/-- for the number of districts that the row tells -/
def RN (M : Mm) (w : Nat) (a : Rw) : Prop := ∀ mm, mm ≤ 6 → a 1 = nI mm → RW M w a Sall mm
theorem RN_of {M : Mm} {w mm : Nat} {a : Rw} (hm : mm ≤ 6) (h : RW M w a Sall mm) : RN M w a := by
  intro m2 h2 e
  have : m2 = mm := (nI_eq (by omega) (by omega)).mp (e.symm.trans h.1)
  rw [this]
  exact h
theorem c_X6_becomeLike {l : Launch} {G : Gt} {M : Mm} {w : Nat} (hw : KW w) {w2 : Nat} (hw2 : KW w2) (hdj : w + 11 ≤ w2 ∨ w2 + 11 ≤ w) {a : Rw} {mm : Nat} (hm : mm ≤ 6) (hR : RW M w2 a Sall mm) : Runs l G true dm_X6_becomeLike 1 127 [.ref w, .ref w2] M 127 (Pv (fun M1 => RW M1 w a Sall mm ∧ ∀ q, ¬ (w ≤ q ∧ q < w + 11) → M1 q = M q)) := by
  refine mx_run ow_X6_becomeLike rfl rfl (fun dp X hdp R => ?_)
  obtain ⟨k0, k1, z1, k2, z2, k3, k4, z4, kD, wlo, whi⟩ := id hw
  have h4 : M w2 4 = nI mm := hR.2.1.trans hR.1
  have q0 : (kd w2).1 = 6 := hw2.1
  have q1 : (kd (w2 + 1)).1 = 13 := hw2.2.1
  have q2 : (kd (w2 + 2)).1 = 11 := hw2.2.2.2.1
  have hB : ∀ (fu i : Nat) (M1 : Mm) (M0 : Mm), 3 - i = fu → i ≤ 3 → (M1 = mx_rw M0 (w + 2) (cut i (M0 (w2 + 2)) (M0 (w + 2)))) → (∀ q, ¬ (w + 5 ≤ q ∧ q < w + 11) → M0 q = M q) → (∀ d, d < mm → ∀ f, f < 8 → M0 (w + 5 + d) f = M (w2 + 5 + d) f) → X 127 M1 33 [some (.ref w), some (.ref w2), some (.int (nI i))] [] := by
    intro fu
    induction fu with
    | zero =>
      intro i M1 M0 hfu hi hI1 hI2 hI3
      have hiN : i = 3 := by omega
      refine R.b bk_X6_becomeLike_33 (And.intro (by first | rfl | assumption | exact kdE hw (by omega) | exact kdE hw2 (by omega) | exact kD i (by omega)) (And.intro ⟨11, by decide, by decide, k2⟩ ?_))
      refine R.c br_X6_becomeLike_39 (And.intro (fun h39 => ?_) (fun h39 => absurd (by rw [hiN, z2]; decide) h39))
      refine R.b bk_X6_becomeLike_60 (And.intro (by first | rfl | assumption | exact kdE hw (by omega) | exact kdE hw2 (by omega) | exact kD i (by omega)) (And.intro (by first | rfl | assumption | exact kdE hw (by omega) | exact kdE hw2 (by omega) | exact kD i (by omega)) (And.intro rfl (And.intro rfl (And.intro (by first | rfl | assumption | exact kdE hw (by omega) | exact kdE hw2 (by omega) | exact kD i (by omega)) (And.intro (by first | rfl | assumption | exact kdE hw (by omega) | exact kdE hw2 (by omega) | exact kD i (by omega)) (And.intro rfl (And.intro rfl (And.intro (by first | rfl | assumption | exact kdE hw (by omega) | exact kdE hw2 (by omega) | exact kD i (by omega)) (And.intro (by first | rfl | assumption | exact kdE hw (by omega) | exact kdE hw2 (by omega) | exact kD i (by omega)) (And.intro rfl (And.intro rfl (And.intro (by first | rfl | assumption | exact kdE hw (by omega) | exact kdE hw2 (by omega) | exact kD i (by omega)) (And.intro (by first | rfl | assumption | exact kdE hw (by omega) | exact kdE hw2 (by omega) | exact kD i (by omega)) (And.intro rfl (And.intro rfl (And.intro (by first | rfl | assumption | exact kdE hw (by omega) | exact kdE hw2 (by omega) | exact kD i (by omega)) (And.intro (by first | rfl | assumption | exact kdE hw (by omega) | exact kdE hw2 (by omega) | exact kD i (by omega)) (And.intro rfl (And.intro rfl (And.intro (by first | rfl | assumption | exact kdE hw (by omega) | exact kdE hw2 (by omega) | exact kD i (by omega)) (And.intro (by first | rfl | assumption | exact kdE hw (by omega) | exact kdE hw2 (by omega) | exact kD i (by omega)) (And.intro rfl (And.intro rfl (And.intro (by first | rfl | assumption | exact kdE hw (by omega) | exact kdE hw2 (by omega) | exact kD i (by omega)) (And.intro (by first | rfl | assumption | exact kdE hw (by omega) | exact kdE hw2 (by omega) | exact kD i (by omega)) (And.intro rfl (And.intro rfl ?_))))))))))))))))))))))))))))
      refine R.rv rt_X6_becomeLike_116 ⟨rfl, ?_⟩
      subst hiN
      have e2 : ∀ j, M1 w2 j = M w2 j := fun j => by rw [hI1, mx_rw_ne (by omega), hI2 w2 (by omega)]
      have ew : ∀ j, M1 w j = M w j := fun j => by rw [hI1, mx_rw_ne (by omega), hI2 w (by omega)]
      have hq : ∀ q, q ≠ w → q ≠ w + 2 → ¬ (w + 5 ≤ q ∧ q < w + 11) → M1 q = M q := fun q q1 q2 q3 => by rw [hI1, mx_rw_ne q2, hI2 q q3]
      obtain ⟨r1, r4, r5, r6, r7, r8, r9, r10, rc, rD⟩ := id hR
      have hne : w2 ≠ w := by omega
      refine ⟨⟨r1, ?_, ?_, ?_, ?_, ?_, ?_, ?_, ?_, ?_⟩, ?_⟩
      · simp only [mx_wr_up, mx_rw_rw, mx_rw_at, mx_rw_ne hne, up, e2]; simp; exact r4
      · simp only [mx_wr_up, mx_rw_rw, mx_rw_at, mx_rw_ne hne, up, e2]; simp; exact r5
      · simp only [mx_wr_up, mx_rw_rw, mx_rw_at, mx_rw_ne hne, up, e2]; simp; exact r6
      · simp only [mx_wr_up, mx_rw_rw, mx_rw_at, mx_rw_ne hne, up, e2]; simp; exact r7
      · simp only [mx_wr_up, mx_rw_rw, mx_rw_at, mx_rw_ne hne, up, e2]; simp; exact r8
      · simp only [mx_wr_up, mx_rw_rw, mx_rw_at, mx_rw_ne hne, up, e2]; simp; exact r9
      · simp only [mx_wr_up, mx_rw_rw, mx_rw_at, mx_rw_ne hne, up, e2]; simp; exact r10
      · intro k hk
        have e3 : M1 (w + 2) k = M (w2 + 2) k := by rw [hI1, mx_rw_at, cut, if_pos hk, hI2 (w2 + 2) (by omega)]
        simp only [mx_wr_up, mx_rw_rw, mx_rw_ne (show w + 2 ≠ w by omega), e3]
        exact rc k hk
      · intro d hd _ f hf
        have e3 : M1 (w + 5 + d) f = M (w2 + 5 + d) f := by rw [hI1, mx_rw_ne (by omega), hI3 d hd f hf]
        simp only [mx_wr_up, mx_rw_rw, mx_rw_ne (show w + 5 + d ≠ w by omega), e3]
        exact rD d hd rfl f hf
      · intro q hq2
        simp only [mx_wr_up, mx_rw_rw, mx_rw_ne (show q ≠ w by omega)]
        exact hq q (by omega) (by omega) (by omega)
    | succ fu ih =>
      intro i M1 M0 hfu hi hI1 hI2 hI3
      have hlt : i < 3 := by omega
      refine R.b bk_X6_becomeLike_33 (And.intro (by first | rfl | assumption | exact kdE hw (by omega) | exact kdE hw2 (by omega) | exact kD i (by omega)) (And.intro ⟨11, by decide, by decide, k2⟩ ?_))
      refine R.c br_X6_becomeLike_39 (And.intro (fun h39 => absurd h39 (by rw [z2]; exact nI_ge (b := 3) hlt (by decide))) (fun h39 => ?_))
      refine R.b bk_X6_becomeLike_42 (And.intro (by first | rfl | assumption | exact kdE hw (by omega) | exact kdE hw2 (by omega) | exact kD i (by omega)) (And.intro (by first | rfl | assumption | exact kdE hw (by omega) | exact kdE hw2 (by omega) | exact kD i (by omega)) (And.intro (by first | rfl | assumption | exact kdE hw (by omega) | exact kdE hw2 (by omega) | exact kD i (by omega)) (And.intro (by first | (rw [z2]; exact vp_in_nI hlt (by decide)) | (rw [hw2.2.2.2.2.1]; exact vp_in_nI hlt (by decide))) (And.intro (by first | rfl | assumption | exact kdE hw (by omega) | exact kdE hw2 (by omega) | exact kD i (by omega)) (And.intro (by first | (rw [z2]; exact vp_in_nI hlt (by decide)) | (rw [hw2.2.2.2.2.1]; exact vp_in_nI hlt (by decide))) ?_))))))
      refine R.j gt_X6_becomeLike_57 ?_
      rw [nI_inc]
      refine ih (i + 1) _ M0 (by omega) (by omega) ?_ hI2 hI3
      subst hI1
      rw [nI_clamp (by omega), mx_wr_up, mx_rw_rw, mx_rw_at, mx_rw_ne (show w2 + 2 ≠ w + 2 by omega), cut_up]
  have hA : ∀ (fu i : Nat) (M1 : Mm), mm - i = fu → i ≤ mm → (∀ q, ¬ (w + 5 ≤ q ∧ q < w + 11) → M1 q = M q) → (∀ d, d < i → ∀ f, f < 8 → M1 (w + 5 + d) f = M (w2 + 5 + d) f) → X 127 M1 2 [some (.ref w), some (.ref w2), some (.int (nI i))] [] := by
    intro fu
    induction fu with
    | zero =>
      intro i M1 hfu hi hI1 hI2
      have hiN : i = mm := by omega
      have e4 : M1 w2 4 = nI mm := by rw [hI1 w2 (by omega)]; exact h4
      refine R.b bk_X6_becomeLike_2 (And.intro (by first | rfl | assumption | exact kdE hw (by omega) | exact kdE hw2 (by omega) | exact kD i (by omega)) ?_)
      refine R.c br_X6_becomeLike_7 (And.intro (fun h7 => ?_) (fun h7 => absurd (by rw [e4, hiN]; exact nI_le (Nat.le_refl mm) (by omega)) h7))
      refine R.b bk_X6_becomeLike_31 ?_
      refine hB 3 0 M1 M1 rfl (by decide) (by rw [cut_0, mx_rw_id]) hI1 ?_
      rw [← hiN]
      exact hI2
    | succ fu ih =>
      intro i M1 hfu hi hI1 hI2
      have hlt : i < mm := by omega
      have e4 : M1 w2 4 = nI mm := by rw [hI1 w2 (by omega)]; exact h4
      refine R.b bk_X6_becomeLike_2 (And.intro (by first | rfl | assumption | exact kdE hw (by omega) | exact kdE hw2 (by omega) | exact kD i (by omega)) ?_)
      refine R.c br_X6_becomeLike_7 (And.intro (fun h7 => absurd h7 (by rw [e4]; exact nI_ge hlt (by omega))) (fun h7 => ?_))
      refine R.b bk_X6_becomeLike_10 (And.intro (by first | rfl | assumption | exact kdE hw (by omega) | exact kdE hw2 (by omega) | exact kD i (by omega)) (And.intro ⟨by decide, by decide, rfl⟩ (And.intro (by first | rfl | assumption | exact kdE hw (by omega) | exact kdE hw2 (by omega) | exact kD i (by omega)) (And.intro (by first | (rw [z1]; exact vp_in_nI (show i < 6 by omega) (by decide)) | (rw [hw2.2.2.1]; exact vp_in_nI (show i < 6 by omega) (by decide))) (And.intro (by first | rfl | assumption | exact kdE hw (by omega) | exact kdE hw2 (by omega) | exact kD i (by omega)) (And.intro ⟨by decide, by decide, rfl⟩ (And.intro (by first | rfl | assumption | exact kdE hw (by omega) | exact kdE hw2 (by omega) | exact kD i (by omega)) (And.intro (by first | (rw [z1]; exact vp_in_nI (show i < 6 by omega) (by decide)) | (rw [hw2.2.2.1]; exact vp_in_nI (show i < 6 by omega) (by decide))) ?_))))))))
      rw [el13 (w := w) (show i < 6 by omega), el13 (w := w2) (show i < 6 by omega)]
      refine R.V1v kc_X6_becomeLike_22 (by first | rfl | assumption | exact kdE hw (by omega) | exact kdE hw2 (by omega) | exact kD i (by omega)) (c_X0_becomeLike (k := w + 5 + i) (k2 := w2 + 5 + i) (kD i (by omega)) (hw2.2.2.2.2.2.2.2.2.1 i (by omega)) (by omega)) (by omega) rfl ⟨Nat.le_refl _, Nat.le_refl _⟩ (fun M22 q22 => ?_)
      replace q22 := q22.symm
      subst q22
      refine R.b bk_X6_becomeLike_25 ?_
      refine R.j gt_X6_becomeLike_28 ?_
      rw [nI_inc]
      refine ih (i + 1) _ (by omega) (by omega) (fun q hq => by rw [mx_rw_ne (by omega)]; exact hI1 q hq) (fun d hd f hf => ?_)
      by_cases hdi : d = i
      · subst hdi
        rw [mx_rw_at, cut, if_pos hf, hI1 (w2 + 5 + d) (by omega)]
      · rw [mx_rw_ne (by omega)]
        exact hI2 d (by omega) f hf
  refine R.b bk_X6_becomeLike_0 ?_
  exact hA mm 0 M rfl (Nat.zero_le mm) (fun q _ => rfl) (fun d hd => absurd hd (Nat.not_lt_zero d))
theorem c_X6_addDistrict {l : Launch} {G : Gt} {M : Mm} {w : Nat} (hw : KW w) {kn rt : Int32} {m : Nat} (hm : m < 6) (h4 : M w 4 = nI m) : Runs l G true dm_X6_addDistrict 1 127 [.ref w, .int kn, .int rt] M 127 (Pv (fun M1 => M1 = mx_wr (mx_rw M (w + 5 + m) (r_new (M (w + 5 + m)) kn rt)) w 4 (nI (m + 1)))) := by
  refine mx_run ow_X6_addDistrict rfl rfl (fun dp X hdp R => ?_)
  obtain ⟨k0, k1, z1, k2, z2, k3, k4, z4, kD, wlo, whi⟩ := id hw
  refine R.b bk_X6_addDistrict_0 (And.intro (by first | rfl | assumption | exact kD m hm | exact kdE hw (by omega)) (And.intro (by first | rfl | assumption | exact kD m hm | exact kdE hw (by omega)) (And.intro ⟨13, by decide, by decide, k1⟩ ?_)))
  refine R.c br_X6_addDistrict_9 (And.intro (fun h9 => absurd h9 (by rw [z1]; show ¬ nI 6 ≤ M w 4; rw [h4]; exact nI_ge hm (by decide))) (fun h9 => ?_))
  refine R.b bk_X6_addDistrict_12 (And.intro (by first | rfl | assumption | exact kD m hm | exact kdE hw (by omega)) (And.intro (by first | rfl | assumption | exact kD m hm | exact kdE hw (by omega)) (And.intro ⟨by decide, by decide, rfl⟩ (And.intro (by first | rfl | assumption | exact kD m hm | exact kdE hw (by omega)) (And.intro (by rw [z1]; exact vp_n (show M w 4 = nI m from h4) hm (by decide)) ?_)))))
  rw [show M w (388 % 64) = nI m from h4, el13 hm]
  refine R.V2v kc_X6_addDistrict_23 (by first | rfl | assumption | exact kD m hm | exact kdE hw (by omega)) (c_X0_becomeNew (kD m hm)) (by omega) rfl ⟨Nat.le_refl _, Nat.le_refl _⟩ (fun M23 q23 => ?_)
  replace q23 := q23.symm
  subst q23
  refine R.b bk_X6_addDistrict_26 (And.intro (by first | rfl | assumption | exact kD m hm | exact kdE hw (by omega)) (And.intro (by first | rfl | assumption | exact kD m hm | exact kdE hw (by omega)) (And.intro rfl (And.intro rfl ?_))))
  refine R.rv rt_X6_addDistrict_36 ⟨rfl, ?_⟩
  show mx_wr (mx_rw M (w + 5 + m) _) w 4 (mx_rw M (w + 5 + m) _ w 4 + 1) = _
  rw [mx_rw_ne (show w ≠ w + 5 + m by omega), h4, nI_1]
theorem RW_come {M : Mm} {w m : Nat} {a : Rw} {kn rt : Int32} (hm : m < 6) (hR : RW M w a Sall m) : RW (mx_wr (mx_rw M (w + 5 + m) (r_new (M (w + 5 + m)) kn rt)) w 4 (nI (m + 1))) w (A_come a kn rt) Sall (m + 1) := by
  obtain ⟨h1, h4, h5, h6, h7, h8, h9, h10, hc, hD⟩ := hR
  have ec : (a 1).toNatClampNeg = m := by rw [h1]; exact nI_clamp (by omega)
  have e1 : A_come a kn rt 1 = nI (m + 1) := by
    simp only [A_come, if_true]
    rw [h1, nI_1]
  have ej : ∀ j, j ≠ 1 → ¬ (7 + 8 * m ≤ j ∧ j < 15 + 8 * m) → A_come a kn rt j = a j := fun j j1 j2 => by
    simp only [A_come, ec]
    rw [if_neg j1, if_neg j2]
  have eM : ∀ j, j ≠ 4 → mx_wr (mx_rw M (w + 5 + m) (r_new (M (w + 5 + m)) kn rt)) w 4 (nI (m + 1)) w j = M w j := fun j hj => by
    rw [mx_wr_up, mx_rw_at, up_ne hj, mx_rw_ne (by omega)]
  refine ⟨e1, ?_, ?_, ?_, ?_, ?_, ?_, ?_, ?_, ?_⟩
  · rw [mx_wr_up, mx_rw_at, up_at, e1]
  · rw [eM 5 (by decide), ej 2 (by decide) (by omega)]; exact h5
  · rw [eM 6 (by decide), ej 3 (by decide) (by omega)]; exact h6
  · rw [eM 7 (by decide), ej 4 (by decide) (by omega)]; exact h7
  · rw [eM 8 (by decide), ej 5 (by decide) (by omega)]; exact h8
  · rw [eM 9 (by decide), ej 0 (by decide) (by omega)]; exact h9
  · rw [eM 10 (by decide), ej 6 (by decide) (by omega)]; exact h10
  · intro k hk
    rw [mx_wr_ne (by omega), mx_rw_ne (by omega), A_cnt_congr (a := a) (fun j hj => ej j (by omega) (by omega))]
    exact hc k hk
  · intro d hd _ f hf
    rw [mx_wr_ne (by omega)]
    by_cases hdm : d = m
    · subst hdm
      rw [mx_rw_at]
      have eR : A_come a kn rt (7 + 8 * d + f) = (if 7 + 8 * d + f = 7 + 8 * d then kn else if 7 + 8 * d + f = 8 + 8 * d then rt else if 7 + 8 * d + f = 10 + 8 * d then 7 else 0) := by
        simp only [A_come, ec]
        rw [if_neg (by omega), if_pos (by omega)]
      rw [eR]
      simp only [r_new]
      grind
    · rw [mx_rw_ne (by omega), ej _ (by omega) (by omega)]
      exact hD d (by omega) rfl f hf
theorem c_X1_becomeNew {l : Launch} {G : Gt} {M : Mm} {q : Nat} {k : Int32} (hq : (kd q).1 = 1) : Runs l G true dm_X1_becomeNew 0 127 [.ref q, .int k] M 127 (Pv (fun M1 => M1 = mx_rw M q (fun j => if j = 0 then k else if j = 1 then 0 else if j = 2 then 0 else M q j))) := by
  refine mx_run ow_X1_becomeNew rfl rfl (fun dp X hdp R => ?_)
  refine R.b bk_X1_becomeNew_0 (And.intro (by first | rfl | assumption) (And.intro rfl (And.intro rfl (And.intro (by first | rfl | assumption) (And.intro rfl (And.intro rfl (And.intro (by first | rfl | assumption) (And.intro rfl (And.intro rfl ?_)))))))))
  refine R.rv rt_X1_becomeNew_15 ⟨rfl, ?_⟩
  simp only [mx_wr_up, mx_rw_rw, mx_rw_at]
  congr 1
  funext j
  simp only [up]
  grind
theorem c_X1_becomeLike {l : Launch} {G : Gt} {M : Mm} {q q2 : Nat} (hq : (kd q).1 = 1) (hq2 : (kd q2).1 = 1) (k1 : (kd (q + 1)).1 = 11) (z1 : (kd (q + 1)).2 = 96) (k2 : (kd (q2 + 1)).1 = 11) (z2 : (kd (q2 + 1)).2 = 96) (hne : q + 2 ≤ q2 ∨ q2 + 2 ≤ q) : Runs l G true dm_X1_becomeLike 1 127 [.ref q, .ref q2] M 127 (Pv (fun M1 => M1 q = cut 3 (M q2) (M q) ∧ (∀ j, j < 96 → M1 (q + 1) j = M (q2 + 1) j) ∧ ∀ p, p ≠ q → p ≠ q + 1 → M1 p = M p)) := by
  refine mx_run ow_X1_becomeLike rfl rfl (fun dp X hdp R => ?_)
  refine R.b bk_X1_becomeLike_0 (And.intro (by first | rfl | assumption) (And.intro (by first | rfl | assumption) (And.intro rfl (And.intro rfl (And.intro (by first | rfl | assumption) (And.intro (by first | rfl | assumption) (And.intro rfl (And.intro rfl (And.intro (by first | rfl | assumption) (And.intro (by first | rfl | assumption) (And.intro rfl (And.intro rfl (And.intro (by first | rfl | assumption) (And.intro (by first | rfl | assumption) (And.intro (by first | rfl | assumption) (And.intro ⟨11, by decide, by decide, k1⟩ ?_))))))))))))))))
  refine R.copy kc_X1_becomeLike_39 (by omega) rfl (by exact k2) (by exact k1) (by rw [z1]; decide) (by rw [z1, z2]; decide) ?_
  refine R.rv rt_X1_becomeLike_42 ⟨rfl, ?_⟩
  have hq2q : q2 ≠ q := by omega
  refine ⟨?_, ?_, ?_⟩
  · rw [mx_cpy, if_neg (by omega)]
    simp only [mx_wr_up, mx_rw_rw, mx_rw_at, mx_rw_ne hq2q]
    funext j
    simp only [up, cut]
    grind
  · intro j hj
    rw [mx_cpy, if_pos rfl, z1, nI_clamp (by decide), show Int32.toNatClampNeg 0 = 0 from rfl, pk_cpy_in (Nat.zero_le j) (by omega)]
    simp only [mx_wr_up, mx_rw_rw, mx_rw_ne (show q2 + 1 ≠ q by omega)]
    congr 1
    simp
  · intro p h1 h2
    rw [mx_cpy, if_neg h2]
    simp only [mx_wr_up, mx_rw_rw, mx_rw_ne h1]
