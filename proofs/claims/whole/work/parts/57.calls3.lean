/-! more of the class's calls -/
theorem VP_hides {a : Rw} {mm d : Nat} (h : VP a mm) (hd : d < 6) : VP (A_hides a d) mm := by
  refine ⟨VR_hides h.1 hd, fun e he => ?_⟩
  obtain ⟨k, L, p, h1, h2, h3, h4, h5⟩ := h.2 e he
  have kk : ∀ f, f ≠ 5 → f ≠ 6 → f < 8 → A_hides a d (7 + 8 * e + f) = a (7 + 8 * e + f) := fun f f1 f2 f3 => by
    unfold A_hides
    rw [up_ne (by omega), up_ne (by omega)]
  exact ⟨k, L, p, h1, (kk 0 (by decide) (by decide) (by decide)).trans h2, (kk 3 (by decide) (by decide) (by decide)).trans h3, (kk 4 (by decide) (by decide) (by decide)).trans h4, h5⟩
theorem RW_hide {M : Mm} {w mm d : Nat} {a : Rw} {top : Nat} (ht : top ≤ 1000000) (hm : mm ≤ 6) (hd : d < mm) (hB : VB a mm top) (hR : RW M w a Sall mm) (hne : ¬ a (7 + 8 * d + 5) = 0) : RW (mx_rw M (w + 5 + d) (r_hide (M (w + 5 + d)))) w (A_hides a d) Sall mm := by
  have hD := hR.2.2.2.2.2.2.2.2.2 d hd rfl
  have hgt : ¬ M (w + 5 + d) 5 ≤ 0 := by
    obtain ⟨dy, hdy, -, hb⟩ := hB
    obtain ⟨b, h, hb1, -, hb3⟩ := hb d hd
    rw [hD 5 (by decide), hb1]
    rw [hb1] at hne
    exact nI_nle (Nat.pos_of_ne_zero (fun q => hne (by rw [q]; rfl))) (by omega)
  have hw1 := RW_wr (f := 6) (v := a (7 + 8 * d + 6) + 1) hm hd (by decide) (RW_wr (f := 5) (v := a (7 + 8 * d + 5) - 1) hm hd (by decide) hR)
  rw [mx_wr_up, mx_wr_up, mx_rw_rw, mx_rw_at] at hw1
  rw [r_hide, if_neg hgt, hD 5 (by decide), hD 6 (by decide)]
  exact hw1
theorem c_X7_brings {l : Launch} {G : Gt} {M : Mm} {d n : Int32} {a : Rw} {mm : Nat} (hV : VP a mm) (hR : RW M 70 a Sall mm) (hL : RLw M a) (hB : VB a mm 99999) : Runs l G true dm_X7_brings 6 127 [.ref 0, .int d, .int n] M 127 (Pi (fun x M1 => x = F_brings a d n ∧ ∀ q, ¬ (92 ≤ q ∧ q < 103) → M1 q = M q)) := by
  refine mx_run ow_X7_brings rfl rfl (fun dp X hdp R => ?_)
  have hm6 := hV.1.1
  have h4m : M 70 4 = nI mm := hR.2.1.trans hR.1
  have hDD : ∀ d, d < mm → ∀ f, f < 8 → M (70 + 5 + d) f = a (7 + 8 * d + f) := fun d hd f hf => hR.2.2.2.2.2.2.2.2.2 d hd rfl f hf
  have hisD : ∀ v, isD a v = f_in v 0 (nI mm - 1) := fun v => by rw [isD, hR.1]
  refine R.b bk_X7_brings_0 (And.intro (by first | rfl | assumption | exact kdE KW_70 (by omega) | exact KW_70.2.2.2.2.2.2.2.2.1 _ (by omega) | exact kdE KW_92 (by omega) | exact KW_92.2.2.2.2.2.2.2.2.1 _ (by omega)) ?_)
  refine R.V1i kc_X7_brings_5 (by first | rfl | assumption | exact kdE KW_70 (by omega) | exact KW_70.2.2.2.2.2.2.2.2.1 _ (by omega) | exact kdE KW_92 (by omega) | exact KW_92.2.2.2.2.2.2.2.2.1 _ (by omega)) (c_X6_has KW_70 hm6 h4m) (by omega) rfl ⟨Nat.le_refl _, Nat.le_refl _⟩ (fun x5 M5 q5 => ?_)
  obtain ⟨rfl, q5⟩ := q5
  replace q5 := q5.symm
  subst q5
  refine R.c br_X7_brings_8 (And.intro (fun h8 => ?_) (fun h8 => ?_))
  · refine R.b bk_X7_brings_22 ?_
    refine R.ri rt_X7_brings_24 rfl ⟨_, rfl, ?_⟩
    exact ⟨by rw [F_brings, hisD, if_pos (by simp_all)], fun q _ => rfl⟩
  · refine R.b bk_X7_brings_11 ?_
    refine R.S3i kc_X7_brings_16 (c_X7_within) (by omega) rfl ⟨Nat.le_refl _, Nat.le_refl _⟩ (fun x16 M16 q16 => ?_)
    obtain ⟨rfl, q16⟩ := q16
    replace q16 := q16.symm
    subst q16
    refine R.c br_X7_brings_19 (And.intro (fun h19 => ?_) (fun h19 => ?_))
    · obtain ⟨dn, hdn, rfl⟩ := f_in_dist (by omega) rfl h8
      have hcdn : cN (nI dn) = dn := cN_nI (by omega)
      obtain ⟨nn, hnn, rfl⟩ := f_in_nat (n := 300) (by decide) h19
      have hcnn : cN (nI nn) = nn := cN_nI (by omega)
      refine R.b bk_X7_brings_25 (And.intro (by first | rfl | assumption | exact kdE KW_70 (by omega) | exact KW_70.2.2.2.2.2.2.2.2.1 _ (by omega) | exact kdE KW_92 (by omega) | exact KW_92.2.2.2.2.2.2.2.2.1 _ (by omega)) (And.intro (by first | rfl | assumption | exact kdE KW_70 (by omega) | exact KW_70.2.2.2.2.2.2.2.2.1 _ (by omega) | exact kdE KW_92 (by omega) | exact KW_92.2.2.2.2.2.2.2.2.1 _ (by omega)) (And.intro ⟨by decide, by decide, rfl⟩ (And.intro (by first | rfl | assumption | exact kdE KW_70 (by omega) | exact KW_70.2.2.2.2.2.2.2.2.1 _ (by omega) | exact kdE KW_92 (by omega) | exact KW_92.2.2.2.2.2.2.2.2.1 _ (by omega)) (And.intro (by exact vp_in_nI (show dn < 6 by omega) (by decide)) (And.intro (by first | rfl | assumption | exact kdE KW_70 (by omega) | exact KW_70.2.2.2.2.2.2.2.2.1 _ (by omega) | exact kdE KW_92 (by omega) | exact KW_92.2.2.2.2.2.2.2.2.1 _ (by omega)) ?_))))))
      rw [el13 (w := 70) (show dn < 6 by omega)]
      have e5 : M (70 + 5 + dn) 5 = a (7 + 8 * dn + 5) := hDD dn hdn 5 (by decide)
      refine R.c br_X7_brings_37 (And.intro (fun h37 => ?_) (fun h37 => ?_))
      · have hne : ¬ a (7 + 8 * dn + 5) = 0 := by rw [← e5]; exact h37
        refine R.b bk_X7_brings_43 ?_
        refine R.V0v kc_X7_brings_44 (by first | rfl | assumption | exact kdE KW_70 (by omega) | exact KW_70.2.2.2.2.2.2.2.2.1 _ (by omega) | exact kdE KW_92 (by omega) | exact KW_92.2.2.2.2.2.2.2.2.1 _ (by omega)) (c_X7_thinkFromNow hV hR) (by omega) rfl ⟨Nat.le_refl _, Nat.le_refl _⟩ (fun M44 q44 => ?_)
        obtain ⟨r44, f44⟩ := q44
        have l44 : RLw M44 a := RLw_congr (fun q q1 q2 => f44 q (by omega)) (fun _ _ => rfl) (T14 hV.1.2.2.1) hL
        refine R.b bk_X7_brings_47 ?_
        refine R.S1i kc_X7_brings_50 (c_X7_only) (by omega) rfl ⟨Nat.le_refl _, Nat.le_refl _⟩ (fun x50 M50 q50 => ?_)
        obtain ⟨rfl, q50⟩ := q50
        replace q50 := q50.symm
        subst q50
        refine R.V2v kc_X7_brings_53 (by first | rfl | assumption | exact kdE KW_70 (by omega) | exact KW_70.2.2.2.2.2.2.2.2.1 _ (by omega) | exact kdE KW_92 (by omega) | exact KW_92.2.2.2.2.2.2.2.2.1 _ (by omega)) (c_X7_thinkOn (n := nn) (S := Sone dn) (a := a) (by omega) hV (RW_S r44 (fun _ _ _ => rfl)) l44 (fun j hj => bit1 dn j (by omega) (by omega))) (by omega) rfl ⟨Nat.le_refl _, Nat.le_refl _⟩ (fun M53 q53 => ?_)
        obtain ⟨r53, f53⟩ := q53
        have d53 : ∀ f, f < 8 → M53 (92 + 5 + dn) f = A_go (a) nn (7 + 8 * dn + f) := fun f hf => r53.2.2.2.2.2.2.2.2.2 dn hdn (by simp [Sone]) f hf
        refine R.b bk_X7_brings_56 (And.intro (by first | rfl | assumption | exact kdE KW_70 (by omega) | exact KW_70.2.2.2.2.2.2.2.2.1 _ (by omega) | exact kdE KW_92 (by omega) | exact KW_92.2.2.2.2.2.2.2.2.1 _ (by omega)) (And.intro (by first | rfl | assumption | exact kdE KW_70 (by omega) | exact KW_70.2.2.2.2.2.2.2.2.1 _ (by omega) | exact kdE KW_92 (by omega) | exact KW_92.2.2.2.2.2.2.2.2.1 _ (by omega)) (And.intro ⟨by decide, by decide, rfl⟩ (And.intro (by first | rfl | assumption | exact kdE KW_70 (by omega) | exact KW_70.2.2.2.2.2.2.2.2.1 _ (by omega) | exact kdE KW_92 (by omega) | exact KW_92.2.2.2.2.2.2.2.2.1 _ (by omega)) (And.intro (by exact vp_in_nI (show dn < 6 by omega) (by decide)) (And.intro (by first | rfl | assumption | exact kdE KW_70 (by omega) | exact KW_70.2.2.2.2.2.2.2.2.1 _ (by omega) | exact kdE KW_92 (by omega) | exact KW_92.2.2.2.2.2.2.2.2.1 _ (by omega)) ?_))))))
        rw [el13 (w := 92) (show dn < 6 by omega)]
        refine R.V0v kc_X7_brings_70 (by first | rfl | assumption | exact kdE KW_70 (by omega) | exact KW_70.2.2.2.2.2.2.2.2.1 _ (by omega) | exact kdE KW_92 (by omega) | exact KW_92.2.2.2.2.2.2.2.2.1 _ (by omega)) (c_X7_thinkFromNow hV (RW_frame hm6 hR (fun q hq => by rw [f53 q (by omega)]; exact f44 q (by omega)))) (by omega) rfl ⟨Nat.le_refl _, Nat.le_refl _⟩ (fun M70 q70 => ?_)
        obtain ⟨r70, f70⟩ := q70
        refine R.b bk_X7_brings_73 (And.intro (by first | rfl | assumption | exact kdE KW_70 (by omega) | exact KW_70.2.2.2.2.2.2.2.2.1 _ (by omega) | exact kdE KW_92 (by omega) | exact KW_92.2.2.2.2.2.2.2.2.1 _ (by omega)) (And.intro (by first | rfl | assumption | exact kdE KW_70 (by omega) | exact KW_70.2.2.2.2.2.2.2.2.1 _ (by omega) | exact kdE KW_92 (by omega) | exact KW_92.2.2.2.2.2.2.2.2.1 _ (by omega)) (And.intro ⟨by decide, by decide, rfl⟩ (And.intro (by first | rfl | assumption | exact kdE KW_70 (by omega) | exact KW_70.2.2.2.2.2.2.2.2.1 _ (by omega) | exact kdE KW_92 (by omega) | exact KW_92.2.2.2.2.2.2.2.2.1 _ (by omega)) (And.intro (by exact vp_in_nI (show dn < 6 by omega) (by decide)) ?_)))))
        rw [el13 (w := 92) (show dn < 6 by omega)]
        refine R.V0v kc_X7_brings_82 (by first | rfl | assumption | exact kdE KW_70 (by omega) | exact KW_70.2.2.2.2.2.2.2.2.1 _ (by omega) | exact kdE KW_92 (by omega) | exact KW_92.2.2.2.2.2.2.2.2.1 _ (by omega)) (c_X0_hideOne (k := 92 + 5 + dn) (KW_92.2.2.2.2.2.2.2.2.1 dn (by omega))) (by omega) rfl ⟨Nat.le_refl _, Nat.le_refl _⟩ (fun M82 q82 => ?_)
        have r82 : RW M82 92 (A_hides a dn) Sall mm := by rw [q82]; exact RW_hide (by decide) hm6 hdn hB r70 hne
        have f82 : ∀ q, ¬ (92 ≤ q ∧ q < 103) → M82 q = M q := fun q hq => by rw [q82, mx_rw_ne (by omega), f70 q hq, f53 q hq]; exact f44 q hq
        have l82 : RLw M82 (A_hides a dn) := RLw_congr (fun q q1 q2 => f82 q (by omega)) (fun j hj => by unfold A_hides; rw [up_ne (by omega), up_ne (by omega)]) (T14 hV.1.2.2.1) hL
        clear q82
        refine R.b bk_X7_brings_85 ?_
        refine R.S1i kc_X7_brings_88 (c_X7_only) (by omega) rfl ⟨Nat.le_refl _, Nat.le_refl _⟩ (fun x88 M88 q88 => ?_)
        obtain ⟨rfl, q88⟩ := q88
        replace q88 := q88.symm
        subst q88
        refine R.V2v kc_X7_brings_91 (by first | rfl | assumption | exact kdE KW_70 (by omega) | exact KW_70.2.2.2.2.2.2.2.2.1 _ (by omega) | exact kdE KW_92 (by omega) | exact KW_92.2.2.2.2.2.2.2.2.1 _ (by omega)) (c_X7_thinkOn (n := nn) (S := Sone dn) (a := A_hides a dn) (by omega) (VP_hides hV (by omega)) (RW_S r82 (fun _ _ _ => rfl)) l82 (fun j hj => bit1 dn j (by omega) (by omega))) (by omega) rfl ⟨Nat.le_refl _, Nat.le_refl _⟩ (fun M91 q91 => ?_)
        obtain ⟨r91, f91⟩ := q91
        have d91 : ∀ f, f < 8 → M91 (92 + 5 + dn) f = A_go (A_hides a dn) nn (7 + 8 * dn + f) := fun f hf => r91.2.2.2.2.2.2.2.2.2 dn hdn (by simp [Sone]) f hf
        refine R.b bk_X7_brings_94 (And.intro (by first | rfl | assumption | exact kdE KW_70 (by omega) | exact KW_70.2.2.2.2.2.2.2.2.1 _ (by omega) | exact kdE KW_92 (by omega) | exact KW_92.2.2.2.2.2.2.2.2.1 _ (by omega)) (And.intro (by first | rfl | assumption | exact kdE KW_70 (by omega) | exact KW_70.2.2.2.2.2.2.2.2.1 _ (by omega) | exact kdE KW_92 (by omega) | exact KW_92.2.2.2.2.2.2.2.2.1 _ (by omega)) (And.intro ⟨by decide, by decide, rfl⟩ (And.intro (by first | rfl | assumption | exact kdE KW_70 (by omega) | exact KW_70.2.2.2.2.2.2.2.2.1 _ (by omega) | exact kdE KW_92 (by omega) | exact KW_92.2.2.2.2.2.2.2.2.1 _ (by omega)) (And.intro (by exact vp_in_nI (show dn < 6 by omega) (by decide)) (And.intro (by first | rfl | assumption | exact kdE KW_70 (by omega) | exact KW_70.2.2.2.2.2.2.2.2.1 _ (by omega) | exact kdE KW_92 (by omega) | exact KW_92.2.2.2.2.2.2.2.2.1 _ (by omega)) ?_))))))
        rw [el13 (w := 92) (show dn < 6 by omega)]
        refine R.ri rt_X7_brings_108 rfl ⟨_, rfl, ?_⟩
        refine ⟨?_, fun q hq => by rw [f91 q hq]; exact f82 q hq⟩
        rw [F_brings, hisD, if_neg (by simp_all), hcdn, hcnn, if_neg hne, ← d91 7 (by decide), ← d53 7 (by decide)]
      · refine R.b bk_X7_brings_40 ?_
        refine R.ri rt_X7_brings_42 rfl ⟨_, rfl, ?_⟩
        refine ⟨?_, fun q _ => rfl⟩
        have h0 : a (7 + 8 * dn + 5) = 0 := by rw [← e5]; exact h37
        rw [F_brings, hisD, if_neg (by simp_all), hcdn, if_pos h0]
    · refine R.b bk_X7_brings_22 ?_
      refine R.ri rt_X7_brings_24 rfl ⟨_, rfl, ?_⟩
      exact ⟨by rw [F_brings, hisD, if_pos (by simp_all)], fun q _ => rfl⟩
theorem c_X7_fine {l : Launch} {G : Gt} {M : Mm} {a : Rw} {mm : Nat} (hV : VP a mm) (hR : RW M 70 a Sall mm) (hL : RLw M a) : Runs l G true dm_X7_fine 3 127 [.ref 0] M 127 (Pi (fun r M1 => r = F_fine a ∧ ∀ q, q ≠ 74 → M1 q = M q)) := by
  refine mx_run ow_X7_fine rfl rfl (fun dp X hdp R => ?_)
  have hm6 := hV.1.1
  have h4m : M 70 4 = nI mm := hR.2.1.trans hR.1
  have hDD : ∀ d, d < mm → ∀ f, f < 8 → M (70 + 5 + d) f = a (7 + 8 * d + f) := fun d hd f hf => hR.2.2.2.2.2.2.2.2.2 d hd rfl f hf
  have hisD : ∀ v, isD a v = f_in v 0 (nI mm - 1) := fun v => by rw [isD, hR.1]
  refine R.b bk_X7_fine_0 (And.intro (by first | rfl | assumption | exact kdE KW_70 (by omega) | exact KW_70.2.2.2.2.2.2.2.2.1 _ (by omega) | exact kdE KW_92 (by omega) | exact KW_92.2.2.2.2.2.2.2.2.1 _ (by omega)) ?_)
  refine R.V1a kc_X7_fine_5 (by first | rfl | assumption | exact kdE KW_70 (by omega) | exact KW_70.2.2.2.2.2.2.2.2.1 _ (by omega) | exact kdE KW_92 (by omega) | exact KW_92.2.2.2.2.2.2.2.2.1 _ (by omega)) (c_X6_lawFor KW_70 (kk := 2) (by decide) hR.2.2.2.2.2.2.2.2.1 hV.1.2.2.1) (by omega) rfl ⟨Nat.le_refl _, Nat.le_refl _⟩ (fun x5 M5 q5 => ?_)
  obtain ⟨q2e, q2n, q2r⟩ := q5
  replace q2e := q2e.symm
  subst q2e
  rcases cnt_spec2 (kk := 2) (by decide) hV.1.2.2.1 with hcs | ⟨t, n, ht1, ht2, hcs, hn, hwf⟩
  · obtain rfl := q2n hcs
    refine R.b bk_X7_fine_8 ?_
    refine R.c br_X7_fine_10 ?_
    refine R.b bk_X7_fine_13 ?_
    refine R.ri rt_X7_fine_14 rfl ⟨_, rfl, ?_⟩
    refine ⟨?_, fun p _ => rfl⟩
    rw [F_fine, if_pos (show A_cnt a 2 = -1 from hcs)]
  · obtain rfl := q2r t ht1 hcs
    have kt := kd_law ht1
    have hn96 := hwf.1
    refine R.b bk_X7_fine_8 ?_
    refine R.c br_X7_fine_10 ?_
    refine R.b bk_X7_fine_15 (And.intro (by first | rfl | assumption | exact kdE KW_70 (by omega) | exact KW_70.2.2.2.2.2.2.2.2.1 _ (by omega) | exact kdE KW_92 (by omega) | exact KW_92.2.2.2.2.2.2.2.2.1 _ (by omega)) (And.intro (by first | rfl | assumption | exact kdE KW_70 (by omega) | exact KW_70.2.2.2.2.2.2.2.2.1 _ (by omega) | exact kdE KW_92 (by omega) | exact KW_92.2.2.2.2.2.2.2.2.1 _ (by omega)) (And.intro (by first | rfl | assumption | exact kdE KW_70 (by omega) | exact KW_70.2.2.2.2.2.2.2.2.1 _ (by omega) | exact kdE KW_92 (by omega) | exact KW_92.2.2.2.2.2.2.2.2.1 _ (by omega)) (And.intro (by first | rfl | assumption | exact kdE KW_70 (by omega) | exact KW_70.2.2.2.2.2.2.2.2.1 _ (by omega) | exact kdE KW_92 (by omega) | exact KW_92.2.2.2.2.2.2.2.2.1 _ (by omega)) (And.intro (by first | rfl | assumption | exact kdE KW_70 (by omega) | exact KW_70.2.2.2.2.2.2.2.2.1 _ (by omega) | exact kdE KW_92 (by omega) | exact KW_92.2.2.2.2.2.2.2.2.1 _ (by omega)) ?_)))))
    refine R.V0i kc_X7_fine_34 (by first | rfl | assumption | exact kdE KW_70 (by omega) | exact KW_70.2.2.2.2.2.2.2.2.1 _ (by omega) | exact kdE KW_92 (by omega) | exact KW_92.2.2.2.2.2.2.2.2.1 _ (by omega)) (c_X6_bornOfAll KW_70 hm6 hR) (by omega) rfl ⟨Nat.le_refl _, Nat.le_refl _⟩ (fun x34 M34 q34 => ?_)
    obtain ⟨rfl, q34⟩ := q34
    replace q34 := q34.symm
    subst q34
    refine R.b bk_X7_fine_37 ?_
    refine R.V4i kc_X7_fine_38 (by first | rfl | assumption | exact kdE KW_70 (by omega) | exact KW_70.2.2.2.2.2.2.2.2.1 _ (by omega) | exact kdE KW_92 (by omega) | exact KW_92.2.2.2.2.2.2.2.2.1 _ (by omega)) (c_X3_gives (q := 14 + 2 * t) (r := 70 + 3) (n := n) (nn := 2) (code := fun j => a (83 + 96 * t + j)) kt.1 kt.2.1 kt.2.2 rfl rfl rfl (by omega) (by omega) (by decide) hwf (by rw [(hL t ht2).2.2.1]; exact hn) (fun j hj => ((hL t ht2).2.2.2 j (by rw [hn, cN_nI (by omega)]; exact hj)).1) (fun j hj => ((hL t ht2).2.2.2 j (by rw [hn, cN_nI (by omega)]; exact hj)).2)) (by omega) rfl ⟨Nat.le_refl _, Nat.le_refl _⟩ (fun x38 M38 q38 => ?_)
    obtain ⟨e38, f38⟩ := q38
    refine R.ri rt_X7_fine_41 rfl ⟨_, rfl, ?_⟩
    refine ⟨?_, f38⟩
    rw [F_fine, if_neg (by rw [show A_cnt a 2 = nI t from hcs]; exact nI_not_m1 (by omega)), show A_cnt a 2 = nI t from hcs, cN_nI (by omega), A_ev, hn, cN_nI (by omega), e38, hR.1, cN_nI (by omega), ← hR.2.2.1]
theorem c_X7_count {l : Launch} {G : Gt} {M : Mm} {w : Int32} {a : Rw} {mm : Nat} (hV : VP a mm) (hR : RW M 70 a Sall mm) : Runs l G true dm_X7_count 3 127 [.ref 0, .int w] M 127 (Pi (fun r M1 => r = F_count a (M 0 12) (M 0 6) w ∧ M1 = M)) := by
  refine mx_run ow_X7_count rfl rfl (fun dp X hdp R => ?_)
  have hm6 := hV.1.1
  have h4m : M 70 4 = nI mm := hR.2.1.trans hR.1
  have hDD : ∀ d, d < mm → ∀ f, f < 8 → M (70 + 5 + d) f = a (7 + 8 * d + f) := fun d hd f hf => hR.2.2.2.2.2.2.2.2.2 d hd rfl f hf
  have hisD : ∀ v, isD a v = f_in v 0 (nI mm - 1) := fun v => by rw [isD, hR.1]
  refine R.b bk_X7_count_0 ?_
  refine R.s sw_X7_count_1 (And.intro (fun h1_0 => ?_) (fun h1_0 => And.intro (fun h1_1 => ?_) (fun h1_1 => And.intro (fun h1_2 => ?_) (fun h1_2 => And.intro (fun h1_3 => ?_) (fun h1_3 => And.intro (fun h1_4 => ?_) (fun h1_4 => And.intro (fun h1_5 => ?_) (fun h1_5 => And.intro (fun h1_6 => ?_) (fun h1_6 => And.intro (fun h1_7 => ?_) (fun h1_7 => And.intro (fun h1_8 => ?_) (fun h1_8 => And.intro (fun h1_9 => ?_) (fun h1_9 => ?_)))))))))))
  · refine R.b bk_X7_count_56 (And.intro (by first | rfl | assumption | exact kdE KW_70 (by omega) | exact KW_70.2.2.2.2.2.2.2.2.1 _ (by omega) | exact kdE KW_92 (by omega) | exact KW_92.2.2.2.2.2.2.2.2.1 _ (by omega)) (And.intro (by first | rfl | assumption | exact kdE KW_70 (by omega) | exact KW_70.2.2.2.2.2.2.2.2.1 _ (by omega) | exact kdE KW_92 (by omega) | exact KW_92.2.2.2.2.2.2.2.2.1 _ (by omega)) ?_))
    refine R.ri rt_X7_count_63 rfl ⟨_, rfl, ?_⟩
    refine ⟨?_, rfl⟩
    subst h1_0
    exact hR.2.1
  · refine R.b bk_X7_count_64 (And.intro (by first | rfl | assumption | exact kdE KW_70 (by omega) | exact KW_70.2.2.2.2.2.2.2.2.1 _ (by omega) | exact kdE KW_92 (by omega) | exact KW_92.2.2.2.2.2.2.2.2.1 _ (by omega)) (And.intro (by first | rfl | assumption | exact kdE KW_70 (by omega) | exact KW_70.2.2.2.2.2.2.2.2.1 _ (by omega) | exact kdE KW_92 (by omega) | exact KW_92.2.2.2.2.2.2.2.2.1 _ (by omega)) ?_))
    refine R.ri rt_X7_count_71 rfl ⟨_, rfl, ?_⟩
    refine ⟨?_, rfl⟩
    subst h1_1
    exact hR.2.2.1
  · refine R.b bk_X7_count_72 (And.intro (by first | rfl | assumption | exact kdE KW_70 (by omega) | exact KW_70.2.2.2.2.2.2.2.2.1 _ (by omega) | exact kdE KW_92 (by omega) | exact KW_92.2.2.2.2.2.2.2.2.1 _ (by omega)) (And.intro (by first | rfl | assumption | exact kdE KW_70 (by omega) | exact KW_70.2.2.2.2.2.2.2.2.1 _ (by omega) | exact kdE KW_92 (by omega) | exact KW_92.2.2.2.2.2.2.2.2.1 _ (by omega)) ?_))
    refine R.ri rt_X7_count_79 rfl ⟨_, rfl, ?_⟩
    refine ⟨?_, rfl⟩
    subst h1_2
    exact hR.2.2.2.1
  · refine R.b bk_X7_count_80 (And.intro (by first | rfl | assumption | exact kdE KW_70 (by omega) | exact KW_70.2.2.2.2.2.2.2.2.1 _ (by omega) | exact kdE KW_92 (by omega) | exact KW_92.2.2.2.2.2.2.2.2.1 _ (by omega)) (And.intro (by first | rfl | assumption | exact kdE KW_70 (by omega) | exact KW_70.2.2.2.2.2.2.2.2.1 _ (by omega) | exact kdE KW_92 (by omega) | exact KW_92.2.2.2.2.2.2.2.2.1 _ (by omega)) ?_))
    refine R.ri rt_X7_count_87 rfl ⟨_, rfl, ?_⟩
    refine ⟨?_, rfl⟩
    subst h1_3
    exact hR.2.2.2.2.1
  · refine R.b bk_X7_count_88 (And.intro (by first | rfl | assumption | exact kdE KW_70 (by omega) | exact KW_70.2.2.2.2.2.2.2.2.1 _ (by omega) | exact kdE KW_92 (by omega) | exact KW_92.2.2.2.2.2.2.2.2.1 _ (by omega)) (And.intro (by first | rfl | assumption | exact kdE KW_70 (by omega) | exact KW_70.2.2.2.2.2.2.2.2.1 _ (by omega) | exact kdE KW_92 (by omega) | exact KW_92.2.2.2.2.2.2.2.2.1 _ (by omega)) ?_))
    refine R.ri rt_X7_count_95 rfl ⟨_, rfl, ?_⟩
    refine ⟨?_, rfl⟩
    subst h1_4
    exact hR.2.2.2.2.2.1
  · refine R.b bk_X7_count_96 (And.intro (by first | rfl | assumption | exact kdE KW_70 (by omega) | exact KW_70.2.2.2.2.2.2.2.2.1 _ (by omega) | exact kdE KW_92 (by omega) | exact KW_92.2.2.2.2.2.2.2.2.1 _ (by omega)) ?_)
    refine R.V0i kc_X7_count_100 (by first | rfl | assumption | exact kdE KW_70 (by omega) | exact KW_70.2.2.2.2.2.2.2.2.1 _ (by omega) | exact kdE KW_92 (by omega) | exact KW_92.2.2.2.2.2.2.2.2.1 _ (by omega)) (c_X6_pursesOfAll KW_70 hm6 hR) (by omega) rfl ⟨Nat.le_refl _, Nat.le_refl _⟩ (fun x100 M100 q100 => ?_)
    obtain ⟨rfl, q100⟩ := q100
    replace q100 := q100.symm
    subst q100
    refine R.ri rt_X7_count_103 rfl ⟨_, rfl, ?_⟩
    refine ⟨?_, rfl⟩
    subst h1_5
    show A_sum a 7 mm = A_sum a 7 (cN (a 1))
    rw [hR.1, cN_nI (by omega)]
  · refine R.b bk_X7_count_104 (And.intro (by first | rfl | assumption | exact kdE KW_70 (by omega) | exact KW_70.2.2.2.2.2.2.2.2.1 _ (by omega) | exact kdE KW_92 (by omega) | exact KW_92.2.2.2.2.2.2.2.2.1 _ (by omega)) (And.intro (by first | rfl | assumption | exact kdE KW_70 (by omega) | exact KW_70.2.2.2.2.2.2.2.2.1 _ (by omega) | exact kdE KW_92 (by omega) | exact KW_92.2.2.2.2.2.2.2.2.1 _ (by omega)) ?_))
    refine R.ri rt_X7_count_111 rfl ⟨_, rfl, ?_⟩
    refine ⟨?_, rfl⟩
    subst h1_6
    exact hR.2.2.2.2.2.2.2.1
  · refine R.b bk_X7_count_112 (And.intro (by first | rfl | assumption | exact kdE KW_70 (by omega) | exact KW_70.2.2.2.2.2.2.2.2.1 _ (by omega) | exact kdE KW_92 (by omega) | exact KW_92.2.2.2.2.2.2.2.2.1 _ (by omega)) ?_)
    refine R.ri rt_X7_count_116 rfl ⟨_, rfl, ?_⟩
    refine ⟨?_, rfl⟩
    subst h1_7
    exact rfl
  · refine R.b bk_X7_count_117 (And.intro (by first | rfl | assumption | exact kdE KW_70 (by omega) | exact KW_70.2.2.2.2.2.2.2.2.1 _ (by omega) | exact kdE KW_92 (by omega) | exact KW_92.2.2.2.2.2.2.2.2.1 _ (by omega)) ?_)
    refine R.ri rt_X7_count_121 rfl ⟨_, rfl, ?_⟩
    refine ⟨?_, rfl⟩
    subst h1_8
    exact rfl
  · refine R.b bk_X7_count_122 (And.intro (by first | rfl | assumption | exact kdE KW_70 (by omega) | exact KW_70.2.2.2.2.2.2.2.2.1 _ (by omega) | exact kdE KW_92 (by omega) | exact KW_92.2.2.2.2.2.2.2.2.1 _ (by omega)) (And.intro (by first | rfl | assumption | exact kdE KW_70 (by omega) | exact KW_70.2.2.2.2.2.2.2.2.1 _ (by omega) | exact kdE KW_92 (by omega) | exact KW_92.2.2.2.2.2.2.2.2.1 _ (by omega)) ?_))
    refine R.ri rt_X7_count_129 rfl ⟨_, rfl, ?_⟩
    refine ⟨?_, rfl⟩
    subst h1_9
    exact hR.2.2.2.2.2.2.1
  · refine R.b bk_X7_count_130 ?_
    refine R.ri rt_X7_count_132 rfl ⟨_, rfl, ?_⟩
    refine ⟨?_, rfl⟩
    rw [F_count, if_neg h1_0, if_neg h1_1, if_neg h1_2, if_neg h1_3, if_neg h1_4, if_neg h1_5, if_neg h1_6, if_neg h1_7, if_neg h1_8, if_neg h1_9]
theorem c_X7_why {l : Launch} {G : Gt} {M : Mm} {k : Int32} {a : Rw} {mm : Nat} (hV : VP a mm) (hR : RW M 70 a Sall mm) : Runs l G true dm_X7_why 1 127 [.ref 0, .int k] M 127 (Pi (fun r M1 => r = F_why a k ∧ M1 = M)) := by
  refine mx_run ow_X7_why rfl rfl (fun dp X hdp R => ?_)
  have hm6 := hV.1.1
  have h4m : M 70 4 = nI mm := hR.2.1.trans hR.1
  have hDD : ∀ d, d < mm → ∀ f, f < 8 → M (70 + 5 + d) f = a (7 + 8 * d + f) := fun d hd f hf => hR.2.2.2.2.2.2.2.2.2 d hd rfl f hf
  have hisD : ∀ v, isD a v = f_in v 0 (nI mm - 1) := fun v => by rw [isD, hR.1]
  refine R.b bk_X7_why_0 ?_
  refine R.S3i kc_X7_why_3 (c_X7_within) (by omega) rfl ⟨Nat.le_refl _, Nat.le_refl _⟩ (fun x3 M3 q3 => ?_)
  obtain ⟨rfl, q3⟩ := q3
  replace q3 := q3.symm
  subst q3
  refine R.c br_X7_why_6 (And.intro (fun h6 => ?_) (fun h6 => ?_))
  · obtain ⟨kn, hkn, rfl⟩ := f_in_nat (n := 2) (by decide) h6
    have hckn : cN (nI kn) = kn := cN_nI (by omega)
    refine R.b bk_X7_why_12 (And.intro (by first | rfl | assumption | exact kdE KW_70 (by omega) | exact KW_70.2.2.2.2.2.2.2.2.1 _ (by omega) | exact kdE KW_92 (by omega) | exact KW_92.2.2.2.2.2.2.2.2.1 _ (by omega)) (And.intro (by first | rfl | assumption | exact kdE KW_70 (by omega) | exact KW_70.2.2.2.2.2.2.2.2.1 _ (by omega) | exact kdE KW_92 (by omega) | exact KW_92.2.2.2.2.2.2.2.2.1 _ (by omega)) (And.intro (by first | rfl | assumption | exact kdE KW_70 (by omega) | exact KW_70.2.2.2.2.2.2.2.2.1 _ (by omega) | exact kdE KW_92 (by omega) | exact KW_92.2.2.2.2.2.2.2.2.1 _ (by omega)) (And.intro (by exact vp_in_nI (show kn < 3 by omega) (by decide)) ?_))))
    have e1 : M (70 + 2) (nI kn).toNatClampNeg = A_cnt a (nI kn) := by rw [nI_clamp (by omega)]; exact hR.2.2.2.2.2.2.2.2.1 kn (by omega)
    rw [e1]
    refine R.c br_X7_why_23 (And.intro (fun h23 => ?_) (fun h23 => ?_))
    · refine R.b bk_X7_why_31 ?_
      refine R.ri rt_X7_why_32 rfl ⟨_, rfl, ?_⟩
      refine ⟨?_, rfl⟩
      rw [F_why, if_neg h6]
      first | (rw [if_pos (Int32.not_le.mp h23)]; done) | (rw [if_neg (Int32.not_lt.mpr h23)]; done)
    · refine R.b bk_X7_why_26 ?_
      refine R.j gt_X7_why_28 ?_
      refine R.ri rt_X7_why_32 rfl ⟨_, rfl, ?_⟩
      refine ⟨?_, rfl⟩
      rw [F_why, if_neg h6]
      first | (rw [if_pos (Int32.not_le.mp h23)]; done) | (rw [if_neg (Int32.not_lt.mpr h23)]; done)
  · refine R.b bk_X7_why_9 ?_
    refine R.ri rt_X7_why_11 rfl ⟨_, rfl, ?_⟩
    exact ⟨by rw [F_why, if_pos h6], rfl⟩
theorem c_X7_textTold {l : Launch} {G : Gt} {M : Mm} {t w : Int32} {a : Rw} {mm : Nat} (hV : VP a mm) (hR : RW M 70 a Sall mm) (hL : RLw M a) : Runs l G true dm_X7_textTold 1 127 [.ref 0, .int t, .int w] M 127 (Pi (fun r M1 => r = F_textTold a t w ∧ M1 = M)) := by
  refine mx_run ow_X7_textTold rfl rfl (fun dp X hdp R => ?_)
  have hm6 := hV.1.1
  have h4m : M 70 4 = nI mm := hR.2.1.trans hR.1
  have hDD : ∀ d, d < mm → ∀ f, f < 8 → M (70 + 5 + d) f = a (7 + 8 * d + f) := fun d hd f hf => hR.2.2.2.2.2.2.2.2.2 d hd rfl f hf
  have hisD : ∀ v, isD a v = f_in v 0 (nI mm - 1) := fun v => by rw [isD, hR.1]
  obtain ⟨T, hT, hT6, -⟩ := id hV.1.2.2.1
  have e10 : M 70 10 = a 6 := hR.2.2.2.2.2.2.2.1
  refine R.b bk_X7_textTold_0 (And.intro (by first | rfl | assumption | exact (kd_law (t := tn) (by omega)).1 | (rw [el14 (t := tn) (by omega)]; exact (kd_law (t := tn) (by omega)).1)) (And.intro (by first | rfl | assumption | exact (kd_law (t := tn) (by omega)).1 | (rw [el14 (t := tn) (by omega)]; exact (kd_law (t := tn) (by omega)).1)) ?_))
  refine R.S3i kc_X7_textTold_11 (c_X7_within) (by omega) rfl ⟨Nat.le_refl _, Nat.le_refl _⟩ (fun x11 M11 q11 => ?_)
  obtain ⟨e11, q11⟩ := q11
  replace q11 := q11.symm
  subst q11
  replace e11 : x11 = f_in t 0 (a 6 - 1) := by rw [← e10]; exact e11
  subst e11
  refine R.c br_X7_textTold_14 (And.intro (fun h14 => ?_) (fun h14 => ?_))
  · refine R.b bk_X7_textTold_26 ?_
    refine R.ri rt_X7_textTold_28 rfl ⟨_, rfl, ?_⟩
    exact ⟨by rw [F_textTold, if_pos (by simp_all)], rfl⟩
  · refine R.b bk_X7_textTold_17 ?_
    refine R.S3i kc_X7_textTold_20 (c_X7_within) (by omega) rfl ⟨Nat.le_refl _, Nat.le_refl _⟩ (fun x20 M20 q20 => ?_)
    obtain ⟨rfl, q20⟩ := q20
    replace q20 := q20.symm
    subst q20
    refine R.c br_X7_textTold_23 (And.intro (fun h23 => ?_) (fun h23 => ?_))
    · obtain ⟨tn, htn, rfl⟩ := f_in_dist (by omega) hT6 h14
      have hct : cN (nI tn) = tn := cN_nI (by omega)
      have hL1 := hL tn (by rw [hT6, cN_nI (by omega)]; exact htn)
      refine R.b bk_X7_textTold_29 ?_
      refine R.c br_X7_textTold_30 (And.intro (fun h30 => ?_) (fun h30 => ?_))
      · refine R.b bk_X7_textTold_45 (And.intro (by first | rfl | assumption | exact (kd_law (t := tn) (by omega)).1 | (rw [el14 (t := tn) (by omega)]; exact (kd_law (t := tn) (by omega)).1)) (And.intro ⟨by decide, by decide, rfl⟩ (And.intro (by first | rfl | assumption | exact (kd_law (t := tn) (by omega)).1 | (rw [el14 (t := tn) (by omega)]; exact (kd_law (t := tn) (by omega)).1)) (And.intro (by exact vp_in_nI (show tn < 14 by omega) (by decide)) (And.intro (by exact (by rw [el14 (t := tn) (by omega)]; exact (kd_law (t := tn) (by omega)).1 : (kd (mx_el 14 13 (nI tn).toNatClampNeg)).1 = 1)) ?_)))))
        rw [el14 (t := tn) (by omega)]
        refine R.ri rt_X7_textTold_54 rfl ⟨_, rfl, ?_⟩
        refine ⟨?_, rfl⟩
        rw [F_textTold, if_neg (by simp_all), hct]
        first | (rw [if_pos h30]; exact hL1.1) | (rw [if_neg h30]; exact hL1.2.1)
      · refine R.b bk_X7_textTold_33 (And.intro (by first | rfl | assumption | exact (kd_law (t := tn) (by omega)).1 | (rw [el14 (t := tn) (by omega)]; exact (kd_law (t := tn) (by omega)).1)) (And.intro ⟨by decide, by decide, rfl⟩ (And.intro (by first | rfl | assumption | exact (kd_law (t := tn) (by omega)).1 | (rw [el14 (t := tn) (by omega)]; exact (kd_law (t := tn) (by omega)).1)) (And.intro (by exact vp_in_nI (show tn < 14 by omega) (by decide)) (And.intro (by exact (by rw [el14 (t := tn) (by omega)]; exact (kd_law (t := tn) (by omega)).1 : (kd (mx_el 14 13 (nI tn).toNatClampNeg)).1 = 1)) ?_)))))
        refine R.j gt_X7_textTold_42 ?_
        rw [el14 (t := tn) (by omega)]
        refine R.ri rt_X7_textTold_54 rfl ⟨_, rfl, ?_⟩
        refine ⟨?_, rfl⟩
        rw [F_textTold, if_neg (by simp_all), hct]
        first | (rw [if_pos h30]; exact hL1.1) | (rw [if_neg h30]; exact hL1.2.1)
    · refine R.b bk_X7_textTold_26 ?_
      refine R.ri rt_X7_textTold_28 rfl ⟨_, rfl, ?_⟩
      exact ⟨by rw [F_textTold, if_pos (by simp_all)], rfl⟩
theorem c_X7_tell {l : Launch} {G : Gt} {M : Mm} {v : Int32} {wn : Nat} (hwn : wn ≤ 60) (hw : M 0 12 = nI wn) : Runs l G true dm_X7_tell 0 127 [.ref 0, .int v] M 127 (Pi (fun x M1 => (wn = 60 → x = (-1000000003) ∧ M1 = M) ∧ (wn < 60 → x = nI (wn + 1) ∧ M1 = mx_wr (mx_wr M 10 wn v) 0 12 (nI (wn + 1))))) := by
  refine mx_run ow_X7_tell rfl rfl (fun dp X hdp R => ?_)
  refine R.b bk_X7_tell_0 (And.intro (by first | rfl | assumption | exact kdE KW_70 (by omega) | exact KW_70.2.2.2.2.2.2.2.2.1 _ (by omega) | exact kdE KW_92 (by omega) | exact KW_92.2.2.2.2.2.2.2.2.1 _ (by omega)) ?_)
  refine R.c br_X7_tell_6 (And.intro (fun h6 => ?_) (fun h6 => ?_))
  · refine R.b bk_X7_tell_12 (And.intro (by first | rfl | assumption | exact kdE KW_70 (by omega) | exact KW_70.2.2.2.2.2.2.2.2.1 _ (by omega) | exact kdE KW_92 (by omega) | exact KW_92.2.2.2.2.2.2.2.2.1 _ (by omega)) (And.intro (by first | rfl | assumption | exact kdE KW_70 (by omega) | exact KW_70.2.2.2.2.2.2.2.2.1 _ (by omega) | exact kdE KW_92 (by omega) | exact KW_92.2.2.2.2.2.2.2.2.1 _ (by omega)) (And.intro (by first | rfl | assumption | exact kdE KW_70 (by omega) | exact KW_70.2.2.2.2.2.2.2.2.1 _ (by omega) | exact kdE KW_92 (by omega) | exact KW_92.2.2.2.2.2.2.2.2.1 _ (by omega)) (And.intro (by exact vp_n (show M 0 12 = nI wn from hw) (show wn < 60 from (nI_ltI (b := 60) (by omega) (by decide)).mp (by rw [← hw]; exact h6)) (by decide)) (And.intro (by first | rfl | assumption | exact kdE KW_70 (by omega) | exact KW_70.2.2.2.2.2.2.2.2.1 _ (by omega) | exact kdE KW_92 (by omega) | exact KW_92.2.2.2.2.2.2.2.2.1 _ (by omega)) (And.intro (by first | rfl | assumption | exact kdE KW_70 (by omega) | exact KW_70.2.2.2.2.2.2.2.2.1 _ (by omega) | exact kdE KW_92 (by omega) | exact KW_92.2.2.2.2.2.2.2.2.1 _ (by omega)) (And.intro rfl (And.intro rfl (And.intro (by first | rfl | assumption | exact kdE KW_70 (by omega) | exact KW_70.2.2.2.2.2.2.2.2.1 _ (by omega) | exact kdE KW_92 (by omega) | exact KW_92.2.2.2.2.2.2.2.2.1 _ (by omega)) ?_)))))))))
    refine R.ri rt_X7_tell_36 rfl ⟨_, rfl, ?_⟩
    have h60 : wn < 60 := (nI_ltI (b := 60) (by omega) (by decide)).mp (by rw [← hw]; exact h6)
    have ec : (M 0 12).toNatClampNeg = wn := by rw [hw]; exact nI_clamp (by omega)
    refine ⟨fun h => absurd h (by omega), fun _ => ⟨?_, ?_⟩⟩
    · show mx_wr (mx_wr M 10 (M 0 12).toNatClampNeg v) 0 12 (M 0 12 + 1) 0 12 = _
      rw [mx_wr_up, mx_rw_at, up_at, hw, nI_1]
    · show mx_wr (mx_wr M 10 (M 0 12).toNatClampNeg v) 0 12 (M 0 12 + 1) = _
      rw [ec, hw, nI_1]
  · refine R.b bk_X7_tell_9 ?_
    refine R.ri rt_X7_tell_11 rfl ⟨_, rfl, ?_⟩
    have hn : ¬ nI wn < 60 := by rw [← hw]; exact h6
    have h60 : wn = 60 := by
      have := mt (nI_lt (b := 60) (a := wn) · (by decide)) hn
      omega
    exact ⟨fun _ => ⟨rfl, rfl⟩, fun h => absurd h (by omega)⟩
theorem c_X7_keep {l : Launch} {G : Gt} {M : Mm} {a : Rw} {mm : Nat} (hV : VP a mm) (hR : RW M 70 a Sall mm) : Runs l G true dm_X7_keep 2 127 [.ref 0] M 127 (Pi (fun x M1 => x = a 1 ∧ RW M1 81 a Sall mm ∧ M1 0 = up (M 0) 4 1 ∧ ∀ q, ¬ (81 ≤ q ∧ q < 92) → q ≠ 0 → M1 q = M q)) := by
  refine mx_run ow_X7_keep rfl rfl (fun dp X hdp R => ?_)
  have hm6 := hV.1.1
  have h4m : M 70 4 = nI mm := hR.2.1.trans hR.1
  have hDD : ∀ d, d < mm → ∀ f, f < 8 → M (70 + 5 + d) f = a (7 + 8 * d + f) := fun d hd f hf => hR.2.2.2.2.2.2.2.2.2 d hd rfl f hf
  have hisD : ∀ v, isD a v = f_in v 0 (nI mm - 1) := fun v => by rw [isD, hR.1]
  refine R.b bk_X7_keep_0 (And.intro (by first | rfl | assumption | exact kdE KW_70 (by omega) | exact KW_70.2.2.2.2.2.2.2.2.1 _ (by omega) | exact kdE KW_92 (by omega) | exact KW_92.2.2.2.2.2.2.2.2.1 _ (by omega)) (And.intro (by first | rfl | assumption | exact kdE KW_70 (by omega) | exact KW_70.2.2.2.2.2.2.2.2.1 _ (by omega) | exact kdE KW_92 (by omega) | exact KW_92.2.2.2.2.2.2.2.2.1 _ (by omega)) ?_))
  refine R.V1v kc_X7_keep_8 (by first | rfl | assumption | exact kdE KW_70 (by omega) | exact KW_70.2.2.2.2.2.2.2.2.1 _ (by omega) | exact kdE KW_92 (by omega) | exact KW_92.2.2.2.2.2.2.2.2.1 _ (by omega)) (c_X6_becomeLike KW_81 KW_70 (by decide) hm6 hR) (by omega) rfl ⟨Nat.le_refl _, Nat.le_refl _⟩ (fun M8 q8 => ?_)
  obtain ⟨r8, f8⟩ := q8
  refine R.b bk_X7_keep_11 (And.intro (by first | rfl | assumption | exact kdE KW_70 (by omega) | exact KW_70.2.2.2.2.2.2.2.2.1 _ (by omega) | exact kdE KW_92 (by omega) | exact KW_92.2.2.2.2.2.2.2.2.1 _ (by omega)) (And.intro rfl (And.intro rfl (And.intro (by first | rfl | assumption | exact kdE KW_70 (by omega) | exact KW_70.2.2.2.2.2.2.2.2.1 _ (by omega) | exact kdE KW_92 (by omega) | exact KW_92.2.2.2.2.2.2.2.2.1 _ (by omega)) (And.intro (by first | rfl | assumption | exact kdE KW_70 (by omega) | exact KW_70.2.2.2.2.2.2.2.2.1 _ (by omega) | exact kdE KW_92 (by omega) | exact KW_92.2.2.2.2.2.2.2.2.1 _ (by omega)) ?_)))))
  refine R.ri rt_X7_keep_23 rfl ⟨_, rfl, ?_⟩
  refine ⟨?_, ?_, ?_, ?_⟩
  · show mx_wr M8 0 4 1 70 4 = a 1
    rw [mx_wr_ne (by decide), f8 70 (by decide)]
    exact hR.2.1
  · exact RW_frame hm6 r8 (fun q hq => mx_wr_ne (by omega))
  · show mx_wr M8 0 4 1 0 = _
    rw [mx_wr_up, mx_rw_at, f8 0 (by decide)]
  · intro q q1 q2
    show mx_wr M8 0 4 1 q = _
    rw [mx_wr_ne q2, f8 q q1]
theorem c_X7_back {l : Launch} {G : Gt} {M : Mm} {b : Rw} {mm : Nat} (hm6 : mm ≤ 6) (hR : M 0 4 ≠ 0 → RW M 81 b Sall mm) : Runs l G true dm_X7_back 2 127 [.ref 0] M 127 (Pi (fun x M1 => (M 0 4 = 0 → x = (-1000000002) ∧ M1 = M) ∧ (M 0 4 ≠ 0 → x = b 1 ∧ RW M1 70 b Sall mm ∧ ∀ q, ¬ (70 ≤ q ∧ q < 81) → M1 q = M q))) := by
  refine mx_run ow_X7_back rfl rfl (fun dp X hdp R => ?_)
  refine R.b bk_X7_back_0 (And.intro (by first | rfl | assumption | exact kdE KW_70 (by omega) | exact KW_70.2.2.2.2.2.2.2.2.1 _ (by omega) | exact kdE KW_92 (by omega) | exact KW_92.2.2.2.2.2.2.2.2.1 _ (by omega)) ?_)
  refine R.c br_X7_back_4 (And.intro (fun h4 => ?_) (fun h4 => ?_))
  · refine R.b bk_X7_back_10 (And.intro (by first | rfl | assumption | exact kdE KW_70 (by omega) | exact KW_70.2.2.2.2.2.2.2.2.1 _ (by omega) | exact kdE KW_92 (by omega) | exact KW_92.2.2.2.2.2.2.2.2.1 _ (by omega)) (And.intro (by first | rfl | assumption | exact kdE KW_70 (by omega) | exact KW_70.2.2.2.2.2.2.2.2.1 _ (by omega) | exact kdE KW_92 (by omega) | exact KW_92.2.2.2.2.2.2.2.2.1 _ (by omega)) ?_))
    refine R.V1v kc_X7_back_18 (by first | rfl | assumption | exact kdE KW_70 (by omega) | exact KW_70.2.2.2.2.2.2.2.2.1 _ (by omega) | exact kdE KW_92 (by omega) | exact KW_92.2.2.2.2.2.2.2.2.1 _ (by omega)) (c_X6_becomeLike KW_70 KW_81 (by decide) hm6 (hR h4)) (by omega) rfl ⟨Nat.le_refl _, Nat.le_refl _⟩ (fun M18 q18 => ?_)
    obtain ⟨r18, f18⟩ := q18
    refine R.b bk_X7_back_21 (And.intro (by first | rfl | assumption | exact kdE KW_70 (by omega) | exact KW_70.2.2.2.2.2.2.2.2.1 _ (by omega) | exact kdE KW_92 (by omega) | exact KW_92.2.2.2.2.2.2.2.2.1 _ (by omega)) (And.intro (by first | rfl | assumption | exact kdE KW_70 (by omega) | exact KW_70.2.2.2.2.2.2.2.2.1 _ (by omega) | exact kdE KW_92 (by omega) | exact KW_92.2.2.2.2.2.2.2.2.1 _ (by omega)) ?_))
    refine R.ri rt_X7_back_28 rfl ⟨_, rfl, ?_⟩
    exact ⟨fun h => absurd h h4, fun _ => ⟨r18.2.1, r18, f18⟩⟩
  · refine R.b bk_X7_back_7 ?_
    refine R.ri rt_X7_back_9 rfl ⟨_, rfl, ?_⟩
    exact ⟨fun _ => ⟨rfl, rfl⟩, fun h => absurd h4 h⟩
theorem c_X7_trim {l : Launch} {G : Gt} {M : Mm} {n : Int32} : Runs l G true dm_X7_trim 1 127 [.ref 0, .int n] M 127 (Pi (fun x M1 => (f_in n 0 (M 0 6) = 0 → x = (-1000000001) ∧ M1 = M) ∧ (¬ f_in n 0 (M 0 6) = 0 → x = n ∧ M1 = mx_wr M 0 6 n))) := by
  refine mx_run ow_X7_trim rfl rfl (fun dp X hdp R => ?_)
  refine R.b bk_X7_trim_0 (And.intro (by first | rfl | assumption | exact kdE KW_70 (by omega) | exact KW_70.2.2.2.2.2.2.2.2.1 _ (by omega) | exact kdE KW_92 (by omega) | exact KW_92.2.2.2.2.2.2.2.2.1 _ (by omega)) ?_)
  refine R.S3i kc_X7_trim_6 (c_X7_within) (by omega) rfl ⟨Nat.le_refl _, Nat.le_refl _⟩ (fun x6 M6 q6 => ?_)
  obtain ⟨rfl, q6⟩ := q6
  replace q6 := q6.symm
  subst q6
  refine R.c br_X7_trim_9 (And.intro (fun h9 => ?_) (fun h9 => ?_))
  · refine R.b bk_X7_trim_15 (And.intro (by first | rfl | assumption | exact kdE KW_70 (by omega) | exact KW_70.2.2.2.2.2.2.2.2.1 _ (by omega) | exact kdE KW_92 (by omega) | exact KW_92.2.2.2.2.2.2.2.2.1 _ (by omega)) (And.intro rfl (And.intro rfl ?_)))
    refine R.ri rt_X7_trim_21 rfl ⟨_, rfl, ?_⟩
    exact ⟨fun h => absurd h h9, fun _ => ⟨rfl, rfl⟩⟩
  · refine R.b bk_X7_trim_12 ?_
    refine R.ri rt_X7_trim_14 rfl ⟨_, rfl, ?_⟩
    exact ⟨fun _ => ⟨rfl, rfl⟩, fun h => absurd h9 h⟩
theorem c_X7_stands {l : Launch} {G : Gt} {M : Mm} {p wn : Nat} {due : Int32} (hp : p ≤ 1000) (hwn : wn ≤ 60) : Runs l G true dm_X7_stands 0 127 [.ref 0, .int (nI p), .int (nI wn), .int due] M 127 (Pi (fun x M1 => x = (if p < wn ∧ M 10 p = due then 1 else 0) ∧ M1 = M)) := by
  refine mx_run ow_X7_stands rfl rfl (fun dp X hdp R => ?_)
  refine R.b bk_X7_stands_0 ?_
  refine R.c br_X7_stands_2 (And.intro (fun h2 => ?_) (fun h2 => ?_))
  · refine R.b bk_X7_stands_28 ?_
    refine R.ri rt_X7_stands_29 rfl ⟨_, rfl, ?_⟩
    refine ⟨?_, rfl⟩
    have hcp : (nI p).toNatClampNeg = p := nI_clamp (by omega)
    first
    | (rw [if_neg (fun q => absurd h2 (nI_ge q.1 (by omega)))]; done)
    | (have q1 := h11; exfalso; exact absurd h11 (nI_ge (b := 60) (show p < 60 by have := nI_lt8 (by omega) (by omega) h2; omega) (by decide)))
    | (have q1 := h21; rw [hcp] at q1; rw [if_neg (fun q => q1 q.2)]; done)
    | (have q1 := h21; rw [hcp] at q1; rw [if_pos ⟨nI_lt8 (by omega) (by omega) h2, q1⟩]; done)
  · refine R.b bk_X7_stands_5 (And.intro (by first | rfl | assumption | exact kdE KW_70 (by omega) | exact KW_70.2.2.2.2.2.2.2.2.1 _ (by omega) | exact kdE KW_92 (by omega) | exact KW_92.2.2.2.2.2.2.2.2.1 _ (by omega)) (And.intro ⟨11, by decide, by decide, rfl⟩ ?_))
    refine R.c br_X7_stands_11 (And.intro (fun h11 => ?_) (fun h11 => ?_))
    · refine R.b bk_X7_stands_28 ?_
      refine R.ri rt_X7_stands_29 rfl ⟨_, rfl, ?_⟩
      refine ⟨?_, rfl⟩
      have hcp : (nI p).toNatClampNeg = p := nI_clamp (by omega)
      first
      | (rw [if_neg (fun q => absurd h2 (nI_ge q.1 (by omega)))]; done)
      | (have q1 := h11; exfalso; exact absurd h11 (nI_ge (b := 60) (show p < 60 by have := nI_lt8 (by omega) (by omega) h2; omega) (by decide)))
      | (have q1 := h21; rw [hcp] at q1; rw [if_neg (fun q => q1 q.2)]; done)
      | (have q1 := h21; rw [hcp] at q1; rw [if_pos ⟨nI_lt8 (by omega) (by omega) h2, q1⟩]; done)
    · refine R.b bk_X7_stands_14 (And.intro (by first | rfl | assumption | exact kdE KW_70 (by omega) | exact KW_70.2.2.2.2.2.2.2.2.1 _ (by omega) | exact kdE KW_92 (by omega) | exact KW_92.2.2.2.2.2.2.2.2.1 _ (by omega)) (And.intro (by first | rfl | assumption | exact kdE KW_70 (by omega) | exact KW_70.2.2.2.2.2.2.2.2.1 _ (by omega) | exact kdE KW_92 (by omega) | exact KW_92.2.2.2.2.2.2.2.2.1 _ (by omega)) (And.intro (by exact vp_in_nI (show p < 60 by have := nI_lt8 (by omega) (by omega) h2; omega) (by decide)) ?_)))
      refine R.c br_X7_stands_21 (And.intro (fun h21 => ?_) (fun h21 => ?_))
      · refine R.b bk_X7_stands_28 ?_
        refine R.ri rt_X7_stands_29 rfl ⟨_, rfl, ?_⟩
        refine ⟨?_, rfl⟩
        have hcp : (nI p).toNatClampNeg = p := nI_clamp (by omega)
        first
        | (rw [if_neg (fun q => absurd h2 (nI_ge q.1 (by omega)))]; done)
        | (have q1 := h11; exfalso; exact absurd h11 (nI_ge (b := 60) (show p < 60 by have := nI_lt8 (by omega) (by omega) h2; omega) (by decide)))
        | (have q1 := h21; rw [hcp] at q1; rw [if_neg (fun q => q1 q.2)]; done)
        | (have q1 := h21; rw [hcp] at q1; rw [if_pos ⟨nI_lt8 (by omega) (by omega) h2, q1⟩]; done)
      · refine R.b bk_X7_stands_24 ?_
        refine R.j gt_X7_stands_25 ?_
        refine R.ri rt_X7_stands_29 rfl ⟨_, rfl, ?_⟩
        refine ⟨?_, rfl⟩
        have hcp : (nI p).toNatClampNeg = p := nI_clamp (by omega)
        first
        | (rw [if_neg (fun q => absurd h2 (nI_ge q.1 (by omega)))]; done)
        | (have q1 := h11; exfalso; exact absurd h11 (nI_ge (b := 60) (show p < 60 by have := nI_lt8 (by omega) (by omega) h2; omega) (by decide)))
        | (have q1 := h21; rw [hcp] at q1; rw [if_neg (fun q => q1 q.2)]; done)
        | (have q1 := h21; rw [hcp] at q1; rw [if_pos ⟨nI_lt8 (by omega) (by omega) h2, q1⟩]; done)
theorem c_X7_check {l : Launch} {G : Gt} {M : Mm} {n : Int32} {b : Rw} {mm wn : Nat} (hwn : wn ≤ 60) (hw : M 0 12 = nI wn) (hI : M 0 4 ≠ 0 → VP b mm ∧ RW M 81 b Sall mm ∧ RLw M b ∧ VB b mm 99999) : Runs l G true dm_X7_check 6 127 [.ref 0, .int n] M 127 (Pi (fun x M1 => x = F_check b (M 0 4) (M 10) wn n ∧ (∀ q, ¬ (92 ≤ q ∧ q < 103) → q ≠ 0 → M1 q = M q) ∧ M1 0 = up (M 0) 12 0)) := by
  refine mx_run ow_X7_check rfl rfl (fun dp X hdp R => ?_)
  have e4w : mx_wr M 0 12 0 0 4 = M 0 4 := by rw [mx_wr_up, mx_rw_at, up_ne (by decide)]
  refine R.b bk_X7_check_0 (And.intro (by first | rfl | assumption | exact kdE KW_70 (by omega) | exact KW_70.2.2.2.2.2.2.2.2.1 _ (by omega) | exact kdE KW_92 (by omega) | exact KW_92.2.2.2.2.2.2.2.2.1 _ (by omega)) (And.intro (by first | rfl | assumption | exact kdE KW_70 (by omega) | exact KW_70.2.2.2.2.2.2.2.2.1 _ (by omega) | exact kdE KW_92 (by omega) | exact KW_92.2.2.2.2.2.2.2.2.1 _ (by omega)) (And.intro rfl (And.intro rfl ?_))))
  refine R.S3i kc_X7_check_14 (c_X7_within) (by omega) rfl ⟨Nat.le_refl _, Nat.le_refl _⟩ (fun x14 M14 q14 => ?_)
  obtain ⟨rfl, q14⟩ := q14
  replace q14 := q14.symm
  subst q14
  refine R.c br_X7_check_17 (And.intro (fun h17 => ?_) (fun h17 => ?_))
  · refine R.b bk_X7_check_23 (And.intro (by first | rfl | assumption | exact kdE KW_70 (by omega) | exact KW_70.2.2.2.2.2.2.2.2.1 _ (by omega) | exact kdE KW_92 (by omega) | exact KW_92.2.2.2.2.2.2.2.2.1 _ (by omega)) ?_)
    refine R.c br_X7_check_27 (And.intro (fun h27 => ?_) (fun h27 => ?_))
    · have hI0 : M 0 4 ≠ 0 := by rw [← e4w]; exact h27
      obtain ⟨hV, hR, hL, hB⟩ := hI hI0
      have hm6 := hV.1.1
      obtain ⟨n, hn, rfl⟩ := f_in_1 (n := 30) (by decide) h17
      obtain ⟨dy, hdy, hd2, -⟩ := id hB
      obtain ⟨eS, eF⟩ := days_min (n := n) hd2 hdy (by omega)
      obtain ⟨rm, hrm⟩ : ∃ rm, rm = min n (99999 - dy) := ⟨_, rfl⟩
      have hrm30 : rm ≤ 30 := by omega
      have hF : F_check b (M 0 4) (M 10) wn (nI n) = if A_ck b (M 10) wn mm rm = wn ∧ A_ck b (M 10) wn mm rm = 2 * rm then 0 else nI (1 + A_ck b (M 10) wn mm rm) := by
        rw [F_check, if_neg h17, if_neg hI0, eF, ← hrm, hR.1, cN_nI (by omega)]
      have hA : ∀ (fu i : Nat) (M1 : Mm), rm - i = fu → i ≤ rm → (RW M1 92 (A_go b i) Sall mm) → (∀ q, ¬ (92 ≤ q ∧ q < 103) → M1 q = mx_wr M 0 12 0 q) → (A_ck b (M 10) wn mm i = 2 * i) → (2 * i ≤ wn) → X 127 M1 65 [some (.ref 0), some (.int (nI n)), some (.int (nI wn)), some (.int (nI rm)), some (.int (nI (2 * i))), some (.int (nI (i + 1)))] [] := by
        intro fu
        induction fu with
        | zero =>
          intro i M1 hfu hi hI1 hI2 hI3 hI4
          have hiN : i = rm := by omega
          refine R.b bk_X7_check_65 ?_
          refine R.c br_X7_check_68 (And.intro (fun h68 => ?_) (fun h68 => absurd (nI_lt (a := rm) (b := i + 1) (by omega) (by omega)) h68))
          refine R.b bk_X7_check_137 ?_
          refine R.c br_X7_check_140 (And.intro (fun h140 => ?_) (fun h140 => ?_))
          · refine R.b bk_X7_check_150 ?_
            refine R.ri rt_X7_check_151 rfl ⟨_, rfl, ?_⟩
            refine ⟨?_, fun q hq h0 => by rw [hI2 q hq, mx_wr_ne h0], by rw [hI2 0 (by decide), mx_wr_up, mx_rw_at]⟩
            rw [hiN] at hI3 hI4 h140
            try rw [hiN]
            rw [hF, hI3]
            first
            | (rw [if_pos ⟨by have := (nI_leI (by omega) (by omega)).mp h140; omega, rfl⟩]; done)
            | (rw [if_neg (fun q => h140 (by rw [q.1]; exact nI_le (Nat.le_refl _) (by omega)))]; exact nI_add 1 (2 * rm))
          · refine R.b bk_X7_check_143 ?_
            refine R.j gt_X7_check_147 ?_
            refine R.ri rt_X7_check_151 rfl ⟨_, rfl, ?_⟩
            refine ⟨?_, fun q hq h0 => by rw [hI2 q hq, mx_wr_ne h0], by rw [hI2 0 (by decide), mx_wr_up, mx_rw_at]⟩
            rw [hiN] at hI3 hI4 h140
            try rw [hiN]
            rw [hF, hI3]
            first
            | (rw [if_pos ⟨by have := (nI_leI (by omega) (by omega)).mp h140; omega, rfl⟩]; done)
            | (rw [if_neg (fun q => h140 (by rw [q.1]; exact nI_le (Nat.le_refl _) (by omega)))]; exact nI_add 1 (2 * rm))
        | succ fu ih =>
          intro i M1 hfu hi hI1 hI2 hI3 hI4
          have hlt : i < rm := by omega
          refine R.b bk_X7_check_65 ?_
          refine R.c br_X7_check_68 (And.intro (fun h68 => absurd h68 (nI_nlt (a := rm) (b := i + 1) (by omega) (by omega))) (fun h68 => ?_))
          refine R.b bk_X7_check_71 (And.intro (by first | rfl | assumption | exact kdE KW_70 (by omega) | exact KW_70.2.2.2.2.2.2.2.2.1 _ (by omega) | exact kdE KW_92 (by omega) | exact KW_92.2.2.2.2.2.2.2.2.1 _ (by omega)) ?_)
          refine R.V1i kc_X7_check_77 (by first | rfl | assumption | exact kdE KW_70 (by omega) | exact KW_70.2.2.2.2.2.2.2.2.1 _ (by omega) | exact kdE KW_92 (by omega) | exact KW_92.2.2.2.2.2.2.2.2.1 _ (by omega)) (c_X6_liveDay KW_92 (VP_go hV i) hI1 (RLw_go hV.1 (fun q q1 q2 => by rw [hI2 q (by omega), mx_wr_ne (by omega)]) hL i) (fun j hj => bit63 j (by omega))) (by omega) rfl ⟨Nat.le_refl _, Nat.le_refl _⟩ (fun x77 M77 q77 => ?_)
          obtain ⟨-, r77, f77⟩ := q77
          have e10 : M77 10 = M 10 := by rw [f77 10 (by omega), hI2 10 (by omega), mx_wr_ne (by decide)]
          have f78 : ∀ q, ¬ (92 ≤ q ∧ q < 103) → M77 q = mx_wr M 0 12 0 q := fun q hq => by rw [f77 q (by omega)]; exact hI2 q hq
          have eC : A_ck b (M 10) wn mm (i + 1) = if C1 b (M 10) wn mm i then (if C2 b (M 10) wn mm i then 2 * i + 2 else 2 * i + 1) else 2 * i := by rw [A_ck, if_pos hI3]
          have r77b : RW M77 92 (A_go b (i + 1)) Sall mm := r77
          refine R.b bk_X7_check_80 (And.intro (by first | rfl | assumption | exact kdE KW_70 (by omega) | exact KW_70.2.2.2.2.2.2.2.2.1 _ (by omega) | exact kdE KW_92 (by omega) | exact KW_92.2.2.2.2.2.2.2.2.1 _ (by omega)) ?_)
          refine R.V0i kc_X7_check_89 (by first | rfl | assumption | exact kdE KW_70 (by omega) | exact KW_70.2.2.2.2.2.2.2.2.1 _ (by omega) | exact kdE KW_92 (by omega) | exact KW_92.2.2.2.2.2.2.2.2.1 _ (by omega)) (c_X6_fairs KW_92 hm6 r77b) (by omega) rfl ⟨Nat.le_refl _, Nat.le_refl _⟩ (fun x89 M89 q89 => ?_)
          obtain ⟨rfl, q89⟩ := q89
          replace q89 := q89.symm
          subst q89
          refine R.V3i kc_X7_check_92 (by first | rfl | assumption | exact kdE KW_70 (by omega) | exact KW_70.2.2.2.2.2.2.2.2.1 _ (by omega) | exact kdE KW_92 (by omega) | exact KW_92.2.2.2.2.2.2.2.2.1 _ (by omega)) (c_X7_stands (p := 2 * i) (by omega) hwn) (by omega) rfl ⟨Nat.le_refl _, Nat.le_refl _⟩ (fun x92 M92 q92 => ?_)
          obtain ⟨rfl, q92⟩ := q92
          replace q92 := q92.symm
          subst q92
          rw [e10]
          refine R.c br_X7_check_95 (And.intro (fun h95 => ?_) (fun h95 => ?_))
          · have hC1 : C1 b (M 10) wn mm i := by
              apply Classical.byContradiction
              intro hn
              exact h95 (if_neg hn)
            refine R.b bk_X7_check_103 (And.intro (by first | rfl | assumption | exact kdE KW_70 (by omega) | exact KW_70.2.2.2.2.2.2.2.2.1 _ (by omega) | exact kdE KW_92 (by omega) | exact KW_92.2.2.2.2.2.2.2.2.1 _ (by omega)) ?_)
            refine R.V0i kc_X7_check_114 (by first | rfl | assumption | exact kdE KW_70 (by omega) | exact KW_70.2.2.2.2.2.2.2.2.1 _ (by omega) | exact kdE KW_92 (by omega) | exact KW_92.2.2.2.2.2.2.2.2.1 _ (by omega)) (c_X6_pursesOfAll KW_92 hm6 r77b) (by omega) rfl ⟨Nat.le_refl _, Nat.le_refl _⟩ (fun x114 M114 q114 => ?_)
            obtain ⟨rfl, q114⟩ := q114
            replace q114 := q114.symm
            subst q114
            rw [nI_inc]
            refine R.V3i kc_X7_check_117 (by first | rfl | assumption | exact kdE KW_70 (by omega) | exact KW_70.2.2.2.2.2.2.2.2.1 _ (by omega) | exact kdE KW_92 (by omega) | exact KW_92.2.2.2.2.2.2.2.2.1 _ (by omega)) (c_X7_stands (p := 2 * i + 1) (by omega) hwn) (by omega) rfl ⟨Nat.le_refl _, Nat.le_refl _⟩ (fun x117 M117 q117 => ?_)
            obtain ⟨rfl, q117⟩ := q117
            replace q117 := q117.symm
            subst q117
            rw [e10]
            refine R.c br_X7_check_120 (And.intro (fun h120 => ?_) (fun h120 => ?_))
            · have hC2 : C2 b (M 10) wn mm i := by
                apply Classical.byContradiction
                intro hn
                exact h120 (if_neg hn)
              rw [if_pos hC1, if_pos hC2] at eC
              refine R.b bk_X7_check_128 ?_
              refine R.j gt_X7_check_134 ?_
              rw [nI_inc, nI_inc]
              have hx := ih (i + 1) M77 (by omega) (by omega) r77b f78 eC (by have := hC2.1; omega)
              rw [show 2 * (i + 1) = 2 * i + 1 + 1 by omega] at hx
              exact hx
            · refine R.b bk_X7_check_123 ?_
              refine R.ri rt_X7_check_127 rfl ⟨_, rfl, ?_⟩
              have hC2 : ¬ C2 b (M 10) wn mm i := by
                intro hn
                rw [if_pos hn] at h120
                exact absurd h120 (by decide)
              rw [if_pos hC1, if_neg hC2] at eC
              have eA : A_ck b (M 10) wn mm rm = 2 * i + 1 := by
                have := A_ck_stop (b := b) (wt := M 10) (wn := wn) (mm := mm) (i := i + 1) (by omega) (rm - (i + 1))
                rw [show i + 1 + (rm - (i + 1)) = rm by omega, eC] at this
                exact this
              refine ⟨?_, fun q hq h0 => by rw [f78 q hq, mx_wr_ne h0], by rw [f78 0 (by decide), mx_wr_up, mx_rw_at]⟩
              rw [hF, eA, if_neg (by omega)]
              exact nI_add 1 (2 * i + 1)
          · refine R.b bk_X7_check_98 ?_
            refine R.ri rt_X7_check_102 rfl ⟨_, rfl, ?_⟩
            have hC1 : ¬ C1 b (M 10) wn mm i := by
              intro hn
              rw [if_pos hn] at h95
              exact absurd h95 (by decide)
            rw [if_neg hC1] at eC
            have eA : A_ck b (M 10) wn mm rm = 2 * i := by
              have := A_ck_stop (b := b) (wt := M 10) (wn := wn) (mm := mm) (i := i + 1) (by omega) (rm - (i + 1))
              rw [show i + 1 + (rm - (i + 1)) = rm by omega, eC] at this
              exact this
            refine ⟨?_, fun q hq h0 => by rw [f78 q hq, mx_wr_ne h0], by rw [f78 0 (by decide), mx_wr_up, mx_rw_at]⟩
            rw [hF, eA, if_neg (by omega)]
            exact nI_add 1 (2 * i)
      refine R.b bk_X7_check_33 (And.intro (by first | rfl | assumption | exact kdE KW_70 (by omega) | exact KW_70.2.2.2.2.2.2.2.2.1 _ (by omega) | exact kdE KW_92 (by omega) | exact KW_92.2.2.2.2.2.2.2.2.1 _ (by omega)) (And.intro (by first | rfl | assumption | exact kdE KW_70 (by omega) | exact KW_70.2.2.2.2.2.2.2.2.1 _ (by omega) | exact kdE KW_92 (by omega) | exact KW_92.2.2.2.2.2.2.2.2.1 _ (by omega)) ?_))
      refine R.V1v kc_X7_check_41 (by first | rfl | assumption | exact kdE KW_70 (by omega) | exact KW_70.2.2.2.2.2.2.2.2.1 _ (by omega) | exact kdE KW_92 (by omega) | exact KW_92.2.2.2.2.2.2.2.2.1 _ (by omega)) (c_X6_becomeLike KW_92 KW_81 (by decide) hm6 (RW_frame hm6 hR (fun q hq => mx_wr_ne (by omega)))) (by omega) rfl ⟨Nat.le_refl _, Nat.le_refl _⟩ (fun M41 q41 => ?_)
      obtain ⟨r41, f41⟩ := q41
      refine R.b bk_X7_check_44 (And.intro (by first | rfl | assumption | exact kdE KW_70 (by omega) | exact KW_70.2.2.2.2.2.2.2.2.1 _ (by omega) | exact kdE KW_92 (by omega) | exact KW_92.2.2.2.2.2.2.2.2.1 _ (by omega)) (And.intro (by first | rfl | assumption | exact kdE KW_70 (by omega) | exact KW_70.2.2.2.2.2.2.2.2.1 _ (by omega) | exact kdE KW_92 (by omega) | exact KW_92.2.2.2.2.2.2.2.2.1 _ (by omega)) ?_))
      refine R.min kc_X7_check_55 (by omega) rfl (Nat.le_refl _) ?_
      refine R.b bk_X7_check_58 ?_
      have e6 : (99999 : Int32) - M41 81 (389 % 64) = nI (99999 - dy) := by
        rw [f41 81 (by decide), mx_wr_ne (by decide), show M 81 (389 % 64) = b 2 from hR.2.2.1]
        exact eS
      rw [e6, min_i (by omega) (by omega), ← hrm, show M 0 (460 % 64) = nI wn from hw]
      exact hA rm 0 M41 rfl (Nat.zero_le _) r41 f41 rfl (Nat.zero_le _)
    · refine R.b bk_X7_check_30 ?_
      refine R.ri rt_X7_check_32 rfl ⟨_, rfl, ?_⟩
      have hI0 : M 0 4 = 0 := by rw [← e4w]; exact h27
      refine ⟨by rw [F_check, if_neg h17, if_pos hI0], fun q hq h0 => mx_wr_ne h0, ?_⟩
      show mx_wr M 0 12 0 0 = _
      rw [mx_wr_up, mx_rw_at]
  · refine R.b bk_X7_check_20 ?_
    refine R.ri rt_X7_check_22 rfl ⟨_, rfl, ?_⟩
    refine ⟨by rw [F_check, if_pos h17], fun q hq h0 => mx_wr_ne h0, ?_⟩
    show mx_wr M 0 12 0 0 = _
    rw [mx_wr_up, mx_rw_at]
