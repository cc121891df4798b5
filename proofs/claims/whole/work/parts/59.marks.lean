/-! marks, pours, readings, copies -/
theorem miss_1 {t : Int32} (hv : t = -1 ∨ t = 0 ∨ t = 1) (h : ¬ f_eq t (-1) = 0) : t < 0 := by
  rcases hv with rfl | rfl | rfl
  · decide
  · exact absurd rfl h
  · exact absurd rfl h
theorem miss_0 {t : Int32} (hv : t = -1 ∨ t = 0 ∨ t = 1) (h : f_eq t (-1) = 0) : ¬ t < 0 := by
  rcases hv with rfl | rfl | rfl
  · exact absurd h (by decide)
  · decide
  · decide
theorem RS_mark {M : Mm} {so sz ce : Rw} {sn pn : Nat} {v : Int32} (hS : RS M so sz ce) (hs : sn < 4) (hp : pn < 24) : RS (mx_wr M (42 + 2 * sn + 1) pn v) so sz (up ce (24 * sn + pn) v) := by
  obtain ⟨g0, g1, g2⟩ := hS sn hs
  refine RS_at hS hs ?_ ?_ ?_ ?_ ?_ ?_
  · rw [mx_wr_ne (by omega)]; exact g0
  · rw [mx_wr_ne (by omega)]; exact g1
  · intro k hk
    rw [mx_wr_up, mx_rw_at]
    unfold up
    by_cases h : k = pn
    · rw [if_pos h, if_pos (by omega)]
    · rw [if_neg h, if_neg (by omega)]; exact g2 k hk
  · intro q _ h2 _ _
    exact mx_wr_ne h2
  · intro t _
    exact ⟨rfl, rfl⟩
  · intro t k ht hk
    exact up_ne (by omega)
theorem c_X7_mark {l : Launch} {G : Gt} {M : Mm} {s p v : Int32} {so sz ce : Rw} (hS : RS M so sz ce) (hVS : VS so sz ce) : Runs l G true dm_X7_mark 1 127 [.ref 0, .int s, .int p, .int v] M 127 (Pi (fun r M1 => (k_mark so sz s p v ≠ 0 → r = k_mark so sz s p v ∧ M1 = M) ∧ (k_mark so sz s p v = 0 → r = 1 ∧ RS M1 so sz (up ce (24 * cN s + cN p) (f_mark (so (cN s)) v)) ∧ ∀ q, ¬ (42 ≤ q ∧ q < 50) → M1 q = M q))) := by
  refine mx_run ow_X7_mark rfl rfl (fun dp X hdp R => ?_)
  refine R.b bk_X7_mark_0 ?_
  refine R.V1i kc_X7_mark_2 (by first | rfl | assumption | exact (kd_sh (by omega)).1 | exact (kd_sh (by omega)).2.1) (c_X7_isSheet) (by omega) rfl ⟨Nat.le_refl _, Nat.le_refl _⟩ (fun x2 M2 q2 => ?_)
  obtain ⟨rfl, q2⟩ := q2
  replace q2 := q2.symm
  subst q2
  refine R.c br_X7_mark_5 (And.intro (fun h5 => ?_) (fun h5 => ?_))
  · obtain ⟨sn, hsn, rfl⟩ := f_in_nat (n := 3) (by decide) h5
    have hcsn : cN (nI sn) = sn := cN_nI (by omega)
    obtain ⟨g0, g1, g2⟩ := hS sn (by omega)
    obtain ⟨v0, ⟨zn, hzn, ez⟩, v2⟩ := hVS sn (by omega)
    have h1n : M (42 + 2 * sn) 1 = nI zn := g1.trans ez
    refine R.b bk_X7_mark_11 (And.intro (by first | rfl | assumption | exact (kd_sh (by omega)).1 | exact (kd_sh (by omega)).2.1) (And.intro ⟨by decide, by decide, rfl⟩ (And.intro (by first | rfl | assumption | exact (kd_sh (by omega)).1 | exact (kd_sh (by omega)).2.1) (And.intro (by exact vp_in_nI (show sn < 4 by omega) (by decide)) ?_))))
    rw [el15 (show sn < 4 by omega)]
    refine R.V0i kc_X7_mark_21 (by first | rfl | assumption | exact (kd_sh (by omega)).1 | exact (kd_sh (by omega)).2.1) (c_X4_isMissing (q := 42 + 2 * sn) (kd_sh (by omega)).1) (by omega) rfl ⟨Nat.le_refl _, Nat.le_refl _⟩ (fun x21 M21 q21 => ?_)
    obtain ⟨e21, q21⟩ := q21
    replace q21 := q21.symm
    subst q21
    rw [g0] at e21
    subst e21
    refine R.c br_X7_mark_24 (And.intro (fun h24 => ?_) (fun h24 => ?_))
    · have hn0 : ¬ so sn < 0 := miss_0 v0 h24
      refine R.b bk_X7_mark_30 ?_
      refine R.V1i kc_X7_mark_33 (by first | rfl | assumption | exact (kd_sh (by omega)).1 | exact (kd_sh (by omega)).2.1) (c_X4_has (q := 42 + 2 * sn) (kd_sh (by omega)).1 hzn h1n) (by omega) rfl ⟨Nat.le_refl _, Nat.le_refl _⟩ (fun x33 M33 q33 => ?_)
      obtain ⟨rfl, q33⟩ := q33
      replace q33 := q33.symm
      subst q33
      refine R.c br_X7_mark_36 (And.intro (fun h36 => ?_) (fun h36 => ?_))
      · have hz : ¬ f_in p 0 (sz sn - 1) = 0 := by rw [ez]; exact h36
        have hE : k_mark so sz (nI sn) p v = 0 → X 127 M 89 [some (.ref 0), some (.int (nI sn)), some (.int p), some (.int v), some (.ref (42 + 2 * sn))] [] := by
          intro e
          obtain ⟨pn, hpn, rfl⟩ := f_in_dist (by omega) rfl h36
          have hcp : cN (nI pn) = pn := cN_nI (by omega)
          refine R.b bk_X7_mark_89 (And.intro (by first | rfl | assumption | exact (kd_sh (by omega)).1 | exact (kd_sh (by omega)).2.1) (And.intro (by first | rfl | assumption | exact (kd_sh (by omega)).1 | exact (kd_sh (by omega)).2.1) ?_))
          rw [show M (42 + 2 * sn) (256 % 64) = so sn from g0]
          refine R.c br_X7_mark_100 (And.intro (fun h100 => ?_) (fun h100 => ?_))
          · refine R.b bk_X7_mark_108 ?_
            refine R.b bk_X7_mark_109 (And.intro (by first | rfl | assumption | exact (kd_sh (by omega)).1 | exact (kd_sh (by omega)).2.1) (And.intro (by rw [(kd_sh (by omega)).2.2]; exact vp_in_nI (show pn < 24 by omega) (by decide)) ?_))
            refine R.ri rt_X7_mark_111 rfl ⟨_, rfl, ?_⟩
            refine ⟨fun h => absurd e h, fun _ => ⟨rfl, ?_, fun q hq => mx_wr_ne (by omega)⟩⟩
            rw [hcsn, hcp, show (nI pn).toNatClampNeg = pn from hcp]
            first | (rw [f_mark, if_pos h100]; exact RS_mark (sn := sn) (pn := pn) hS (by omega) (by omega)) | (rw [f_mark, if_neg h100]; exact RS_mark (sn := sn) (pn := pn) hS (by omega) (by omega))
          · refine R.b bk_X7_mark_103 ?_
            refine R.j gt_X7_mark_105 ?_
            refine R.b bk_X7_mark_109 (And.intro (by first | rfl | assumption | exact (kd_sh (by omega)).1 | exact (kd_sh (by omega)).2.1) (And.intro (by rw [(kd_sh (by omega)).2.2]; exact vp_in_nI (show pn < 24 by omega) (by decide)) ?_))
            refine R.ri rt_X7_mark_111 rfl ⟨_, rfl, ?_⟩
            refine ⟨fun h => absurd e h, fun _ => ⟨rfl, ?_, fun q hq => mx_wr_ne (by omega)⟩⟩
            rw [hcsn, hcp, show (nI pn).toNatClampNeg = pn from hcp]
            first | (rw [f_mark, if_pos h100]; exact RS_mark (sn := sn) (pn := pn) hS (by omega) (by omega)) | (rw [f_mark, if_neg h100]; exact RS_mark (sn := sn) (pn := pn) hS (by omega) (by omega))
        refine R.b bk_X7_mark_43 (And.intro (by first | rfl | assumption | exact (kd_sh (by omega)).1 | exact (kd_sh (by omega)).2.1) ?_)
        rw [show M (42 + 2 * sn) (256 % 64) = so sn from g0]
        refine R.c br_X7_mark_48 (And.intro (fun h48 => ?_) (fun h48 => ?_))
        · refine R.b bk_X7_mark_60 (And.intro (by first | rfl | assumption | exact (kd_sh (by omega)).1 | exact (kd_sh (by omega)).2.1) ?_)
          rw [show M (42 + 2 * sn) (256 % 64) = so sn from g0]
          refine R.c br_X7_mark_66 (And.intro (fun h66 => ?_) (fun h66 => ?_))
          · refine hE ?_
            rw [k_mark, if_neg h5, hcsn, if_neg hn0, if_neg hz, if_neg (by simp_all), if_neg (by simp_all)]
          · refine R.b bk_X7_mark_69 ?_
            refine R.c br_X7_mark_72 (And.intro (fun h72 => ?_) (fun h72 => ?_))
            · refine hE ?_
              rw [k_mark, if_neg h5, hcsn, if_neg hn0, if_neg hz, if_neg (by simp_all), if_neg (by simp_all)]
            · refine R.b bk_X7_mark_75 ?_
              refine R.S3i kc_X7_mark_80 (c_X7_within) (by omega) rfl ⟨Nat.le_refl _, Nat.le_refl _⟩ (fun x80 M80 q80 => ?_)
              obtain ⟨rfl, q80⟩ := q80
              replace q80 := q80.symm
              subst q80
              refine R.c br_X7_mark_83 (And.intro (fun h83 => ?_) (fun h83 => ?_))
              · refine hE ?_
                rw [k_mark, if_neg h5, hcsn, if_neg hn0, if_neg hz, if_neg (by simp_all), if_neg (by simp_all)]
              · refine R.b bk_X7_mark_86 ?_
                refine R.ri rt_X7_mark_88 rfl ⟨_, rfl, ?_⟩
                have hk2 : ¬ (so sn = 0 ∧ v = (-1000000005)) := fun q => absurd (h66.symm.trans q.1) (by decide)
                have e : k_mark so sz (nI sn) p v = (-1000000001) := by rw [k_mark, if_neg h5, hcsn, if_neg hn0, if_neg hz, if_neg hk2, if_pos ⟨h66, h72, h83⟩]
                exact ⟨fun _ => ⟨e.symm, rfl⟩, fun h => absurd (e.symm.trans h) (by decide)⟩
        · refine R.b bk_X7_mark_51 ?_
          refine R.c br_X7_mark_54 (And.intro (fun h54 => ?_) (fun h54 => ?_))
          · refine R.b bk_X7_mark_60 (And.intro (by first | rfl | assumption | exact (kd_sh (by omega)).1 | exact (kd_sh (by omega)).2.1) ?_)
            rw [show M (42 + 2 * sn) (256 % 64) = so sn from g0]
            refine R.c br_X7_mark_66 (And.intro (fun h66 => ?_) (fun h66 => ?_))
            · refine hE ?_
              rw [k_mark, if_neg h5, hcsn, if_neg hn0, if_neg hz, if_neg (by simp_all), if_neg (by simp_all)]
            · refine R.b bk_X7_mark_69 ?_
              refine R.c br_X7_mark_72 (And.intro (fun h72 => absurd h72 h54) (fun h72 => ?_))
              refine R.b bk_X7_mark_75 ?_
              refine R.S3i kc_X7_mark_80 (c_X7_within) (by omega) rfl ⟨Nat.le_refl _, Nat.le_refl _⟩ (fun x80 M80 q80 => ?_)
              obtain ⟨rfl, q80⟩ := q80
              replace q80 := q80.symm
              subst q80
              refine R.c br_X7_mark_83 (And.intro (fun h83 => ?_) (fun h83 => ?_))
              · refine hE ?_
                rw [k_mark, if_neg h5, hcsn, if_neg hn0, if_neg hz, if_neg (by simp_all), if_neg (by simp_all)]
              · refine R.b bk_X7_mark_86 ?_
                refine R.ri rt_X7_mark_88 rfl ⟨_, rfl, ?_⟩
                have hk2 : ¬ (so sn = 0 ∧ v = (-1000000005)) := fun q => absurd (h66.symm.trans q.1) (by decide)
                have e : k_mark so sz (nI sn) p v = (-1000000001) := by rw [k_mark, if_neg h5, hcsn, if_neg hn0, if_neg hz, if_neg hk2, if_pos ⟨h66, h72, h83⟩]
                exact ⟨fun _ => ⟨e.symm, rfl⟩, fun h => absurd (e.symm.trans h) (by decide)⟩
          · refine R.b bk_X7_mark_57 ?_
            refine R.ri rt_X7_mark_59 rfl ⟨_, rfl, ?_⟩
            have e : k_mark so sz (nI sn) p v = (-1000000012) := by rw [k_mark, if_neg h5, hcsn, if_neg hn0, if_neg hz, if_pos ⟨h48, h54⟩]
            exact ⟨fun _ => ⟨e.symm, rfl⟩, fun h => absurd (e.symm.trans h) (by decide)⟩
      · refine R.b bk_X7_mark_39 ?_
        refine R.ri rt_X7_mark_42 rfl ⟨_, rfl, ?_⟩
        have hz : f_in p 0 (sz sn - 1) = 0 := by rw [ez]; exact h36
        have e : k_mark so sz (nI sn) p v = (-1000000013) := by rw [k_mark, if_neg h5, hcsn, if_neg hn0, if_pos hz]
        exact ⟨fun _ => ⟨e.symm, rfl⟩, fun h => absurd (e.symm.trans h) (by decide)⟩
    · refine R.b bk_X7_mark_27 ?_
      refine R.ri rt_X7_mark_29 rfl ⟨_, rfl, ?_⟩
      have e : k_mark so sz (nI sn) p v = (-1000000011) := by rw [k_mark, if_neg h5, hcsn, if_pos (miss_1 v0 h24)]
      exact ⟨fun _ => ⟨e.symm, rfl⟩, fun h => absurd (e.symm.trans h) (by decide)⟩
  · refine R.b bk_X7_mark_8 ?_
    refine R.ri rt_X7_mark_10 rfl ⟨_, rfl, ?_⟩
    have e : k_mark so sz s p v = (-1000000001) := by rw [k_mark, if_pos h5]
    exact ⟨fun _ => ⟨e.symm, rfl⟩, fun h => absurd (e.symm.trans h) (by decide)⟩
def f_pr0 (r v : Int32) (zn i : Nat) : Int32 := if zn ≤ i ∨ v = (-1000000005) then r else f_held v 0 9
theorem pour_step {a c : Rw} {zn i : Nat} : A_pour a c (min zn (i + 1)) = up (A_pour a c (min zn i)) (7 + 8 * i + 1) (f_pr0 (a (7 + 8 * i + 1)) (c i) zn i) ∧ n_pour a c (min zn (i + 1)) = n_pour a c (min zn i) + (if a (7 + 8 * i + 1) = f_pr0 (a (7 + 8 * i + 1)) (c i) zn i then 0 else 1) := by
  by_cases h : i < zn
  · rw [Nat.min_eq_right (by omega), Nat.min_eq_right (by omega), A_pour, n_pour]
    have e : f_pr0 (a (7 + 8 * i + 1)) (c i) zn i = f_pr (a (7 + 8 * i + 1)) (c i) := by
      unfold f_pr0 f_pr
      by_cases hc : c i = (-1000000005)
      · rw [if_pos (Or.inr hc), if_pos hc]
      · rw [if_neg (fun q => q.elim (fun q => absurd q (by omega)) hc), if_neg hc]
    rw [e]
    exact ⟨rfl, rfl⟩
  · rw [Nat.min_eq_left (by omega), Nat.min_eq_left (by omega)]
    have e : f_pr0 (a (7 + 8 * i + 1)) (c i) zn i = a (7 + 8 * i + 1) := by rw [f_pr0, if_pos (Or.inl (by omega))]
    rw [e, if_pos rfl]
    refine ⟨?_, by simp⟩
    have e2 : A_pour a c zn (7 + 8 * i + 1) = a (7 + 8 * i + 1) := A_pour_keep a c _ _ (fun d hd => by omega)
    rw [← e2, up_same]
theorem c_X7_pour {l : Launch} {G : Gt} {M : Mm} {s : Int32} {a : Rw} {mm : Nat} (hV : VP a mm) (hR : RW M 70 a Sall mm) {so sz ce : Rw} (hS : RS M so sz ce) (hVS : VS so sz ce) : Runs l G true dm_X7_pour 2 127 [.ref 0, .int s] M 127 (Pi (fun r M1 => (k_pour so s ≠ 0 → r = k_pour so s ∧ M1 = M) ∧ (k_pour so s = 0 → r = n_pour a (fun k => ce (24 * cN s + k)) (min (cN (sz (cN s))) (cN (a 1))) ∧ RN M1 70 (A_pour a (fun k => ce (24 * cN s + k)) (min (cN (sz (cN s))) (cN (a 1)))) ∧ ∀ q, ¬ (70 ≤ q ∧ q < 81) → M1 q = M q))) := by
  refine mx_run ow_X7_pour rfl rfl (fun dp X hdp R => ?_)
  have hm6 := hV.1.1
  have h4m : M 70 4 = nI mm := hR.2.1.trans hR.1
  have hDD : ∀ d, d < mm → ∀ f, f < 8 → M (70 + 5 + d) f = a (7 + 8 * d + f) := fun d hd f hf => hR.2.2.2.2.2.2.2.2.2 d hd rfl f hf
  have hisD : ∀ v, isD a v = f_in v 0 (nI mm - 1) := fun v => by rw [isD, hR.1]
  refine R.b bk_X7_pour_0 ?_
  refine R.V1i kc_X7_pour_2 (by first | rfl | assumption | exact (kd_sh (by omega)).1 | exact (kd_sh (by omega)).2.1 | exact kdE KW_70 (by omega) | exact KW_70.2.2.2.2.2.2.2.2.1 _ (by omega) | exact kdE KW_92 (by omega) | exact KW_92.2.2.2.2.2.2.2.2.1 _ (by omega)) (c_X7_isSheet) (by omega) rfl ⟨Nat.le_refl _, Nat.le_refl _⟩ (fun x2 M2 q2 => ?_)
  obtain ⟨rfl, q2⟩ := q2
  replace q2 := q2.symm
  subst q2
  refine R.c br_X7_pour_5 (And.intro (fun h5 => ?_) (fun h5 => ?_))
  · obtain ⟨sn, hsn, rfl⟩ := f_in_nat (n := 3) (by decide) h5
    have hcsn : cN (nI sn) = sn := cN_nI (by omega)
    obtain ⟨g0, g1, g2⟩ := hS sn (by omega)
    obtain ⟨v0, ⟨zn, hzn, ez⟩, v2⟩ := hVS sn (by omega)
    have h1n : M (42 + 2 * sn) 1 = nI zn := g1.trans ez
    refine R.b bk_X7_pour_11 (And.intro (by first | rfl | assumption | exact (kd_sh (by omega)).1 | exact (kd_sh (by omega)).2.1 | exact kdE KW_70 (by omega) | exact KW_70.2.2.2.2.2.2.2.2.1 _ (by omega) | exact kdE KW_92 (by omega) | exact KW_92.2.2.2.2.2.2.2.2.1 _ (by omega)) (And.intro ⟨by decide, by decide, rfl⟩ (And.intro (by first | rfl | assumption | exact (kd_sh (by omega)).1 | exact (kd_sh (by omega)).2.1 | exact kdE KW_70 (by omega) | exact KW_70.2.2.2.2.2.2.2.2.1 _ (by omega) | exact kdE KW_92 (by omega) | exact KW_92.2.2.2.2.2.2.2.2.1 _ (by omega)) (And.intro (by exact vp_in_nI (show sn < 4 by omega) (by decide)) ?_))))
    rw [el15 (show sn < 4 by omega)]
    refine R.V0i kc_X7_pour_19 (by first | rfl | assumption | exact (kd_sh (by omega)).1 | exact (kd_sh (by omega)).2.1 | exact kdE KW_70 (by omega) | exact KW_70.2.2.2.2.2.2.2.2.1 _ (by omega) | exact kdE KW_92 (by omega) | exact KW_92.2.2.2.2.2.2.2.2.1 _ (by omega)) (c_X4_isMissing (q := 42 + 2 * sn) (kd_sh (by omega)).1) (by omega) rfl ⟨Nat.le_refl _, Nat.le_refl _⟩ (fun x19 M19 q19 => ?_)
    obtain ⟨e19, q19⟩ := q19
    replace q19 := q19.symm
    subst q19
    rw [g0] at e19
    subst e19
    refine R.c br_X7_pour_22 (And.intro (fun h22 => ?_) (fun h22 => ?_))
    · have hn0 : ¬ so sn < 0 := miss_0 v0 h22
      have hk0 : k_pour so (nI sn) = 0 := by rw [k_pour, if_neg h5, hcsn, if_neg hn0]
      obtain ⟨c, hc⟩ : ∃ c : Rw, c = (fun k => ce (24 * sn + k)) := ⟨_, rfl⟩
      have hA : ∀ (fu i : Nat) (M1 : Mm) (c5 : Option Value) (c6 : Option Value), mm - i = fu → i ≤ mm → (RW M1 70 (A_pour a c (min zn i)) Sall mm) → (∀ q, ¬ (70 ≤ q ∧ q < 81) → M1 q = M q) → X 127 M1 33 [some (.ref 0), some (.int (nI sn)), some (.ref (42 + 2 * sn)), some (.int (n_pour a c (min zn i))), some (.int (nI i)), c5, c6] [] := by
        intro fu
        induction fu with
        | zero =>
          intro i M1 c5 c6 hfu hi hI1 hI2
          have hiN : i = mm := by omega
          have e4 : M1 70 4 = nI mm := hI1.2.1.trans hI1.1
          refine R.b bk_X7_pour_33 (And.intro (by first | rfl | assumption | exact (kd_sh (by omega)).1 | exact (kd_sh (by omega)).2.1 | exact kdE KW_70 (by omega) | exact KW_70.2.2.2.2.2.2.2.2.1 _ (by omega) | exact kdE KW_92 (by omega) | exact KW_92.2.2.2.2.2.2.2.2.1 _ (by omega)) (And.intro (by first | rfl | assumption | exact (kd_sh (by omega)).1 | exact (kd_sh (by omega)).2.1 | exact kdE KW_70 (by omega) | exact KW_70.2.2.2.2.2.2.2.2.1 _ (by omega) | exact kdE KW_92 (by omega) | exact KW_92.2.2.2.2.2.2.2.2.1 _ (by omega)) ?_))
          refine R.c br_X7_pour_42 (And.intro (fun h42 => ?_) (fun h42 => absurd (by rw [show M1 70 (388 % 64) = nI mm from e4, hiN]; exact nI_le (Nat.le_refl mm) (by omega)) h42))
          refine R.b bk_X7_pour_115 ?_
          refine R.ri rt_X7_pour_116 rfl ⟨_, rfl, ?_⟩
          refine ⟨fun h => absurd hk0 h, fun _ => ?_⟩
          rw [hcsn, ← hc, ez, cN_nI (by omega), hR.1, cN_nI (by omega), ← hiN]
          exact ⟨rfl, RN_of hm6 hI1, hI2⟩
        | succ fu ih =>
          intro i M1 c5 c6 hfu hi hI1 hI2
          have hlt : i < mm := by omega
          have e4 : M1 70 4 = nI mm := hI1.2.1.trans hI1.1
          have er : M1 (70 + 5 + i) 1 = a (7 + 8 * i + 1) := by rw [hI1.2.2.2.2.2.2.2.2.2 i hlt rfl 1 (by decide)]; exact A_pour_keep a c _ _ (fun d hd => by omega)
          have ec : ∀ k, k < 24 → M1 (42 + 2 * sn + 1) k = c k := fun k hk => by rw [hI2 _ (by omega), hc]; exact g2 k hk
          have hW : ∀ (r : Int32) (c6 : Option Value), r = f_pr0 (a (7 + 8 * i + 1)) (c i) zn i → X 127 M1 87 [some (.ref 0), some (.int (nI sn)), some (.ref (42 + 2 * sn)), some (.int (n_pour a c (min zn i))), some (.int (nI i)), some (.ref (70 + 5 + i)), c6] [.int r] := by
            intro r c6 hr
            refine R.b bk_X7_pour_87 (And.intro (by first | rfl | assumption | exact (kd_sh (by omega)).1 | exact (kd_sh (by omega)).2.1 | exact kdE KW_70 (by omega) | exact KW_70.2.2.2.2.2.2.2.2.1 i (by omega) | exact kdE KW_92 (by omega) | exact KW_92.2.2.2.2.2.2.2.2.1 i (by omega)) ?_)
            rw [show M1 (70 + 5 + i) (1 % 64) = a (7 + 8 * i + 1) from er]
            refine R.c br_X7_pour_96 (And.intro (fun h96 => ?_) (fun h96 => ?_))
            · refine R.b bk_X7_pour_102 (And.intro (by first | rfl | assumption | exact (kd_sh (by omega)).1 | exact (kd_sh (by omega)).2.1 | exact kdE KW_70 (by omega) | exact KW_70.2.2.2.2.2.2.2.2.1 i (by omega) | exact kdE KW_92 (by omega) | exact KW_92.2.2.2.2.2.2.2.2.1 i (by omega)) (And.intro rfl (And.intro rfl ?_)))
              refine R.j gt_X7_pour_112 ?_
              rw [nI_inc]
              have hst := pour_step (a := a) (c := c) (zn := zn) (i := i)
              rw [← hr] at hst
              have hx := ih (i + 1) (mx_wr M1 (70 + 5 + i) 1 r) (some (.ref (70 + 5 + i))) (some (.int r)) (by omega) (by omega) (by
                have hw := RW_wr (f := 1) (v := r) hm6 hlt (by decide) hI1
                rw [hst.1]
                exact hw) (fun q hq => by rw [mx_wr_ne (by omega)]; exact hI2 q hq)
              rw [hst.2] at hx
              first
              | (rw [if_pos h96.symm] at hx; rw [show n_pour a c (min zn i) + 0 = n_pour a c (min zn i) by simp] at hx; exact hx)
              | (rw [if_neg (fun q => h96 q.symm)] at hx; exact hx)
            · refine R.b bk_X7_pour_99 ?_
              refine R.b bk_X7_pour_102 (And.intro (by first | rfl | assumption | exact (kd_sh (by omega)).1 | exact (kd_sh (by omega)).2.1 | exact kdE KW_70 (by omega) | exact KW_70.2.2.2.2.2.2.2.2.1 i (by omega) | exact kdE KW_92 (by omega) | exact KW_92.2.2.2.2.2.2.2.2.1 i (by omega)) (And.intro rfl (And.intro rfl ?_)))
              refine R.j gt_X7_pour_112 ?_
              rw [nI_inc]
              have hst := pour_step (a := a) (c := c) (zn := zn) (i := i)
              rw [← hr] at hst
              have hx := ih (i + 1) (mx_wr M1 (70 + 5 + i) 1 r) (some (.ref (70 + 5 + i))) (some (.int r)) (by omega) (by omega) (by
                have hw := RW_wr (f := 1) (v := r) hm6 hlt (by decide) hI1
                rw [hst.1]
                exact hw) (fun q hq => by rw [mx_wr_ne (by omega)]; exact hI2 q hq)
              rw [hst.2] at hx
              first
              | (rw [if_pos h96.symm] at hx; rw [show n_pour a c (min zn i) + 0 = n_pour a c (min zn i) by simp] at hx; exact hx)
              | (rw [if_neg (fun q => h96 q.symm)] at hx; exact hx)
          refine R.b bk_X7_pour_33 (And.intro (by first | rfl | assumption | exact (kd_sh (by omega)).1 | exact (kd_sh (by omega)).2.1 | exact kdE KW_70 (by omega) | exact KW_70.2.2.2.2.2.2.2.2.1 _ (by omega) | exact kdE KW_92 (by omega) | exact KW_92.2.2.2.2.2.2.2.2.1 _ (by omega)) (And.intro (by first | rfl | assumption | exact (kd_sh (by omega)).1 | exact (kd_sh (by omega)).2.1 | exact kdE KW_70 (by omega) | exact KW_70.2.2.2.2.2.2.2.2.1 _ (by omega) | exact kdE KW_92 (by omega) | exact KW_92.2.2.2.2.2.2.2.2.1 _ (by omega)) ?_))
          refine R.c br_X7_pour_42 (And.intro (fun h42 => absurd h42 (by rw [show M1 70 (388 % 64) = nI mm from e4]; exact nI_ge hlt (by omega))) (fun h42 => ?_))
          refine R.b bk_X7_pour_45 (And.intro (by first | rfl | assumption | exact (kd_sh (by omega)).1 | exact (kd_sh (by omega)).2.1 | exact kdE KW_70 (by omega) | exact KW_70.2.2.2.2.2.2.2.2.1 _ (by omega) | exact kdE KW_92 (by omega) | exact KW_92.2.2.2.2.2.2.2.2.1 _ (by omega)) (And.intro (by first | rfl | assumption | exact (kd_sh (by omega)).1 | exact (kd_sh (by omega)).2.1 | exact kdE KW_70 (by omega) | exact KW_70.2.2.2.2.2.2.2.2.1 _ (by omega) | exact kdE KW_92 (by omega) | exact KW_92.2.2.2.2.2.2.2.2.1 _ (by omega)) (And.intro ⟨by decide, by decide, rfl⟩ (And.intro (by first | rfl | assumption | exact (kd_sh (by omega)).1 | exact (kd_sh (by omega)).2.1 | exact kdE KW_70 (by omega) | exact KW_70.2.2.2.2.2.2.2.2.1 _ (by omega) | exact kdE KW_92 (by omega) | exact KW_92.2.2.2.2.2.2.2.2.1 _ (by omega)) (And.intro (by exact vp_in_nI (show i < 6 by omega) (by decide)) ?_)))))
          rw [el13 (w := 70) (show i < 6 by omega)]
          refine R.V1i kc_X7_pour_60 (by first | rfl | assumption | exact (kd_sh (by omega)).1 | exact (kd_sh (by omega)).2.1 | exact kdE KW_70 (by omega) | exact KW_70.2.2.2.2.2.2.2.2.1 _ (by omega) | exact kdE KW_92 (by omega) | exact KW_92.2.2.2.2.2.2.2.2.1 _ (by omega)) (c_X4_isNumberAt (q := 42 + 2 * sn) (kd_sh (by omega)).1 (kd_sh (by omega)).2.1 (kd_sh (by omega)).2.2 hzn (by rw [hI2 _ (by omega)]; exact h1n)) (by omega) rfl ⟨Nat.le_refl _, Nat.le_refl _⟩ (fun x60 M60 q60 => ?_)
          obtain ⟨rfl, q60⟩ := q60
          replace q60 := q60.symm
          subst q60
          refine R.c br_X7_pour_63 (And.intro (fun h63 => ?_) (fun h63 => ?_))
          · have hcn : zn ≤ i ∨ c i = (-1000000005) := by
              rcases Nat.lt_or_ge i zn with q | q
              · rw [f_num_in q (by omega), ec i (by omega)] at h63
                refine Or.inr (Classical.byContradiction (fun hc => ?_))
                rw [if_neg hc] at h63
                exact absurd h63 (by decide)
              · exact Or.inl q
            refine R.b bk_X7_pour_82 (And.intro (by first | rfl | assumption | exact (kd_sh (by omega)).1 | exact (kd_sh (by omega)).2.1 | exact kdE KW_70 (by omega) | exact KW_70.2.2.2.2.2.2.2.2.1 _ (by omega) | exact kdE KW_92 (by omega) | exact KW_92.2.2.2.2.2.2.2.2.1 _ (by omega)) ?_)
            refine hW _ _ ?_
            rw [f_pr0, if_pos hcn]
            exact er
          · have hiz : i < zn := by
              apply Nat.lt_of_not_le
              intro q
              rw [f_num_out q (by omega)] at h63
              exact h63 rfl
            have hcn : ¬ c i = (-1000000005) := by
              intro q
              rw [f_num_in hiz (by omega), ec i (by omega), if_pos q] at h63
              exact h63 rfl
            refine R.b bk_X7_pour_66 (And.intro (by first | rfl | assumption | exact (kd_sh (by omega)).1 | exact (kd_sh (by omega)).2.1 | exact kdE KW_70 (by omega) | exact KW_70.2.2.2.2.2.2.2.2.1 _ (by omega) | exact kdE KW_92 (by omega) | exact KW_92.2.2.2.2.2.2.2.2.1 _ (by omega)) (And.intro (by first | rfl | assumption | exact (kd_sh (by omega)).1 | exact (kd_sh (by omega)).2.1 | exact kdE KW_70 (by omega) | exact KW_70.2.2.2.2.2.2.2.2.1 _ (by omega) | exact kdE KW_92 (by omega) | exact KW_92.2.2.2.2.2.2.2.2.1 _ (by omega)) (And.intro (by rw [(kd_sh (by omega)).2.2]; exact vp_in_nI (show i < 24 by omega) (by decide)) ?_)))
            refine R.S3i kc_X7_pour_76 (c_X7_held (by decide)) (by omega) rfl ⟨Nat.le_refl _, Nat.le_refl _⟩ (fun x76 M76 q76 => ?_)
            obtain ⟨rfl, q76⟩ := q76
            replace q76 := q76.symm
            subst q76
            refine R.j gt_X7_pour_79 ?_
            refine hW _ _ ?_
            rw [f_pr0, if_neg (fun q => q.elim (fun q => absurd q (by omega)) hcn), ← ec i (by omega), nI_clamp (by omega)]
      refine R.b bk_X7_pour_28 ?_
      have hx := hA mm 0 M none none rfl (Nat.zero_le _) (by rw [Nat.min_zero]; exact hR) (fun q _ => rfl)
      rw [Nat.min_zero] at hx
      exact hx
    · refine R.b bk_X7_pour_25 ?_
      refine R.ri rt_X7_pour_27 rfl ⟨_, rfl, ?_⟩
      have e : k_pour so (nI sn) = (-1000000011) := by rw [k_pour, if_neg h5, hcsn, if_pos (miss_1 v0 h22)]
      exact ⟨fun _ => ⟨e.symm, rfl⟩, fun h => absurd (e.symm.trans h) (by decide)⟩
  · refine R.b bk_X7_pour_8 ?_
    refine R.ri rt_X7_pour_10 rfl ⟨_, rfl, ?_⟩
    have e : k_pour so s = (-1000000001) := by rw [k_pour, if_pos h5]
    exact ⟨fun _ => ⟨e.symm, rfl⟩, fun h => absurd (e.symm.trans h) (by decide)⟩
