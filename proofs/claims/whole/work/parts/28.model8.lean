/-! more of the model's calls -/
theorem c_X8_fine {l : Launch} {G : Gt} {M : Mm} {mm : Nat} (hV : VR (M 104) mm) : Runs l G true dm_X8_fine 2 127 [.ref 103] M 127 (Pi (fun r M1 => r = F_fine (M 104) ∧ ∀ q, q ≠ 116 → q ≠ 117 → M1 q = M q)) := by
  refine mx_run ow_X8_fine rfl rfl (fun dp X hdp R => ?_)
  have hmm := hV.1
  have h1 := hV.2.1
  obtain ⟨T, hT, h6, -⟩ := id hV.2.2.1
  have hcs : A_cnt (M 104) 2 = -1 ∨ ∃ t n, t < 14 ∧ A_cnt (M 104) 2 = nI t ∧ f_rem (M 104 (55 + 2 * t)) 1000 = nI n ∧ WFc (fun j => M 104 (83 + 96 * t + j)) n (nnK 2) := cnt_spec (kk := 2) (by decide) hV.2.2.1
  refine R.b bk_X8_fine_0 ?_
  refine R.V1i kc_X8_fine_2 (by first | rfl | assumption) (c_X8_counts hT h6) (by omega) rfl ⟨Nat.le_refl _, Nat.le_refl _⟩ (fun x2 M2 q2 => ?_)
  obtain ⟨rfl, q2⟩ := q2
  replace q2 := q2.symm
  subst q2
  refine R.b bk_X8_fine_5 (And.intro (by first | rfl | assumption) (And.intro (by first | rfl | assumption) (And.intro (by first | rfl | assumption) (And.intro (by exact vp_lit rfl) (And.intro (by first | rfl | assumption) (And.intro (by exact vp_lit rfl) (And.intro (by first | rfl | assumption) ?_)))))))
  refine R.V1i kc_X8_fine_25 (by first | rfl | assumption) (c_X8_sumOf (w := 5) (m := mm) (by decide) hmm h1) (by omega) rfl ⟨Nat.le_refl _, Nat.le_refl _⟩ (fun x25 M25 q25 => ?_)
  obtain ⟨rfl, q25⟩ := q25
  replace q25 := q25.symm
  subst q25
  refine R.b bk_X8_fine_28 (And.intro (by first | rfl | assumption) (And.intro (by exact vp_lit rfl) ?_))
  refine R.c br_X8_fine_30 (And.intro (fun h30 => ?_) (fun h30 => ?_))
  · rcases hcs with hcs | ⟨t, n, ht14, hcs, hn, hwf⟩
    · rw [hcs] at h30; exact absurd h30 (by decide)
    have hcs2 : A_cnt (M 104) 2 = nI t := hcs
    rw [hcs2]
    refine R.b bk_X8_fine_37 ?_
    refine R.V1i kc_X8_fine_39 (by first | rfl | assumption) (c_X8_worksOut (nn := 2) ht14 hn (by decide) hwf) (by omega) rfl ⟨Nat.le_refl _, Nat.le_refl _⟩ (fun x39 M39 q39 => ?_)
    obtain ⟨e39, f39⟩ := q39
    refine R.ri rt_X8_fine_42 rfl ⟨_, rfl, ?_⟩
    first
    | (refine ⟨?_, fun q h1 h2 => by rw [f39 q h1]; simp [mx_wr, h2]⟩
       rw [F_fine, if_neg (by rw [hcs2]; exact nI_not_m1 (by omega)), hcs2, cN_nI (by omega), e39]
       refine A_ev_congr hn hwf (by decide) (fun j hj => ?_)
       rw [h1, cN_nI (by omega)]
       rcases (show j = 0 ∨ j = 1 by unfold nnK at hj; simp at hj; omega) with rfl | rfl <;> rfl)
    | (refine ⟨?_, fun q h1 h2 => by simp [mx_wr, h2]⟩
       rcases hcs with hcs | ⟨t, n, ht14, hcs, -⟩
       · rw [F_fine, if_pos hcs]
       · exact absurd (by rw [show A_cnt (M 104) 2 = nI t from hcs]; exact nI_pos' (by omega)) h30)
  · refine R.b bk_X8_fine_33 ?_
    refine R.j gt_X8_fine_34 ?_
    refine R.ri rt_X8_fine_42 rfl ⟨_, rfl, ?_⟩
    first
    | (refine ⟨?_, fun q h1 h2 => by rw [f39 q h1]; simp [mx_wr, h2]⟩
       rw [F_fine, if_neg (by rw [hcs2]; exact nI_not_m1 (by omega)), hcs2, cN_nI (by omega), e39]
       refine A_ev_congr hn hwf (by decide) (fun j hj => ?_)
       rw [h1, cN_nI (by omega)]
       rcases (show j = 0 ∨ j = 1 by unfold nnK at hj; simp at hj; omega) with rfl | rfl <;> rfl)
    | (refine ⟨?_, fun q h1 h2 => by simp [mx_wr, h2]⟩
       rcases hcs with hcs | ⟨t, n, ht14, hcs, -⟩
       · rw [F_fine, if_pos hcs]
       · exact absurd (by rw [show A_cnt (M 104) 2 = nI t from hcs]; exact nI_pos' (by omega)) h30)
theorem c_X8_keep {l : Launch} {G : Gt} {M : Mm}  : Runs l G true dm_X8_keep 1 127 [.ref 103] M 127 (Pi (fun x M1 => x = M 104 1 ∧ M1 = mx_wr (mx_rw M 105 (cut 1427 (M 104) (M 105))) 103 3 1)) := by
  refine mx_run ow_X8_keep rfl rfl (fun dp X hdp R => ?_)
  refine R.b bk_X8_keep_0 (And.intro (by first | rfl | assumption) (And.intro (by first | rfl | assumption) ?_))
  refine R.S2v kc_X8_keep_8 (c_X8_copyAll (k1 := 104) (k2 := 105) rfl rfl (by decide)) (by omega) rfl ⟨Nat.le_refl _, Nat.le_refl _⟩ (fun M8 q8 => ?_)
  replace q8 := q8.symm
  subst q8
  refine R.b bk_X8_keep_11 (And.intro (by first | rfl | assumption) (And.intro rfl (And.intro rfl (And.intro (by first | rfl | assumption) (And.intro (by first | rfl | assumption) (And.intro (by exact vp_lit rfl) ?_))))))
  refine R.ri rt_X8_keep_22 rfl ⟨_, rfl, ?_⟩
  exact ⟨rfl, rfl⟩
theorem c_X8_back {l : Launch} {G : Gt} {M : Mm}  : Runs l G true dm_X8_back 1 127 [.ref 103] M 127 (Pi (fun x M1 => (M 103 3 = 0 → x = (-1000000002) ∧ M1 = M) ∧ (M 103 3 ≠ 0 → x = M 105 1 ∧ M1 = mx_rw M 104 (cut 1427 (M 105) (M 104))))) := by
  refine mx_run ow_X8_back rfl rfl (fun dp X hdp R => ?_)
  refine R.b bk_X8_back_0 (And.intro (by first | rfl | assumption) ?_)
  refine R.c br_X8_back_4 (And.intro (fun h4 => ?_) (fun h4 => ?_))
  · refine R.b bk_X8_back_10 (And.intro (by first | rfl | assumption) (And.intro (by first | rfl | assumption) ?_))
    refine R.S2v kc_X8_back_18 (c_X8_copyAll (k1 := 105) (k2 := 104) rfl rfl (by decide)) (by omega) rfl ⟨Nat.le_refl _, Nat.le_refl _⟩ (fun M18 q18 => ?_)
    replace q18 := q18.symm
    subst q18
    refine R.b bk_X8_back_21 (And.intro (by first | rfl | assumption) (And.intro (by first | rfl | assumption) (And.intro (by exact vp_lit rfl) ?_)))
    refine R.ri rt_X8_back_27 rfl ⟨_, rfl, ?_⟩
    exact ⟨fun h => absurd h h4, fun _ => ⟨rfl, rfl⟩⟩
  · refine R.b bk_X8_back_7 ?_
    refine R.ri rt_X8_back_9 rfl ⟨_, rfl, ?_⟩
    exact ⟨fun _ => ⟨rfl, rfl⟩, fun h => absurd h4 h⟩
theorem c_X8_count {l : Launch} {G : Gt} {M : Mm} {w : Int32} {mm : Nat} (hV : VR (M 104) mm) : Runs l G true dm_X8_count 2 127 [.ref 103, .int w] M 127 (Pi (fun x M1 => x = F_count (M 104) (M 103 34) (M 103 8) w ∧ M1 = M)) := by
  refine mx_run ow_X8_count rfl rfl (fun dp X hdp R => ?_)
  have hmm := hV.1
  refine R.b bk_X8_count_0 ?_
  refine R.s sw_X8_count_1 (And.intro (fun h1_0 => ?_) (fun h1_0 => And.intro (fun h1_1 => ?_) (fun h1_1 => And.intro (fun h1_2 => ?_) (fun h1_2 => And.intro (fun h1_3 => ?_) (fun h1_3 => And.intro (fun h1_4 => ?_) (fun h1_4 => And.intro (fun h1_5 => ?_) (fun h1_5 => And.intro (fun h1_6 => ?_) (fun h1_6 => And.intro (fun h1_7 => ?_) (fun h1_7 => And.intro (fun h1_8 => ?_) (fun h1_8 => And.intro (fun h1_9 => ?_) (fun h1_9 => ?_)))))))))))
  · refine R.b bk_X8_count_56 (And.intro (by first | rfl | assumption) (And.intro (by first | rfl | assumption) (And.intro (by exact vp_lit rfl) ?_)))
    refine R.ri rt_X8_count_62 rfl ⟨_, rfl, ?_⟩
    refine ⟨?_, rfl⟩
    have hc1 : cN (M 104 1) = mm := by rw [hV.2.1]; exact cN_nI (by omega)
    first | (subst w; rfl) | (simp [F_count, *]; done) | (simp [F_count, *]; rfl)
  · refine R.b bk_X8_count_63 (And.intro (by first | rfl | assumption) (And.intro (by first | rfl | assumption) (And.intro (by exact vp_lit rfl) ?_)))
    refine R.ri rt_X8_count_69 rfl ⟨_, rfl, ?_⟩
    refine ⟨?_, rfl⟩
    have hc1 : cN (M 104 1) = mm := by rw [hV.2.1]; exact cN_nI (by omega)
    first | (subst w; rfl) | (simp [F_count, *]; done) | (simp [F_count, *]; rfl)
  · refine R.b bk_X8_count_70 (And.intro (by first | rfl | assumption) (And.intro (by first | rfl | assumption) (And.intro (by exact vp_lit rfl) ?_)))
    refine R.ri rt_X8_count_76 rfl ⟨_, rfl, ?_⟩
    refine ⟨?_, rfl⟩
    have hc1 : cN (M 104 1) = mm := by rw [hV.2.1]; exact cN_nI (by omega)
    first | (subst w; rfl) | (simp [F_count, *]; done) | (simp [F_count, *]; rfl)
  · refine R.b bk_X8_count_77 (And.intro (by first | rfl | assumption) (And.intro (by first | rfl | assumption) (And.intro (by exact vp_lit rfl) ?_)))
    refine R.ri rt_X8_count_83 rfl ⟨_, rfl, ?_⟩
    refine ⟨?_, rfl⟩
    have hc1 : cN (M 104 1) = mm := by rw [hV.2.1]; exact cN_nI (by omega)
    first | (subst w; rfl) | (simp [F_count, *]; done) | (simp [F_count, *]; rfl)
  · refine R.b bk_X8_count_84 (And.intro (by first | rfl | assumption) (And.intro (by first | rfl | assumption) (And.intro (by exact vp_lit rfl) ?_)))
    refine R.ri rt_X8_count_90 rfl ⟨_, rfl, ?_⟩
    refine ⟨?_, rfl⟩
    have hc1 : cN (M 104 1) = mm := by rw [hV.2.1]; exact cN_nI (by omega)
    first | (subst w; rfl) | (simp [F_count, *]; done) | (simp [F_count, *]; rfl)
  · refine R.b bk_X8_count_91 ?_
    refine R.V1i kc_X8_count_94 (by first | rfl | assumption) (c_X8_sumOf (w := 7) (m := mm) (by decide) hmm hV.2.1) (by omega) rfl ⟨Nat.le_refl _, Nat.le_refl _⟩ (fun x94 M94 q94 => ?_)
    obtain ⟨rfl, q94⟩ := q94
    replace q94 := q94.symm
    subst q94
    refine R.ri rt_X8_count_97 rfl ⟨_, rfl, ?_⟩
    refine ⟨?_, rfl⟩
    have hc1 : cN (M 104 1) = mm := by rw [hV.2.1]; exact cN_nI (by omega)
    first | (subst w; rfl) | (simp [F_count, *]; done) | (simp [F_count, *]; rfl)
  · refine R.b bk_X8_count_98 (And.intro (by first | rfl | assumption) (And.intro (by first | rfl | assumption) (And.intro (by exact vp_lit rfl) ?_)))
    refine R.ri rt_X8_count_105 rfl ⟨_, rfl, ?_⟩
    refine ⟨?_, rfl⟩
    have hc1 : cN (M 104 1) = mm := by rw [hV.2.1]; exact cN_nI (by omega)
    first | (subst w; rfl) | (simp [F_count, *]; done) | (simp [F_count, *]; rfl)
  · refine R.b bk_X8_count_106 (And.intro (by first | rfl | assumption) ?_)
    refine R.ri rt_X8_count_110 rfl ⟨_, rfl, ?_⟩
    refine ⟨?_, rfl⟩
    have hc1 : cN (M 104 1) = mm := by rw [hV.2.1]; exact cN_nI (by omega)
    first | (subst w; rfl) | (simp [F_count, *]; done) | (simp [F_count, *]; rfl)
  · refine R.b bk_X8_count_111 (And.intro (by first | rfl | assumption) ?_)
    refine R.ri rt_X8_count_115 rfl ⟨_, rfl, ?_⟩
    refine ⟨?_, rfl⟩
    have hc1 : cN (M 104 1) = mm := by rw [hV.2.1]; exact cN_nI (by omega)
    first | (subst w; rfl) | (simp [F_count, *]; done) | (simp [F_count, *]; rfl)
  · refine R.b bk_X8_count_116 (And.intro (by first | rfl | assumption) (And.intro (by first | rfl | assumption) (And.intro (by exact vp_lit rfl) ?_)))
    refine R.ri rt_X8_count_122 rfl ⟨_, rfl, ?_⟩
    refine ⟨?_, rfl⟩
    have hc1 : cN (M 104 1) = mm := by rw [hV.2.1]; exact cN_nI (by omega)
    first | (subst w; rfl) | (simp [F_count, *]; done) | (simp [F_count, *]; rfl)
  · refine R.b bk_X8_count_123 ?_
    refine R.ri rt_X8_count_125 rfl ⟨_, rfl, ?_⟩
    refine ⟨?_, rfl⟩
    have hc1 : cN (M 104 1) = mm := by rw [hV.2.1]; exact cN_nI (by omega)
    first | (subst w; rfl) | (simp [F_count, *]; done) | (simp [F_count, *]; rfl)
theorem c_X8_tell {l : Launch} {G : Gt} {M : Mm} {v : Int32} {wn : Nat} (hwn : wn ≤ 60) (hw : M 103 34 = nI wn) : Runs l G true dm_X8_tell 0 127 [.ref 103, .int v] M 127 (Pi (fun x M1 => (wn = 60 → x = (-1000000003) ∧ M1 = M) ∧ (wn < 60 → x = nI (wn + 1) ∧ M1 = mx_wr (mx_wr M 126 wn v) 103 34 (nI (wn + 1))))) := by
  refine mx_run ow_X8_tell rfl rfl (fun dp X hdp R => ?_)
  refine R.b bk_X8_tell_0 (And.intro (by first | rfl | assumption) ?_)
  refine R.c br_X8_tell_6 (And.intro (fun h6 => ?_) (fun h6 => ?_))
  · refine R.b bk_X8_tell_12 (And.intro (by first | rfl | assumption) (And.intro (by first | rfl | assumption) (And.intro (by first | rfl | assumption) (And.intro (by show vp_in (M 103 34) 60; rw [hw]; exact vp_in_nI (by rcases Nat.lt_or_ge wn 60 with q | q; exact q; exact absurd (show M 103 34 = 60 by rw [hw, show wn = 60 by omega]; rfl) h6) (by decide)) (And.intro (by first | rfl | assumption) (And.intro (by first | rfl | assumption) (And.intro rfl (And.intro rfl (And.intro (by first | rfl | assumption) ?_)))))))))
    refine R.ri rt_X8_tell_36 rfl ⟨_, rfl, ?_⟩
    refine ⟨fun h => absurd (show M 103 34 = 60 by rw [hw, h]; rfl) h6, fun h => ?_⟩
    have e1 : (M 103 34).toNatClampNeg = wn := by rw [hw]; exact nI_clamp (by omega)
    have e2 : mx_wr M 126 wn v 103 34 = nI wn := by rw [← hw]; rfl
    refine ⟨?_, ?_⟩
    · show mx_wr (mx_wr M 126 (M 103 34).toNatClampNeg v) 103 34 (mx_wr M 126 (M 103 34).toNatClampNeg v 103 34 + 1) 103 34 = _
      rw [e1, e2, nI_1]; simp [mx_wr]
    · show mx_wr (mx_wr M 126 (M 103 34).toNatClampNeg v) 103 34 (mx_wr M 126 (M 103 34).toNatClampNeg v 103 34 + 1) = _
      rw [e1, e2, nI_1]
  · refine R.b bk_X8_tell_9 ?_
    refine R.ri rt_X8_tell_11 rfl ⟨_, rfl, ?_⟩
    refine ⟨fun _ => ⟨rfl, rfl⟩, fun h => ?_⟩
    have h6b : nI wn = nI 60 := hw.symm.trans h6
    rw [nI_eq (by omega) (by decide)] at h6b
    omega
theorem c_X8_behind {l : Launch} {G : Gt} {M : Mm} {d n w : Int32} {mm : Nat} (hV : VR (M 104) mm) : Runs l G true dm_X8_behind 6 127 [.ref 103, .int d, .int n, .int w] M 127 (Pi (fun x M1 => x = F_behind (M 104) d n w ∧ ∀ q, q ≠ 107 → q ≠ 116 → q ≠ 117 → M1 q = M q)) := by
  refine mx_run ow_X8_behind rfl rfl (fun dp X hdp R => ?_)
  refine R.b bk_X8_behind_0 ?_
  refine R.V1i kc_X8_behind_2 (by first | rfl | assumption) (c_X8_isDistrict) (by omega) rfl ⟨Nat.le_refl _, Nat.le_refl _⟩ (fun x2 M2 q2 => ?_)
  obtain ⟨rfl, q2⟩ := q2
  replace q2 := q2.symm
  subst q2
  refine R.c br_X8_behind_5 (And.intro (fun h5 => ?_) (fun h5 => ?_))
  · refine R.b bk_X8_behind_28 ?_
    refine R.ri rt_X8_behind_30 rfl ⟨_, rfl, ?_⟩
    exact ⟨by simp_all [F_behind, isD], fun q _ _ _ => rfl⟩
  · refine R.b bk_X8_behind_8 ?_
    refine R.S3i kc_X8_behind_13 (c_X8_in) (by omega) rfl ⟨Nat.le_refl _, Nat.le_refl _⟩ (fun x13 M13 q13 => ?_)
    obtain ⟨rfl, q13⟩ := q13
    replace q13 := q13.symm
    subst q13
    refine R.c br_X8_behind_16 (And.intro (fun h16 => ?_) (fun h16 => ?_))
    · refine R.b bk_X8_behind_28 ?_
      refine R.ri rt_X8_behind_30 rfl ⟨_, rfl, ?_⟩
      exact ⟨by simp_all [F_behind, isD], fun q _ _ _ => rfl⟩
    · refine R.b bk_X8_behind_19 ?_
      refine R.S3i kc_X8_behind_22 (c_X8_in) (by omega) rfl ⟨Nat.le_refl _, Nat.le_refl _⟩ (fun x22 M22 q22 => ?_)
      obtain ⟨rfl, q22⟩ := q22
      replace q22 := q22.symm
      subst q22
      refine R.c br_X8_behind_25 (And.intro (fun h25 => ?_) (fun h25 => ?_))
      · have hmm := hV.1
        obtain ⟨dn, hdn, rfl⟩ := f_in_dist (by omega) hV.2.1 h5
        have hcd : cN (nI dn) = dn := cN_nI (by omega)
        obtain ⟨nn, hnn, rfl⟩ := f_in_nat (n := 300) (by decide) h16
        have hcnn : cN (nI nn) = nn := cN_nI (by omega)
        obtain ⟨wn, hwn, rfl⟩ := f_in_nat (n := 4) (by decide) h25
        have hcwn : cN (nI wn) = wn := cN_nI (by omega)
        refine R.b bk_X8_behind_31 ?_
        refine R.V0v kc_X8_behind_32 (by first | rfl | assumption) (c_X8_thinks) (by omega) rfl ⟨Nat.le_refl _, Nat.le_refl _⟩ (fun M32 q32 => ?_)
        replace q32 := q32.symm
        subst q32
        refine R.b bk_X8_behind_35 ?_
        refine R.V1i kc_X8_behind_37 (by first | rfl | assumption) (c_X8_goesOn (n := nn) (by omega) (by rw [mx_rw_ne (show 104 ≠ 107 by decide)]; exact hV)) (by omega) rfl ⟨Nat.le_refl _, Nat.le_refl _⟩ (fun x37 M37 q37 => ?_)
        obtain ⟨rfl, e37, f37⟩ := q37
        rw [mx_rw_ne (show 104 ≠ 107 by decide)] at e37 ⊢
        refine R.b bk_X8_behind_40 ?_
        refine R.c br_X8_behind_46 (And.intro (fun h46 => ?_) (fun h46 => ?_))
        · refine R.b bk_X8_behind_55 ?_
          first
          | (have hw4 : wn < 4 := nI_lt8 (w := wn) (n := 4) (by omega) (by decide) h46
             have e2 : (2 : Int32) + nI wn = nI (if (nI wn) < 4 then 2 + cN (nI wn) else 7) := by
               rw [if_pos (show nI wn < 4 from Int32.not_le.mp h46), hcwn]
               exact nI_add 2 wn
             rw [e2])
          | (have e2 : (7 : Int32) = nI (if (nI wn) < 4 then 2 + cN (nI wn) else 7) := by
               rw [if_neg (Int32.not_lt.mpr h46)]; rfl
             rw [e2])
          have hix : (if (nI wn) < 4 then 2 + cN (nI wn) else 7) < 8 := by split <;> omega
          refine R.V2i kc_X8_behind_57 (by first | rfl | assumption) (c_X8_of (d := dn) (w := if (nI wn) < 4 then 2 + cN (nI wn) else 7) (by omega)) (by omega) rfl ⟨Nat.le_refl _, Nat.le_refl _⟩ (fun x57 M57 q57 => ?_)
          obtain ⟨rfl, q57⟩ := q57
          replace q57 := q57.symm
          subst q57
          refine R.b bk_X8_behind_60 ?_
          refine R.V0v kc_X8_behind_63 (by first | rfl | assumption) (c_X8_putsBack) (by omega) rfl ⟨Nat.le_refl _, Nat.le_refl _⟩ (fun M63 q63 => ?_)
          replace q63 := q63.symm
          subst q63
          refine R.b bk_X8_behind_66 ?_
          refine R.ri rt_X8_behind_68 rfl ⟨_, rfl, ?_⟩
          refine ⟨?_, ?_⟩
          · have hF : F_behind (M 104) (nI dn) (nI nn) (nI wn) = A_go (M 104) (cN (nI nn)) (7 + 8 * cN (nI dn) + (if (nI wn) < 4 then 2 + cN (nI wn) else 7)) := if_neg (not_or.mpr ⟨h5, not_or.mpr ⟨h16, h25⟩⟩)
            rw [hF, hcd, hcnn, e37]
          · intro q h1 h2 h3
            by_cases hq : q = 104
            · subst hq
              rw [mx_rw_at, f37 107 (by decide) (by decide) (by decide), mx_rw_at, e37]
              exact cut_back (fun j hj => A_go_keep hV hj nn)
            · rw [mx_rw_ne hq, f37 q hq h2 h3, mx_rw_ne h1]
        · refine R.b bk_X8_behind_49 ?_
          refine R.j gt_X8_behind_52 ?_
          first
          | (have hw4 : wn < 4 := nI_lt8 (w := wn) (n := 4) (by omega) (by decide) h46
             have e2 : (2 : Int32) + nI wn = nI (if (nI wn) < 4 then 2 + cN (nI wn) else 7) := by
               rw [if_pos (show nI wn < 4 from Int32.not_le.mp h46), hcwn]
               exact nI_add 2 wn
             rw [e2])
          | (have e2 : (7 : Int32) = nI (if (nI wn) < 4 then 2 + cN (nI wn) else 7) := by
               rw [if_neg (Int32.not_lt.mpr h46)]; rfl
             rw [e2])
          have hix : (if (nI wn) < 4 then 2 + cN (nI wn) else 7) < 8 := by split <;> omega
          refine R.V2i kc_X8_behind_57 (by first | rfl | assumption) (c_X8_of (d := dn) (w := if (nI wn) < 4 then 2 + cN (nI wn) else 7) (by omega)) (by omega) rfl ⟨Nat.le_refl _, Nat.le_refl _⟩ (fun x57 M57 q57 => ?_)
          obtain ⟨rfl, q57⟩ := q57
          replace q57 := q57.symm
          subst q57
          refine R.b bk_X8_behind_60 ?_
          refine R.V0v kc_X8_behind_63 (by first | rfl | assumption) (c_X8_putsBack) (by omega) rfl ⟨Nat.le_refl _, Nat.le_refl _⟩ (fun M63 q63 => ?_)
          replace q63 := q63.symm
          subst q63
          refine R.b bk_X8_behind_66 ?_
          refine R.ri rt_X8_behind_68 rfl ⟨_, rfl, ?_⟩
          refine ⟨?_, ?_⟩
          · have hF : F_behind (M 104) (nI dn) (nI nn) (nI wn) = A_go (M 104) (cN (nI nn)) (7 + 8 * cN (nI dn) + (if (nI wn) < 4 then 2 + cN (nI wn) else 7)) := if_neg (not_or.mpr ⟨h5, not_or.mpr ⟨h16, h25⟩⟩)
            rw [hF, hcd, hcnn, e37]
          · intro q h1 h2 h3
            by_cases hq : q = 104
            · subst hq
              rw [mx_rw_at, f37 107 (by decide) (by decide) (by decide), mx_rw_at, e37]
              exact cut_back (fun j hj => A_go_keep hV hj nn)
            · rw [mx_rw_ne hq, f37 q hq h2 h3, mx_rw_ne h1]
      · refine R.b bk_X8_behind_28 ?_
        refine R.ri rt_X8_behind_30 rfl ⟨_, rfl, ?_⟩
        exact ⟨by simp_all [F_behind, isD], fun q _ _ _ => rfl⟩
