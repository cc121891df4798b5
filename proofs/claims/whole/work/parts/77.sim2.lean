/-! steps: sheets, slots, rows, images, texts -/
theorem VS_sz {so sz ce : Rw} (h : VS so sz ce) : ∀ s, s < 4 → ∃ n, n ≤ 24 ∧ sz s = nI n := fun s hs => (h s hs).2.1
theorem st_pour {l : Launch} {G : Gt} {s : Int32} : Step l G dm_X7_pour dm_X8_pour [.int s] := by
  intro M hS
  obtain ⟨⟨mm, hV, hB, hR, hL⟩, hI, hT, ⟨hSh, hVS, hSl⟩, hWt, hSe, hZ, hK⟩ := id hS
  obtain ⟨s1, s2, s3, s4, s5, s6, s7, s8⟩ := id hS
  have hm6 := hV.1.1
  refine ⟨_, mx_runs_mono (c_X7_pour hV hR hSh hVS) (by decide), fun x M1 q1 => ?_⟩
  by_cases hk : k_pour (M 118) s = 0
  · obtain ⟨e1, r1, f1⟩ := q1.2 hk
    have k4 : M1 104 = M 104 := f1 104 (by decide)
    have k8 : M1 118 = M 118 := f1 118 (by decide)
    have k9 : M1 119 = M 119 := f1 119 (by decide)
    have k0 : M1 120 = M 120 := f1 120 (by decide)
    refine ⟨_, mx_runs_mono (c_X8_pour (mm := mm) (by rw [k4]; exact hV.1) (by rw [k9]; exact VS_sz hVS)) (by decide), fun y M2 q2 => ?_⟩
    obtain ⟨e2, q2⟩ := q2.2 (by rw [k8]; exact hk)
    rw [k4, k9, k0] at e2 q2
    refine ⟨e1.trans e2.symm, ?_⟩
    have hle : min (cN (M 119 (cN s))) (cN (M 104 1)) ≤ mm := by
      rw [hV.1.2.1, cN_nI (by omega)]
      omega
    exact SIM_now hS (VP_pour hV _ hle) (VB_of hB (pour_keep (Or.inl (by decide)) _ (by omega)) (fun d hd => ⟨pour_keep (by omega) _ (by omega), pour_keep (by omega) _ (by omega)⟩)) (fun j hj => pour_keep (by omega) _ (by omega)) r1 f1 (by rw [q2, mx_rw_at]) (fun q h _ _ => by rw [q2, mx_rw_ne h])
  · obtain ⟨e1, q1⟩ := q1.1 hk
    subst q1
    refine ⟨_, mx_runs_mono (c_X8_pour (mm := mm) hV.1 (VS_sz hVS)) (by decide), fun y M2 q2 => ?_⟩
    obtain ⟨e2, q2⟩ := q2.1 hk
    subst q2
    exact ⟨e1.trans e2.symm, hS⟩
/-- the sheets have changed, on both sides -/
theorem SIM_sh {M M1 M2 : Mm} {so sz ce : Rw} (h : SIM M) (hR : RS M1 so sz ce) (hV : VS so sz ce) (hF : ∀ q, ¬ (42 ≤ q ∧ q < 50) → M1 q = M q) (h8 : M2 118 = so) (h9 : M2 119 = sz) (h0 : M2 120 = ce) (hM2 : ∀ q, q ≠ 118 → q ≠ 119 → q ≠ 120 → q ≠ 125 → M2 q = M1 q) : SIM M2 := by
  obtain ⟨s1, s2, s3, s4, s5, s6, s7, s8⟩ := h
  have k : ∀ q, ¬ (42 ≤ q ∧ q < 50) → q ≠ 118 → q ≠ 119 → q ≠ 120 → q ≠ 125 → M2 q = M q := fun q a b c d e => by rw [hM2 q b c d e]; exact hF q a
  have kk : ∀ q, q < 42 ∨ (50 ≤ q ∧ q < 118) ∨ (121 ≤ q ∧ q < 125) ∨ q = 126 → M2 q = M q := fun q hq => k q (by omega) (by omega) (by omega) (by omega) (by omega)
  refine ⟨Snow_k s1 (fun q a b => kk q (by omega)) (fun q a b c => kk q (by omega)) (kk 104 (by decide)), Simg_k s2 (fun q a b => kk q (by omega)) (fun q a b c => kk q (by omega)) (by rw [kk 0 (by decide)]) (by rw [kk 103 (by decide)]) (kk 105 (by decide)) (by rw [kk 104 (by decide)]; exact Nat.le_refl _), Stap_k s3 (kk 1 (by decide)) (by rw [kk 0 (by decide)]) (by rw [kk 103 (by decide)]) (kk 110 (by decide)), ⟨?_, by rw [h8, h9, h0]; exact hV, ?_⟩, Swt_k s5 (by rw [kk 0 (by decide)]) (by rw [kk 103 (by decide)]) (kk 10 (by decide)) (kk 126 (by decide)), Sse_k s6 (by rw [kk 0 (by decide)]) (by rw [kk 0 (by decide)]), Szr_k s7 (fun j _ => by rw [kk 104 (by decide)]) (kk 105 (by decide)) (kk 106 (by decide)), Sky_k s8 (kk 111 (by decide)) (kk 112 (by decide))⟩
  · rw [h8, h9, h0]
    intro s hs
    rw [hM2 (42 + 2 * s) (by omega) (by omega) (by omega) (by omega), hM2 (42 + 2 * s + 1) (by omega) (by omega) (by omega) (by omega)]
    exact hR s hs
  · rw [kk 121 (by decide), kk 122 (by decide), kk 123 (by decide), kk 124 (by decide)]
    intro s hs
    rw [kk (50 + 4 * s) (by omega), kk (50 + 4 * s + 1) (by omega), kk (50 + 4 * s + 2) (by omega), kk (50 + 4 * s + 2 + 1) (by omega)]
    exact s4.2.2 s hs
theorem st_sheet {l : Launch} {G : Gt} {s t n : Int32} : Step l G dm_X7_sheet dm_X8_sheet [.int s, .int t, .int n] := by
  intro M hS
  obtain ⟨⟨mm, hV, hB, hR, hL⟩, hI, hT, ⟨hSh, hVS, hSl⟩, hWt, hSe, hZ, hK⟩ := id hS
  obtain ⟨s1, s2, s3, s4, s5, s6, s7, s8⟩ := id hS
  refine ⟨_, mx_runs_mono (c_X7_sheet hSh) (by decide), fun x M1 q1 => ?_⟩
  by_cases hk : k_sheet s t n = 0
  · obtain ⟨e1, r1, f1⟩ := q1.2 hk
    have k8 : M1 118 = M 118 := f1 118 (by decide)
    have k9 : M1 119 = M 119 := f1 119 (by decide)
    have k0 : M1 120 = M 120 := f1 120 (by decide)
    refine ⟨_, mx_runs_mono (c_X8_sheet ) (by decide), fun y M2 q2 => ?_⟩
    obtain ⟨e2, q2⟩ := q2.2 hk
    refine ⟨e1.trans e2.symm, ?_⟩
    have hb : ¬ (f_in s 0 3 = 0 ∨ f_in t (-1) 1 = 0 ∨ (¬ t < 0 ∧ 24 < n)) := fun q => by
      rw [k_sheet, if_pos q] at hk
      exact absurd hk (by decide)
    have hb2 : ¬ (¬ t < 0 ∧ n < 0) := fun q => by
      rw [k_sheet, if_neg hb, if_pos q] at hk
      exact absurd hk (by decide)
    obtain ⟨sn, hsn, rfl⟩ := f_in_nat (n := 3) (by decide) (fun q => hb (Or.inl q))
    have hcs : cN (nI sn) = sn := cN_nI (by omega)
    rw [hcs] at r1 q2
    have ht3 : t = -1 ∨ t = 0 ∨ t = 1 := by
      have h3 : ¬ f_in t (-1) 1 = 0 := fun q => hb (Or.inr (Or.inl q))
      rcases so_cases h3 with e | ⟨-, e⟩
      · exact Or.inl e
      · obtain ⟨k, hk1, rfl⟩ := nI_of2 (x := t) (M := 1) (n := 1) (by decide) e (f_in_ne h3).2
        rcases (show k = 0 ∨ k = 1 by omega) with rfl | rfl
        · exact Or.inr (Or.inl rfl)
        · exact Or.inr (Or.inr rfl)
    have hz : ∃ z, z ≤ 24 ∧ f_size t n = nI z := by
      unfold f_size
      split
      · exact ⟨0, by decide, rfl⟩
      · rename_i h0
        exact nI_of2 (M := 24) (by decide) (fun q => hb2 ⟨h0, q⟩) (Int32.not_lt.mp (fun q => hb (Or.inr (Or.inr ⟨h0, q⟩))))
    refine SIM_sh hS r1 (fun u hu => ?_) f1 (by rw [q2, mx_rw_ne (by decide), mx_wr_ne (by decide), mx_wr_up, mx_rw_at, k8]) (by rw [q2, mx_rw_ne (by decide), mx_wr_up, mx_rw_at, mx_wr_ne (by decide), k9]) (by rw [q2, mx_rw_at, k0]) (fun q a b c _ => by rw [q2, mx_rw_ne c, mx_wr_ne b, mx_wr_ne a])
    by_cases hus : u = sn
    · subst hus
      refine ⟨by rw [up_at]; exact ht3, by rw [up_at]; exact hz, fun k hk => Or.inr ?_⟩
      rw [f_zero, if_pos (by omega)]
      decide
    · rw [up_ne hus, up_ne hus]
      refine ⟨(hVS u hu).1, (hVS u hu).2.1, fun k hk => ?_⟩
      rw [f_zero, if_neg (by omega)]
      exact (hVS u hu).2.2 k hk
  · obtain ⟨e1, q1⟩ := q1.1 hk
    subst q1
    refine ⟨_, mx_runs_mono (c_X8_sheet ) (by decide), fun y M2 q2 => ?_⟩
    obtain ⟨e2, q2⟩ := q2.1 hk
    subst q2
    exact ⟨e1.trans e2.symm, hS⟩
theorem i16_bd (v : Int32) : -99999 ≤ v.toInt16.toInt32 ∧ v.toInt16.toInt32 ≤ 99999 := by
  have e1 : (-99999 : Int32).toInt = -99999 := by decide
  have e2 : (99999 : Int32).toInt = 99999 := by decide
  rw [Int32.le_iff_toInt_le, Int32.le_iff_toInt_le, e1, e2, Int16.toInt_toInt32]
  have h1 := Int16.le_toInt v.toInt16
  have h2 := Int16.toInt_le v.toInt16
  have m1 : Int16.minValue.toInt = -32768 := by decide
  have m2 : Int16.maxValue.toInt = 32767 := by decide
  omega
theorem st_mark {l : Launch} {G : Gt} {s p v : Int32} : Step l G dm_X7_mark dm_X8_mark [.int s, .int p, .int v] := by
  intro M hS
  obtain ⟨⟨mm, hV, hB, hR, hL⟩, hI, hT, ⟨hSh, hVS, hSl⟩, hWt, hSe, hZ, hK⟩ := id hS
  obtain ⟨s1, s2, s3, s4, s5, s6, s7, s8⟩ := id hS
  refine ⟨_, mx_runs_mono (c_X7_mark hSh hVS) (by decide), fun x M1 q1 => ?_⟩
  by_cases hk : k_mark (M 118) (M 119) s p v = 0
  · obtain ⟨e1, r1, f1⟩ := q1.2 hk
    have k8 : M1 118 = M 118 := f1 118 (by decide)
    have k9 : M1 119 = M 119 := f1 119 (by decide)
    have k0 : M1 120 = M 120 := f1 120 (by decide)
    refine ⟨_, mx_runs_mono (c_X8_mark (by rw [k9]; exact VS_sz hVS)) (by decide), fun y M2 q2 => ?_⟩
    obtain ⟨e2, q2⟩ := q2.2 (by rw [k8, k9]; exact hk)
    rw [k8] at q2
    refine ⟨e1.trans e2.symm, ?_⟩
    have b1 : ¬ f_in s 0 3 = 0 := fun q => by
      rw [k_mark, if_pos q] at hk
      exact absurd hk (by decide)
    rw [k_mark, if_neg b1] at hk
    have b2 : ¬ M 118 (cN s) < 0 := fun q => by
      rw [if_pos q] at hk
      exact absurd hk (by decide)
    rw [if_neg b2] at hk
    have b3 : ¬ f_in p 0 (M 119 (cN s) - 1) = 0 := fun q => by
      rw [if_pos q] at hk
      exact absurd hk (by decide)
    rw [if_neg b3] at hk
    have b4 : ¬ (M 118 (cN s) = 0 ∧ v = (-1000000005)) := fun q => by
      rw [if_pos q] at hk
      exact absurd hk (by decide)
    rw [if_neg b4] at hk
    have b5 : ¬ (M 118 (cN s) = 1 ∧ ¬ v = (-1000000005) ∧ f_in v (-99999) 99999 = 0) := fun q => by
      rw [if_pos q] at hk
      exact absurd hk (by decide)
    obtain ⟨sn, hsn, rfl⟩ := f_in_nat (n := 3) (by decide) b1
    have hcs : cN (nI sn) = sn := cN_nI (by omega)
    rw [hcs] at r1 q2 b2 b3 b4 b5
    obtain ⟨v0, ⟨zn, hzn, ez⟩, v2⟩ := hVS sn (by omega)
    rw [ez] at b3
    obtain ⟨pn, hpn, rfl⟩ := f_in_dist (by omega) rfl b3
    have hcp : cN (nI pn) = pn := cN_nI (by omega)
    rw [hcp] at r1 q2
    have hval : f_mark (M 118 sn) v = (-1000000005) ∨ (-99999 ≤ f_mark (M 118 sn) v ∧ f_mark (M 118 sn) v ≤ 99999) := by
      unfold f_mark
      split
      · exact Or.inr (i16_bd v)
      · rename_i h0
        have h1 : M 118 sn = 1 := (v0.resolve_left (fun e => b2 (by rw [e]; decide))).resolve_left h0
        by_cases hn : v = (-1000000005)
        · exact Or.inl hn
        · exact Or.inr (f_in_ne (fun q => b5 ⟨h1, hn, q⟩))
    refine SIM_sh hS r1 (fun u hu => ?_) f1 (by rw [q2, mx_wr_ne (by decide), k8]) (by rw [q2, mx_wr_ne (by decide), k9]) (by rw [q2, mx_wr_up, mx_rw_at, k0]) (fun q _ _ c _ => by rw [q2, mx_wr_ne c])
    refine ⟨(hVS u hu).1, (hVS u hu).2.1, fun k hk => ?_⟩
    by_cases hq : 24 * u + k = 24 * sn + pn
    · rw [hq, up_at]; exact hval
    · rw [up_ne hq]; exact (hVS u hu).2.2 k hk
  · obtain ⟨e1, q1⟩ := q1.1 hk
    subst q1
    refine ⟨_, mx_runs_mono (c_X8_mark (VS_sz hVS)) (by decide), fun y M2 q2 => ?_⟩
    obtain ⟨e2, q2⟩ := q2.1 hk
    subst q2
    exact ⟨e1.trans e2.symm, hS⟩
theorem st_copy {l : Launch} {G : Gt} {f p t a n : Int32} : Step l G dm_X7_copy dm_X8_copy [.int f, .int p, .int t, .int a, .int n] := by
  intro M hS
  obtain ⟨⟨mm, hV, hB, hR, hL⟩, hI, hT, ⟨hSh, hVS, hSl⟩, hWt, hSe, hZ, hK⟩ := id hS
  obtain ⟨s1, s2, s3, s4, s5, s6, s7, s8⟩ := id hS
  refine ⟨_, mx_runs_mono (c_X7_copy hSh hVS) (by decide), fun x M1 q1 => ?_⟩
  by_cases hk : k_copy (M 118) (M 119) f p t a n = 0
  · obtain ⟨e1, r1, f1⟩ := q1.2 hk
    have k8 : M1 118 = M 118 := f1 118 (by decide)
    have k9 : M1 119 = M 119 := f1 119 (by decide)
    have k0 : M1 120 = M 120 := f1 120 (by decide)
    refine ⟨_, mx_runs_mono (c_X8_copy (by rw [k9]; exact VS_sz hVS)) (by decide), fun y M2 q2 => ?_⟩
    obtain ⟨e2, c2, f2⟩ := q2.2 (by rw [k8, k9]; exact hk)
    rw [k0] at c2
    refine ⟨e1.trans e2.symm, ?_⟩
    have b1 : ¬ (f_in f 0 3 = 0 ∨ f_in t 0 3 = 0) := fun q => by
      rw [k_copy, if_pos q] at hk
      exact absurd hk (by decide)
    rw [k_copy, if_neg b1] at hk
    have b2 : ¬ (M 118 (cN f) < 0 ∨ M 118 (cN t) < 0) := fun q => by
      rw [if_pos q] at hk
      exact absurd hk (by decide)
    rw [if_neg b2] at hk
    have b3 : ¬ ¬ M 118 (cN f) = M 118 (cN t) := fun q => by
      rw [if_pos q] at hk
      exact absurd hk (by decide)
    rw [if_neg b3] at hk
    have b4 : ¬ (p < 0 ∨ a < 0 ∨ n < 0 ∨ M 119 (cN f) - n < p ∨ M 119 (cN t) - n < a) := fun q => by
      rw [if_pos q] at hk
      exact absurd hk (by decide)
    simp only [not_or] at b4
    obtain ⟨b5, b6, b7, b8, b9⟩ := b4
    obtain ⟨fn, hfn, rfl⟩ := f_in_nat (n := 3) (by decide) (fun q => b1 (Or.inl q))
    obtain ⟨tn, htn, rfl⟩ := f_in_nat (n := 3) (by decide) (fun q => b1 (Or.inr q))
    rw [cN_nI (show fn < 2 ^ 31 by omega)] at r1 c2 b8
    rw [cN_nI (show tn < 2 ^ 31 by omega)] at r1 c2 b9
    obtain ⟨-, ⟨z1, hz1, ez1⟩, -⟩ := hVS fn (by omega)
    obtain ⟨-, ⟨z2, hz2, ez2⟩, -⟩ := hVS tn (by omega)
    obtain ⟨pn, mn, rfl, en, h1⟩ := run_ok ez1 hz1 b5 b7 b8
    obtain ⟨an, mn2, rfl, en2, h2⟩ := run_ok ez2 hz2 b6 b7 b9
    have hmm : mn2 = mn := (nI_eq (by omega) (by omega)).mp (en2.symm.trans en)
    subst en
    subst hmm
    rw [cN_nI (show pn < 2 ^ 31 by omega), cN_nI (show an < 2 ^ 31 by omega), cN_nI (show mn2 < 2 ^ 31 by omega)] at r1 c2
    refine SIM_sh hS r1 (fun u hu => ?_) f1 (by rw [f2 118 (by decide) (by decide), k8]) (by rw [f2 119 (by decide) (by decide), k9]) c2 (fun q _ _ c d => f2 q c d)
    refine ⟨(hVS u hu).1, (hVS u hu).2.1, fun k hk => ?_⟩
    unfold f_cp
    split
    · rename_i hq
      have hv := (hVS fn (by omega)).2.2 (pn + (24 * u + k - (24 * tn + an))) (by omega)
      rw [show 24 * fn + (pn + (24 * u + k - (24 * tn + an))) = 24 * fn + pn + (24 * u + k - (24 * tn + an)) by omega] at hv
      exact hv
    · exact (hVS u hu).2.2 k hk
  · obtain ⟨e1, q1⟩ := q1.1 hk
    subst q1
    refine ⟨_, mx_runs_mono (c_X8_copy (VS_sz hVS)) (by decide), fun y M2 q2 => ?_⟩
    obtain ⟨e2, q2⟩ := q2.1 hk
    subst q2
    exact ⟨e1.trans e2.symm, hS⟩
theorem st_lay {l : Launch} {G : Gt} {s t k : Int32} : Step l G dm_X7_lay dm_X8_lay [.int s, .int t, .int k] := by
  intro M hS
  obtain ⟨⟨mm, hV, hB, hR, hL⟩, hI, hT, ⟨hSh, hVS, hSl⟩, hWt, hSe, hZ, hK⟩ := id hS
  obtain ⟨s1, s2, s3, s4, s5, s6, s7, s8⟩ := id hS
  refine ⟨_, mx_runs_mono (c_X7_lay hV hR hSh hVS hSl) (by decide), fun x M1 q1 => ?_⟩
  by_cases hk : k_lay (M 104) (M 118) s t k = 0
  · obtain ⟨e1, r1, f1⟩ := q1.2 hk
    have k4 : M1 104 = M 104 := f1 104 (by decide)
    have k8 : M1 118 = M 118 := f1 118 (by decide)
    refine ⟨_, mx_runs_mono (c_X8_lay (mm := mm) (by rw [k4]; exact hV.1)) (by decide), fun y M2 q2 => ?_⟩
    obtain ⟨e2, q2⟩ := q2.2 (by rw [k4, k8]; exact hk)
    rw [k4, f1 119 (by decide), f1 120 (by decide), f1 124 (by decide)] at q2
    refine ⟨by rw [e1, e2, f1 121 (by decide)], ?_⟩
    have f2 : ∀ q, q ≠ 121 → q ≠ 122 → q ≠ 123 → q ≠ 124 → M2 q = M1 q := fun q a b c d => by rw [q2, mx_rw_ne d, mx_wr_ne c, mx_wr_ne b, mx_wr_ne a]
    have g1 : M2 121 = up (M 121) (cN s) t := by rw [q2, mx_rw_ne (by decide), mx_wr_ne (by decide), mx_wr_ne (by decide), mx_wr_up, mx_rw_at, f1 121 (by decide)]
    have g2 : M2 122 = up (M 122) (cN s) (f_layA (M 104) (M 119) t k) := by rw [q2, mx_rw_ne (by decide), mx_wr_ne (by decide), mx_wr_up, mx_rw_at, mx_wr_ne (by decide), f1 122 (by decide)]
    have g3 : M2 123 = up (M 123) (cN s) (f_layB (M 104) t k) := by rw [q2, mx_rw_ne (by decide), mx_wr_up, mx_rw_at, mx_wr_ne (by decide), mx_wr_ne (by decide), f1 123 (by decide)]
    have g4 : M2 124 = f_layC (M 120) (M 124) (cN s) t k := by rw [q2, mx_rw_at]
    have kk : ∀ q, q < 50 ∨ (70 ≤ q ∧ q < 121) ∨ (125 ≤ q ∧ q < 127) → M2 q = M q := fun q hq => by rw [f2 q (by omega) (by omega) (by omega) (by omega)]; exact f1 q (by omega)
    refine ⟨Snow_k s1 (fun q a b => kk q (by omega)) (fun q a b c => kk q (by omega)) (kk 104 (by decide)), Simg_k s2 (fun q a b => kk q (by omega)) (fun q a b c => kk q (by omega)) (by rw [kk 0 (by decide)]) (by rw [kk 103 (by decide)]) (kk 105 (by decide)) (by rw [kk 104 (by decide)]; exact Nat.le_refl _), Stap_k s3 (kk 1 (by decide)) (by rw [kk 0 (by decide)]) (by rw [kk 103 (by decide)]) (kk 110 (by decide)), ⟨?_, ?_, ?_⟩, Swt_k s5 (by rw [kk 0 (by decide)]) (by rw [kk 103 (by decide)]) (kk 10 (by decide)) (kk 126 (by decide)), Sse_k s6 (by rw [kk 0 (by decide)]) (by rw [kk 0 (by decide)]), Szr_k s7 (fun j _ => by rw [kk 104 (by decide)]) (kk 105 (by decide)) (kk 106 (by decide)), Sky_k s8 (kk 111 (by decide)) (kk 112 (by decide))⟩
    · rw [kk 118 (by decide), kk 119 (by decide), kk 120 (by decide)]
      intro u hu
      rw [kk (42 + 2 * u) (by omega), kk (42 + 2 * u + 1) (by omega)]
      exact hSh u hu
    · rw [kk 118 (by decide), kk 119 (by decide), kk 120 (by decide)]
      exact hVS
    · rw [g1, g2, g3, g4]
      intro u hu
      rw [f2 (50 + 4 * u) (by omega) (by omega) (by omega) (by omega), f2 (50 + 4 * u + 1) (by omega) (by omega) (by omega) (by omega), f2 (50 + 4 * u + 2) (by omega) (by omega) (by omega) (by omega), f2 (50 + 4 * u + 2 + 1) (by omega) (by omega) (by omega) (by omega)]
      exact r1 u hu
  · obtain ⟨e1, q1⟩ := q1.1 hk
    subst q1
    refine ⟨_, mx_runs_mono (c_X8_lay (mm := mm) hV.1) (by decide), fun y M2 q2 => ?_⟩
    obtain ⟨e2, q2⟩ := q2.1 hk
    subst q2
    exact ⟨e1.trans e2.symm, hS⟩
/-- rows of numbers or bytes have changed -/
theorem SIM_rw {M M2 : Mm} (h : SIM M) (h0 : ∀ j, j = 4 ∨ j = 13 ∨ j = 14 → M2 0 j = M 0 j) (h3 : M2 103 3 = M 103 3) (hM : ∀ q, 14 ≤ q → q < 92 → M2 q = M q) (hN : ∀ q, 104 ≤ q → q < 126 → q ≠ 106 → q ≠ 110 → q ≠ 116 → q ≠ 117 → M2 q = M q) (h106 : ∀ j, 1427 ≤ j → M2 106 j = 0) (hT : Stap M2 M2) (hW : Swt M2 M2) : SIM M2 := by
  obtain ⟨s1, s2, s3, s4, s5, s6, s7, s8⟩ := h
  have k104 : M2 104 = M 104 := hN 104 (by decide) (by decide) (by decide) (by decide) (by decide) (by decide)
  have k105 : M2 105 = M 105 := hN 105 (by decide) (by decide) (by decide) (by decide) (by decide) (by decide)
  exact ⟨Snow_k s1 (fun q a b => hM q a (by omega)) (fun q a b c => hM q (by omega) (by omega)) k104, Simg_k s2 (fun q a b => hM q a (by omega)) (fun q a b c => hM q (by omega) (by omega)) (h0 4 (Or.inl rfl)) h3 k105 (by rw [k104]; exact Nat.le_refl _), hT, Ssh_k s4 (fun q a b => hM q (by omega) (by omega)) (fun q a b => hN q (by omega) (by omega) (by omega) (by omega) (by omega) (by omega)), hW, Sse_k s6 (h0 13 (by decide)) (h0 14 (by decide)), ⟨fun j hj => by rw [k104]; exact s7.1 j hj, fun j hj => by rw [k105]; exact s7.2.1 j hj, h106⟩, Sky_k s8 (hN 111 (by decide) (by decide) (by decide) (by decide) (by decide) (by decide)) (hN 112 (by decide) (by decide) (by decide) (by decide) (by decide) (by decide))⟩
theorem st_tell {l : Launch} {G : Gt} {v : Int32} : Step l G dm_X7_tell dm_X8_tell [.int v] := by
  intro M hS
  obtain ⟨⟨mm, hV, hB, hR, hL⟩, hI, hT, ⟨hSh, hVS, hSl⟩, hWt, hSe, hZ, hK⟩ := id hS
  obtain ⟨s1, s2, s3, s4, s5, s6, s7, s8⟩ := id hS
  obtain ⟨wn, w1, w2, w3, w4⟩ := id hWt
  refine ⟨_, mx_runs_mono (c_X7_tell w1 w2) (by decide), fun x M1 q1 => ?_⟩
  by_cases h60 : wn = 60
  · obtain ⟨e1, q1⟩ := q1.1 h60
    subst q1
    refine ⟨_, mx_runs_mono (c_X8_tell w1 w3) (by decide), fun y M2 q2 => ?_⟩
    obtain ⟨e2, q2⟩ := q2.1 h60
    subst q2
    exact ⟨e1.trans e2.symm, hS⟩
  · obtain ⟨e1, q1⟩ := q1.2 (by omega)
    have a103 : M1 103 = M 103 := by rw [q1, mx_wr_ne (by decide), mx_wr_ne (by decide)]
    refine ⟨_, mx_runs_mono (c_X8_tell w1 (by rw [a103]; exact w3)) (by decide), fun y M2 q2 => ?_⟩
    obtain ⟨e2, q2⟩ := q2.2 (by omega)
    refine ⟨e1.trans e2.symm, ?_⟩
    have k : ∀ q, q ≠ 0 → q ≠ 10 → q ≠ 103 → q ≠ 126 → M2 q = M q := fun q a b c d => by rw [q2, mx_wr_ne c, mx_wr_ne d, q1, mx_wr_ne a, mx_wr_ne b]
    have k0 : M2 0 = up (M 0) 12 (nI (wn + 1)) := by rw [q2, mx_wr_ne (by decide), mx_wr_ne (by decide), q1, mx_wr_up, mx_rw_at, mx_wr_ne (by decide)]
    have k103 : M2 103 = up (M 103) 34 (nI (wn + 1)) := by rw [q2, mx_wr_up, mx_rw_at, mx_wr_ne (by decide), a103]
    have k10 : M2 10 = up (M 10) wn v := by rw [q2, mx_wr_ne (by decide), mx_wr_ne (by decide), q1, mx_wr_ne (by decide), mx_wr_up, mx_rw_at]
    have k126 : M2 126 = up (M 126) wn v := by rw [q2, mx_wr_ne (by decide), mx_wr_up, mx_rw_at, q1, mx_wr_ne (by decide), mx_wr_ne (by decide)]
    refine SIM_rw hS (fun j hj => by rw [k0, up_ne (by omega)]) (by rw [k103, up_ne (by decide)]) (fun q a b => k q (by omega) (by omega) (by omega) (by omega)) (fun q a b _ _ _ _ => k q (by omega) (by omega) (by omega) (by omega)) (fun j hj => by rw [k 106 (by decide) (by decide) (by decide) (by decide)]; exact hZ.2.2 j hj) (Stap_k s3 (k 1 (by decide) (by decide) (by decide) (by decide)) (by rw [k0, up_ne (by decide)]) (by rw [k103, up_ne (by decide)]) (k 110 (by decide) (by decide) (by decide) (by decide))) ⟨wn + 1, by omega, by rw [k0, up_at], by rw [k103, up_at], fun j hj => ?_⟩
    rw [k10, k126]
    unfold up
    split
    · rfl
    · exact w4 j (by omega)
theorem st_trim {l : Launch} {G : Gt} {n : Int32} : Step l G dm_X7_trim dm_X8_trim [.int n] := by
  intro M hS
  obtain ⟨⟨mm, hV, hB, hR, hL⟩, hI, hT, ⟨hSh, hVS, hSl⟩, hWt, hSe, hZ, hK⟩ := id hS
  obtain ⟨s1, s2, s3, s4, s5, s6, s7, s8⟩ := id hS
  obtain ⟨n0, t1, t2, t3, t4⟩ := id hT
  refine ⟨_, mx_runs_mono (c_X7_trim) (by decide), fun x M1 q1 => ?_⟩
  by_cases hc : f_in n 0 (M 0 6) = 0
  · obtain ⟨e1, q1⟩ := q1.1 hc
    subst q1
    refine ⟨_, mx_runs_mono (c_X8_trim) (by decide), fun y M2 q2 => ?_⟩
    obtain ⟨e2, q2⟩ := q2.1 (by rw [t3, ← t2]; exact hc)
    subst q2
    exact ⟨e1.trans e2.symm, hS⟩
  · obtain ⟨e1, q1⟩ := q1.2 hc
    have a103 : M1 103 = M 103 := by rw [q1, mx_wr_ne (by decide)]
    refine ⟨_, mx_runs_mono (c_X8_trim) (by decide), fun y M2 q2 => ?_⟩
    obtain ⟨e2, q2⟩ := q2.2 (by rw [a103, t3, ← t2]; exact hc)
    refine ⟨e1.trans e2.symm, ?_⟩
    have k : ∀ q, q ≠ 0 → q ≠ 103 → M2 q = M q := fun q a b => by rw [q2, mx_wr_ne b, q1, mx_wr_ne a]
    have k0 : M2 0 = up (M 0) 6 n := by rw [q2, mx_wr_ne (by decide), q1, mx_wr_up, mx_rw_at]
    have k103 : M2 103 = up (M 103) 8 n := by rw [q2, mx_wr_up, mx_rw_at, a103]
    rw [t2] at hc
    obtain ⟨nn, hnn, rfl⟩ := f_in_nat (nI_toInt (show n0 < 2 ^ 31 by omega)) hc
    exact SIM_rw hS (fun j hj => by rw [k0, up_ne (by omega)]) (by rw [k103, up_ne (by decide)]) (fun q a b => k q (by omega) (by omega)) (fun q a b _ _ _ _ => k q (by omega) (by omega)) (fun j hj => by rw [k 106 (by decide) (by decide)]; exact hZ.2.2 j hj) ⟨nn, by omega, by rw [k0, up_at], by rw [k103, up_at], fun j hj => by rw [k 1 (by decide) (by decide), k 110 (by decide) (by decide)]; exact t4 j hj⟩ (Swt_k s5 (by rw [k0, up_ne (by decide)]) (by rw [k103, up_ne (by decide)]) (k 10 (by decide) (by decide)) (k 126 (by decide) (by decide)))
theorem st_feed {l : Launch} {G : Gt} {a b c : Int32} : Step l G dm_X7_feed dm_X8_feed [.int a, .int b, .int c] := by
  intro M hS
  obtain ⟨⟨mm, hV, hB, hR, hL⟩, hI, hT, ⟨hSh, hVS, hSl⟩, hWt, hSe, hZ, hK⟩ := id hS
  obtain ⟨s1, s2, s3, s4, s5, s6, s7, s8⟩ := id hS
  obtain ⟨n0, t1, t2, t3, t4⟩ := id hT
  refine ⟨_, mx_runs_mono (c_X7_feed t1 t2) (by decide), fun x M1 q1 => ?_⟩
  by_cases hc : 84 < n0
  · obtain ⟨e1, q1⟩ := q1.1 hc
    subst q1
    refine ⟨_, mx_runs_mono (c_X8_feed t1 t3) (by decide), fun y M2 q2 => ?_⟩
    obtain ⟨e2, q2⟩ := q2.1 hc
    subst q2
    exact ⟨e1.trans e2.symm, hS⟩
  · obtain ⟨e1, z1, b1, f1⟩ := q1.2 (by omega)
    refine ⟨_, mx_runs_mono (c_X8_feed t1 (by rw [f1 103 (by decide) (by decide)]; exact t3)) (by decide), fun y M2 q2 => ?_⟩
    obtain ⟨e2, q2⟩ := q2.2 (by omega)
    refine ⟨e1.trans e2.symm, ?_⟩
    have k : ∀ q, q ≠ 0 → q ≠ 1 → q ≠ 103 → q ≠ 110 → M2 q = M q := fun q h1 h2 h3 h4 => by rw [q2, mx_wr_ne h3, mx_rw_ne h4]; exact f1 q h1 h2
    have k0 : M2 0 = up (M 0) 6 (nI (n0 + 12)) := by rw [q2, mx_wr_ne (by decide), mx_rw_ne (by decide)]; exact z1
    have k103 : M2 103 = up (M 103) 8 (nI (n0 + 12)) := by rw [q2, mx_wr_up, mx_rw_at, mx_rw_ne (by decide), f1 103 (by decide) (by decide)]
    have k1 : M2 1 = M1 1 := by rw [q2, mx_wr_ne (by decide), mx_rw_ne (by decide)]
    have k110 : M2 110 = f_cp (f_fd a b c) (M 110) 0 n0 12 := by rw [q2, mx_wr_ne (by decide), mx_rw_at, f1 110 (by decide) (by decide)]
    refine SIM_rw hS (fun j hj => by rw [k0, up_ne (by omega)]) (by rw [k103, up_ne (by decide)]) (fun q h1 h2 => k q (by omega) (by omega) (by omega) (by omega)) (fun q h1 h2 _ h4 _ _ => k q (by omega) (by omega) (by omega) h4) (fun j hj => by rw [k 106 (by decide) (by decide) (by decide) (by decide)]; exact hZ.2.2 j hj) ⟨n0 + 12, by omega, by rw [k0, up_at], by rw [k103, up_at], fun j hj => ?_⟩ (Swt_k s5 (by rw [k0, up_ne (by decide)]) (by rw [k103, up_ne (by decide)]) (k 10 (by decide) (by decide) (by decide) (by decide)) (k 126 (by decide) (by decide) (by decide) (by decide)))
    rw [k1, k110, b1 j hj]
    unfold f_cp
    split
    · rfl
    · exact t4 j hj
theorem ck_wt {b wt wt' : Rw} {wn mm : Nat} (h : ∀ j, j < wn → wt j = wt' j) : ∀ i, A_ck b wt wn mm i = A_ck b wt' wn mm i
  | 0 => rfl
  | i + 1 => by
    have e1 : C1 b wt wn mm i ↔ C1 b wt' wn mm i := by
      unfold C1
      exact ⟨fun q => ⟨q.1, by rw [← h _ q.1]; exact q.2⟩, fun q => ⟨q.1, by rw [h _ q.1]; exact q.2⟩⟩
    have e2 : C2 b wt wn mm i ↔ C2 b wt' wn mm i := by
      unfold C2
      exact ⟨fun q => ⟨q.1, by rw [← h _ q.1]; exact q.2⟩, fun q => ⟨q.1, by rw [h _ q.1]; exact q.2⟩⟩
    unfold A_ck
    rw [ck_wt h i]
    by_cases c1 : C1 b wt wn mm i
    · by_cases c2 : C2 b wt wn mm i
      · simp only [if_pos c1, if_pos c2, if_pos (e1.mp c1), if_pos (e2.mp c2)]
      · simp only [if_pos c1, if_neg c2, if_pos (e1.mp c1), if_neg (fun q => c2 (e2.mpr q))]
    · simp only [if_neg c1, if_neg (fun q => c1 (e1.mpr q))]
theorem check_wt {b wt wt' : Rw} {wn : Nat} {has n : Int32} (h : ∀ j, j < wn → wt j = wt' j) : F_check b has wt wn n = F_check b has wt' wn n := by
  unfold F_check
  rw [ck_wt h]
theorem st_check {l : Launch} {G : Gt} {n : Int32} : Step l G dm_X7_check dm_X8_check [.int n] := by
  intro M hS
  obtain ⟨⟨mm, hV, hB, hR, hL⟩, hI, hT, ⟨hSh, hVS, hSl⟩, hWt, hSe, hZ, hK⟩ := id hS
  obtain ⟨s1, s2, s3, s4, s5, s6, s7, s8⟩ := id hS
  obtain ⟨wn, w1, w2, w3, w4⟩ := id hWt
  have hm2 : ∃ m2, M 0 4 ≠ 0 → VP (M 105) m2 ∧ RW M 81 (M 105) Sall m2 ∧ RLw M (M 105) ∧ VB (M 105) m2 99999 := by
    by_cases h4 : M 0 4 = 0
    · exact ⟨0, fun h => absurd h4 h⟩
    · obtain ⟨m2, g1, g2, g3, g4, -⟩ := hI.2 h4
      exact ⟨m2, fun _ => ⟨g1, g3, g4, g2⟩⟩
  obtain ⟨m2, hm2⟩ := hm2
  refine ⟨_, mx_runs_mono (c_X7_check w1 w2 hm2) (by decide), fun x M1 q1 => ?_⟩
  obtain ⟨e1, f1, z1⟩ := q1
  have k103 : M1 103 = M 103 := f1 103 (by decide) (by decide)
  have k105 : M1 105 = M 105 := f1 105 (by decide) (by decide)
  refine ⟨_, mx_runs_mono (c_X8_check (mm := m2) w1 (by rw [k103]; exact w3) (fun h => by rw [k105]; exact (hm2 (by rw [k103, hI.1] at h; exact h)).1.1) (fun j hj => by rw [f1 104 (by decide) (by decide)]; exact hZ.1 j hj) (fun j hj => by rw [k105]; exact hZ.2.1 j hj) (fun j hj => by rw [f1 106 (by decide) (by decide)]; exact hZ.2.2 j hj)) (by decide), fun y M2 q2 => ?_⟩
  obtain ⟨e2, t6, f2⟩ := q2
  rw [k103, k105, f1 126 (by decide) (by decide)] at e2
  refine ⟨by rw [e1, e2, hI.1]; exact check_wt w4, ?_⟩
  have k : ∀ q, ¬ (92 ≤ q ∧ q < 103) → q ≠ 0 → q ≠ 103 → q ≠ 106 → q ≠ 116 → q ≠ 117 → M2 q = M q := fun q a b c d e f => by rw [f2 q d e f, mx_wr_ne c]; exact f1 q a b
  have k0 : M2 0 = up (M 0) 12 0 := by rw [f2 0 (by decide) (by decide) (by decide), mx_wr_ne (by decide)]; exact z1
  have j103 : M2 103 = up (M 103) 34 0 := by rw [f2 103 (by decide) (by decide) (by decide), mx_wr_up, mx_rw_at, k103]
  exact SIM_rw hS (fun j hj => by rw [k0, up_ne (by omega)]) (by rw [j103, up_ne (by decide)]) (fun q a b => k q (by omega) (by omega) (by omega) (by omega) (by omega) (by omega)) (fun q a b c _ e f => k q (by omega) (by omega) (by omega) c e f) t6 (Stap_k s3 (k 1 (by decide) (by decide) (by decide) (by decide) (by decide) (by decide)) (by rw [k0, up_ne (by decide)]) (by rw [j103, up_ne (by decide)]) (k 110 (by decide) (by decide) (by decide) (by decide) (by decide) (by decide))) ⟨0, by decide, by rw [k0, up_at]; rfl, by rw [j103, up_at]; rfl, fun j hj => absurd hj (Nat.not_lt_zero j)⟩
theorem st_keep {l : Launch} {G : Gt} : Step l G dm_X7_keep dm_X8_keep [] := by
  intro M hS
  obtain ⟨⟨mm, hV, hB, hR, hL⟩, hI, hT, ⟨hSh, hVS, hSl⟩, hWt, hSe, hZ, hK⟩ := id hS
  obtain ⟨s1, s2, s3, s4, s5, s6, s7, s8⟩ := id hS
  refine ⟨_, mx_runs_mono (c_X7_keep hV hR) (by decide), fun x M1 q1 => ?_⟩
  obtain ⟨e1, r1, z1, f1⟩ := q1
  have k104 : M1 104 = M 104 := f1 104 (by decide) (by decide)
  refine ⟨_, mx_runs_mono (c_X8_keep) (by decide), fun y M2 q2 => ?_⟩
  obtain ⟨e2, q2⟩ := q2
  refine ⟨by rw [e1, e2, k104], ?_⟩
  have h105 : M2 105 = M 104 := by
    rw [q2, mx_wr_ne (by decide), mx_rw_at, k104, f1 105 (by decide) (by decide)]
    exact cut_all (fun j hj => by rw [hZ.1 j hj, hZ.2.1 j hj])
  have k : ∀ q, ¬ (81 ≤ q ∧ q < 92) → q ≠ 0 → q ≠ 103 → q ≠ 105 → M2 q = M q := fun q a b c d => by rw [q2, mx_wr_ne c, mx_rw_ne d]; exact f1 q a b
  have k0 : M2 0 = up (M 0) 4 1 := by rw [q2, mx_wr_ne (by decide), mx_rw_ne (by decide)]; exact z1
  have k103 : M2 103 = up (M 103) 3 1 := by rw [q2, mx_wr_up, mx_rw_at, mx_rw_ne (by decide), f1 103 (by decide) (by decide)]
  have j104 : M2 104 = M 104 := k 104 (by decide) (by decide) (by decide) (by decide)
  refine ⟨Snow_k s1 (fun q a b => k q (by omega) (by omega) (by omega) (by omega)) (fun q a b c => k q (by omega) (by omega) (by omega) (by omega)) j104, ⟨by rw [k0, k103, up_at, up_at], fun _ => ⟨mm, by rw [h105]; exact hV, by rw [h105]; exact hB, ?_, ?_, by rw [h105, j104]; exact Nat.le_refl _⟩⟩, Stap_k s3 (k 1 (by decide) (by decide) (by decide) (by decide)) (by rw [k0, up_ne (by decide)]) (by rw [k103, up_ne (by decide)]) (k 110 (by decide) (by decide) (by decide) (by decide)), Ssh_k s4 (fun q a b => k q (by omega) (by omega) (by omega) (by omega)) (fun q a b => k q (by omega) (by omega) (by omega) (by omega)), Swt_k s5 (by rw [k0, up_ne (by decide)]) (by rw [k103, up_ne (by decide)]) (k 10 (by decide) (by decide) (by decide) (by decide)) (k 126 (by decide) (by decide) (by decide) (by decide)), Sse_k s6 (by rw [k0, up_ne (by decide)]) (by rw [k0, up_ne (by decide)]), ⟨fun j hj => by rw [j104]; exact hZ.1 j hj, fun j hj => by rw [h105]; exact hZ.1 j hj, fun j hj => by rw [k 106 (by decide) (by decide) (by decide) (by decide)]; exact hZ.2.2 j hj⟩, Sky_k s8 (k 111 (by decide) (by decide) (by decide) (by decide)) (k 112 (by decide) (by decide) (by decide) (by decide))⟩
  · rw [h105]
    exact RW_frame hV.1.1 r1 (fun q hq => by rw [q2, mx_wr_ne (by omega), mx_rw_ne (by omega)])
  · rw [h105]
    exact RLw_congr (fun q a b => k q (by omega) (by omega) (by omega) (by omega)) (fun _ _ => rfl) (T14 hV.1.2.2.1) hL
theorem st_back {l : Launch} {G : Gt} : Step l G dm_X7_back dm_X8_back [] := by
  intro M hS
  obtain ⟨⟨mm, hV, hB, hR, hL⟩, hI, hT, ⟨hSh, hVS, hSl⟩, hWt, hSe, hZ, hK⟩ := id hS
  obtain ⟨s1, s2, s3, s4, s5, s6, s7, s8⟩ := id hS
  by_cases h4 : M 0 4 = 0
  · refine ⟨_, mx_runs_mono (c_X7_back (b := M 105) (mm := 0) (by decide) (fun h => absurd h4 h)) (by decide), fun x M1 q1 => ?_⟩
    obtain ⟨e1, q1⟩ := q1.1 h4
    subst q1
    refine ⟨_, mx_runs_mono (c_X8_back) (by decide), fun y M2 q2 => ?_⟩
    obtain ⟨e2, q2⟩ := q2.1 (hI.1.trans h4)
    subst q2
    exact ⟨e1.trans e2.symm, hS⟩
  · obtain ⟨m2, g1, g2, g3, g4, g5⟩ := hI.2 h4
    refine ⟨_, mx_runs_mono (c_X7_back (b := M 105) (mm := m2) g1.1.1 (fun _ => g3)) (by decide), fun x M1 q1 => ?_⟩
    obtain ⟨e1, r1, f1⟩ := q1.2 h4
    have k105 : M1 105 = M 105 := f1 105 (by decide)
    refine ⟨_, mx_runs_mono (c_X8_back) (by decide), fun y M2 q2 => ?_⟩
    obtain ⟨e2, q2⟩ := q2.2 (by rw [f1 103 (by decide), hI.1]; exact h4)
    refine ⟨by rw [e1, e2, k105], ?_⟩
    have h104 : M2 104 = M 105 := by
      rw [q2, mx_rw_at, k105, f1 104 (by decide)]
      exact cut_all (fun j hj => by rw [hZ.1 j hj, hZ.2.1 j hj])
    have k : ∀ q, ¬ (70 ≤ q ∧ q < 81) → q ≠ 104 → M2 q = M q := fun q a b => by rw [q2, mx_rw_ne b]; exact f1 q a
    refine ⟨⟨m2, by rw [h104]; exact g1, by rw [h104]; exact g2, ?_, ?_⟩, ⟨by rw [k 103 (by decide) (by decide), k 0 (by decide) (by decide)]; exact hI.1, fun _ => ⟨m2, by rw [k 105 (by decide) (by decide)]; exact g1, by rw [k 105 (by decide) (by decide)]; exact g2, ?_, ?_, by rw [k 105 (by decide) (by decide), h104]; exact Nat.le_refl _⟩⟩, Stap_k s3 (k 1 (by decide) (by decide)) (by rw [k 0 (by decide) (by decide)]) (by rw [k 103 (by decide) (by decide)]) (k 110 (by decide) (by decide)), Ssh_k s4 (fun q a b => k q (by omega) (by omega)) (fun q a b => k q (by omega) (by omega)), Swt_k s5 (by rw [k 0 (by decide) (by decide)]) (by rw [k 103 (by decide) (by decide)]) (k 10 (by decide) (by decide)) (k 126 (by decide) (by decide)), Sse_k s6 (by rw [k 0 (by decide) (by decide)]) (by rw [k 0 (by decide) (by decide)]), ⟨fun j hj => by rw [h104]; exact hZ.2.1 j hj, fun j hj => by rw [k 105 (by decide) (by decide)]; exact hZ.2.1 j hj, fun j hj => by rw [k 106 (by decide) (by decide)]; exact hZ.2.2 j hj⟩, Sky_k s8 (k 111 (by decide) (by decide)) (k 112 (by decide) (by decide))⟩
    · rw [h104]
      exact RW_frame g1.1.1 r1 (fun q hq => by rw [q2, mx_rw_ne (by omega)])
    · rw [h104]
      exact RLw_congr (fun q a b => k q (by omega) (by omega)) (fun _ _ => rfl) (T14 g1.1.2.2.1) g4
    · rw [k 105 (by decide) (by decide)]
      exact RW_frame g1.1.1 g3 (fun q hq => k q (by omega) (by omega))
    · rw [k 105 (by decide) (by decide)]
      exact RLw_congr (fun q a b => k q (by omega) (by omega)) (fun _ _ => rfl) (T14 g1.1.2.2.1) g4
/-- behind text: what both sides keep -/
theorem SIM_tx {M M1 M2 : Mm} {T : Nat} {a : Rw} {mm : Nat} (h : SIM M) (hT : cN (M 104 6) = T) (hV : VP a mm) (hB : VB a mm 99999) (hR : RW M1 70 a Sall mm) (hL : RLw M1 a) (h0 : M1 0 = up (M 0) 6 0) (hF : ∀ q, q ≠ 0 → q ≠ 2 → q ≠ 6 → q ≠ 7 → q ≠ 70 → q ≠ 72 → (T < 14 → q ≠ 14 + 2 * T) → (T < 14 → q ≠ 14 + 2 * T + 1) → M1 q = M q) (hT14 : T ≤ 14) (h6 : cN (M 104 6) ≤ cN (a 6)) (hz : ∀ j, 1427 ≤ j → a j = 0) (h104 : M2 104 = a) (hs : scr M1 M2) : SIM M2 := by
  obtain ⟨s1, s2, s3, s4, s5, s6, s7, s8⟩ := h
  obtain ⟨c8, cj, cq⟩ := hs
  have hm6 := hV.1.1
  have hF2 : ∀ q, q ≠ 0 → q ≠ 2 → q ≠ 6 → q ≠ 7 → q ≠ 70 → q ≠ 72 → (q < 14 ∨ 42 ≤ q) → M1 q = M q := fun q a b c d e f g => hF q a b c d e f (by omega) (by omega)
  have k : ∀ q, q ≠ 0 → q ≠ 2 → q ≠ 6 → q ≠ 7 → q ≠ 70 → q ≠ 72 → (q < 14 ∨ 42 ≤ q) → q ≠ 103 → q ≠ 104 → q ≠ 113 → q ≠ 114 → q ≠ 115 → M2 q = M q := fun q a b c d e f g h i j m n => by rw [cq q h i j m n]; exact hF2 q a b c d e f g
  have kk : ∀ q, q = 1 ∨ q = 10 ∨ (42 ≤ q ∧ q < 70) ∨ (81 ≤ q ∧ q < 103) ∨ (105 ≤ q ∧ q < 113) ∨ (116 ≤ q ∧ q < 127) → M2 q = M q := fun q hq => k q (by omega) (by omega) (by omega) (by omega) (by omega) (by omega) (by omega) (by omega) (by omega) (by omega) (by omega) (by omega)
  have k0 : M2 0 = up (M 0) 6 0 := by rw [cq 0 (by decide) (by decide) (by decide) (by decide) (by decide)]; exact h0
  have m103 : M1 103 = M 103 := hF2 103 (by decide) (by decide) (by decide) (by decide) (by decide) (by decide) (by decide)
  have k3 : M2 103 3 = M 103 3 := by rw [cj 3 (by decide) (by decide) (by decide) (by decide) (by decide), m103]
  have k34 : M2 103 34 = M 103 34 := by rw [cj 34 (by decide) (by decide) (by decide) (by decide) (by decide), m103]
  have m2 : ∀ q, 14 ≤ q → q < 92 → M2 q = M1 q := fun q a b => cq q (by omega) (by omega) (by omega) (by omega) (by omega)
  obtain ⟨n0, t1, t2, t3, t4⟩ := s3
  refine ⟨⟨mm, by rw [h104]; exact hV, by rw [h104]; exact hB, ?_, ?_⟩, ⟨by rw [k3, k0, up_ne (by decide)]; exact s2.1, fun hne => ?_⟩, ⟨0, by decide, by rw [k0, up_at]; rfl, by rw [c8]; rfl, fun j hj => by rw [kk 1 (by decide), kk 110 (by decide)]; exact t4 j hj⟩, Ssh_k s4 (fun q a b => kk q (by omega)) (fun q a b => kk q (by omega)), Swt_k s5 (by rw [k0, up_ne (by decide)]) k34 (kk 10 (by decide)) (kk 126 (by decide)), Sse_k s6 (by rw [k0, up_ne (by decide)]) (by rw [k0, up_ne (by decide)]), ⟨fun j hj => by rw [h104]; exact hz j hj, fun j hj => by rw [kk 105 (by decide)]; exact s7.2.1 j hj, fun j hj => by rw [kk 106 (by decide)]; exact s7.2.2 j hj⟩, Sky_k s8 (kk 111 (by decide)) (kk 112 (by decide))⟩
  · rw [h104]
    exact RW_frame hm6 hR (fun q hq => m2 q (by omega) (by omega))
  · rw [h104]
    exact RLw_congr (fun q a b => m2 q a (by omega)) (fun _ _ => rfl) (T14 hV.1.2.2.1) hL
  · rw [k0, up_ne (by decide)] at hne
    obtain ⟨mi, g1, g2, g3, g4, g5⟩ := s2.2 hne
    have k105 : M2 105 = M 105 := kk 105 (by decide)
    refine ⟨mi, by rw [k105]; exact g1, by rw [k105]; exact g2, ?_, ?_, by rw [k105, h104]; omega⟩
    · rw [k105]
      exact RW_frame g1.1.1 g3 (fun q hq => kk q (by omega))
    · rw [k105]
      intro t ht
      have e1 : M2 (14 + 2 * t) = M (14 + 2 * t) := by
        rw [m2 _ (by omega) (by have := T14 g1.1.2.2.1; omega)]
        exact hF _ (by omega) (by omega) (by omega) (by omega) (by have := T14 g1.1.2.2.1; omega) (by have := T14 g1.1.2.2.1; omega) (by omega) (by omega)
      have e2 : M2 (14 + 2 * t + 1) = M (14 + 2 * t + 1) := by
        rw [m2 _ (by omega) (by have := T14 g1.1.2.2.1; omega)]
        exact hF _ (by omega) (by omega) (by omega) (by omega) (by have := T14 g1.1.2.2.1; omega) (by have := T14 g1.1.2.2.1; omega) (by omega) (by omega)
      unfold LawR
      rw [e1, e2]
      exact g4 t ht
theorem st_text {l : Launch} {G : Gt} : Step l G dm_X7_text dm_X8_text [] := by
  intro M hS
  obtain ⟨⟨mm, hV, hB, hR, hL⟩, hI, hT, ⟨hSh, hVS, hSl⟩, hWt, hSe, hZ, hK⟩ := id hS
  obtain ⟨s1, s2, s3, s4, s5, s6, s7, s8⟩ := id hS
  obtain ⟨T, hT14, hT6, -⟩ := id hV.1.2.2.1
  obtain ⟨n0, t1, t2, t3, t4⟩ := id hT
  obtain ⟨hky, ky0_, ky1_, ky2_, ky3_⟩ := id hK
  have hcT : cN (M 104 6) = T := by rw [hT6]; exact cN_nI (by omega)
  refine ⟨_, mx_runs_mono (c_X7_text (rm := M 103) hV hR hL t4 t1 t2 hky hT6 hT14) (by decide), fun x M1 q1 => ?_⟩
  obtain ⟨z1, f1, g1, g2⟩ := q1
  have f2 : ∀ q, 103 ≤ q → M1 q = M q := fun q hq => f1 q (by omega) (by omega) (by omega) (by omega) (by omega) (by omega) (by omega) (by omega)
  refine ⟨_, mx_runs_mono (c_X8_text (n := n0) (T := T) t1 (by rw [f2 103 (by decide)]; exact t3) hT14 (by rw [f2 104 (by decide)]; exact hT6) (by rw [f2 112 (by decide)]; exact ky0_) (by rw [f2 112 (by decide)]; exact ky1_) (by rw [f2 112 (by decide)]; exact ky2_) (by rw [f2 112 (by decide)]; exact ky3_)) (by decide), fun y M2 q2 => ?_⟩
  obtain ⟨hs, p1, p2⟩ := q2
  rw [f2 103 (by decide), f2 110 (by decide), f2 111 (by decide), f2 104 (by decide)] at p1
  rw [f2 103 (by decide), f2 110 (by decide), f2 111 (by decide), f2 104 (by decide)] at p2
  cases hr : (R_text (M 110) (M 111) n0 (M 103)).2 with
  | none =>
    obtain ⟨e1, r1, l1⟩ := g1 hr
    obtain ⟨e2, h104⟩ := p1 hr
    exact ⟨e1.trans e2.symm, SIM_tx hS hcT hV hB r1 l1 z1 f1 hT14 (Nat.le_refl _) hZ.1 h104 hs⟩
  | some v =>
    obtain ⟨C, at_⟩ := v
    obtain ⟨k2, c96, hwf, hdl, ga, gb⟩ := g2 C at_ hr
    obtain ⟨pa, pb⟩ := p2 C at_ hr
    by_cases h14 : T = 14
    · obtain ⟨e1, r1, l1⟩ := ga h14
      obtain ⟨e2, h104⟩ := pa h14
      exact ⟨e1.trans e2.symm, SIM_tx hS hcT hV hB r1 l1 z1 f1 hT14 (Nat.le_refl _) hZ.1 h104 hs⟩
    · obtain ⟨e1, r1, l1⟩ := gb (by omega)
      obtain ⟨e2, h104⟩ := pb (by omega)
      refine ⟨e1.trans e2.symm, SIM_tx hS hcT (a := A_text (M 104) T (ky0 (M 110) (M 111) n0) C at_) ⟨⟨hV.1.1, ?_, VT_text hV.1.2.2.1 hT6 (by omega) k2 c96 hwf hdl, ?_⟩, ?_⟩ ?_ r1 l1 z1 f1 hT14 ?_ ?_ h104 hs⟩
      · rw [A_text_keep (by decide) (by omega) (by omega) (by omega)]; exact hV.1.2.1
      · intro d hd
        have hm6 := hV.1.1
        rw [A_text_keep (by omega) (by omega) (by omega) (by omega)]
        exact hV.1.2.2.2 d hd
      · intro d hd
        have hm6 := hV.1.1
        exact VPd_congr (fun f hf => A_text_keep (by omega) (by omega) (by omega) (by omega)) (hV.2 d hd)
      · have hm6 := hV.1.1
        exact VB_of hB (A_text_keep (by decide) (by omega) (by omega) (by omega)) (fun d hd => ⟨A_text_keep (by omega) (by omega) (by omega) (by omega), A_text_keep (by omega) (by omega) (by omega) (by omega)⟩)
      · rw [hcT, show A_text (M 104) T (ky0 (M 110) (M 111) n0) C at_ 6 = nI (T + 1) by unfold A_text; rw [if_pos rfl], cN_nI (by omega)]
        omega
      · intro j hj
        rw [A_text_keep (by omega) (by omega) (by omega) (by omega)]
        exact hZ.1 j hj
