/-! the relation between class and model -/
def Snow (M N : Mm) : Prop := ∃ mm, VP (N 104) mm ∧ VB (N 104) mm 99999 ∧ RW M 70 (N 104) Sall mm ∧ RLw M (N 104)
def Simg (M N : Mm) : Prop := N 103 3 = M 0 4 ∧ (M 0 4 ≠ 0 → ∃ m2, VP (N 105) m2 ∧ VB (N 105) m2 99999 ∧ RW M 81 (N 105) Sall m2 ∧ RLw M (N 105) ∧ cN (N 105 6) ≤ cN (N 104 6))
def Stap (M N : Mm) : Prop := ∃ n, n ≤ 96 ∧ M 0 6 = nI n ∧ N 103 8 = nI n ∧ ∀ k, k < 96 → (M 1 k &&& 255) = N 110 k
def Ssh (M N : Mm) : Prop := RS M (N 118) (N 119) (N 120) ∧ VS (N 118) (N 119) (N 120) ∧ RSl M (N 121) (N 122) (N 123) (N 124)
def Swt (M N : Mm) : Prop := ∃ wn, wn ≤ 60 ∧ M 0 12 = nI wn ∧ N 103 34 = nI wn ∧ ∀ j, j < wn → M 10 j = N 126 j
def Sse (M : Mm) : Prop := ∃ c1 c2, SN c1 c2 ∧ M 0 13 = nI c1 ∧ M 0 14 = nI c2
def Szr (N : Mm) : Prop := (∀ j, 1427 ≤ j → N 104 j = 0) ∧ (∀ j, 1427 ≤ j → N 105 j = 0) ∧ (∀ j, 1427 ≤ j → N 106 j = 0)
def Sky (N : Mm) : Prop := keysOK (N 111) ∧ N 112 0 = nI 0 ∧ N 112 1 = nI 5 ∧ N 112 2 = nI 9 ∧ N 112 3 = nI 13
def SIM (M : Mm) : Prop := Snow M M ∧ Simg M M ∧ Stap M M ∧ Ssh M M ∧ Swt M M ∧ Sse M ∧ Szr M ∧ Sky M
theorem Snow_k {M M2 : Mm} (h : Snow M M) (hM : ∀ q, 14 ≤ q → q < 42 → M2 q = M q) (hW : ∀ q, 70 ≤ q → q < 81 → q ≠ 74 → M2 q = M q) (hN : M2 104 = M 104) : Snow M2 M2 := by
  obtain ⟨mm, hV, hB, hR, hL⟩ := h
  refine ⟨mm, by rw [hN]; exact hV, by rw [hN]; exact hB, ?_, ?_⟩
  · rw [hN]
    exact RW_keep hV.1.1 (hW 70 (by decide) (by decide) (by decide)) (hW 72 (by decide) (by decide) (by decide)) (fun d hd => hW _ (by omega) (by omega) (by omega)) hR
  · rw [hN]
    exact RLw_congr hM (fun _ _ => rfl) (T14 hV.1.2.2.1) hL
theorem Simg_k {M M2 : Mm} (h : Simg M M) (hM : ∀ q, 14 ≤ q → q < 42 → M2 q = M q) (hW : ∀ q, 81 ≤ q → q < 92 → q ≠ 85 → M2 q = M q) (h4 : M2 0 4 = M 0 4) (h3 : M2 103 3 = M 103 3) (hN : M2 105 = M 105) (hT : cN (M 104 6) ≤ cN (M2 104 6)) : Simg M2 M2 := by
  obtain ⟨g1, g2⟩ := h
  refine ⟨by rw [h3, h4]; exact g1, fun hne => ?_⟩
  obtain ⟨m2, hV, hB, hR, hL, hc⟩ := g2 (by rw [← h4]; exact hne)
  refine ⟨m2, by rw [hN]; exact hV, by rw [hN]; exact hB, ?_, ?_, by rw [hN]; omega⟩
  · rw [hN]
    exact RW_keep hV.1.1 (hW 81 (by decide) (by decide) (by decide)) (hW 83 (by decide) (by decide) (by decide)) (fun d hd => hW _ (by omega) (by omega) (by omega)) hR
  · rw [hN]
    exact RLw_congr hM (fun _ _ => rfl) (T14 hV.1.2.2.1) hL
theorem Stap_k {M M2 : Mm} (h : Stap M M) (h1 : M2 1 = M 1) (h6 : M2 0 6 = M 0 6) (h8 : M2 103 8 = M 103 8) (hN : M2 110 = M 110) : Stap M2 M2 := by
  obtain ⟨n, g1, g2, g3, g4⟩ := h
  exact ⟨n, g1, h6.trans g2, h8.trans g3, fun k hk => by rw [h1, hN]; exact g4 k hk⟩
theorem Ssh_k {M M2 : Mm} (h : Ssh M M) (hM : ∀ q, 42 ≤ q → q < 70 → M2 q = M q) (hN : ∀ q, 118 ≤ q → q ≤ 124 → M2 q = M q) : Ssh M2 M2 := by
  obtain ⟨g1, g2, g3⟩ := h
  unfold Ssh
  rw [hN 118 (by decide) (by decide), hN 119 (by decide) (by decide), hN 120 (by decide) (by decide), hN 121 (by decide) (by decide), hN 122 (by decide) (by decide), hN 123 (by decide) (by decide), hN 124 (by decide) (by decide)]
  refine ⟨fun s hs => ?_, g2, fun s hs => ?_⟩
  · rw [hM _ (by omega) (by omega), hM _ (by omega) (by omega)]
    exact g1 s hs
  · rw [hM (50 + 4 * s) (by omega) (by omega), hM (50 + 4 * s + 1) (by omega) (by omega), hM (50 + 4 * s + 2) (by omega) (by omega), hM (50 + 4 * s + 2 + 1) (by omega) (by omega)]
    exact g3 s hs
theorem Swt_k {M M2 : Mm} (h : Swt M M) (h12 : M2 0 12 = M 0 12) (h34 : M2 103 34 = M 103 34) (h10 : M2 10 = M 10) (hN : M2 126 = M 126) : Swt M2 M2 := by
  obtain ⟨n, g1, g2, g3, g4⟩ := h
  exact ⟨n, g1, h12.trans g2, h34.trans g3, fun k hk => by rw [h10, hN]; exact g4 k hk⟩
theorem Sse_k {M M2 : Mm} (h : Sse M) (h13 : M2 0 13 = M 0 13) (h14 : M2 0 14 = M 0 14) : Sse M2 := by
  obtain ⟨c1, c2, g1, g2, g3⟩ := h
  exact ⟨c1, c2, g1, h13.trans g2, h14.trans g3⟩
theorem Szr_k {M M2 : Mm} (h : Szr M) (h4 : ∀ j, 1427 ≤ j → M2 104 j = M 104 j) (h5 : M2 105 = M 105) (h6 : M2 106 = M 106) : Szr M2 := by
  obtain ⟨g1, g2, g3⟩ := h
  exact ⟨fun j hj => (h4 j hj).trans (g1 j hj), fun j hj => by rw [h5]; exact g2 j hj, fun j hj => by rw [h6]; exact g3 j hj⟩
theorem Sky_k {M M2 : Mm} (h : Sky M) (h1 : M2 111 = M 111) (h2 : M2 112 = M 112) : Sky M2 := by
  unfold Sky
  rw [h1, h2]
  exact h
/-- nothing that counts has changed -/
theorem SIM_k {M M2 : Mm} (h : SIM M) (h0 : M2 0 = M 0) (h1 : M2 1 = M 1) (h10 : M2 10 = M 10) (hM : ∀ q, 14 ≤ q → q < 92 → q ≠ 74 → q ≠ 85 → M2 q = M q) (h103 : M2 103 = M 103) (hN : ∀ q, 104 ≤ q → q < 127 → q ≠ 107 → q ≠ 108 → q ≠ 109 → q ≠ 113 → q ≠ 114 → q ≠ 115 → q ≠ 116 → q ≠ 117 → q ≠ 125 → M2 q = M q) : SIM M2 := by
  obtain ⟨s1, s2, s3, s4, s5, s6, s7, s8⟩ := h
  have k104 : M2 104 = M 104 := hN 104 (by decide) (by decide) (by decide) (by decide) (by decide) (by decide) (by decide) (by decide) (by decide) (by decide) (by decide)
  refine ⟨Snow_k s1 (fun q a b => hM q (by omega) (by omega) (by omega) (by omega)) (fun q a b c => hM q (by omega) (by omega) c (by omega)) k104, Simg_k s2 (fun q a b => hM q (by omega) (by omega) (by omega) (by omega)) (fun q a b c => hM q (by omega) (by omega) (by omega) c) (by rw [h0]) (by rw [h103]) (hN 105 (by decide) (by decide) (by decide) (by decide) (by decide) (by decide) (by decide) (by decide) (by decide) (by decide) (by decide)) (by rw [k104]; exact Nat.le_refl _), Stap_k s3 h1 (by rw [h0]) (by rw [h103]) (hN 110 (by decide) (by decide) (by decide) (by decide) (by decide) (by decide) (by decide) (by decide) (by decide) (by decide) (by decide)), Ssh_k s4 (fun q a b => hM q (by omega) (by omega) (by omega) (by omega)) (fun q a b => hN q (by omega) (by omega) (by omega) (by omega) (by omega) (by omega) (by omega) (by omega) (by omega) (by omega) (by omega)), Swt_k s5 (by rw [h0]) (by rw [h103]) h10 (hN 126 (by decide) (by decide) (by decide) (by decide) (by decide) (by decide) (by decide) (by decide) (by decide) (by decide) (by decide)), Sse_k s6 (by rw [h0]) (by rw [h0]), Szr_k s7 (fun j _ => by rw [k104]) (hN 105 (by decide) (by decide) (by decide) (by decide) (by decide) (by decide) (by decide) (by decide) (by decide) (by decide) (by decide)) (hN 106 (by decide) (by decide) (by decide) (by decide) (by decide) (by decide) (by decide) (by decide) (by decide) (by decide) (by decide)), Sky_k s8 (hN 111 (by decide) (by decide) (by decide) (by decide) (by decide) (by decide) (by decide) (by decide) (by decide) (by decide) (by decide)) (hN 112 (by decide) (by decide) (by decide) (by decide) (by decide) (by decide) (by decide) (by decide) (by decide) (by decide) (by decide))⟩
/-- the row now has changed, on both sides -/
theorem SIM_now {M M1 M2 : Mm} {a : Rw} {mm : Nat} (h : SIM M) (hV : VP a mm) (hB : VB a mm 99999) (ht : ∀ j, j = 6 ∨ 55 ≤ j → a j = M 104 j) (hR : RN M1 70 a) (hF : ∀ q, ¬ (70 ≤ q ∧ q < 81) → M1 q = M q) (h104 : M2 104 = a) (hM2 : ∀ q, q ≠ 104 → q ≠ 116 → q ≠ 117 → M2 q = M1 q) : SIM M2 := by
  obtain ⟨s1, s2, s3, s4, s5, s6, s7, s8⟩ := h
  have k : ∀ q, ¬ (70 ≤ q ∧ q < 81) → q ≠ 104 → q ≠ 116 → q ≠ 117 → M2 q = M q := fun q h1 h2 h3 h4 => by rw [hM2 q h2 h3 h4]; exact hF q h1
  have e6 : M 104 6 = a 6 := (ht 6 (Or.inl rfl)).symm
  refine ⟨⟨mm, by rw [h104]; exact hV, by rw [h104]; exact hB, ?_, ?_⟩, Simg_k s2 (fun q a b => k q (by omega) (by omega) (by omega) (by omega)) (fun q a b c => k q (by omega) (by omega) (by omega) (by omega)) (by rw [k 0 (by decide) (by decide) (by decide) (by decide)]) (by rw [k 103 (by decide) (by decide) (by decide) (by decide)]) (k 105 (by decide) (by decide) (by decide) (by decide)) (by rw [h104, e6]; exact Nat.le_refl _), Stap_k s3 (k 1 (by decide) (by decide) (by decide) (by decide)) (by rw [k 0 (by decide) (by decide) (by decide) (by decide)]) (by rw [k 103 (by decide) (by decide) (by decide) (by decide)]) (k 110 (by decide) (by decide) (by decide) (by decide)), Ssh_k s4 (fun q a b => k q (by omega) (by omega) (by omega) (by omega)) (fun q a b => k q (by omega) (by omega) (by omega) (by omega)), Swt_k s5 (by rw [k 0 (by decide) (by decide) (by decide) (by decide)]) (by rw [k 103 (by decide) (by decide) (by decide) (by decide)]) (k 10 (by decide) (by decide) (by decide) (by decide)) (k 126 (by decide) (by decide) (by decide) (by decide)), Sse_k s6 (by rw [k 0 (by decide) (by decide) (by decide) (by decide)]) (by rw [k 0 (by decide) (by decide) (by decide) (by decide)]), Szr_k s7 (fun j hj => by rw [h104]; exact ht j (by omega)) (k 105 (by decide) (by decide) (by decide) (by decide)) (k 106 (by decide) (by decide) (by decide) (by decide)), Sky_k s8 (k 111 (by decide) (by decide) (by decide) (by decide)) (k 112 (by decide) (by decide) (by decide) (by decide))⟩
  · rw [h104]
    exact RW_frame hV.1.1 (hR mm hV.1.1 hV.1.2.1) (fun q hq => hM2 q (by omega) (by omega) (by omega))
  · rw [h104]
    obtain ⟨m0, hV0, -, -, hL0⟩ := s1
    exact RLw_congr (fun q a b => k q (by omega) (by omega) (by omega) (by omega)) ht (T14 hV0.1.2.2.1) hL0
/-- a call: the class, then the model: one answer, and the relation again -/
def Step (l : Launch) (G : Gt) (Dx Dm : Md) (as : List Value) : Prop := ∀ M, SIM M → ∃ Qx : Int32 → Mm → Prop, Runs l G true Dx 200 127 (.ref 0 :: as) M 127 (Pi Qx) ∧ ∀ x M1, Qx x M1 → ∃ Qy : Int32 → Mm → Prop, Runs l G true Dm 200 127 (.ref 103 :: as) M1 127 (Pi Qy) ∧ ∀ y M2, Qy y M2 → x = y ∧ SIM M2
theorem st_told {l : Launch} {G : Gt} {d w : Int32} : Step l G dm_X7_told dm_X8_told [.int d, .int w] := by
  intro M hS
  obtain ⟨⟨mm, hV, hB, hR, hL⟩, hI, hT, ⟨hSh, hVS, hSl⟩, hWt, hSe, hZ, hK⟩ := id hS
  refine ⟨_, mx_runs_mono (c_X7_told hV hR) (by decide), fun x M1 q1 => ?_⟩
  obtain ⟨rfl, q1⟩ := q1
  replace q1 := q1.symm
  subst q1
  refine ⟨_, mx_runs_mono (c_X8_told (m := mm) hV.1.1 hV.1.2.1) (by decide), fun y M2 q2 => ?_⟩
  obtain ⟨rfl, q2⟩ := q2
  replace q2 := q2.symm
  subst q2
  exact ⟨rfl, hS⟩
theorem st_as {l : Launch} {G : Gt} {d k : Int32} : Step l G dm_X7_as dm_X8_as [.int d, .int k] := by
  intro M hS
  obtain ⟨⟨mm, hV, hB, hR, hL⟩, hI, hT, ⟨hSh, hVS, hSl⟩, hWt, hSe, hZ, hK⟩ := id hS
  refine ⟨_, mx_runs_mono (c_X7_as hV hR) (by decide), fun x M1 q1 => ?_⟩
  obtain ⟨rfl, q1⟩ := q1
  replace q1 := q1.symm
  subst q1
  refine ⟨_, mx_runs_mono (c_X8_as (m := mm) hV.1.1 hV.1.2.1) (by decide), fun y M2 q2 => ?_⟩
  obtain ⟨rfl, q2⟩ := q2
  replace q2 := q2.symm
  subst q2
  exact ⟨rfl, hS⟩
theorem st_textTold {l : Launch} {G : Gt} {t w : Int32} : Step l G dm_X7_textTold dm_X8_textTold [.int t, .int w] := by
  intro M hS
  obtain ⟨⟨mm, hV, hB, hR, hL⟩, hI, hT, ⟨hSh, hVS, hSl⟩, hWt, hSe, hZ, hK⟩ := id hS
  obtain ⟨T, hT14, hT6, -⟩ := id hV.1.2.2.1
  refine ⟨_, mx_runs_mono (c_X7_textTold hV hR hL) (by decide), fun x M1 q1 => ?_⟩
  obtain ⟨rfl, q1⟩ := q1
  replace q1 := q1.symm
  subst q1
  refine ⟨_, mx_runs_mono (c_X8_textTold (T := T) hT14 hT6) (by decide), fun y M2 q2 => ?_⟩
  obtain ⟨rfl, q2⟩ := q2
  replace q2 := q2.symm
  subst q2
  exact ⟨rfl, hS⟩
theorem st_why {l : Launch} {G : Gt} {k : Int32} : Step l G dm_X7_why dm_X8_why [.int k] := by
  intro M hS
  obtain ⟨⟨mm, hV, hB, hR, hL⟩, hI, hT, ⟨hSh, hVS, hSl⟩, hWt, hSe, hZ, hK⟩ := id hS
  obtain ⟨T, hT14, hT6, -⟩ := id hV.1.2.2.1
  refine ⟨_, mx_runs_mono (c_X7_why hV hR) (by decide), fun x M1 q1 => ?_⟩
  obtain ⟨rfl, q1⟩ := q1
  replace q1 := q1.symm
  subst q1
  refine ⟨_, mx_runs_mono (c_X8_why (T := T) hT14 hT6) (by decide), fun y M2 q2 => ?_⟩
  obtain ⟨rfl, q2⟩ := q2
  replace q2 := q2.symm
  subst q2
  exact ⟨rfl, hS⟩
theorem st_count {l : Launch} {G : Gt} {w : Int32} : Step l G dm_X7_count dm_X8_count [.int w] := by
  intro M hS
  obtain ⟨⟨mm, hV, hB, hR, hL⟩, hI, hT, ⟨hSh, hVS, hSl⟩, hWt, hSe, hZ, hK⟩ := id hS
  refine ⟨_, mx_runs_mono (c_X7_count hV hR) (by decide), fun x M1 q1 => ?_⟩
  obtain ⟨q1a, q1⟩ := q1
  replace q1 := q1.symm
  subst q1
  refine ⟨_, mx_runs_mono (c_X8_count (mm := mm) hV.1) (by decide), fun y M2 q2 => ?_⟩
  obtain ⟨q2a, q2⟩ := q2
  replace q2 := q2.symm
  subst q2
  refine ⟨?_, hS⟩
  obtain ⟨n, -, t1, t2, -⟩ := hT
  obtain ⟨wn, -, w1, w2, -⟩ := hWt
  rw [q1a, q2a, t1, t2, w1, w2]
theorem st_ask {l : Launch} {G : Gt} {s k : Int32} : Step l G dm_X7_ask dm_X8_ask [.int s, .int k] := by
  intro M hS
  obtain ⟨⟨mm, hV, hB, hR, hL⟩, hI, hT, ⟨hSh, hVS, hSl⟩, hWt, hSe, hZ, hK⟩ := id hS
  refine ⟨_, mx_runs_mono (c_X7_ask hSl) (by decide), fun x M1 q1 => ?_⟩
  obtain ⟨rfl, q1⟩ := q1
  replace q1 := q1.symm
  subst q1
  refine ⟨_, mx_runs_mono (c_X8_ask ) (by decide), fun y M2 q2 => ?_⟩
  obtain ⟨rfl, q2⟩ := q2
  replace q2 := q2.symm
  subst q2
  exact ⟨rfl, hS⟩
theorem st_item {l : Launch} {G : Gt} {s p : Int32} : Step l G dm_X7_item dm_X8_item [.int s, .int p] := by
  intro M hS
  obtain ⟨⟨mm, hV, hB, hR, hL⟩, hI, hT, ⟨hSh, hVS, hSl⟩, hWt, hSe, hZ, hK⟩ := id hS
  refine ⟨_, mx_runs_mono (c_X7_item hSl) (by decide), fun x M1 q1 => ?_⟩
  obtain ⟨rfl, q1⟩ := q1
  replace q1 := q1.symm
  subst q1
  refine ⟨_, mx_runs_mono (c_X8_item (fun s hs h2 => ((hSl s hs).2.2.1 h2).2.1)) (by decide), fun y M2 q2 => ?_⟩
  obtain ⟨rfl, q2⟩ := q2
  replace q2 := q2.symm
  subst q2
  exact ⟨rfl, hS⟩
theorem st_rest {l : Launch} {G : Gt} {s n : Int32} : Step l G dm_X7_rest dm_X8_rest [.int s, .int n] := by
  intro M hS
  obtain ⟨⟨mm, hV, hB, hR, hL⟩, hI, hT, ⟨hSh, hVS, hSl⟩, hWt, hSe, hZ, hK⟩ := id hS
  refine ⟨_, mx_runs_mono (c_X7_rest hSl) (by decide), fun x M1 q1 => ?_⟩
  obtain ⟨rfl, q1⟩ := q1
  replace q1 := q1.symm
  subst q1
  refine ⟨_, mx_runs_mono (c_X8_rest ) (by decide), fun y M2 q2 => ?_⟩
  obtain ⟨rfl, q2⟩ := q2
  replace q2 := q2.symm
  subst q2
  exact ⟨rfl, hS⟩
theorem st_behind {l : Launch} {G : Gt} {d n w : Int32} : Step l G dm_X7_behind dm_X8_behind [.int d, .int n, .int w] := by
  intro M hS
  obtain ⟨⟨mm, hV, hB, hR, hL⟩, hI, hT, ⟨hSh, hVS, hSl⟩, hWt, hSe, hZ, hK⟩ := id hS
  refine ⟨_, mx_runs_mono (c_X7_behind hV hR hL) (by decide), fun x M1 q1 => ?_⟩
  obtain ⟨e1, f1⟩ := q1
  have e104 : M1 104 = M 104 := f1 104 (by decide)
  refine ⟨_, mx_runs_mono (c_X8_behind (mm := mm) (by rw [e104]; exact hV.1)) (by decide), fun y M2 q2 => ?_⟩
  obtain ⟨e2, f2⟩ := q2
  have k : ∀ q, ¬ (92 ≤ q ∧ q < 103) → q ≠ 107 → q ≠ 116 → q ≠ 117 → M2 q = M q := fun q a b c d => by rw [f2 q b c d]; exact f1 q a
  refine ⟨by rw [e1, e2, e104], SIM_k hS (k 0 (by decide) (by decide) (by decide) (by decide)) (k 1 (by decide) (by decide) (by decide) (by decide)) (k 10 (by decide) (by decide) (by decide) (by decide)) (fun q a b c d => k q (by omega) (by omega) (by omega) (by omega)) (k 103 (by decide) (by decide) (by decide) (by decide)) (fun q a b c d e f g h i j m => k q (by omega) c i j)⟩
theorem st_meets {l : Launch} {G : Gt} {d e : Int32} : Step l G dm_X7_meets dm_X8_meets [.int d, .int e] := by
  intro M hS
  obtain ⟨⟨mm, hV, hB, hR, hL⟩, hI, hT, ⟨hSh, hVS, hSl⟩, hWt, hSe, hZ, hK⟩ := id hS
  refine ⟨_, mx_runs_mono (c_X7_meets hV hR hL) (by decide), fun x M1 q1 => ?_⟩
  obtain ⟨e1, f1⟩ := q1
  have e104 : M1 104 = M 104 := f1 104 (by decide)
  refine ⟨_, mx_runs_mono (c_X8_meets (mm := mm) (by rw [e104]; exact hV.1)) (by decide), fun y M2 q2 => ?_⟩
  obtain ⟨e2, f2⟩ := q2
  have k : ∀ q, ¬ (92 ≤ q ∧ q < 103) → q ≠ 107 → q ≠ 116 → q ≠ 117 → M2 q = M q := fun q a b c d => by rw [f2 q b c d]; exact f1 q a
  refine ⟨by rw [e1, e2, e104], SIM_k hS (k 0 (by decide) (by decide) (by decide) (by decide)) (k 1 (by decide) (by decide) (by decide) (by decide)) (k 10 (by decide) (by decide) (by decide) (by decide)) (fun q a b c d => k q (by omega) (by omega) (by omega) (by omega)) (k 103 (by decide) (by decide) (by decide) (by decide)) (fun q a b c d e f g h i j m => k q (by omega) c i j)⟩
theorem st_sundays {l : Launch} {G : Gt} {d n : Int32} : Step l G dm_X7_sundays dm_X8_sundays [.int d, .int n] := by
  intro M hS
  obtain ⟨⟨mm, hV, hB, hR, hL⟩, hI, hT, ⟨hSh, hVS, hSl⟩, hWt, hSe, hZ, hK⟩ := id hS
  refine ⟨_, mx_runs_mono (c_X7_sundays hV hR hL) (by decide), fun x M1 q1 => ?_⟩
  obtain ⟨e1, f1⟩ := q1
  have e104 : M1 104 = M 104 := f1 104 (by decide)
  refine ⟨_, mx_runs_mono (c_X8_sundays (mm := mm) (by rw [e104]; exact hV.1)) (by decide), fun y M2 q2 => ?_⟩
  obtain ⟨e2, f2⟩ := q2
  have k : ∀ q, ¬ (92 ≤ q ∧ q < 103) → q ≠ 107 → q ≠ 116 → q ≠ 117 → M2 q = M q := fun q a b c d => by rw [f2 q b c d]; exact f1 q a
  refine ⟨by rw [e1, e2, e104], SIM_k hS (k 0 (by decide) (by decide) (by decide) (by decide)) (k 1 (by decide) (by decide) (by decide) (by decide)) (k 10 (by decide) (by decide) (by decide) (by decide)) (fun q a b c d => k q (by omega) (by omega) (by omega) (by omega)) (k 103 (by decide) (by decide) (by decide) (by decide)) (fun q a b c d e f g h i j m => k q (by omega) c i j)⟩
theorem st_richest {l : Launch} {G : Gt} {n : Int32} : Step l G dm_X7_richest dm_X8_richest [.int n] := by
  intro M hS
  obtain ⟨⟨mm, hV, hB, hR, hL⟩, hI, hT, ⟨hSh, hVS, hSl⟩, hWt, hSe, hZ, hK⟩ := id hS
  refine ⟨_, mx_runs_mono (c_X7_richest hV hR hL) (by decide), fun x M1 q1 => ?_⟩
  obtain ⟨e1, f1⟩ := q1
  have e104 : M1 104 = M 104 := f1 104 (by decide)
  refine ⟨_, mx_runs_mono (c_X8_richest (mm := mm) (by rw [e104]; exact hV.1)) (by decide), fun y M2 q2 => ?_⟩
  obtain ⟨e2, f2⟩ := q2
  have k : ∀ q, ¬ (92 ≤ q ∧ q < 103) → q ≠ 107 → q ≠ 116 → q ≠ 117 → M2 q = M q := fun q a b c d => by rw [f2 q b c d]; exact f1 q a
  refine ⟨by rw [e1, e2, e104], SIM_k hS (k 0 (by decide) (by decide) (by decide) (by decide)) (k 1 (by decide) (by decide) (by decide) (by decide)) (k 10 (by decide) (by decide) (by decide) (by decide)) (fun q a b c d => k q (by omega) (by omega) (by omega) (by omega)) (k 103 (by decide) (by decide) (by decide) (by decide)) (fun q a b c d e f g h i j m => k q (by omega) c i j)⟩
theorem st_brings {l : Launch} {G : Gt} {d n : Int32} : Step l G dm_X7_brings dm_X8_brings [.int d, .int n] := by
  intro M hS
  obtain ⟨⟨mm, hV, hB, hR, hL⟩, hI, hT, ⟨hSh, hVS, hSl⟩, hWt, hSe, hZ, hK⟩ := id hS
  refine ⟨_, mx_runs_mono (c_X7_brings hV hR hL hB) (by decide), fun x M1 q1 => ?_⟩
  obtain ⟨e1, f1⟩ := q1
  have e104 : M1 104 = M 104 := f1 104 (by decide)
  refine ⟨_, mx_runs_mono (c_X8_brings (mm := mm) (by rw [e104]; exact hV.1)) (by decide), fun y M2 q2 => ?_⟩
  obtain ⟨e2, f2⟩ := q2
  have k : ∀ q, ¬ (92 ≤ q ∧ q < 103) → q ≠ 107 → q ≠ 116 → q ≠ 117 → M2 q = M q := fun q a b c d => by rw [f2 q b c d]; exact f1 q a
  refine ⟨by rw [e1, e2, e104], SIM_k hS (k 0 (by decide) (by decide) (by decide) (by decide)) (k 1 (by decide) (by decide) (by decide) (by decide)) (k 10 (by decide) (by decide) (by decide) (by decide)) (fun q a b c d => k q (by omega) (by omega) (by omega) (by omega)) (k 103 (by decide) (by decide) (by decide) (by decide)) (fun q a b c d e f g h i j m => k q (by omega) c i j)⟩
theorem st_rated {l : Launch} {G : Gt} {s d w : Int32} : Step l G dm_X7_rated dm_X8_rated [.int s, .int d, .int w] := by
  intro M hS
  obtain ⟨⟨mm, hV, hB, hR, hL⟩, hI, hT, ⟨hSh, hVS, hSl⟩, hWt, hSe, hZ, hK⟩ := id hS
  refine ⟨_, mx_runs_mono (c_X7_rated hV hR hL hSh hVS) (by decide), fun x M1 q1 => ?_⟩
  obtain ⟨e1, f1⟩ := q1
  have e104 : M1 104 = M 104 := f1 104 (by decide)
  refine ⟨_, mx_runs_mono (c_X8_rated (mm := mm) (by rw [e104]; exact hV) (fun s hs => by rw [f1 119 (by decide)]; exact (hVS s hs).2.1)) (by decide), fun y M2 q2 => ?_⟩
  obtain ⟨e2, f2⟩ := q2
  have k : ∀ q, ¬ (92 ≤ q ∧ q < 103) → q ≠ 107 → q ≠ 116 → q ≠ 117 → M2 q = M q := fun q a b c d => by rw [f2 q b c d]; exact f1 q a
  refine ⟨by rw [e1, e2, e104, f1 118 (by decide), f1 119 (by decide), f1 120 (by decide)], SIM_k hS (k 0 (by decide) (by decide) (by decide) (by decide)) (k 1 (by decide) (by decide) (by decide) (by decide)) (k 10 (by decide) (by decide) (by decide) (by decide)) (fun q a b c d => k q (by omega) (by omega) (by omega) (by omega)) (k 103 (by decide) (by decide) (by decide) (by decide)) (fun q a b c d e f g h i j m => k q (by omega) c i j)⟩
theorem st_reads {l : Launch} {G : Gt} {s d : Int32} : Step l G dm_X7_reads dm_X8_reads [.int s, .int d] := by
  intro M hS
  obtain ⟨⟨mm, hV, hB, hR, hL⟩, hI, hT, ⟨hSh, hVS, hSl⟩, hWt, hSe, hZ, hK⟩ := id hS
  refine ⟨_, mx_runs_mono (c_X7_reads hV hR hL hSh hVS) (by decide), fun x M1 q1 => ?_⟩
  obtain ⟨e1, f1⟩ := q1
  have e104 : M1 104 = M 104 := f1 104 (by decide)
  refine ⟨_, mx_runs_mono (c_X8_reads (mm := mm) (by rw [e104]; exact hV.1) (fun s hs => by rw [f1 119 (by decide)]; exact (hVS s hs).2.1)) (by decide), fun y M2 q2 => ?_⟩
  obtain ⟨e2, f2⟩ := q2
  have k : ∀ q, ¬ (92 ≤ q ∧ q < 103) → q ≠ 107 → q ≠ 116 → q ≠ 117 → M2 q = M q := fun q a b c d => by rw [f2 q b c d]; exact f1 q a
  refine ⟨by rw [e1, e2, e104, f1 118 (by decide), f1 119 (by decide), f1 120 (by decide)], SIM_k hS (k 0 (by decide) (by decide) (by decide) (by decide)) (k 1 (by decide) (by decide) (by decide) (by decide)) (k 10 (by decide) (by decide) (by decide) (by decide)) (fun q a b c d => k q (by omega) (by omega) (by omega) (by omega)) (k 103 (by decide) (by decide) (by decide) (by decide)) (fun q a b c d e f g h i j m => k q (by omega) c i j)⟩
theorem st_births {l : Launch} {G : Gt} {d x0 : Int32} : Step l G dm_X7_births dm_X8_births [.int d, .int x0] := by
  intro M hS
  obtain ⟨⟨mm, hV, hB, hR, hL⟩, hI, hT, ⟨hSh, hVS, hSl⟩, hWt, hSe, hZ, hK⟩ := id hS
  refine ⟨_, mx_runs_mono (c_X7_births hV hR hL) (by decide), fun x M1 q1 => ?_⟩
  obtain ⟨e1, f1⟩ := q1
  have e104 : M1 104 = M 104 := f1 104 (by decide)
  refine ⟨_, mx_runs_mono (c_X8_births (m := mm) hV.1.1 (by rw [e104]; exact hV.1.2.1) (by rw [e104]; exact hV.1.2.2.1)) (by decide), fun y M2 q2 => ?_⟩
  obtain ⟨e2, f2⟩ := q2
  have k : ∀ q, q ≠ 74 → q ≠ 116 → q ≠ 117 → M2 q = M q := fun q a b c => by rw [f2 q b c]; exact f1 q a
  refine ⟨by rw [e1, e2, e104], SIM_k hS (k 0 (by decide) (by decide) (by decide)) (k 1 (by decide) (by decide) (by decide)) (k 10 (by decide) (by decide) (by decide)) (fun q a b c d => k q c (by omega) (by omega)) (k 103 (by decide) (by decide) (by decide)) (fun q a b c d e f g h i j m => k q (by omega) i j)⟩
theorem st_fine {l : Launch} {G : Gt} : Step l G dm_X7_fine dm_X8_fine [] := by
  intro M hS
  obtain ⟨⟨mm, hV, hB, hR, hL⟩, hI, hT, ⟨hSh, hVS, hSl⟩, hWt, hSe, hZ, hK⟩ := id hS
  refine ⟨_, mx_runs_mono (c_X7_fine hV hR hL) (by decide), fun x M1 q1 => ?_⟩
  obtain ⟨e1, f1⟩ := q1
  have e104 : M1 104 = M 104 := f1 104 (by decide)
  refine ⟨_, mx_runs_mono (c_X8_fine (mm := mm) (by rw [e104]; exact hV.1)) (by decide), fun y M2 q2 => ?_⟩
  obtain ⟨e2, f2⟩ := q2
  have k : ∀ q, q ≠ 74 → q ≠ 116 → q ≠ 117 → M2 q = M q := fun q a b c => by rw [f2 q b c]; exact f1 q a
  refine ⟨by rw [e1, e2, e104], SIM_k hS (k 0 (by decide) (by decide) (by decide)) (k 1 (by decide) (by decide) (by decide)) (k 10 (by decide) (by decide) (by decide)) (fun q a b c d => k q c (by omega) (by omega)) (k 103 (by decide) (by decide) (by decide)) (fun q a b c d e f g h i j m => k q (by omega) i j)⟩
theorem st_trader {l : Launch} {G : Gt} {d n : Int32} : Step l G dm_X7_trader dm_X8_trader [.int d, .int n] := by
  intro M hS
  obtain ⟨⟨mm, hV, hB, hR, hL⟩, hI, hT, ⟨hSh, hVS, hSl⟩, hWt, hSe, hZ, hK⟩ := id hS
  obtain ⟨c1, c2, hsn0, hc1, hc2⟩ := id hSe
  refine ⟨_, mx_runs_mono (c_X7_trader hV hR hL hsn0 hc1 hc2) (by decide), fun x M1 q1 => ?_⟩
  obtain ⟨e1, f1, d1, d2, hsn, hz0⟩ := q1
  have e104 : M1 104 = M 104 := f1 104 (by decide) (by decide) (by decide) (by decide)
  refine ⟨_, mx_runs_mono (c_X8_trader (mm := mm) (by rw [e104]; exact hV.1)) (by decide), fun y M2 q2 => ?_⟩
  obtain ⟨e2, f2⟩ := q2
  have k : ∀ q, ¬ (92 ≤ q ∧ q < 103) → q ≠ 0 → q ≠ 11 → q ≠ 12 → q ≠ 107 → q ≠ 108 → q ≠ 109 → q ≠ 116 → q ≠ 117 → M2 q = M q := fun q a b c d e f g h i => by rw [f2 q e f g h i]; exact f1 q a b c d
  have k0 : M2 0 = up (up (M 0) 13 (nI d1)) 14 (nI d2) := by rw [f2 0 (by decide) (by decide) (by decide) (by decide) (by decide)]; exact hz0
  have kk : ∀ q, 14 ≤ q → ¬ (92 ≤ q ∧ q < 103) → q ≠ 107 → q ≠ 108 → q ≠ 109 → q ≠ 116 → q ≠ 117 → M2 q = M q := fun q a b c d e f g => k q b (by omega) (by omega) (by omega) c d e f g
  have kj : ∀ j, j ≠ 13 → j ≠ 14 → M2 0 j = M 0 j := fun j h1 h2 => by rw [k0, up_ne h2, up_ne h1]
  obtain ⟨s1, s2, s3, s4, s5, s6, s7, s8⟩ := hS
  refine ⟨by rw [e1, e2, e104], Snow_k s1 (fun q a b => kk q a (by omega) (by omega) (by omega) (by omega) (by omega) (by omega)) (fun q a b c => kk q (by omega) (by omega) (by omega) (by omega) (by omega) (by omega) (by omega)) (kk 104 (by decide) (by decide) (by decide) (by decide) (by decide) (by decide) (by decide)), Simg_k s2 (fun q a b => kk q a (by omega) (by omega) (by omega) (by omega) (by omega) (by omega)) (fun q a b c => kk q (by omega) (by omega) (by omega) (by omega) (by omega) (by omega) (by omega)) (kj 4 (by decide) (by decide)) (by rw [kk 103 (by decide) (by decide) (by decide) (by decide) (by decide) (by decide) (by decide)]) (kk 105 (by decide) (by decide) (by decide) (by decide) (by decide) (by decide) (by decide)) (by rw [kk 104 (by decide) (by decide) (by decide) (by decide) (by decide) (by decide) (by decide)]; exact Nat.le_refl _), Stap_k s3 (k 1 (by decide) (by decide) (by decide) (by decide) (by decide) (by decide) (by decide) (by decide) (by decide)) (kj 6 (by decide) (by decide)) (by rw [kk 103 (by decide) (by decide) (by decide) (by decide) (by decide) (by decide) (by decide)]) (kk 110 (by decide) (by decide) (by decide) (by decide) (by decide) (by decide) (by decide)), Ssh_k s4 (fun q a b => kk q (by omega) (by omega) (by omega) (by omega) (by omega) (by omega) (by omega)) (fun q a b => kk q (by omega) (by omega) (by omega) (by omega) (by omega) (by omega) (by omega)), Swt_k s5 (kj 12 (by decide) (by decide)) (by rw [kk 103 (by decide) (by decide) (by decide) (by decide) (by decide) (by decide) (by decide)]) (k 10 (by decide) (by decide) (by decide) (by decide) (by decide) (by decide) (by decide) (by decide) (by decide)) (kk 126 (by decide) (by decide) (by decide) (by decide) (by decide) (by decide) (by decide)), ⟨d1, d2, hsn, by rw [k0, up_ne (by decide), up_at], by rw [k0, up_at]⟩, Szr_k s7 (fun j _ => by rw [kk 104 (by decide) (by decide) (by decide) (by decide) (by decide) (by decide) (by decide)]) (kk 105 (by decide) (by decide) (by decide) (by decide) (by decide) (by decide) (by decide)) (kk 106 (by decide) (by decide) (by decide) (by decide) (by decide) (by decide) (by decide)), Sky_k s8 (kk 111 (by decide) (by decide) (by decide) (by decide) (by decide) (by decide) (by decide)) (kk 112 (by decide) (by decide) (by decide) (by decide) (by decide) (by decide) (by decide))⟩
theorem st_district {l : Launch} {G : Gt} {k r : Int32} : Step l G dm_X7_district dm_X8_district [.int k, .int r] := by
  intro M hS
  obtain ⟨⟨mm, hV, hB, hR, hL⟩, hI, hT, ⟨hSh, hVS, hSl⟩, hWt, hSe, hZ, hK⟩ := id hS
  refine ⟨_, mx_runs_mono (c_X7_district hV hR) (by decide), fun x M1 q1 => ?_⟩
  obtain ⟨e1, r1, f1⟩ := q1
  have e104 : M1 104 = M 104 := f1 104 (by decide)
  refine ⟨_, mx_runs_mono (c_X8_district (m := mm) hV.1.1 (by rw [e104]; exact hV.1.2.1)) (by decide), fun y M2 q2 => ?_⟩
  obtain ⟨e2, q2⟩ := q2
  rw [e104] at e2 q2
  have r2 : M2 104 = A_district (M 104) k r := by rw [q2, mx_rw_at]
  have f2 : ∀ q, q ≠ 104 → q ≠ 116 → q ≠ 117 → M2 q = M1 q := fun q h _ _ => by rw [q2, mx_rw_ne h]
  refine ⟨e1.trans e2.symm, ?_⟩
  by_cases hc : f_in k 0 5 = 0 ∨ f_in r 0 9 = 0 ∨ M 104 1 = 6
  · rw [A_district, if_pos hc] at r1 r2
    exact SIM_now hS hV hB (fun _ _ => rfl) r1 f1 r2 f2
  · rw [A_district, if_neg hc] at r1 r2
    have hm6 := hV.1.1
    obtain ⟨kn, hk, rfl⟩ := f_in_nat (n := 5) (by decide) (fun q => hc (Or.inl q))
    obtain ⟨rn, hr, rfl⟩ := f_in_nat (n := 9) (by decide) (fun q => hc (Or.inr (Or.inl q)))
    have hm : mm < 6 := Nat.lt_of_le_of_ne hm6 (fun q => hc (Or.inr (Or.inr (by rw [hV.1.2.1, q]; rfl))))
    exact SIM_now hS (VP_come hV hm hk hr) (VB_come hB hV.1.2.1 hm) (fun j hj => come_keep hV.1.2.1 hm6 (by omega) (by omega)) r1 f1 r2 f2
theorem st_turns {l : Launch} {G : Gt} {d k : Int32} : Step l G dm_X7_turns dm_X8_turns [.int d, .int k] := by
  intro M hS
  obtain ⟨⟨mm, hV, hB, hR, hL⟩, hI, hT, ⟨hSh, hVS, hSl⟩, hWt, hSe, hZ, hK⟩ := id hS
  refine ⟨_, mx_runs_mono (c_X7_turns hV hR) (by decide), fun x M1 q1 => ?_⟩
  obtain ⟨e1, r1, f1⟩ := q1
  have e104 : M1 104 = M 104 := f1 104 (by decide)
  refine ⟨_, mx_runs_mono (c_X8_turns (m := mm) hV.1.1 (by rw [e104]; exact hV.1.2.1)) (by decide), fun y M2 q2 => ?_⟩
  obtain ⟨e2, q2⟩ := q2
  rw [e104] at e2 q2
  have r2 : M2 104 = A_turns (M 104) d k := by rw [q2, mx_rw_at]
  have f2 : ∀ q, q ≠ 104 → q ≠ 116 → q ≠ 117 → M2 q = M1 q := fun q h _ _ => by rw [q2, mx_rw_ne h]
  refine ⟨e1.trans e2.symm, ?_⟩
  by_cases hc : isD (M 104) d = 0 ∨ f_in k 0 5 = 0
  · rw [A_turns, if_pos hc] at r1 r2
    exact SIM_now hS hV hB (fun _ _ => rfl) r1 f1 r2 f2
  · rw [A_turns, if_neg hc] at r1 r2
    have hm6 := hV.1.1
    obtain ⟨dn, hdn, rfl⟩ := f_in_dist (by omega) hV.1.2.1 (show ¬ f_in d 0 (M 104 1 - 1) = 0 from fun q => hc (Or.inl q))
    have hcd : cN (nI dn) = dn := cN_nI (by omega)
    obtain ⟨kn, hk, rfl⟩ := f_in_nat (n := 5) (by decide) (fun q => hc (Or.inr q))
    rw [hcd] at r1 r2
    exact SIM_now hS (VP_kind hV hdn hk) (VB_of hB (up_ne (by omega)) (fun e _ => ⟨up_ne (by omega), up_ne (by omega)⟩)) (fun j hj => up_ne (by omega)) r1 f1 r2 f2
theorem st_set {l : Launch} {G : Gt} {d w v : Int32} : Step l G dm_X7_set dm_X8_set [.int d, .int w, .int v] := by
  intro M hS
  obtain ⟨⟨mm, hV, hB, hR, hL⟩, hI, hT, ⟨hSh, hVS, hSl⟩, hWt, hSe, hZ, hK⟩ := id hS
  refine ⟨_, mx_runs_mono (c_X7_set hV hR) (by decide), fun x M1 q1 => ?_⟩
  obtain ⟨e1, r1, f1⟩ := q1
  have e104 : M1 104 = M 104 := f1 104 (by decide)
  refine ⟨_, mx_runs_mono (c_X8_set (m := mm) hV.1.1 (by rw [e104]; exact hV.1.2.1)) (by decide), fun y M2 q2 => ?_⟩
  obtain ⟨e2, q2⟩ := q2
  rw [e104] at e2 q2
  have r2 : M2 104 = A_set (M 104) d w v := by rw [q2, mx_rw_at]
  have f2 : ∀ q, q ≠ 104 → q ≠ 116 → q ≠ 117 → M2 q = M1 q := fun q h _ _ => by rw [q2, mx_rw_ne h]
  refine ⟨e1.trans e2.symm, ?_⟩
  by_cases hc : isD (M 104) d = 0 ∨ f_in w 1 3 = 0 ∨ f_in v (f_setlo w) (f_sethi w) = 0
  · rw [A_set, if_pos hc] at r1 r2
    exact SIM_now hS hV hB (fun _ _ => rfl) r1 f1 r2 f2
  · rw [A_set, if_neg hc] at r1 r2
    have hm6 := hV.1.1
    obtain ⟨dn, hdn, rfl⟩ := f_in_dist (by omega) hV.1.2.1 (show ¬ f_in d 0 (M 104 1 - 1) = 0 from fun q => hc (Or.inl q))
    have hcd : cN (nI dn) = dn := cN_nI (by omega)
    rw [hcd] at r1 r2
    have hw : w = 1 ∨ w = 2 ∨ w = 3 := by
      apply Classical.byContradiction
      intro q
      simp only [not_or] at q
      exact hc (Or.inr (Or.inl (in13 q.1 q.2.1 q.2.2)))
    rcases hw with rfl | rfl | rfl
    · rw [if_neg (by decide)] at r1 r2
      obtain ⟨rn, hr, rfl⟩ := f_in_nat (n := 9) (b := 9) (by decide) (fun q => hc (Or.inr (Or.inr q)))
      exact SIM_now hS (VP_rate hV hr (by omega)) (VB_of hB (up_ne (by show (2 : Nat) ≠ 7 + 8 * dn + 1; omega)) (fun e _ => ⟨up_ne (by show 7 + 8 * e + 5 ≠ 7 + 8 * dn + 1; omega), up_ne (by show 7 + 8 * e + 6 ≠ 7 + 8 * dn + 1; omega)⟩)) (fun j hj => up_ne (by show j ≠ 7 + 8 * dn + 1; omega)) r1 f1 r2 f2
    · rw [if_pos rfl] at r1 r2
      obtain ⟨g1, g2⟩ := f_in_ne (fun q => hc (Or.inr (Or.inr q)))
      obtain ⟨L, hL60, rfl⟩ := nI_of2 (x := v) (M := 60) (n := 60) (by decide) (Int32.not_lt.mpr (Int32.le_trans (by decide) (show (2 : Int32) ≤ v from g1))) g2
      have hL2 : 2 ≤ L := (nI_leI (a := 2) (by decide) (by omega)).mp g1
      exact SIM_now hS (VP_long hV hdn hL2 hL60) (VB_of hB (by show up (up (M 104) (7 + 8 * dn + 4) 0) (7 + 8 * dn + 3) (nI L) 2 = _; rw [up_ne (by omega), up_ne (by omega)]) (fun e _ => ⟨by show up (up (M 104) (7 + 8 * dn + 4) 0) (7 + 8 * dn + 3) (nI L) _ = _; rw [up_ne (by omega), up_ne (by omega)], by show up (up (M 104) (7 + 8 * dn + 4) 0) (7 + 8 * dn + 3) (nI L) _ = _; rw [up_ne (by omega), up_ne (by omega)]⟩)) (fun j hj => by show up (up (M 104) (7 + 8 * dn + 4) 0) (7 + 8 * dn + 3) (nI L) _ = _; rw [up_ne (by omega), up_ne (by omega)]) r1 f1 r2 f2
    · rw [if_neg (by decide)] at r1 r2
      exact SIM_now hS (VP_purse hV hdn) (VB_of hB (up_ne (by show (2 : Nat) ≠ 7 + 8 * dn + 7; omega)) (fun e _ => ⟨up_ne (by show 7 + 8 * e + 5 ≠ 7 + 8 * dn + 7; omega), up_ne (by show 7 + 8 * e + 6 ≠ 7 + 8 * dn + 7; omega)⟩)) (fun j hj => up_ne (by show j ≠ 7 + 8 * dn + 7; omega)) r1 f1 r2 f2
theorem st_hide {l : Launch} {G : Gt} {d : Int32} : Step l G dm_X7_hide dm_X8_hide [.int d] := by
  intro M hS
  obtain ⟨⟨mm, hV, hB, hR, hL⟩, hI, hT, ⟨hSh, hVS, hSl⟩, hWt, hSe, hZ, hK⟩ := id hS
  refine ⟨_, mx_runs_mono (c_X7_hide hV hR hB) (by decide), fun x M1 q1 => ?_⟩
  obtain ⟨e1, r1, f1⟩ := q1
  have e104 : M1 104 = M 104 := f1 104 (by decide)
  refine ⟨_, mx_runs_mono (c_X8_hide (m := mm) hV.1.1 (by rw [e104]; exact hV.1.2.1)) (by decide), fun y M2 q2 => ?_⟩
  obtain ⟨e2, q2⟩ := q2
  rw [e104] at e2 q2
  have r2 : M2 104 = A_hide (M 104) d := by rw [q2, mx_rw_at]
  have f2 : ∀ q, q ≠ 104 → q ≠ 116 → q ≠ 117 → M2 q = M1 q := fun q h _ _ => by rw [q2, mx_rw_ne h]
  refine ⟨e1.trans e2.symm, ?_⟩
  by_cases hc : isD (M 104) d = 0 ∨ M 104 (7 + 8 * cN d + 5) = 0
  · rw [A_hide, if_pos hc] at r1 r2
    exact SIM_now hS hV hB (fun _ _ => rfl) r1 f1 r2 f2
  · rw [A_hide, if_neg hc] at r1 r2
    have hm6 := hV.1.1
    obtain ⟨dn, hdn, rfl⟩ := f_in_dist (by omega) hV.1.2.1 (show ¬ f_in d 0 (M 104 1 - 1) = 0 from fun q => hc (Or.inl q))
    have hcd : cN (nI dn) = dn := cN_nI (by omega)
    rw [hcd] at r1 r2 hc
    exact SIM_now hS (VP_hides hV (by omega)) (VB_hides (by decide) hB hm6 hdn (fun q => hc (Or.inr q))) (fun j hj => by unfold A_hides; rw [up_ne (by omega), up_ne (by omega)]) r1 f1 r2 f2
theorem st_rule {l : Launch} {G : Gt} {w v : Int32} : Step l G dm_X7_rule dm_X8_rule [.int w, .int v] := by
  intro M hS
  obtain ⟨⟨mm, hV, hB, hR, hL⟩, hI, hT, ⟨hSh, hVS, hSl⟩, hWt, hSe, hZ, hK⟩ := id hS
  refine ⟨_, mx_runs_mono (c_X7_rule hV hR) (by decide), fun x M1 q1 => ?_⟩
  obtain ⟨e1, r1, f1⟩ := q1
  have e104 : M1 104 = M 104 := f1 104 (by decide)
  refine ⟨_, mx_runs_mono (c_X8_rule ) (by decide), fun y M2 q2 => ?_⟩
  obtain ⟨e2, q2⟩ := q2
  rw [e104] at e2 q2
  have r2 : M2 104 = A_rule (M 104) w v := by rw [q2, mx_rw_at]
  have f2 : ∀ q, q ≠ 104 → q ≠ 116 → q ≠ 117 → M2 q = M1 q := fun q h _ _ => by rw [q2, mx_rw_ne h]
  refine ⟨e1.trans e2.symm, ?_⟩
  by_cases hc : f_in w 0 2 = 0 ∨ f_in v 0 (f_rulehi w) = 0
  · rw [A_rule, if_pos hc] at r1 r2
    exact SIM_now hS hV hB (fun _ _ => rfl) r1 f1 r2 f2
  · rw [A_rule, if_neg hc] at r1 r2
    obtain ⟨wn, hwn, rfl⟩ := f_in_nat (n := 2) (by decide) (fun q => hc (Or.inl q))
    rw [cN_nI (by omega)] at r1 r2
    exact SIM_now hS (VP_glob hV (fun j hj => up_ne (by omega))) (VB_of hB (up_ne (by omega)) (fun e _ => ⟨up_ne (by omega), up_ne (by omega)⟩)) (fun j hj => up_ne (by omega)) r1 f1 r2 f2
theorem st_seed {l : Launch} {G : Gt} {v : Int32} : Step l G dm_X7_seed dm_X8_seed [.int v] := by
  intro M hS
  obtain ⟨⟨mm, hV, hB, hR, hL⟩, hI, hT, ⟨hSh, hVS, hSl⟩, hWt, hSe, hZ, hK⟩ := id hS
  refine ⟨_, mx_runs_mono (c_X7_seed hV hR) (by decide), fun x M1 q1 => ?_⟩
  obtain ⟨e1, r1, f1⟩ := q1
  have e104 : M1 104 = M 104 := f1 104 (by decide)
  refine ⟨_, mx_runs_mono (c_X8_seed ) (by decide), fun y M2 q2 => ?_⟩
  obtain ⟨e2, q2⟩ := q2
  rw [e104] at e2 q2
  have r2 : M2 104 = up (M 104) 0 v := by rw [q2, mx_rw_at]
  have f2 : ∀ q, q ≠ 104 → q ≠ 116 → q ≠ 117 → M2 q = M1 q := fun q h _ _ => by rw [q2, mx_rw_ne h]
  refine ⟨e1.trans e2.symm, ?_⟩
  exact SIM_now hS (VP_glob hV (fun j hj => up_ne (by omega))) (VB_of hB (up_ne (by decide)) (fun e _ => ⟨up_ne (by omega), up_ne (by omega)⟩)) (fun j hj => up_ne (by omega)) r1 f1 r2 f2
theorem st_deal {l : Launch} {G : Gt} {n : Int32} : Step l G dm_X7_deal dm_X8_deal [.int n] := by
  intro M hS
  obtain ⟨⟨mm, hV, hB, hR, hL⟩, hI, hT, ⟨hSh, hVS, hSl⟩, hWt, hSe, hZ, hK⟩ := id hS
  refine ⟨_, mx_runs_mono (c_X7_deal hV hR) (by decide), fun x M1 q1 => ?_⟩
  obtain ⟨e1, r1, f1⟩ := q1
  have e104 : M1 104 = M 104 := f1 104 (by decide)
  refine ⟨_, mx_runs_mono (c_X8_deal (m := mm) hV.1.1 (by rw [e104]; exact hV.1.2.1)) (by decide), fun y M2 q2 => ?_⟩
  obtain ⟨e2, q2⟩ := q2
  rw [e104] at e2 q2
  have r2 : M2 104 = A_deal (M 104) n := by rw [q2, mx_rw_at]
  have f2 : ∀ q, q ≠ 104 → q ≠ 116 → q ≠ 117 → M2 q = M1 q := fun q h _ _ => by rw [q2, mx_rw_ne h]
  refine ⟨e1.trans e2.symm, ?_⟩
  have hm6 := hV.1.1
  by_cases hc : f_in n 1 6 = 0
  · rw [A_deal, if_pos hc] at r1 r2
    exact SIM_now hS hV hB (fun _ _ => rfl) r1 f1 r2 f2
  · rw [A_deal, if_neg hc] at r1 r2
    have hle : mm + f_deal (M 104) n ≤ 6 := by
      unfold f_deal
      rw [hV.1.2.1, cN_nI (by omega)]
      omega
    obtain ⟨g1, g2⟩ := good_dl hV hB (f_deal (M 104) n) hle
    exact SIM_now hS g1 g2 (fun j hj => dl_keep hV.1.2.1 hj _ hle) r1 f1 r2 f2
theorem st_days {l : Launch} {G : Gt} {n : Int32} : Step l G dm_X7_days dm_X8_days [.int n] := by
  intro M hS
  obtain ⟨⟨mm, hV, hB, hR, hL⟩, hI, hT, ⟨hSh, hVS, hSl⟩, hWt, hSe, hZ, hK⟩ := id hS
  refine ⟨_, mx_runs_mono (c_X7_days hV hR hL hB) (by decide), fun x M1 q1 => ?_⟩
  obtain ⟨e1, r1, f1⟩ := q1
  have e104 : M1 104 = M 104 := f1 104 (by decide)
  refine ⟨_, mx_runs_mono (c_X8_days (mm := mm) (by rw [e104]; exact hV.1)) (by decide), fun y M2 q2 => ?_⟩
  obtain ⟨e2, r2, f2⟩ := q2
  rw [e104] at e2 r2
  refine ⟨e1.trans e2.symm, ?_⟩
  by_cases hc : f_in n 1 300 = 0
  · rw [A_days, if_pos hc] at r1 r2
    exact SIM_now hS hV hB (fun _ _ => rfl) r1 f1 r2 f2
  · rw [A_days, if_neg hc] at r1 r2
    obtain ⟨nn, hnn, rfl⟩ := f_in_1 (n := 300) (by decide) hc
    obtain ⟨dy, hdy, hd2, hBd⟩ := VB_self hB
    have ef := (days_min (n := nn) hd2 hdy (by omega)).2
    exact SIM_now hS (VP_go hV _) (VB_top (by rw [ef]; omega) (VB_go hV hd2 hdy hBd (f_days (M 104) (nI nn)) (by rw [ef]; omega))) (fun j hj => by rcases hj with rfl | hj; exact A_go_g hV.1 (by decide) (by decide) (by decide) _; exact A_go_keep hV.1 hj _) r1 f1 r2 f2
