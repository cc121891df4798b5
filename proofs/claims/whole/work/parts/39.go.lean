/-! the model's go -/
theorem mx_wr_row (M : Mm) (r : Rw) (i : Nat) (v : Int32) : mx_wr (mx_rw M 103 r) 103 i v = mx_rw M 103 (up r i v) := by
  rw [mx_wr_up, mx_rw_rw, mx_rw_at]
theorem up_up (r : Rw) (i : Nat) (v w : Int32) : up (up r i v) i w = up r i w := by
  funext j
  simp only [up]
  grind
/-- the rows that go leaves -/
theorem go_row {tp r : Rw} {n s q : Nat} {T V E : Int32} (hq : q = t_q tp n s) (hT : T = t_t tp n s (r 13)) (hV : V = t_v tp n s (r 12)) (hE : E = t_e tp n s (r 13)) : up (up (up (up (up (up r 9 (nI s)) 10 (nI s)) 9 (nI q)) 11 T) 12 V) 13 E = G_go tp n r s := by
  subst hq
  subst hT
  subst hV
  subst hE
  funext j
  simp only [G_go, up]
  grind
theorem c_X8_go {l : Launch} {G : Gt} {M : Mm} {n p : Nat} (hn : n ≤ 96) (hp : p ≤ n) (h8 : M 103 8 = nI n) (h9 : M 103 9 = nI p) : Runs l G true dm_X8_go 1 127 [.ref 103] M 127 (Pv (fun M1 => M1 = mx_rw M 103 (G_go (M 110) n (M 103) (t_s (M 110) n p)))) := by
  refine mx_run ow_X8_go rfl rfl (fun dp X hdp R => ?_)
  have h8b : M 103 8 = nI n := h8
  obtain ⟨s, hs⟩ : ∃ s, t_s (M 110) n p = s := ⟨_, rfl⟩
  have hsn0 : s ≤ n := by
    have := whl_ge (isB (M 110) n) (n - p) p
    rw [← hs, t_s]
    omega
  have h62 : ∀ c, (¬ c = 0 → nI s = M 103 13) → (c = 0 → ¬ nI s = M 103 13) → X 127 (mx_rw M 103 (up (up (M 103) 9 (nI s)) 10 (nI s))) 62 [some (.ref 103), none] [.int c] := by
    intro c hc1 hc0
    have h117 : s < n → isL (M 110) n s = true → ∀ q, whl (isL (M 110) n) (n - s) s = q → X 127 (mx_rw M 103 (up (up (up (M 103) 9 (nI s)) 10 (nI s)) 9 (nI q))) 117 [some (.ref 103), some (.int c)] [] := by
      intro hsn hL q hq
      have hq2 : q = t_q (M 110) n s := by rw [t_q, if_neg (by omega), if_pos hL, hq]
      have eG : ∀ T V E, T = t_t (M 110) n s (M 103 13) → V = t_v (M 110) n s (M 103 12) → E = t_e (M 110) n s (M 103 13) → mx_wr (mx_wr (mx_wr (mx_rw M 103 (up (up (up (M 103) 9 (nI s)) 10 (nI s)) 9 (nI q))) 103 11 T) 103 12 V) 103 13 E = mx_rw M 103 (G_go (M 110) n (M 103) s) := fun T V E h1 h2 h3 => by rw [mx_wr_row, mx_wr_row, mx_wr_row, go_row hq2 h1 h2 h3]
      refine R.b bk_X8_go_117 ?_
      refine R.c br_X8_go_119 (And.intro (fun h119 => ?_) (fun h119 => ?_))
      · refine R.b bk_X8_go_126 ?_
        refine R.b bk_X8_go_127 (And.intro (by first | rfl | assumption) (And.intro rfl (And.intro rfl (And.intro (by first | rfl | assumption) (And.intro (by first | rfl | assumption) (And.intro (by first | rfl | assumption) (And.intro (by exact vp_in_nI (show s < 96 by omega) (by decide)) (And.intro (by first | rfl | assumption) (And.intro rfl (And.intro rfl (And.intro (by first | rfl | assumption) (And.intro (by first | rfl | assumption) (And.intro rfl (And.intro rfl ?_))))))))))))))
        refine R.j gt_X8_go_151 ?_
        refine R.rv rt_X8_go_303 ⟨rfl, ?_⟩
        rw [hs]
        refine eG _ _ _ ?_ ?_ ?_
        · rw [t_t, if_neg (by omega), if_pos hL]
          first | exact (if_pos (hc1 h119)).symm | exact (if_neg (hc0 h119)).symm
        · rw [t_v, if_neg (by omega), if_pos hL]
          exact congrArg (M 110) (nI_clamp (show s < 2 ^ 31 by omega))
        · rw [t_e, if_neg (by omega), if_pos (Or.inl hL), ← hq2]
          rfl
      · refine R.b bk_X8_go_122 ?_
        refine R.j gt_X8_go_123 ?_
        refine R.b bk_X8_go_127 (And.intro (by first | rfl | assumption) (And.intro rfl (And.intro rfl (And.intro (by first | rfl | assumption) (And.intro (by first | rfl | assumption) (And.intro (by first | rfl | assumption) (And.intro (by exact vp_in_nI (show s < 96 by omega) (by decide)) (And.intro (by first | rfl | assumption) (And.intro rfl (And.intro rfl (And.intro (by first | rfl | assumption) (And.intro (by first | rfl | assumption) (And.intro rfl (And.intro rfl ?_))))))))))))))
        refine R.j gt_X8_go_151 ?_
        refine R.rv rt_X8_go_303 ⟨rfl, ?_⟩
        rw [hs]
        refine eG _ _ _ ?_ ?_ ?_
        · rw [t_t, if_neg (by omega), if_pos hL]
          first | exact (if_pos (hc1 h119)).symm | exact (if_neg (hc0 h119)).symm
        · rw [t_v, if_neg (by omega), if_pos hL]
          exact congrArg (M 110) (nI_clamp (show s < 2 ^ 31 by omega))
        · rw [t_e, if_neg (by omega), if_pos (Or.inl hL), ← hq2]
          rfl
    have h93 : s < n → isL (M 110) n s = true → ∀ fu i, n - i = fu → s ≤ i → i ≤ n → whl (isL (M 110) n) (n - i) i = whl (isL (M 110) n) (n - s) s → X 127 (mx_rw M 103 (up (up (up (M 103) 9 (nI s)) 10 (nI s)) 9 (nI i))) 93 [some (.ref 103), some (.int c)] [] := by
      intro hsn hL fu
      induction fu with
      | zero =>
        intro i hfu hsi hin hq
        refine R.b bk_X8_go_93 (And.intro (by first | rfl | assumption) ?_)
        refine R.V1i kc_X8_go_98 (by first | rfl | assumption) (c_X8_isLetter (n := n) (k := i) hn (by omega) h8) (by omega) rfl ⟨Nat.le_refl _, Nat.le_refl _⟩ (fun x98 M98 q98 => ?_)
        obtain ⟨e98, q98⟩ := q98
        replace e98 : x98 = bI (isL (M 110) n (i)) := e98
        replace q98 := q98.symm
        subst q98
        rw [e98]
        refine R.c br_X8_go_101 (And.intro (fun h101 => ?_) (fun h101 => absurd (by rw [isL_end (by omega)]; rfl) h101))
        exact h117 hsn hL i (by rw [← hq, whl_zero (isL_end (by omega))])
      | succ fu ih =>
        intro i hfu hsi hin hq
        refine R.b bk_X8_go_93 (And.intro (by first | rfl | assumption) ?_)
        refine R.V1i kc_X8_go_98 (by first | rfl | assumption) (c_X8_isLetter (n := n) (k := i) hn (by omega) h8) (by omega) rfl ⟨Nat.le_refl _, Nat.le_refl _⟩ (fun x98 M98 q98 => ?_)
        obtain ⟨e98, q98⟩ := q98
        replace e98 : x98 = bI (isL (M 110) n (i)) := e98
        replace q98 := q98.symm
        subst q98
        rw [e98]
        refine R.c br_X8_go_101 (And.intro (fun h101 => ?_) (fun h101 => ?_))
        · exact h117 hsn hL i (by rw [← hq, whl_zero (bI_0 h101)])
        · refine R.b bk_X8_go_104 (And.intro (by first | rfl | assumption) (And.intro (by first | rfl | assumption) (And.intro rfl (And.intro rfl ?_))))
          refine R.j gt_X8_go_114 ?_
          have hx := ih (i + 1) (by omega) (by omega) (by omega) (by rw [← hq, whl_succ (by omega) (bI_1 h101)])
          have e : mx_wr (mx_rw M 103 (up (up (up (M 103) 9 (nI s)) 10 (nI s)) 9 (nI i))) 103 9 ((mx_rw M 103 (up (up (up (M 103) 9 (nI s)) 10 (nI s)) 9 (nI i))) 103 9 + 1) = (mx_rw M 103 (up (up (up (M 103) 9 (nI s)) 10 (nI s)) 9 (nI (i + 1)))) := by
            rw [mx_wr_row, mx_rw_at, up_at, nI_1, up_up]
          rw [← e] at hx
          exact hx
    have h238 : s < n → isL (M 110) n s = false → isF (M 110) n s = true → ∀ q, s ≤ q → q ≤ n → whl (isF (M 110) n) (n - s) s = q → X 127 (mx_rw M 103 (up (up (up (up (M 103) 9 (nI s)) 10 (nI s)) 12 (vN (M 110) s (q - s))) 9 (nI (q)))) 238 [some (.ref 103), some (.int c)] [] := by
      intro hsn hL hF q hsq hqn hq
      have hL2 : ¬ isL (M 110) n s = true := by rw [hL]; decide
      have hq2 : q = t_q (M 110) n s := by rw [t_q, if_neg (by omega), if_neg hL2, if_pos hF, hq]
      have es : nI q - nI s = nI (q - s) := pk_sub hsq
      have eG : ∀ T E, T = t_t (M 110) n s (M 103 13) → E = t_e (M 110) n s (M 103 13) → mx_wr (mx_wr (mx_rw M 103 (up (up (up (up (M 103) 9 (nI s)) 10 (nI s)) 12 (vN (M 110) s (q - s))) 9 (nI (q)))) 103 11 T) 103 13 E = mx_rw M 103 (G_go (M 110) n (M 103) s) := fun T E h1 h3 => by
        rw [mx_wr_row, mx_wr_row, ← go_row hq2 h1 (V := vN (M 110) s (q - s)) (by rw [t_v, if_neg (by omega), if_neg hL2, if_pos hF, ← hq2]) h3]
        congr 1
        funext j
        simp only [up]
        grind
      refine R.b bk_X8_go_238 ?_
      refine R.c br_X8_go_240 (And.intro (fun h240 => ?_) (fun h240 => ?_))
      · refine R.b bk_X8_go_256 ?_
        refine R.j gt_X8_go_257 ?_
        refine R.b bk_X8_go_261 (And.intro (by first | rfl | assumption) (And.intro rfl (And.intro rfl (And.intro (by first | rfl | assumption) (And.intro (by first | rfl | assumption) (And.intro rfl (And.intro rfl ?_)))))))
        refine R.j gt_X8_go_272 ?_
        refine R.rv rt_X8_go_303 ⟨rfl, ?_⟩
        rw [hs]
        refine eG _ _ ?_ ?_
        · rw [t_t, if_neg (by omega), if_neg hL2, if_pos hF, ← hq2]
          first
          | (have h253b : ¬ nI q - nI s ≤ 4 := h253
             rw [es, show (4 : Int32) = nI 4 from rfl, nI_leI (by omega) (by decide)] at h253b
             exact (if_pos (Or.inr (by omega))).symm)
          | (have h253b : nI q - nI s ≤ 4 := h253
             rw [es, show (4 : Int32) = nI 4 from rfl, nI_leI (by omega) (by decide)] at h253b
             exact (if_neg (not_or.mpr ⟨hc0 h240, by omega⟩)).symm)
          | exact (if_pos (Or.inl (hc1 h240))).symm
        · rw [t_e, if_neg (by omega), if_pos (Or.inr hF), ← hq2]
          rfl
      · refine R.b bk_X8_go_243 (And.intro (by first | rfl | assumption) (And.intro (by first | rfl | assumption) ?_))
        refine R.c br_X8_go_253 (And.intro (fun h253 => ?_) (fun h253 => ?_))
        · refine R.b bk_X8_go_260 ?_
          refine R.b bk_X8_go_261 (And.intro (by first | rfl | assumption) (And.intro rfl (And.intro rfl (And.intro (by first | rfl | assumption) (And.intro (by first | rfl | assumption) (And.intro rfl (And.intro rfl ?_)))))))
          refine R.j gt_X8_go_272 ?_
          refine R.rv rt_X8_go_303 ⟨rfl, ?_⟩
          rw [hs]
          refine eG _ _ ?_ ?_
          · rw [t_t, if_neg (by omega), if_neg hL2, if_pos hF, ← hq2]
            first
            | (have h253b : ¬ nI q - nI s ≤ 4 := h253
               rw [es, show (4 : Int32) = nI 4 from rfl, nI_leI (by omega) (by decide)] at h253b
               exact (if_pos (Or.inr (by omega))).symm)
            | (have h253b : nI q - nI s ≤ 4 := h253
               rw [es, show (4 : Int32) = nI 4 from rfl, nI_leI (by omega) (by decide)] at h253b
               exact (if_neg (not_or.mpr ⟨hc0 h240, by omega⟩)).symm)
            | exact (if_pos (Or.inl (hc1 h240))).symm
          · rw [t_e, if_neg (by omega), if_pos (Or.inr hF), ← hq2]
            rfl
        · refine R.b bk_X8_go_256 ?_
          refine R.j gt_X8_go_257 ?_
          refine R.b bk_X8_go_261 (And.intro (by first | rfl | assumption) (And.intro rfl (And.intro rfl (And.intro (by first | rfl | assumption) (And.intro (by first | rfl | assumption) (And.intro rfl (And.intro rfl ?_)))))))
          refine R.j gt_X8_go_272 ?_
          refine R.rv rt_X8_go_303 ⟨rfl, ?_⟩
          rw [hs]
          refine eG _ _ ?_ ?_
          · rw [t_t, if_neg (by omega), if_neg hL2, if_pos hF, ← hq2]
            first
            | (have h253b : ¬ nI q - nI s ≤ 4 := h253
               rw [es, show (4 : Int32) = nI 4 from rfl, nI_leI (by omega) (by decide)] at h253b
               exact (if_pos (Or.inr (by omega))).symm)
            | (have h253b : nI q - nI s ≤ 4 := h253
               rw [es, show (4 : Int32) = nI 4 from rfl, nI_leI (by omega) (by decide)] at h253b
               exact (if_neg (not_or.mpr ⟨hc0 h240, by omega⟩)).symm)
            | exact (if_pos (Or.inl (hc1 h240))).symm
          · rw [t_e, if_neg (by omega), if_pos (Or.inr hF), ← hq2]
            rfl
    have h170 : s < n → isL (M 110) n s = false → isF (M 110) n s = true → ∀ fu i, n - i = fu → s ≤ i → i ≤ n → whl (isF (M 110) n) (n - i) i = whl (isF (M 110) n) (n - s) s → X 127 (mx_rw M 103 (up (up (up (up (M 103) 9 (nI s)) 10 (nI s)) 12 (vN (M 110) s (i - s))) 9 (nI (i)))) 170 [some (.ref 103), some (.int c)] [] := by
      intro hsn hL hF fu
      induction fu with
      | zero =>
        intro i hfu hsi hin hq
        refine R.b bk_X8_go_170 (And.intro (by first | rfl | assumption) ?_)
        refine R.V1i kc_X8_go_175 (by first | rfl | assumption) (c_X8_isFigure (n := n) (k := i) hn (by omega) h8) (by omega) rfl ⟨Nat.le_refl _, Nat.le_refl _⟩ (fun x175 M175 q175 => ?_)
        obtain ⟨e175, q175⟩ := q175
        replace e175 : x175 = bI (isF (M 110) n (i)) := e175
        replace q175 := q175.symm
        subst q175
        rw [e175]
        refine R.c br_X8_go_178 (And.intro (fun h178 => ?_) (fun h178 => absurd (by rw [isF_end (by omega)]; rfl) h178))
        exact h238 hsn hL hF i hsi hin (by rw [← hq, whl_zero (isF_end (by omega))])
      | succ fu ih =>
        intro i hfu hsi hin hq
        have eV : ∀ V, V = vN (M 110) s (i + 1 - s) → mx_wr (mx_wr (mx_rw M 103 (up (up (up (up (M 103) 9 (nI s)) 10 (nI s)) 12 (vN (M 110) s (i - s))) 9 (nI (i)))) 103 12 V) 103 9 (mx_wr (mx_rw M 103 (up (up (up (up (M 103) 9 (nI s)) 10 (nI s)) 12 (vN (M 110) s (i - s))) 9 (nI (i)))) 103 12 V 103 9 + 1) = (mx_rw M 103 (up (up (up (up (M 103) 9 (nI s)) 10 (nI s)) 12 (vN (M 110) s (i + 1 - s))) 9 (nI (i + 1)))) := by
          intro V hV
          rw [mx_wr_row, mx_wr_row, mx_rw_at, up_ne (by decide), up_at, nI_1, hV]
          congr 1
          funext j
          simp only [up]
          grind
        refine R.b bk_X8_go_170 (And.intro (by first | rfl | assumption) ?_)
        refine R.V1i kc_X8_go_175 (by first | rfl | assumption) (c_X8_isFigure (n := n) (k := i) hn (by omega) h8) (by omega) rfl ⟨Nat.le_refl _, Nat.le_refl _⟩ (fun x175 M175 q175 => ?_)
        obtain ⟨e175, q175⟩ := q175
        replace e175 : x175 = bI (isF (M 110) n (i)) := e175
        replace q175 := q175.symm
        subst q175
        rw [e175]
        refine R.c br_X8_go_178 (And.intro (fun h178 => ?_) (fun h178 => ?_))
        · exact h238 hsn hL hF i hsi hin (by rw [← hq, whl_zero (bI_0 h178)])
        · refine R.b bk_X8_go_181 (And.intro (by first | rfl | assumption) (And.intro (by first | rfl | assumption) ?_))
          refine R.c br_X8_go_192 (And.intro (fun h192 => ?_) (fun h192 => ?_))
          · refine R.b bk_X8_go_218 (And.intro (by first | rfl | assumption) ?_)
            refine R.b bk_X8_go_222 (And.intro (by first | rfl | assumption) (And.intro rfl (And.intro rfl (And.intro (by first | rfl | assumption) (And.intro (by first | rfl | assumption) (And.intro rfl (And.intro rfl ?_)))))))
            refine R.j gt_X8_go_235 ?_
            have hx := ih (i + 1) (by omega) (by omega) (by omega) (by rw [← hq, whl_succ (by omega) (bI_1 h178)])
            have es : nI i - nI s = nI (i - s) := pk_sub hsi
            first
            | (have h192b : (4 : Int32) ≤ nI i - nI s := h192
               rw [es, show (4 : Int32) = nI 4 from rfl, nI_leI (by decide) (by omega)] at h192b
               rw [← eV (vN (M 110) s (i - s)) (by rw [show i + 1 - s = (i - s) + 1 by omega, vN, if_neg (by omega)])] at hx
               exact hx)
            | (have h192b : ¬ (4 : Int32) ≤ nI i - nI s := h192
               rw [es, show (4 : Int32) = nI 4 from rfl, nI_leI (by decide) (by omega)] at h192b
               rw [← eV (10 * vN (M 110) s (i - s) + M 110 (nI i).toNatClampNeg - 48) (by rw [nI_clamp (show i < 2 ^ 31 by omega), show i + 1 - s = (i - s) + 1 by omega, vN, if_pos (by omega), show s + (i - s) = i by omega])] at hx
               exact hx)
          · refine R.b bk_X8_go_195 (And.intro (by first | rfl | assumption) (And.intro (by first | rfl | assumption) (And.intro (by first | rfl | assumption) (And.intro (by first | rfl | assumption) (And.intro (by exact vp_in_nI (show i < 96 by omega) (by decide)) ?_)))))
            refine R.j gt_X8_go_215 ?_
            refine R.b bk_X8_go_222 (And.intro (by first | rfl | assumption) (And.intro rfl (And.intro rfl (And.intro (by first | rfl | assumption) (And.intro (by first | rfl | assumption) (And.intro rfl (And.intro rfl ?_)))))))
            refine R.j gt_X8_go_235 ?_
            have hx := ih (i + 1) (by omega) (by omega) (by omega) (by rw [← hq, whl_succ (by omega) (bI_1 h178)])
            have es : nI i - nI s = nI (i - s) := pk_sub hsi
            first
            | (have h192b : (4 : Int32) ≤ nI i - nI s := h192
               rw [es, show (4 : Int32) = nI 4 from rfl, nI_leI (by decide) (by omega)] at h192b
               rw [← eV (vN (M 110) s (i - s)) (by rw [show i + 1 - s = (i - s) + 1 by omega, vN, if_neg (by omega)])] at hx
               exact hx)
            | (have h192b : ¬ (4 : Int32) ≤ nI i - nI s := h192
               rw [es, show (4 : Int32) = nI 4 from rfl, nI_leI (by decide) (by omega)] at h192b
               rw [← eV (10 * vN (M 110) s (i - s) + M 110 (nI i).toNatClampNeg - 48) (by rw [nI_clamp (show i < 2 ^ 31 by omega), show i + 1 - s = (i - s) + 1 by omega, vN, if_pos (by omega), show s + (i - s) = i by omega])] at hx
               exact hx)
    refine R.b bk_X8_go_62 (And.intro (by first | rfl | assumption) (And.intro (by first | rfl | assumption) ?_))
    refine R.c br_X8_go_71 (And.intro (fun h71 => ?_) (fun h71 => ?_))
    · have hsn : s < n := Nat.lt_of_le_of_ne hsn0 (fun q => h71 (show nI s = M 103 8 by rw [h8b, q]))
      refine R.b bk_X8_go_82 (And.intro (by first | rfl | assumption) ?_)
      refine R.V1i kc_X8_go_87 (by first | rfl | assumption) (c_X8_isLetter (n := n) (k := s) hn (by omega) h8) (by omega) rfl ⟨Nat.le_refl _, Nat.le_refl _⟩ (fun x87 M87 q87 => ?_)
      obtain ⟨e87, q87⟩ := q87
      replace e87 : x87 = bI (isL (M 110) n (s)) := e87
      replace q87 := q87.symm
      subst q87
      rw [e87]
      refine R.c br_X8_go_90 (And.intro (fun h90 => ?_) (fun h90 => ?_))
      · refine R.b bk_X8_go_154 (And.intro (by first | rfl | assumption) ?_)
        refine R.V1i kc_X8_go_159 (by first | rfl | assumption) (c_X8_isFigure (n := n) (k := s) hn (by omega) h8) (by omega) rfl ⟨Nat.le_refl _, Nat.le_refl _⟩ (fun x159 M159 q159 => ?_)
        obtain ⟨e159, q159⟩ := q159
        replace e159 : x159 = bI (isF (M 110) n (s)) := e159
        replace q159 := q159.symm
        subst q159
        rw [e159]
        refine R.c br_X8_go_162 (And.intro (fun h162 => ?_) (fun h162 => ?_))
        · refine R.b bk_X8_go_275 (And.intro (by first | rfl | assumption) (And.intro rfl (And.intro rfl (And.intro (by first | rfl | assumption) (And.intro (by first | rfl | assumption) (And.intro (by first | rfl | assumption) (And.intro (vp_in_nI (show s < 96 by omega) (by decide)) (And.intro (by first | rfl | assumption) (And.intro rfl (And.intro rfl (And.intro (by first | rfl | assumption) (And.intro (by first | rfl | assumption) (And.intro rfl (And.intro rfl ?_))))))))))))))
          refine R.rv rt_X8_go_303 ⟨rfl, ?_⟩
          rw [hs]
          first
          | (have hse : s = n := (nI_eq (by omega) (by omega)).mp (h71.trans h8b)
             refine (mx_wr_row M (up (up (M 103) 9 (nI s)) 10 (nI s)) 11 0).trans ?_
             congr 1
             funext j
             simp only [G_go, t_q, t_t, t_v, t_e, if_pos hse, up]
             grind)
          | (have hL2 : ¬ isL (M 110) n s = true := by rw [bI_0 h90]; decide
             have hF2 : ¬ isF (M 110) n s = true := by rw [bI_0 h162]; decide
             have hv : M 110 (nI s).toNatClampNeg = M 110 s := by rw [nI_clamp (show s < 2 ^ 31 by omega)]
             have eS : mx_wr (mx_wr (mx_wr (mx_rw M 103 (up (up (M 103) 9 (nI s)) 10 (nI s))) 103 11 3) 103 12 (M 110 (nI s).toNatClampNeg)) 103 9 (nI s + 1) = mx_rw M 103 (G_go (M 110) n (M 103) s) := by
               rw [mx_wr_row, mx_wr_row, mx_wr_row, hv, nI_1]
               congr 1
               funext j
               simp only [G_go, t_q, t_t, t_v, t_e, if_neg (show ¬ s = n by omega), if_neg hL2, if_neg hF2, if_neg (not_or.mpr ⟨hL2, hF2⟩), up]
               grind
             exact eS)
        · refine R.b bk_X8_go_165 (And.intro (by first | rfl | assumption) (And.intro rfl (And.intro rfl ?_)))
          have hx := h170 hsn (bI_0 h90) (bI_1 h162) (n - s) s rfl (Nat.le_refl _) (by omega) rfl
          rw [show (up (up (up (up (M 103) 9 (nI s)) 10 (nI s)) 12 (vN (M 110) s (s - s))) 9 (nI (s))) = up (up (up (M 103) 9 (nI s)) 10 (nI s)) 12 0 by rw [Nat.sub_self, vN]; funext j; simp only [up]; grind, ← mx_wr_row] at hx
          exact hx
      · have hx := h93 hsn (bI_1 h90) (n - s) s rfl (Nat.le_refl _) (by omega) rfl
        rw [show up (up (up (M 103) 9 (nI s)) 10 (nI s)) 9 (nI s) = (up (up (M 103) 9 (nI s)) 10 (nI s)) by funext j; simp only [up]; grind] at hx
        exact hx
    · refine R.b bk_X8_go_74 (And.intro (by first | rfl | assumption) (And.intro rfl (And.intro rfl ?_)))
      refine R.j gt_X8_go_79 ?_
      refine R.rv rt_X8_go_303 ⟨rfl, ?_⟩
      rw [hs]
      first
      | (have hse : s = n := (nI_eq (by omega) (by omega)).mp (h71.trans h8b)
         refine (mx_wr_row M (up (up (M 103) 9 (nI s)) 10 (nI s)) 11 0).trans ?_
         congr 1
         funext j
         simp only [G_go, t_q, t_t, t_v, t_e, if_pos hse, up]
         grind)
      | (have hL2 : ¬ isL (M 110) n s = true := by rw [bI_0 h90]; decide
         have hF2 : ¬ isF (M 110) n s = true := by rw [bI_0 h162]; decide
         have hv : M 110 (nI s).toNatClampNeg = M 110 s := by rw [nI_clamp (show s < 2 ^ 31 by omega)]
         have eS : mx_wr (mx_wr (mx_wr (mx_rw M 103 (up (up (M 103) 9 (nI s)) 10 (nI s))) 103 11 3) 103 12 (M 110 (nI s).toNatClampNeg)) 103 9 (nI s + 1) = mx_rw M 103 (G_go (M 110) n (M 103) s) := by
           rw [mx_wr_row, mx_wr_row, mx_wr_row, hv, nI_1]
           congr 1
           funext j
           simp only [G_go, t_q, t_t, t_v, t_e, if_neg (show ¬ s = n by omega), if_neg hL2, if_neg hF2, if_neg (not_or.mpr ⟨hL2, hF2⟩), up]
           grind
         exact eS)
  have h38 : X 127 (mx_rw M 103 (up (M 103) 9 (nI s))) 38 [some (.ref 103), none] [] := by
    refine R.b bk_X8_go_38 (And.intro (by first | rfl | assumption) (And.intro (by first | rfl | assumption) (And.intro rfl (And.intro rfl (And.intro (by first | rfl | assumption) (And.intro (by first | rfl | assumption) ?_))))))
    refine R.c br_X8_go_54 (And.intro (fun h54 => ?_) (fun h54 => ?_))
    · refine R.b bk_X8_go_61 ?_
      have e : mx_wr (mx_rw M 103 (up (M 103) 9 (nI s))) 103 10 (nI s) = (mx_rw M 103 (up (up (M 103) 9 (nI s)) 10 (nI s))) := mx_wr_row _ _ _ _
      first
      | (have hx := h62 1 (fun _ => h54) (fun q => absurd q (by decide)); rw [← e] at hx; exact hx)
      | (have hx := h62 0 (fun q => absurd rfl q) (fun _ => h54); rw [← e] at hx; exact hx)
    · refine R.b bk_X8_go_57 ?_
      refine R.j gt_X8_go_58 ?_
      have e : mx_wr (mx_rw M 103 (up (M 103) 9 (nI s))) 103 10 (nI s) = (mx_rw M 103 (up (up (M 103) 9 (nI s)) 10 (nI s))) := mx_wr_row _ _ _ _
      first
      | (have hx := h62 1 (fun _ => h54) (fun q => absurd q (by decide)); rw [← e] at hx; exact hx)
      | (have hx := h62 0 (fun q => absurd rfl q) (fun _ => h54); rw [← e] at hx; exact hx)
  have hA : ∀ fu i, n - i = fu → i ≤ n → whl (isB (M 110) n) (n - i) i = s → X 127 (mx_rw M 103 (up (M 103) 9 (nI i))) 0 [some (.ref 103), none] [] := by
    intro fu
    induction fu with
    | zero =>
      intro i hfu hin hq
      have hiN : i = n := by omega
      have his : i = s := by rw [← hq, whl_zero (isB_end (by omega))]
      refine R.b bk_X8_go_0 (And.intro (by first | rfl | assumption) (And.intro (by first | rfl | assumption) ?_))
      refine R.c br_X8_go_8 (And.intro (fun h8 => ?_) (fun h8 => absurd (show M 103 8 ≤ nI i by rw [h8b, hiN]; exact nI_le (Nat.le_refl _) (by omega)) h8))
      rw [his]
      exact h38
    | succ fu ih =>
      intro i hfu hin hq
      have hcl : (nI i).toNatClampNeg = i := nI_clamp (by omega)
      refine R.b bk_X8_go_0 (And.intro (by first | rfl | assumption) (And.intro (by first | rfl | assumption) ?_))
      refine R.c br_X8_go_8 (And.intro (fun h8 => absurd (show M 103 8 ≤ nI i from h8) (by rw [h8b]; exact nI_ge (by omega) (by omega))) (fun h8 => ?_))
      refine R.b bk_X8_go_11 (And.intro (by first | rfl | assumption) (And.intro (by first | rfl | assumption) (And.intro (by first | rfl | assumption) (And.intro (by exact vp_in_nI (show i < 96 by omega) (by decide)) ?_))))
      refine R.c br_X8_go_22 (And.intro (fun h22 => ?_) (fun h22 => ?_))
      · have h22b : ¬ M 110 (nI i).toNatClampNeg = 32 := h22
        rw [hcl] at h22b
        have his : i = s := by rw [← hq, whl_zero (decide_eq_false (fun q => h22b q.2))]
        rw [his]
        exact h38
      · refine R.b bk_X8_go_25 (And.intro (by first | rfl | assumption) (And.intro (by first | rfl | assumption) (And.intro rfl (And.intro rfl ?_))))
        refine R.j gt_X8_go_35 ?_
        have h22b : M 110 (nI i).toNatClampNeg = 32 := h22
        rw [hcl] at h22b
        have hx := ih (i + 1) (by omega) (by omega) (by rw [← hq, whl_succ (p := i) (by omega) (decide_eq_true ⟨by omega, h22b⟩)])
        have e : mx_wr (mx_rw M 103 (up (M 103) 9 (nI i))) 103 9 (nI i + 1) = (mx_rw M 103 (up (M 103) 9 (nI (i + 1)))) := by
          rw [mx_wr_row, nI_1, up_up]
        rw [← e] at hx
        exact hx
  have hx := hA (n - p) p rfl hp hs
  rw [show up (M 103) 9 (nI p) = M 103 by funext j; simp only [up]; grind, mx_rw_id] at hx
  exact hx
