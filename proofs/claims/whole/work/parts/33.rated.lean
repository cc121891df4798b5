/-! how far the weeks to come are from those of a sheet -/
theorem lg_abs (v w : Int32) : (v.toInt64 - w.toInt64 < 0 → -(v.toInt64 - w.toInt64) = lN (v.toInt - w.toInt).natAbs) ∧ (¬ v.toInt64 - w.toInt64 < 0 → v.toInt64 - w.toInt64 = lN (v.toInt - w.toInt).natAbs) := by
  have b1 := Int32.toInt_lt v
  have b2 := Int32.le_toInt v
  have b3 := Int32.toInt_lt w
  have b4 := Int32.le_toInt w
  have e : (v.toInt64 - w.toInt64).toInt = v.toInt - w.toInt := by
    rw [Int64.toInt_sub, Int32.toInt_toInt64, Int32.toInt_toInt64]
    exact Int.bmod_eq_of_le_mul_two (by omega) (by omega)
  have e0 : (0 : Int64).toInt = 0 := by decide
  constructor
  · intro h
    rw [Int64.lt_iff_toInt_lt, e, e0] at h
    apply Int64.toInt_inj.mp
    rw [Int64.toInt_neg, e, pk_lT (by omega)]
    rw [Int.bmod_eq_of_le_mul_two (by omega) (by omega)]
    omega
  · intro h
    rw [Int64.lt_iff_toInt_lt, e, e0] at h
    apply Int64.toInt_inj.mp
    rw [e, pk_lT (by omega)]
    omega
def A_off (b c : Rw) (d : Nat) : Nat → Nat
  | 0 => 0
  | k + 1 => A_off b c d k + (if c k = (-1000000005) then 0 else ((c k).toInt - (A_go b (A_wd b d k) (7 + 8 * d + 3)).toInt).natAbs)
theorem i_dist (x y : Int32) : (x.toInt - y.toInt).natAbs ≤ 2 ^ 32 := by
  have b1 := Int32.toInt_lt x
  have b2 := Int32.le_toInt x
  have b3 := Int32.toInt_lt y
  have b4 := Int32.le_toInt y
  omega
theorem A_off_le (b c : Rw) (d B : Nat) (hB : ∀ x y : Int32, (x.toInt - y.toInt).natAbs ≤ B) : ∀ k, A_off b c d k ≤ k * B
  | 0 => Nat.zero_le _
  | k + 1 => by
    have h := A_off_le b c d B hB k
    rw [A_off, Nat.succ_mul k B]
    refine Nat.add_le_add h ?_
    split
    · exact Nat.zero_le _
    · exact hB _ _
theorem A_off_lt (b c : Rw) (d k : Nat) : A_off b c d k ≤ k * 2 ^ 32 := A_off_le b c d (2 ^ 32) i_dist k
theorem VP_rate {a : Rw} {mm d r : Nat} (h : VP a mm) (hr : r ≤ 9) (hd : d < 6) : VP (up a (7 + 8 * d + 1) (nI r)) mm := by
  obtain ⟨⟨h1, h2, h3, h4⟩, h5⟩ := h
  refine ⟨⟨h1, by rw [up_ne (by omega)]; exact h2, VT_congr (fun j hj => up_ne (by omega)) h3, fun e he => ?_⟩, fun e he => ?_⟩
  · by_cases hed : e = d
    · subst hed
      exact ⟨r, hr, by rw [up_at]⟩
    · obtain ⟨rt, g1, g2⟩ := h4 e he
      exact ⟨rt, g1, by rw [up_ne (by omega)]; exact g2⟩
  · obtain ⟨k, L, p, g1, g2, g3, g4, g5⟩ := h5 e he
    exact ⟨k, L, p, g1, by rw [up_ne (by omega)]; exact g2, by rw [up_ne (by omega)]; exact g3, by rw [up_ne (by omega)]; exact g4, g5⟩
theorem VPd_left {a : Rw} {d : Nat} (h : VPd a d) : ∃ L p, a (7 + 8 * d + 3) = nI L ∧ a (7 + 8 * d + 4) = nI p ∧ p < L ∧ L ≤ 60 ∧ f_left a d = L - p := by
  obtain ⟨k, L, p, h1, h2, h3, h4, h5, h6, h7⟩ := h
  exact ⟨L, p, h3, h4, h5, h7, by rw [f_left, h3, h4, cN_nI (by omega), cN_nI (by omega)]⟩
theorem A_wd_week {b : Rw} {mm d : Nat} (hV : VP b mm) (hd : d < mm) : ∀ k, A_go b (A_wd b d k) (7 + 8 * d + 2) = b (7 + 8 * d + 2) + nI k
  | 0 => by
    show b (7 + 8 * d + 2) = b (7 + 8 * d + 2) + 0
    rw [Int32.add_zero]
  | k + 1 => by
    have hV' := VP_go hV (A_wd b d k)
    obtain ⟨L, p, h1, h2, h3, h4, h5⟩ := VPd_left (hV'.2 d hd)
    rw [A_wd, h5, A_go_add, (A_go_end hV' hd h1 h2 h3 h4).1, A_wd_week hV hd k, Int32.add_assoc, nI_1]
theorem i_sub_l (f x : Int32) : f + x - f = x := by rw [Int32.add_comm, Int32.add_sub_cancel]
theorem e_24 (s k : Nat) : (24 : Int32) * nI s + nI k = nI (24 * s + k) := by rw [show (24 : Int32) = nI 24 from rfl, pk_mul, nI_add]
theorem c_X8_offBy {l : Launch} {G : Gt} {M : Mm} {s d r mm sz : Nat} {g b c : Rw} (hb : b = (up (M 104) (7 + 8 * d + 1) (nI r))) (hc0 : c = (fun k => M 120 (24 * s + k))) (hV : VP (M 104) mm) (hd : d < mm) (hs : s < 4) (hr : r ≤ 9) (hsz : M 119 s = nI sz) (hsz24 : sz ≤ 24) (h107 : M 107 = cut 55 (M 104) g) : Runs l G true dm_X8_offBy 5 127 [.ref 103, .int (nI s), .int (nI d), .int (nI r)] M 127 (Pl (fun x M1 => x = lN (A_off b c d (min 6 sz)) ∧ ∀ q, q ≠ 116 → q ≠ 117 → M1 q = M q)) := by
  refine mx_run ow_X8_offBy rfl rfl (fun dp X hdp R => ?_)
  have hmm := hV.1.1
  have hVb : VP b mm := by rw [hb]; exact VP_rate hV hr (by omega)
  have hci : ∀ k, c k = M 120 (24 * s + k) := fun k => by rw [hc0]
  refine R.b bk_X8_offBy_0 ?_
  refine R.V3v kc_X8_offBy_4 (by first | rfl | assumption) (c_X8_put (d := d) (w := 1) (by omega)) (by omega) rfl ⟨Nat.le_refl _, Nat.le_refl _⟩ (fun M4 q4 => ?_)
  have e4 : M4 = mx_rw M 104 b := by rw [q4, mx_wr_up, hb]
  clear q4
  subst e4
  refine R.b bk_X8_offBy_7 ?_
  refine R.V2i kc_X8_offBy_10 (by first | rfl | assumption) (c_X8_of (d := d) (w := 2) (by omega)) (by omega) rfl ⟨Nat.le_refl _, Nat.le_refl _⟩ (fun x10 M10 q10 => ?_)
  obtain ⟨rfl, q10⟩ := q10
  replace q10 := q10.symm
  subst q10
  refine R.b bk_X8_offBy_13 ?_
  have hA : ∀ (fu i : Nat) (M1 : Mm) (c8 : Option Value) (c9 : Option Value) (c10 : Option Value), (min 6 sz) - i = fu → i ≤ (min 6 sz) → (M1 104 = A_go b (A_wd b d (i - 1))) → (∀ q, q ≠ 104 → q ≠ 116 → q ≠ 117 → M1 q = M q) → X 127 M1 21 [some (.ref 103), some (.int (nI s)), some (.int (nI d)), some (.int (nI r)), some (.int (b (7 + 8 * d + 2))), some (.long (lN (A_off b c d i))), none, some (.int (nI i)), c8, c9, c10] [] := by
    intro fu
    induction fu with
    | zero =>
      intro i M1 c8 c9 c10 hfu hi hI1 hI2
      have hiN : i = (min 6 sz) := by omega
      have esz : M1 119 (nI s).toNatClampNeg = nI sz := by rw [nI_clamp (by omega), hI2 119 (by decide) (by decide) (by decide)]; exact hsz
      refine R.b bk_X8_offBy_21 ?_
      refine R.c br_X8_offBy_25 (And.intro (fun h25 => ?_) (fun h25 => ?_))
      · refine R.b bk_X8_offBy_126 ?_
        refine R.V0v kc_X8_offBy_127 (by first | rfl | assumption) (c_X8_putsBack) (by omega) rfl ⟨Nat.le_refl _, Nat.le_refl _⟩ (fun M127 q127 => ?_)
        replace q127 := q127.symm
        subst q127
        refine R.b bk_X8_offBy_130 ?_
        refine R.rl rt_X8_offBy_132 ⟨_, rfl, ?_⟩
        refine ⟨by rw [hiN], fun q h2 h3 => ?_⟩
        by_cases hq : q = 104
        · subst hq
          rw [mx_rw_at, hI2 107 (by decide) (by decide) (by decide), h107, hI1]
          exact cut_back (fun j hj => by rw [A_go_keep hVb.1 hj, hb, up_ne (by omega)])
        · rw [mx_rw_ne hq]; exact hI2 q hq h2 h3
      · refine R.b bk_X8_offBy_28 (And.intro (by first | rfl | assumption) (And.intro (by first | rfl | assumption) (And.intro (by exact vp_in_nI (show s < 4 by omega) (by decide)) ?_)))
        refine R.c br_X8_offBy_36 (And.intro (fun h36 => ?_) (fun h36 => absurd (by rw [esz]; exact nI_le (by have := nI_lt8 (w := i) (n := 6) (by omega) (by decide) h25; omega) (by omega)) h36))
        refine R.b bk_X8_offBy_126 ?_
        refine R.V0v kc_X8_offBy_127 (by first | rfl | assumption) (c_X8_putsBack) (by omega) rfl ⟨Nat.le_refl _, Nat.le_refl _⟩ (fun M127 q127 => ?_)
        replace q127 := q127.symm
        subst q127
        refine R.b bk_X8_offBy_130 ?_
        refine R.rl rt_X8_offBy_132 ⟨_, rfl, ?_⟩
        refine ⟨by rw [hiN], fun q h2 h3 => ?_⟩
        by_cases hq : q = 104
        · subst hq
          rw [mx_rw_at, hI2 107 (by decide) (by decide) (by decide), h107, hI1]
          exact cut_back (fun j hj => by rw [A_go_keep hVb.1 hj, hb, up_ne (by omega)])
        · rw [mx_rw_ne hq]; exact hI2 q hq h2 h3
    | succ fu ih =>
      intro i M1 c8 c9 c10 hfu hi hI1 hI2
      have hlt : i < (min 6 sz) := by omega
      have esz : M1 119 (nI s).toNatClampNeg = nI sz := by rw [nI_clamp (by omega), hI2 119 (by decide) (by decide) (by decide)]; exact hsz
      have hQ : ∀ (M2 : Mm) (c8 c9 c10 : Option Value), M2 104 = A_go b (A_wd b d i) → (∀ q, q ≠ 104 → q ≠ 116 → q ≠ 117 → M2 q = M q) → X 127 M2 62 [some (.ref 103), some (.int (nI s)), some (.int (nI d)), some (.int (nI r)), some (.int (b (7 + 8 * d + 2))), some (.long (lN (A_off b c d i))), none, some (.int (nI i)), c8, c9, c10] [] := by
        intro M2 c8 c9 c10 e2 f2
        have w2 : M2 120 = M 120 := f2 120 (by decide) (by decide) (by decide)
        have hcl : ((24 : Int32) * nI s + nI i).toNatClampNeg = 24 * s + i := cl_n (e_24 s i) (by omega)
        refine R.b bk_X8_offBy_62 (And.intro (by first | rfl | assumption) (And.intro (by first | rfl | assumption) (And.intro (by exact vp_n (e_24 s i) (show 24 * s + i < 96 by omega) (by decide)) ?_)))
        refine R.V2i kc_X8_offBy_82 (by first | rfl | assumption) (c_X8_of (d := d) (w := 3) (by omega)) (by omega) rfl ⟨Nat.le_refl _, Nat.le_refl _⟩ (fun x82 M82 q82 => ?_)
        obtain ⟨rfl, q82⟩ := q82
        replace q82 := q82.symm
        subst q82
        refine R.b bk_X8_offBy_85 ?_
        refine R.c br_X8_offBy_95 (And.intro (fun h95 => ?_) (fun h95 => ?_))
        · refine R.b bk_X8_offBy_102 ?_
          refine R.c br_X8_offBy_106 (And.intro (fun h106 => ?_) (fun h106 => ?_))
          · refine R.b bk_X8_offBy_115 ?_
            refine R.b bk_X8_offBy_117 ?_
            refine R.j gt_X8_offBy_123 ?_
            rw [nI_inc]
            have hx := ih (i + 1) M2 (some (.int (M2 120 ((24 : Int32) * nI s + nI i).toNatClampNeg))) (some (.long ((M2 120 ((24 : Int32) * nI s + nI i).toNatClampNeg).toInt64 - (M2 104 (7 + 8 * d + 3)).toInt64))) none (by omega) (by omega) e2 f2
            rw [A_off] at hx
            rw [hcl, w2] at h95
            have hc : c i = M 120 (24 * s + i) := hci i
            obtain ⟨l1, l2⟩ := lg_abs (M 120 (24 * s + i)) (A_go b (A_wd b d i) (7 + 8 * d + 3))
            first
            | (rw [hc, if_pos h95, Nat.add_zero] at hx; rw [Int64.add_zero]; exact hx)
            | (rw [lg_cmp_ge, hcl, w2, e2, Int64.not_le] at h106; rw [hc, if_neg h95, ← lN_add, ← l1 h106] at hx; rw [hcl, w2, e2] at hx ⊢; exact hx)
            | (rw [lg_cmp_ge, hcl, w2, e2] at h106; rw [hc, if_neg h95, ← lN_add, ← l2 (Int64.not_lt.mpr h106)] at hx; rw [hcl, w2, e2] at hx ⊢; exact hx)
          · refine R.b bk_X8_offBy_109 ?_
            refine R.j gt_X8_offBy_112 ?_
            refine R.b bk_X8_offBy_117 ?_
            refine R.j gt_X8_offBy_123 ?_
            rw [nI_inc]
            have hx := ih (i + 1) M2 (some (.int (M2 120 ((24 : Int32) * nI s + nI i).toNatClampNeg))) (some (.long ((M2 120 ((24 : Int32) * nI s + nI i).toNatClampNeg).toInt64 - (M2 104 (7 + 8 * d + 3)).toInt64))) none (by omega) (by omega) e2 f2
            rw [A_off] at hx
            rw [hcl, w2] at h95
            have hc : c i = M 120 (24 * s + i) := hci i
            obtain ⟨l1, l2⟩ := lg_abs (M 120 (24 * s + i)) (A_go b (A_wd b d i) (7 + 8 * d + 3))
            first
            | (rw [hc, if_pos h95, Nat.add_zero] at hx; rw [Int64.add_zero]; exact hx)
            | (rw [lg_cmp_ge, hcl, w2, e2, Int64.not_le] at h106; rw [hc, if_neg h95, ← lN_add, ← l1 h106] at hx; rw [hcl, w2, e2] at hx ⊢; exact hx)
            | (rw [lg_cmp_ge, hcl, w2, e2] at h106; rw [hc, if_neg h95, ← lN_add, ← l2 (Int64.not_lt.mpr h106)] at hx; rw [hcl, w2, e2] at hx ⊢; exact hx)
        · refine R.b bk_X8_offBy_98 ?_
          refine R.j gt_X8_offBy_99 ?_
          refine R.b bk_X8_offBy_117 ?_
          refine R.j gt_X8_offBy_123 ?_
          rw [nI_inc]
          have hx := ih (i + 1) M2 (some (.int (M2 120 ((24 : Int32) * nI s + nI i).toNatClampNeg))) (some (.long ((M2 120 ((24 : Int32) * nI s + nI i).toNatClampNeg).toInt64 - (M2 104 (7 + 8 * d + 3)).toInt64))) none (by omega) (by omega) e2 f2
          rw [A_off] at hx
          rw [hcl, w2] at h95
          have hc : c i = M 120 (24 * s + i) := hci i
          obtain ⟨l1, l2⟩ := lg_abs (M 120 (24 * s + i)) (A_go b (A_wd b d i) (7 + 8 * d + 3))
          first
          | (rw [hc, if_pos h95, Nat.add_zero] at hx; rw [Int64.add_zero]; exact hx)
          | (rw [lg_cmp_ge, hcl, w2, e2, Int64.not_le] at h106; rw [hc, if_neg h95, ← lN_add, ← l1 h106] at hx; rw [hcl, w2, e2] at hx ⊢; exact hx)
          | (rw [lg_cmp_ge, hcl, w2, e2] at h106; rw [hc, if_neg h95, ← lN_add, ← l2 (Int64.not_lt.mpr h106)] at hx; rw [hcl, w2, e2] at hx ⊢; exact hx)
      have hP : 0 < i → ∀ (fu j : Nat) (M2 : Mm) (c8 : Option Value), f_left (A_go b (A_wd b d (i - 1))) d - j = fu → j ≤ f_left (A_go b (A_wd b d (i - 1))) d → M2 104 = A_go b (A_wd b d (i - 1) + j) → (∀ q, q ≠ 104 → q ≠ 116 → q ≠ 117 → M2 q = M q) → X 127 M2 39 [some (.ref 103), some (.int (nI s)), some (.int (nI d)), some (.int (nI r)), some (.int (b (7 + 8 * d + 2))), some (.long (lN (A_off b c d i))), none, some (.int (nI i)), c8, c9, c10] [] := by
        intro hi0 fu
        have hV' := VP_go hVb (A_wd b d (i - 1))
        obtain ⟨L, p, g1, g2, g3, g4, g5⟩ := VPd_left (hV'.2 d hd)
        have gw := A_wd_week hVb hd (i - 1)
        have ei : A_wd b d i = A_wd b d (i - 1) + f_left (A_go b (A_wd b d (i - 1))) d := by
          conv => lhs; rw [show i = (i - 1) + 1 by omega, A_wd]
        rw [g5] at ei ⊢
        induction fu with
        | zero =>
          intro j M2 c8 hfu hj e2 f2
          have hjN : j = L - p := by omega
          have ew : M2 104 (7 + 8 * d + 2) = b (7 + 8 * d + 2) + nI i := by rw [e2, hjN, ← ei]; exact A_wd_week hVb hd i
          refine R.b bk_X8_offBy_39 ?_
          refine R.V2i kc_X8_offBy_42 (by first | rfl | assumption) (c_X8_of (d := d) (w := 2) (by omega)) (by omega) rfl ⟨Nat.le_refl _, Nat.le_refl _⟩ (fun x42 M42 q42 => ?_)
          obtain ⟨rfl, q42⟩ := q42
          replace q42 := q42.symm
          subst q42
          refine R.b bk_X8_offBy_45 ?_
          refine R.c br_X8_offBy_50 (And.intro (fun h50 => ?_) (fun h50 => absurd (by rw [ew, i_sub_l]; exact Int32.le_refl _) h50))
          exact hQ M2 c8 c9 c10 (by rw [e2, hjN, ei]) f2
        | succ fu ih2 =>
          intro j M2 c8 hfu hj e2 f2
          have hjl : j < L - p := by omega
          have ew : M2 104 (7 + 8 * d + 2) = b (7 + 8 * d + 2) + nI (i - 1) := by rw [e2, A_go_add, (A_go_in hV' hd g1 g2 g3 g4 j (by omega)).1, gw]
          refine R.b bk_X8_offBy_39 ?_
          refine R.V2i kc_X8_offBy_42 (by first | rfl | assumption) (c_X8_of (d := d) (w := 2) (by omega)) (by omega) rfl ⟨Nat.le_refl _, Nat.le_refl _⟩ (fun x42 M42 q42 => ?_)
          obtain ⟨rfl, q42⟩ := q42
          replace q42 := q42.symm
          subst q42
          refine R.b bk_X8_offBy_45 ?_
          refine R.c br_X8_offBy_50 (And.intro (fun h50 => absurd h50 (by rw [ew, i_sub_l]; exact nI_ge (by omega) (by omega))) (fun h50 => ?_))
          refine R.b bk_X8_offBy_53 ?_
          refine R.V0i kc_X8_offBy_54 (by first | rfl | assumption) (c_X8_day (mm := mm) (by rw [e2]; exact (VP_go hVb _).1)) (by omega) rfl ⟨Nat.le_refl _, Nat.le_refl _⟩ (fun x54 M54 q54 => ?_)
          obtain ⟨-, e54, f54⟩ := q54
          refine R.b bk_X8_offBy_57 ?_
          refine R.j gt_X8_offBy_59 ?_
          exact ih2 (j + 1) M54 _ (by omega) (by omega) (by rw [e54, e2]; rfl) (fun q g1 g2 g3 => by rw [f54 q g1 g2 g3]; exact f2 q g1 g2 g3)
      have hZ : X 127 M1 39 [some (.ref 103), some (.int (nI s)), some (.int (nI d)), some (.int (nI r)), some (.int (b (7 + 8 * d + 2))), some (.long (lN (A_off b c d i))), none, some (.int (nI i)), c8, c9, c10] [] := by
        by_cases hi0 : 0 < i
        · exact hP hi0 _ 0 M1 c8 rfl (Nat.zero_le _) hI1 hI2
        · have hi00 : i = 0 := by omega
          subst hi00
          have ew : M1 104 (7 + 8 * d + 2) = b (7 + 8 * d + 2) := by rw [hI1]; rfl
          refine R.b bk_X8_offBy_39 ?_
          refine R.V2i kc_X8_offBy_42 (by first | rfl | assumption) (c_X8_of (d := d) (w := 2) (by omega)) (by omega) rfl ⟨Nat.le_refl _, Nat.le_refl _⟩ (fun x42 M42 q42 => ?_)
          obtain ⟨rfl, q42⟩ := q42
          replace q42 := q42.symm
          subst q42
          refine R.b bk_X8_offBy_45 ?_
          refine R.c br_X8_offBy_50 (And.intro (fun h50 => ?_) (fun h50 => absurd (by rw [ew, Int32.sub_self]; exact Int32.le_refl _) h50))
          exact hQ M1 c8 c9 c10 hI1 hI2
      refine R.b bk_X8_offBy_21 ?_
      refine R.c br_X8_offBy_25 (And.intro (fun h25 => absurd h25 (nI_ge (b := 6) (by omega) (by decide))) (fun h25 => ?_))
      refine R.b bk_X8_offBy_28 (And.intro (by first | rfl | assumption) (And.intro (by first | rfl | assumption) (And.intro (by exact vp_in_nI (show s < 4 by omega) (by decide)) ?_)))
      refine R.c br_X8_offBy_36 (And.intro (fun h36 => absurd h36 (by rw [esz]; exact nI_ge (by omega) (by omega))) (fun h36 => ?_))
      exact hZ
  rw [mx_rw_at]
  exact hA (min 6 sz) 0 _ _ _ _ rfl (Nat.zero_le _) (mx_rw_at _ _ _) (fun q g1 _ _ => mx_rw_ne g1)
theorem c_X8_isSheet {l : Launch} {G : Gt} {M : Mm} {v : Int32} : Runs l G true dm_X8_isSheet 1 127 [.int v] M 127 (Pi (fun x M1 => x = f_in v 0 3 ∧ M1 = M)) := by
  refine mx_run ow_X8_isSheet rfl rfl (fun dp X hdp R => ?_)
  refine R.b bk_X8_isSheet_0 ?_
  refine R.S3i kc_X8_isSheet_3 (c_X8_in) (by omega) rfl ⟨Nat.le_refl _, Nat.le_refl _⟩ (fun x3 M3 q3 => ?_)
  obtain ⟨rfl, q3⟩ := q3
  replace q3 := q3.symm
  subst q3
  refine R.ri rt_X8_isSheet_6 (f_in_nar _ _ _) ⟨_, rfl, ?_⟩
  exact ⟨rfl, rfl⟩
theorem c_X8_isSlot {l : Launch} {G : Gt} {M : Mm} {v : Int32} : Runs l G true dm_X8_isSlot 1 127 [.int v] M 127 (Pi (fun x M1 => x = f_in v 0 4 ∧ M1 = M)) := by
  refine mx_run ow_X8_isSlot rfl rfl (fun dp X hdp R => ?_)
  refine R.b bk_X8_isSlot_0 ?_
  refine R.S3i kc_X8_isSlot_3 (c_X8_in) (by omega) rfl ⟨Nat.le_refl _, Nat.le_refl _⟩ (fun x3 M3 q3 => ?_)
  obtain ⟨rfl, q3⟩ := q3
  replace q3 := q3.symm
  subst q3
  refine R.ri rt_X8_isSlot_6 (f_in_nar _ _ _) ⟨_, rfl, ?_⟩
  exact ⟨rfl, rfl⟩
def A_rt (f : Nat → Nat) : Nat → Nat × Nat
  | 0 => (0, f 0)
  | r + 1 => if f (r + 1) < (A_rt f r).2 then (r + 1, f (r + 1)) else A_rt f r
def f_offs (a sz ce : Rw) (s d : Nat) : Nat → Nat := fun r => A_off (up a (7 + 8 * d + 1) (nI r)) (fun k => ce (24 * s + k)) d (min 6 (cN (sz s)))
def F_rated (a so sz ce : Rw) (s d w : Int32) : Int32 := if f_in s 0 3 = 0 ∨ isD a d = 0 ∨ f_in w 0 1 = 0 then (-1000000001) else if so (cN s) < 0 then (-1000000011) else if w = 0 then nI (A_rt (f_offs a sz ce (cN s) (cN d)) 9).1 else nI (A_rt (f_offs a sz ce (cN s) (cN d)) 9).2
theorem A_rt_le (f : Nat → Nat) (B : Nat) (h : ∀ r, f r ≤ B) : ∀ n, (A_rt f n).2 ≤ B
  | 0 => h 0
  | n + 1 => by
    unfold A_rt
    split
    · exact h (n + 1)
    · exact A_rt_le f B h n
theorem c_X8_rated {l : Launch} {G : Gt} {M : Mm} {sh d w : Int32} {mm : Nat} (hV : VP (M 104) mm) (hsz : ∀ s, s < 4 → ∃ sz, sz ≤ 24 ∧ M 119 s = nI sz) : Runs l G true dm_X8_rated 6 127 [.ref 103, .int sh, .int d, .int w] M 127 (Pi (fun x M1 => x = F_rated (M 104) (M 118) (M 119) (M 120) sh d w ∧ ∀ q, q ≠ 107 → q ≠ 116 → q ≠ 117 → M1 q = M q)) := by
  refine mx_run ow_X8_rated rfl rfl (fun dp X hdp R => ?_)
  refine R.b bk_X8_rated_0 ?_
  refine R.S1i kc_X8_rated_1 (c_X8_isSheet) (by omega) rfl ⟨Nat.le_refl _, Nat.le_refl _⟩ (fun x1 M1 q1 => ?_)
  obtain ⟨rfl, q1⟩ := q1
  replace q1 := q1.symm
  subst q1
  refine R.c br_X8_rated_4 (And.intro (fun h4 => ?_) (fun h4 => ?_))
  · refine R.b bk_X8_rated_24 ?_
    refine R.ri rt_X8_rated_26 rfl ⟨_, rfl, ?_⟩
    exact ⟨by simp_all [F_rated, isD], fun q _ _ _ => rfl⟩
  · refine R.b bk_X8_rated_7 ?_
    refine R.V1i kc_X8_rated_9 (by first | rfl | assumption) (c_X8_isDistrict) (by omega) rfl ⟨Nat.le_refl _, Nat.le_refl _⟩ (fun x9 M9 q9 => ?_)
    obtain ⟨rfl, q9⟩ := q9
    replace q9 := q9.symm
    subst q9
    refine R.c br_X8_rated_12 (And.intro (fun h12 => ?_) (fun h12 => ?_))
    · refine R.b bk_X8_rated_24 ?_
      refine R.ri rt_X8_rated_26 rfl ⟨_, rfl, ?_⟩
      exact ⟨by simp_all [F_rated, isD], fun q _ _ _ => rfl⟩
    · refine R.b bk_X8_rated_15 ?_
      refine R.S3i kc_X8_rated_18 (c_X8_in) (by omega) rfl ⟨Nat.le_refl _, Nat.le_refl _⟩ (fun x18 M18 q18 => ?_)
      obtain ⟨rfl, q18⟩ := q18
      replace q18 := q18.symm
      subst q18
      refine R.c br_X8_rated_21 (And.intro (fun h21 => ?_) (fun h21 => ?_))
      · have hmm := hV.1.1
        obtain ⟨sn, hsn, rfl⟩ := f_in_nat (n := 3) (by decide) h4
        have hcs : cN (nI sn) = sn := cN_nI (by omega)
        obtain ⟨dn, hdn, rfl⟩ := f_in_dist (by omega) hV.1.2.1 h12
        have hcd : cN (nI dn) = dn := cN_nI (by omega)
        obtain ⟨wn, hwn, rfl⟩ := f_in_nat (n := 1) (by decide) h21
        obtain ⟨sz, hsz24, hsz2⟩ := hsz sn (by omega)
        refine R.b bk_X8_rated_27 (And.intro (by first | rfl | assumption) (And.intro (by first | rfl | assumption) (And.intro (by exact vp_in_nI (show sn < 4 by omega) (by decide)) ?_)))
        refine R.c br_X8_rated_33 (And.intro (fun h33 => ?_) (fun h33 => ?_))
        · have hcl : (nI sn).toNatClampNeg = sn := nI_clamp (by omega)
          rw [hcl] at h33
          have hso : ¬ M 118 sn < 0 := Int32.not_lt.mpr h33
          have h0T : ∀ q, q ≠ 116 → q ≠ 117 → (mx_rw M 107 (cut 55 (M 104) (M 107))) q = (mx_rw M 107 (cut 55 (M 104) (M 107))) q := fun q _ _ => rfl
          have hB : ∀ r, (f_offs (M 104) (M 119) (M 120) sn dn) r ≤ 6 * 2 ^ 32 := fun r => Nat.le_trans (A_off_lt _ _ _ _) (Nat.mul_le_mul_right _ (Nat.min_le_left _ _))
          refine R.b bk_X8_rated_39 ?_
          refine R.V0v kc_X8_rated_40 (by first | rfl | assumption) (c_X8_thinks) (by omega) rfl ⟨Nat.le_refl _, Nat.le_refl _⟩ (fun M40 q40 => ?_)
          replace q40 := q40.symm
          subst q40
          refine R.b bk_X8_rated_43 ?_
          refine R.V3l kc_X8_rated_50 (by first | rfl | assumption) (c_X8_offBy (mm := mm) (s := sn) (d := dn) (r := 0) (sz := sz) (g := M 107) (b := up (M 104) (7 + 8 * dn + 1) (nI (0))) (c := fun k => M 120 (24 * sn + k)) (by rw [h0T 104 (by decide) (by decide), mx_rw_ne (by decide)]) (by funext k; rw [h0T 120 (by decide) (by decide), mx_rw_ne (by decide)]) (by rw [h0T 104 (by decide) (by decide), mx_rw_ne (by decide)]; exact hV) hdn (by omega) (by omega) (by rw [h0T 119 (by decide) (by decide), mx_rw_ne (by decide)]; exact hsz2) hsz24 (by rw [h0T 107 (by decide) (by decide), mx_rw_at, h0T 104 (by decide) (by decide), mx_rw_ne (by decide)])) (by omega) rfl ⟨Nat.le_refl _, Nat.le_refl _⟩ (fun x50 M50 q50 => ?_)
          obtain ⟨e50, f50⟩ := q50
          replace e50 : x50 = lN ((f_offs (M 104) (M 119) (M 120) sn dn) (0)) := by rw [e50, f_offs, hsz2, cN_nI (by omega)]
          subst e50
          have k50 : ∀ q, q ≠ 116 → q ≠ 117 → M50 q = (mx_rw M 107 (cut 55 (M 104) (M 107))) q := fun q g1 g2 => (f50 q g1 g2).trans (h0T q g1 g2)
          refine R.b bk_X8_rated_53 ?_
          have hA : ∀ (fu i : Nat) (M1 : Mm) (c8 : Option Value) (c9 : Option Value), 9 - i = fu → i ≤ 9 → (∀ q, q ≠ 116 → q ≠ 117 → M1 q = (mx_rw M 107 (cut 55 (M 104) (M 107))) q) → X 127 M1 58 [some (.ref 103), some (.int (nI sn)), some (.int (nI dn)), some (.int (nI wn)), some (.int (nI (A_rt (f_offs (M 104) (M 119) (M 120) sn dn) i).1)), some (.long (lN (A_rt (f_offs (M 104) (M 119) (M 120) sn dn) i).2)), none, some (.int (nI (i + 1))), c8, c9] [] := by
            intro fu
            induction fu with
            | zero =>
              intro i M1 c8 c9 hfu hi hI1
              have hiN : i = 9 := by omega
              refine R.b bk_X8_rated_58 ?_
              refine R.c br_X8_rated_62 (And.intro (fun h62 => ?_) (fun h62 => absurd (by rw [hiN]; decide) h62))
              refine R.b bk_X8_rated_115 ?_
              refine R.c br_X8_rated_116 (And.intro (fun h116 => ?_) (fun h116 => ?_))
              · refine R.b bk_X8_rated_124 ?_
                refine R.ri rt_X8_rated_127 rfl ⟨_, rfl, ?_⟩
                subst hiN
                refine ⟨?_, fun q g1 g2 g3 => by rw [hI1 q g2 g3, mx_rw_ne g1]⟩
                unfold F_rated isD
                rw [if_neg (not_or.mpr ⟨h4, not_or.mpr ⟨h12, h21⟩⟩), hcs, hcd, if_neg hso]
                first | (rw [if_pos h116]; done) | (rw [if_neg h116]; exact lN_i _)
              · refine R.b bk_X8_rated_119 ?_
                refine R.j gt_X8_rated_121 ?_
                refine R.ri rt_X8_rated_127 rfl ⟨_, rfl, ?_⟩
                subst hiN
                refine ⟨?_, fun q g1 g2 g3 => by rw [hI1 q g2 g3, mx_rw_ne g1]⟩
                unfold F_rated isD
                rw [if_neg (not_or.mpr ⟨h4, not_or.mpr ⟨h12, h21⟩⟩), hcs, hcd, if_neg hso]
                first | (rw [if_pos h116]; done) | (rw [if_neg h116]; exact lN_i _)
            | succ fu ih =>
              intro i M1 c8 c9 hfu hi hI1
              have hlt : i < 9 := by omega
              refine R.b bk_X8_rated_58 ?_
              refine R.c br_X8_rated_62 (And.intro (fun h62 => absurd h62 (nI_ge (b := 10) (by omega) (by decide))) (fun h62 => ?_))
              refine R.b bk_X8_rated_65 ?_
              refine R.V3l kc_X8_rated_70 (by first | rfl | assumption) (c_X8_offBy (mm := mm) (s := sn) (d := dn) (r := i + 1) (sz := sz) (g := M 107) (b := up (M 104) (7 + 8 * dn + 1) (nI (i + 1))) (c := fun k => M 120 (24 * sn + k)) (by rw [hI1 104 (by decide) (by decide), mx_rw_ne (by decide)]) (by funext k; rw [hI1 120 (by decide) (by decide), mx_rw_ne (by decide)]) (by rw [hI1 104 (by decide) (by decide), mx_rw_ne (by decide)]; exact hV) hdn (by omega) (by omega) (by rw [hI1 119 (by decide) (by decide), mx_rw_ne (by decide)]; exact hsz2) hsz24 (by rw [hI1 107 (by decide) (by decide), mx_rw_at, hI1 104 (by decide) (by decide), mx_rw_ne (by decide)])) (by omega) rfl ⟨Nat.le_refl _, Nat.le_refl _⟩ (fun x70 M70 q70 => ?_)
              obtain ⟨e70, f70⟩ := q70
              replace e70 : x70 = lN ((f_offs (M 104) (M 119) (M 120) sn dn) (i + 1)) := by rw [e70, f_offs, hsz2, cN_nI (by omega)]
              subst e70
              have k70 : ∀ q, q ≠ 116 → q ≠ 117 → M70 q = (mx_rw M 107 (cut 55 (M 104) (M 107))) q := fun q g1 g2 => (f70 q g1 g2).trans (hI1 q g1 g2)
              refine R.b bk_X8_rated_73 ?_
              refine R.c br_X8_rated_80 (And.intro (fun h80 => ?_) (fun h80 => ?_))
              · refine R.b bk_X8_rated_88 ?_
                refine R.b bk_X8_rated_90 ?_
                refine R.c br_X8_rated_97 (And.intro (fun h97 => ?_) (fun h97 => ?_))
                · refine R.b bk_X8_rated_105 ?_
                  refine R.b bk_X8_rated_107 ?_
                  refine R.j gt_X8_rated_112 ?_
                  rw [nI_inc]
                  have hx := ih (i + 1) M70 (some (.long (lN ((f_offs (M 104) (M 119) (M 120) sn dn) (i + 1))))) none (by omega) (by omega) k70
                  rw [A_rt] at hx
                  have hf1 := hB (i + 1)
                  have hf2 := A_rt_le (f_offs (M 104) (M 119) (M 120) sn dn) (6 * 2 ^ 32) hB i
                  rw [lg_cmp_ge, pk_lLE (by omega) (by omega)] at h80 h97
                  first
                  | exact absurd h80 h97
                  | exact absurd h97 h80
                  | (rw [if_neg (Nat.not_lt.mpr h80)] at hx; exact hx)
                  | (rw [if_pos (Nat.lt_of_not_le h80)] at hx; exact hx)
                · refine R.b bk_X8_rated_100 ?_
                  refine R.j gt_X8_rated_102 ?_
                  refine R.b bk_X8_rated_107 ?_
                  refine R.j gt_X8_rated_112 ?_
                  rw [nI_inc]
                  have hx := ih (i + 1) M70 (some (.long (lN ((f_offs (M 104) (M 119) (M 120) sn dn) (i + 1))))) none (by omega) (by omega) k70
                  rw [A_rt] at hx
                  have hf1 := hB (i + 1)
                  have hf2 := A_rt_le (f_offs (M 104) (M 119) (M 120) sn dn) (6 * 2 ^ 32) hB i
                  rw [lg_cmp_ge, pk_lLE (by omega) (by omega)] at h80 h97
                  first
                  | exact absurd h80 h97
                  | exact absurd h97 h80
                  | (rw [if_neg (Nat.not_lt.mpr h80)] at hx; exact hx)
                  | (rw [if_pos (Nat.lt_of_not_le h80)] at hx; exact hx)
              · refine R.b bk_X8_rated_83 ?_
                refine R.j gt_X8_rated_85 ?_
                refine R.b bk_X8_rated_90 ?_
                refine R.c br_X8_rated_97 (And.intro (fun h97 => ?_) (fun h97 => ?_))
                · refine R.b bk_X8_rated_105 ?_
                  refine R.b bk_X8_rated_107 ?_
                  refine R.j gt_X8_rated_112 ?_
                  rw [nI_inc]
                  have hx := ih (i + 1) M70 (some (.long (lN ((f_offs (M 104) (M 119) (M 120) sn dn) (i + 1))))) none (by omega) (by omega) k70
                  rw [A_rt] at hx
                  have hf1 := hB (i + 1)
                  have hf2 := A_rt_le (f_offs (M 104) (M 119) (M 120) sn dn) (6 * 2 ^ 32) hB i
                  rw [lg_cmp_ge, pk_lLE (by omega) (by omega)] at h80 h97
                  first
                  | exact absurd h80 h97
                  | exact absurd h97 h80
                  | (rw [if_neg (Nat.not_lt.mpr h80)] at hx; exact hx)
                  | (rw [if_pos (Nat.lt_of_not_le h80)] at hx; exact hx)
                · refine R.b bk_X8_rated_100 ?_
                  refine R.j gt_X8_rated_102 ?_
                  refine R.b bk_X8_rated_107 ?_
                  refine R.j gt_X8_rated_112 ?_
                  rw [nI_inc]
                  have hx := ih (i + 1) M70 (some (.long (lN ((f_offs (M 104) (M 119) (M 120) sn dn) (i + 1))))) none (by omega) (by omega) k70
                  rw [A_rt] at hx
                  have hf1 := hB (i + 1)
                  have hf2 := A_rt_le (f_offs (M 104) (M 119) (M 120) sn dn) (6 * 2 ^ 32) hB i
                  rw [lg_cmp_ge, pk_lLE (by omega) (by omega)] at h80 h97
                  first
                  | exact absurd h80 h97
                  | exact absurd h97 h80
                  | (rw [if_neg (Nat.not_lt.mpr h80)] at hx; exact hx)
                  | (rw [if_pos (Nat.lt_of_not_le h80)] at hx; exact hx)
          exact hA 9 0 M50 none none rfl (Nat.zero_le _) k50
        · refine R.b bk_X8_rated_36 ?_
          refine R.ri rt_X8_rated_38 rfl ⟨_, rfl, ?_⟩
          refine ⟨?_, fun q _ _ _ => rfl⟩
          unfold F_rated isD
          rw [if_neg (not_or.mpr ⟨h4, not_or.mpr ⟨h12, h21⟩⟩), hcs]
          rw [nI_clamp (by omega)] at h33
          exact (if_pos (Int32.not_le.mp h33)).symm
      · refine R.b bk_X8_rated_24 ?_
        refine R.ri rt_X8_rated_26 rfl ⟨_, rfl, ?_⟩
        exact ⟨by simp_all [F_rated, isD], fun q _ _ _ => rfl⟩
