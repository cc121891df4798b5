/-! traders; the check -/
theorem f_eq_one {a b : Int32} (h : ¬ f_eq a b = 0) : f_eq a b = 1 := by
  unfold f_eq at h ⊢
  split at h
  · rw [if_pos ‹_›]
  · exact absurd rfl h
theorem mx_rw_two {M M1 : Mm} {c : Rw} (h : M1 = mx_rw M 109 c) : M1 = mx_rw (mx_rw M 109 (M1 109)) 108 (M1 108) := by
  subst h
  funext q
  by_cases h8 : q = 108
  · subst h8
    exact (mx_rw_at _ _ _).symm
  · rw [mx_rw_ne h8, mx_rw_at]
def f_b1 (s : Rw) (d : Nat) : Int32 := if 0 < d ∧ s d < s (d - 1) then s (d - 1) else s d
def f_b2 (s : Rw) (mm d : Nat) : Int32 := if d + 1 < mm ∧ f_b1 s d < s (d + 1) then s (d + 1) else f_b1 s d
def f_tr (a s : Rw) (mm d : Nat) : Int32 := if f_b2 s mm d < 0 then -1 else f_b2 s mm d + f_eq (a (7 + 8 * d + 4)) (a 5)
theorem c_X8_trades {l : Launch} {G : Gt} {M : Mm} {mm : Nat} (hmm : mm ≤ 6) (h1 : M 104 1 = nI mm) : Runs l G true dm_X8_trades 2 127 [.ref 103] M 127 (Pv (fun M1 => M1 108 = cut mm (f_tr (M 104) (M 108) mm) (M 108) ∧ ∀ q, q ≠ 108 → q ≠ 109 → M1 q = M q)) := by
  refine mx_run ow_X8_trades rfl rfl (fun dp X hdp R => ?_)
  have hD : ∀ (fu i : Nat) (M0 : Mm) {c2 : Option Value} {r : Rw}, mm - i = fu → i ≤ mm → M0 = mx_rw M0 108 (cut i (f_tr (M 104) (M 108) mm) (M 108)) → M0 109 = cut mm (f_tr (M 104) (M 108) mm) r → (M0 = mx_rw (mx_rw M 109 (M0 109)) 108 (M0 108)) → X 127 M0 122 [some (.ref 103), some (.int (nI i)), c2] [] := by
    intro fu
    induction fu with
    | zero =>
      intro i M0 c2 r hfu hi hI1 hI2 hI3
      have hiN : i = mm := by omega
      have e1 : M0 104 (Int32.toNatClampNeg 1) = nI mm := by rw [hI3, mx_rw_ne (by decide), mx_rw_ne (by decide)]; exact h1
      refine R.b bk_X8_trades_122 (And.intro (by first | rfl | assumption) (And.intro (by first | rfl | assumption) (And.intro (by exact vp_lit rfl) ?_)))
      refine R.c br_X8_trades_129 (And.intro (fun h129 => ?_) (fun h129 => absurd (by rw [e1, hiN]; exact nI_le (Nat.le_refl mm) (by omega)) h129))
      refine R.rv rt_X8_trades_150 ⟨rfl, ?_⟩
      refine ⟨?_, fun q h8 h9 => ?_⟩
      · rw [hI1, mx_rw_at, hiN]
      · rw [hI3, mx_rw_ne h8, mx_rw_ne h9]
    | succ fu ih =>
      intro i M0 c2 r hfu hi hI1 hI2 hI3
      have hlt : i < mm := by omega
      have hcl : (nI i).toNatClampNeg = i := nI_clamp (by omega)
      have e1 : M0 104 (Int32.toNatClampNeg 1) = nI mm := by rw [hI3, mx_rw_ne (by decide), mx_rw_ne (by decide)]; exact h1
      refine R.b bk_X8_trades_122 (And.intro (by first | rfl | assumption) (And.intro (by first | rfl | assumption) (And.intro (vp_lit rfl) ?_)))
      refine R.c br_X8_trades_129 (And.intro (fun h129 => absurd h129 (by rw [e1]; exact nI_ge hlt (by omega))) (fun h129 => ?_))
      refine R.b bk_X8_trades_132 (And.intro (by first | rfl | assumption) (And.intro (by first | rfl | assumption) (And.intro (by first | rfl | assumption) (And.intro (by exact vp_in_nI (show i < 6 by omega) (by decide)) (And.intro (by first | rfl | assumption) (And.intro (by exact vp_in_nI (show i < 6 by omega) (by decide)) ?_))))))
      refine R.j gt_X8_trades_147 ?_
      rw [nI_inc, hcl, mx_wr_up]
      have e9 : M0 109 i = f_tr (M 104) (M 108) mm i := by rw [hI2, cut, if_pos hlt]
      have e8 : M0 108 = cut i (f_tr (M 104) (M 108) mm) (M 108) := by rw [hI1, mx_rw_at]
      rw [e9, e8, cut_up]
      refine ih (i + 1) _ (r := r) (by omega) (by omega) (by rw [mx_rw_rw]) (by rw [mx_rw_ne (by decide)]; exact hI2) ?_
      rw [mx_rw_at, mx_rw_ne (show 109 ≠ 108 by decide)]
      conv => lhs; rw [hI3]
      rw [mx_rw_rw]
  have hA : ∀ (fu i : Nat) (M1 : Mm) (c2 : Option Value), mm - i = fu → i ≤ mm → (M1 = mx_rw M 109 (cut i (f_tr (M 104) (M 108) mm) (M 109))) → X 127 M1 2 [some (.ref 103), some (.int (nI i)), c2] [] := by
    intro fu
    induction fu with
    | zero =>
      intro i M1 c2 hfu hi hI1
      have hiN : i = mm := by omega
      have e1 : M1 104 (Int32.toNatClampNeg 1) = nI mm := by rw [hI1, mx_rw_ne (by decide)]; exact h1
      refine R.b bk_X8_trades_2 (And.intro (by first | rfl | assumption) (And.intro (by first | rfl | assumption) (And.intro (by exact vp_lit rfl) ?_)))
      refine R.c br_X8_trades_9 (And.intro (fun h9 => ?_) (fun h9 => absurd (by rw [e1, hiN]; exact nI_le (Nat.le_refl mm) (by omega)) h9))
      refine R.b bk_X8_trades_120 ?_
      have e8 : M1 108 = M 108 := by rw [hI1, mx_rw_ne (by decide)]
      exact hD mm 0 M1 (r := M 109) rfl (Nat.zero_le _) (by rw [cut_0, ← e8, mx_rw_id]) (by rw [hI1, mx_rw_at, hiN]) (mx_rw_two hI1)
    | succ fu ih =>
      intro i M1 c2 hfu hi hI1
      have hlt : i < mm := by omega
      have e1 : M1 104 (Int32.toNatClampNeg 1) = nI mm := by rw [hI1, mx_rw_ne (by decide)]; exact h1
      have hM8 : M1 108 = M 108 := by rw [hI1, mx_rw_ne (by decide)]
      have hcl : (nI i).toNatClampNeg = i := nI_clamp (by omega)
      have hC : ∀ (b c2 : Int32), b = f_b2 (M 108) mm i → X 127 M1 84 [some (.ref 103), some (.int (nI i)), some (.int c2)] [.int b] := by
        intro b c2 hb
        refine R.b bk_X8_trades_84 (And.intro (by first | rfl | assumption) ?_)
        refine R.c br_X8_trades_91 (And.intro (fun h91 => ?_) (fun h91 => ?_))
        · refine R.b bk_X8_trades_98 ?_
          refine R.V1i kc_X8_trades_101 (by first | rfl | assumption) (c_X8_isFair (d := i) (by omega)) (by omega) rfl ⟨Nat.le_refl _, Nat.le_refl _⟩ (fun x101 M101 q101 => ?_)
          obtain ⟨rfl, q101⟩ := q101
          replace q101 := q101.symm
          subst q101
          refine R.c br_X8_trades_104 (And.intro (fun h104 => ?_) (fun h104 => ?_))
          · refine R.b bk_X8_trades_111 ?_
            refine R.b bk_X8_trades_112 ?_
            refine R.b bk_X8_trades_113 (And.intro (by first | rfl | assumption) (And.intro (by exact vp_in_nI (show i < 6 by omega) (by decide)) ?_))
            refine R.j gt_X8_trades_117 ?_
            rw [nI_inc]
            refine ih (i + 1) _ _ (by omega) (by omega) ?_
            rw [hcl, mx_wr_up, hI1, mx_rw_rw, mx_rw_at, ← cut_up]
            congr 2
            subst hb
            rw [f_tr]
            first
            | (rw [if_pos (Int32.not_le.mp h91)]; done)
            | (rw [if_neg (Int32.not_lt.mpr h91)]; rw [hI1, mx_rw_ne (by decide)] at h104; rw [h104]; done)
            | (rw [if_neg (Int32.not_lt.mpr h91)]; rw [hI1, mx_rw_ne (by decide)] at h104; rw [f_eq_one h104])
          · refine R.b bk_X8_trades_107 ?_
            refine R.j gt_X8_trades_108 ?_
            refine R.b bk_X8_trades_112 ?_
            refine R.b bk_X8_trades_113 (And.intro (by first | rfl | assumption) (And.intro (by exact vp_in_nI (show i < 6 by omega) (by decide)) ?_))
            refine R.j gt_X8_trades_117 ?_
            rw [nI_inc]
            refine ih (i + 1) _ _ (by omega) (by omega) ?_
            rw [hcl, mx_wr_up, hI1, mx_rw_rw, mx_rw_at, ← cut_up]
            congr 2
            subst hb
            rw [f_tr]
            first
            | (rw [if_pos (Int32.not_le.mp h91)]; done)
            | (rw [if_neg (Int32.not_lt.mpr h91)]; rw [hI1, mx_rw_ne (by decide)] at h104; rw [h104]; done)
            | (rw [if_neg (Int32.not_lt.mpr h91)]; rw [hI1, mx_rw_ne (by decide)] at h104; rw [f_eq_one h104])
        · refine R.b bk_X8_trades_94 ?_
          refine R.j gt_X8_trades_95 ?_
          refine R.b bk_X8_trades_113 (And.intro (by first | rfl | assumption) (And.intro (by exact vp_in_nI (show i < 6 by omega) (by decide)) ?_))
          refine R.j gt_X8_trades_117 ?_
          rw [nI_inc]
          refine ih (i + 1) _ _ (by omega) (by omega) ?_
          rw [hcl, mx_wr_up, hI1, mx_rw_rw, mx_rw_at, ← cut_up]
          congr 2
          subst hb
          rw [f_tr]
          first
          | (rw [if_pos (Int32.not_le.mp h91)]; done)
          | (rw [if_neg (Int32.not_lt.mpr h91)]; rw [hI1, mx_rw_ne (by decide)] at h104; rw [h104]; done)
          | (rw [if_neg (Int32.not_lt.mpr h91)]; rw [hI1, mx_rw_ne (by decide)] at h104; rw [f_eq_one h104])
      have hB : ∀ (b c2 : Int32), b = f_b1 (M 108) i → X 127 M1 47 [some (.ref 103), some (.int (nI i)), some (.int c2)] [.int b] := by
        intro b c2 hb
        refine R.b bk_X8_trades_47 (And.intro (by first | rfl | assumption) (And.intro (by first | rfl | assumption) (And.intro (vp_lit rfl) ?_)))
        refine R.c br_X8_trades_57 (And.intro (fun h57 => ?_) (fun h57 => ?_))
        · refine R.b bk_X8_trades_83 ?_
          have hs1 : (nI i + 1).toNatClampNeg = i + 1 := cl_n (nI_1 i) (by omega)
          refine hC _ _ ?_
          subst hb
          rw [f_b2]
          first
          | (rw [if_neg (fun q => absurd (show M1 104 (Int32.toNatClampNeg 1) ≤ nI i + 1 from h57) (by rw [e1, nI_1]; exact nI_ge q.1 (by omega)))]; done)
          | (rw [hs1, hM8] at h69; rw [if_neg (fun q => absurd q.2 (Int32.not_lt.mpr h69))]; done)
          | (rw [hs1, hM8] at h69; rw [if_pos ⟨by have := nI_lt8 (by omega) (by omega) (show ¬ nI mm ≤ nI (i + 1) by rw [← nI_1, ← e1]; exact h57); omega, Int32.not_le.mp h69⟩, hs1, hM8]; done)
        · refine R.b bk_X8_trades_60 (And.intro (by first | rfl | assumption) (And.intro (by first | rfl | assumption) (And.intro (by exact vp_n (nI_1 i) (show i + 1 < 6 by have := nI_lt8 (by omega) (by omega) (show ¬ nI mm ≤ nI (i + 1) by rw [← nI_1, ← e1]; exact h57); omega) (by decide)) ?_)))
          refine R.c br_X8_trades_69 (And.intro (fun h69 => ?_) (fun h69 => ?_))
          · refine R.b bk_X8_trades_83 ?_
            have hs1 : (nI i + 1).toNatClampNeg = i + 1 := cl_n (nI_1 i) (by omega)
            refine hC _ _ ?_
            subst hb
            rw [f_b2]
            first
            | (rw [if_neg (fun q => absurd (show M1 104 (Int32.toNatClampNeg 1) ≤ nI i + 1 from h57) (by rw [e1, nI_1]; exact nI_ge q.1 (by omega)))]; done)
            | (rw [hs1, hM8] at h69; rw [if_neg (fun q => absurd q.2 (Int32.not_lt.mpr h69))]; done)
            | (rw [hs1, hM8] at h69; rw [if_pos ⟨by have := nI_lt8 (by omega) (by omega) (show ¬ nI mm ≤ nI (i + 1) by rw [← nI_1, ← e1]; exact h57); omega, Int32.not_le.mp h69⟩, hs1, hM8]; done)
          · refine R.b bk_X8_trades_72 (And.intro (by first | rfl | assumption) (And.intro (by first | rfl | assumption) (And.intro (by exact vp_n (nI_1 i) (show i + 1 < 6 by have := nI_lt8 (by omega) (by omega) (show ¬ nI mm ≤ nI (i + 1) by rw [← nI_1, ← e1]; exact h57); omega) (by decide)) ?_)))
            refine R.j gt_X8_trades_80 ?_
            have hs1 : (nI i + 1).toNatClampNeg = i + 1 := cl_n (nI_1 i) (by omega)
            refine hC _ _ ?_
            subst hb
            rw [f_b2]
            first
            | (rw [if_neg (fun q => absurd (show M1 104 (Int32.toNatClampNeg 1) ≤ nI i + 1 from h57) (by rw [e1, nI_1]; exact nI_ge q.1 (by omega)))]; done)
            | (rw [hs1, hM8] at h69; rw [if_neg (fun q => absurd q.2 (Int32.not_lt.mpr h69))]; done)
            | (rw [hs1, hM8] at h69; rw [if_pos ⟨by have := nI_lt8 (by omega) (by omega) (show ¬ nI mm ≤ nI (i + 1) by rw [← nI_1, ← e1]; exact h57); omega, Int32.not_le.mp h69⟩, hs1, hM8]; done)
      refine R.b bk_X8_trades_2 (And.intro (by first | rfl | assumption) (And.intro (by first | rfl | assumption) (And.intro (vp_lit rfl) ?_)))
      refine R.c br_X8_trades_9 (And.intro (fun h9 => absurd h9 (by rw [e1]; exact nI_ge hlt (by omega))) (fun h9 => ?_))
      refine R.b bk_X8_trades_12 (And.intro (by first | rfl | assumption) (And.intro (by first | rfl | assumption) (And.intro (vp_in_nI (show i < 6 by omega) (by decide)) ?_)))
      refine R.c br_X8_trades_20 (And.intro (fun h20 => ?_) (fun h20 => ?_))
      · refine R.b bk_X8_trades_46 ?_
        refine hB _ _ ?_
        rw [f_b1]
        first
        | (rw [if_neg (fun q => absurd h20 (nI_nle q.1 (by omega))), hcl, hM8]; done)
        | (rw [hs1, hcl, hM8] at h32; rw [if_neg (fun q => absurd q.2 (Int32.not_lt.mpr h32)), hcl, hM8]; done)
        | (rw [hs1, hcl, hM8] at h32; rw [if_pos ⟨h0, Int32.not_le.mp h32⟩, hs1, hM8]; done)
      · have h0 : 0 < i := Nat.pos_of_ne_zero (fun q => h20 (by rw [q]; decide))
        have hs1 : (nI i - 1).toNatClampNeg = i - 1 := cl_n (nI_dec i h0) (by omega)
        refine R.b bk_X8_trades_23 (And.intro (by first | rfl | assumption) (And.intro (by first | rfl | assumption) (And.intro (by exact vp_n (nI_dec i h0) (show i - 1 < 6 by omega) (by decide)) ?_)))
        refine R.c br_X8_trades_32 (And.intro (fun h32 => ?_) (fun h32 => ?_))
        · refine R.b bk_X8_trades_46 ?_
          refine hB _ _ ?_
          rw [f_b1]
          first
          | (rw [if_neg (fun q => absurd h20 (nI_nle q.1 (by omega))), hcl, hM8]; done)
          | (rw [hs1, hcl, hM8] at h32; rw [if_neg (fun q => absurd q.2 (Int32.not_lt.mpr h32)), hcl, hM8]; done)
          | (rw [hs1, hcl, hM8] at h32; rw [if_pos ⟨h0, Int32.not_le.mp h32⟩, hs1, hM8]; done)
        · refine R.b bk_X8_trades_35 (And.intro (by first | rfl | assumption) (And.intro (by first | rfl | assumption) (And.intro (by exact vp_n (nI_dec i h0) (show i - 1 < 6 by omega) (by decide)) ?_)))
          refine R.j gt_X8_trades_43 ?_
          refine hB _ _ ?_
          rw [f_b1]
          first
          | (rw [if_neg (fun q => absurd h20 (nI_nle q.1 (by omega))), hcl, hM8]; done)
          | (rw [hs1, hcl, hM8] at h32; rw [if_neg (fun q => absurd q.2 (Int32.not_lt.mpr h32)), hcl, hM8]; done)
          | (rw [hs1, hcl, hM8] at h32; rw [if_pos ⟨h0, Int32.not_le.mp h32⟩, hs1, hM8]; done)
  refine R.b bk_X8_trades_0 ?_
  exact hA mm 0 M _ rfl (Nat.zero_le _) (by rw [cut_0, mx_rw_id])
def f_tr0 (a : Rw) (d : Nat) : Rw := fun j => if j = d then f_eq (a (7 + 8 * d + 4)) (a 5) else -1
def A_trd (a : Rw) (mm d : Nat) : Nat → Rw
  | 0 => f_tr0 a d
  | n + 1 => cut mm (f_tr (A_go a (n + 1)) (A_trd a mm d n) mm) (A_trd a mm d n)
theorem f_tr_congr {a s s' : Rw} {mm j : Nat} (hm : mm ≤ 6) (h : ∀ j, j < 6 → s j = s' j) (hj : j < mm) : f_tr a s mm j = f_tr a s' mm j := by
  have e1 : f_b1 s j = f_b1 s' j := by
    unfold f_b1
    rw [h j (by omega), h (j - 1) (by omega)]
  have e2 : f_b2 s mm j = f_b2 s' mm j := by
    unfold f_b2
    rw [e1]
    by_cases hq : j + 1 < mm
    · rw [h (j + 1) (by omega)]
    · rw [if_neg (fun q => hq q.1), if_neg (fun q => hq q.1)]
  unfold f_tr
  rw [e2]
def A_mx (s : Rw) : Nat → Int32
  | 0 => 0
  | d + 1 => if A_mx s d < s d then s d else A_mx s d
theorem A_mx_congr {s s' : Rw} : ∀ n, (∀ j, j < n → s j = s' j) → A_mx s n = A_mx s' n
  | 0, _ => rfl
  | n + 1, h => by
    unfold A_mx
    rw [A_mx_congr n (fun j hj => h j (by omega)), h n (by omega)]
def F_trader (a : Rw) (d n : Int32) : Int32 := if isD a d = 0 ∨ f_in n 0 100 = 0 then (-1000000001) else A_mx (A_trd a (cN (a 1)) (cN d) (cN n)) (cN (a 1))
theorem c_X8_trader {l : Launch} {G : Gt} {M : Mm} {d n : Int32} {mm : Nat} (hV : VR (M 104) mm) : Runs l G true dm_X8_trader 6 127 [.ref 103, .int d, .int n] M 127 (Pi (fun x M1 => x = F_trader (M 104) d n ∧ ∀ q, q ≠ 107 → q ≠ 108 → q ≠ 109 → q ≠ 116 → q ≠ 117 → M1 q = M q)) := by
  refine mx_run ow_X8_trader rfl rfl (fun dp X hdp R => ?_)
  refine R.b bk_X8_trader_0 ?_
  refine R.V1i kc_X8_trader_2 (by first | rfl | assumption) (c_X8_isDistrict) (by omega) rfl ⟨Nat.le_refl _, Nat.le_refl _⟩ (fun x2 M2 q2 => ?_)
  obtain ⟨rfl, q2⟩ := q2
  replace q2 := q2.symm
  subst q2
  refine R.c br_X8_trader_5 (And.intro (fun h5 => ?_) (fun h5 => ?_))
  · refine R.b bk_X8_trader_18 ?_
    refine R.ri rt_X8_trader_20 rfl ⟨_, rfl, ?_⟩
    exact ⟨by simp_all [F_trader, isD], fun q _ _ _ _ _ => rfl⟩
  · refine R.b bk_X8_trader_8 ?_
    refine R.S3i kc_X8_trader_12 (c_X8_in) (by omega) rfl ⟨Nat.le_refl _, Nat.le_refl _⟩ (fun x12 M12 q12 => ?_)
    obtain ⟨rfl, q12⟩ := q12
    replace q12 := q12.symm
    subst q12
    refine R.c br_X8_trader_15 (And.intro (fun h15 => ?_) (fun h15 => ?_))
    · have hmm := hV.1
      obtain ⟨dn, hdn, rfl⟩ := f_in_dist (by omega) hV.2.1 h5
      have hcd : cN (nI dn) = dn := cN_nI (by omega)
      obtain ⟨nn, hnn, rfl⟩ := f_in_nat (n := 100) (by decide) h15
      have hcnn : cN (nI nn) = nn := cN_nI (by omega)
      refine R.b bk_X8_trader_21 ?_
      refine R.V0v kc_X8_trader_22 (by first | rfl | assumption) (c_X8_thinks) (by omega) rfl ⟨Nat.le_refl _, Nat.le_refl _⟩ (fun M22 q22 => ?_)
      replace q22 := q22.symm
      subst q22
      refine R.b bk_X8_trader_25 ?_
      have hG : ∀ (fu i : Nat) (M1 : Mm), mm - i = fu → i ≤ mm → (M1 104 = M 104) → (∀ q, q ≠ 107 → q ≠ 108 → q ≠ 109 → q ≠ 116 → q ≠ 117 → M1 q = M q) → (∀ j, j < 6 → M1 108 j = A_trd (M 104) mm dn nn j) → X 127 M1 99 [some (.ref 103), some (.int (nI dn)), some (.int (nI nn)), some (.int (A_mx (A_trd (M 104) mm dn nn) i)), some (.int (nI i))] [] := by
        intro fu
        induction fu with
        | zero =>
          intro i M1 hfu hi hI1 hI2 hI3
          have hiN : i = mm := by omega
          have e1 : M1 104 (Int32.toNatClampNeg 1) = nI mm := by rw [hI1]; exact hV.2.1
          refine R.b bk_X8_trader_99 (And.intro (by first | rfl | assumption) (And.intro (by first | rfl | assumption) (And.intro (by exact vp_lit rfl) ?_)))
          refine R.c br_X8_trader_107 (And.intro (fun h107 => ?_) (fun h107 => absurd (by rw [e1, hiN]; exact nI_le (Nat.le_refl mm) (by omega)) h107))
          refine R.b bk_X8_trader_139 ?_
          refine R.ri rt_X8_trader_140 rfl ⟨_, rfl, ?_⟩
          refine ⟨?_, hI2⟩
          unfold F_trader isD
          rw [if_neg (not_or.mpr ⟨h5, h15⟩), hcd, hcnn, hV.2.1, cN_nI (by omega), hiN]
        | succ fu ih =>
          intro i M1 hfu hi hI1 hI2 hI3
          have hlt : i < mm := by omega
          have e1 : M1 104 (Int32.toNatClampNeg 1) = nI mm := by rw [hI1]; exact hV.2.1
          have hcl : (nI i).toNatClampNeg = i := nI_clamp (by omega)
          refine R.b bk_X8_trader_99 (And.intro (by first | rfl | assumption) (And.intro (by first | rfl | assumption) (And.intro (vp_lit rfl) ?_)))
          refine R.c br_X8_trader_107 (And.intro (fun h107 => absurd h107 (by rw [e1]; exact nI_ge hlt (by omega))) (fun h107 => ?_))
          refine R.b bk_X8_trader_110 (And.intro (by first | rfl | assumption) (And.intro (by first | rfl | assumption) (And.intro (by exact vp_in_nI (show i < 6 by omega) (by decide)) ?_)))
          refine R.c br_X8_trader_118 (And.intro (fun h118 => ?_) (fun h118 => ?_))
          · refine R.b bk_X8_trader_131 ?_
            refine R.b bk_X8_trader_132 ?_
            refine R.j gt_X8_trader_136 ?_
            rw [nI_inc]
            have hx := ih (i + 1) M1 (by omega) (by omega) hI1 hI2 hI3
            rw [A_mx] at hx
            rw [hcl, hI3 i (by omega)] at h118
            first
            | (rw [if_neg (Int32.not_lt.mpr h118)] at hx; exact hx)
            | (rw [if_pos (Int32.not_le.mp h118)] at hx; rw [hcl, hI3 i (by omega)]; exact hx)
          · refine R.b bk_X8_trader_121 (And.intro (by first | rfl | assumption) (And.intro (by first | rfl | assumption) (And.intro (by exact vp_in_nI (show i < 6 by omega) (by decide)) ?_)))
            refine R.j gt_X8_trader_128 ?_
            refine R.b bk_X8_trader_132 ?_
            refine R.j gt_X8_trader_136 ?_
            rw [nI_inc]
            have hx := ih (i + 1) M1 (by omega) (by omega) hI1 hI2 hI3
            rw [A_mx] at hx
            rw [hcl, hI3 i (by omega)] at h118
            first
            | (rw [if_neg (Int32.not_lt.mpr h118)] at hx; exact hx)
            | (rw [if_pos (Int32.not_le.mp h118)] at hx; rw [hcl, hI3 i (by omega)]; exact hx)
      have hE : ∀ (fu i : Nat) (M1 : Mm) (c4 : Option Value), nn - i = fu → i ≤ nn → (M1 104 = A_go (M 104) i) → (∀ j, j < 6 → M1 108 j = A_trd (M 104) mm dn i j) → (∀ q, q ≠ 104 → q ≠ 108 → q ≠ 109 → q ≠ 116 → q ≠ 117 → M1 q = (mx_rw M 107 (cut 55 (M 104) (M 107))) q) → X 127 M1 69 [some (.ref 103), some (.int (nI dn)), some (.int (nI nn)), some (.int (nI i)), c4] [] := by
        intro fu
        induction fu with
        | zero =>
          intro i M1 c4 hfu hi hI1 hI2 hI3
          have hiN : i = nn := by omega
          refine R.b bk_X8_trader_69 ?_
          refine R.c br_X8_trader_71 (And.intro (fun h71 => ?_) (fun h71 => absurd (by rw [hiN]; exact nI_le (Nat.le_refl nn) (by omega)) h71))
          refine R.b bk_X8_trader_90 ?_
          refine R.V0v kc_X8_trader_91 (by first | rfl | assumption) (c_X8_putsBack) (by omega) rfl ⟨Nat.le_refl _, Nat.le_refl _⟩ (fun M91 q91 => ?_)
          have e91 : M91 104 = M 104 := by rw [q91, mx_rw_at, hI3 107 (by decide) (by decide) (by decide) (by decide) (by decide), mx_rw_at, hI1]; exact cut_back (fun j hj => A_go_keep hV hj i)
          have k91 : ∀ q, q ≠ 107 → q ≠ 108 → q ≠ 109 → q ≠ 116 → q ≠ 117 → M91 q = M q := by
            intro q g1 g2 g3 g4 g5
            by_cases hq : q = 104
            · subst hq; exact e91
            · rw [q91, mx_rw_ne hq, hI3 q hq g2 g3 g4 g5, mx_rw_ne g1]
          have s91 : ∀ j, j < 6 → M91 108 j = A_trd (M 104) mm dn nn j := fun j hj => by rw [q91, mx_rw_ne (by decide), hI2 j hj, hiN]
          refine R.b bk_X8_trader_94 ?_
          exact hG mm 0 M91 rfl (Nat.zero_le _) e91 k91 s91
        | succ fu ih =>
          intro i M1 c4 hfu hi hI1 hI2 hI3
          have hlt : i < nn := by omega
          refine R.b bk_X8_trader_69 ?_
          refine R.c br_X8_trader_71 (And.intro (fun h71 => absurd h71 (nI_ge hlt (by omega))) (fun h71 => ?_))
          refine R.b bk_X8_trader_74 ?_
          refine R.V0i kc_X8_trader_75 (by first | rfl | assumption) (c_X8_day (mm := mm) (by rw [hI1]; exact VR_go hV i)) (by omega) rfl ⟨Nat.le_refl _, Nat.le_refl _⟩ (fun x75 M75 q75 => ?_)
          obtain ⟨-, e75, f75⟩ := q75
          have g75 : M75 104 = A_go (M 104) (i + 1) := by rw [e75, hI1]; rfl
          have w75 : M75 108 = M1 108 := f75 108 (by decide) (by decide) (by decide)
          refine R.b bk_X8_trader_78 ?_
          refine R.V0v kc_X8_trader_81 (by first | rfl | assumption) (c_X8_trades hmm (by rw [g75]; exact (VR_go hV (i + 1)).2.1)) (by omega) rfl ⟨Nat.le_refl _, Nat.le_refl _⟩ (fun M81 q81 => ?_)
          obtain ⟨e81, f81⟩ := q81
          refine R.b bk_X8_trader_84 ?_
          refine R.j gt_X8_trader_87 ?_
          rw [nI_inc]
          refine ih (i + 1) M81 _ (by omega) (by omega) ?_ (fun j hj => ?_) ?_
          · rw [f81 104 (by decide) (by decide)]; exact g75
          · rw [e81, g75, w75, A_trd, cut, cut, hI2 j hj]
            by_cases hjm : j < mm
            · rw [if_pos hjm, if_pos hjm]; exact f_tr_congr hmm hI2 hjm
            · rw [if_neg hjm, if_neg hjm]
          · intro q g1 g2 g3 g4 g5
            rw [f81 q g2 g3, f75 q g1 g4 g5]
            exact hI3 q g1 g2 g3 g4 g5
      have hA : ∀ (fu i : Nat) (M1 : Mm), 6 - i = fu → i ≤ 6 → (M1 = mx_rw (mx_rw M 107 (cut 55 (M 104) (M 107))) 108 (cut i (f_tr0 (M 104) dn) (M 108))) → X 127 M1 27 [some (.ref 103), some (.int (nI dn)), some (.int (nI nn)), some (.int (nI i)), none] [] := by
        intro fu
        induction fu with
        | zero =>
          intro i M1 hfu hi hI1
          have hiN : i = 6 := by omega
          refine R.b bk_X8_trader_27 ?_
          refine R.c br_X8_trader_30 (And.intro (fun h30 => ?_) (fun h30 => absurd (by rw [hiN]; decide) h30))
          refine R.b bk_X8_trader_67 ?_
          refine hE nn 0 _ _ rfl (Nat.zero_le _) ?_ (fun j hj => ?_) ?_
          · rw [hI1, mx_rw_ne (by decide), mx_rw_ne (by decide)]; rfl
          · rw [hI1, mx_rw_at, hiN, cut, if_pos hj]; rfl
          · intro q g1 g2 g3 g4 g5
            rw [hI1, mx_rw_ne g2]
        | succ fu ih =>
          intro i M1 hfu hi hI1
          have hlt : i < 6 := by omega
          refine R.b bk_X8_trader_27 ?_
          refine R.c br_X8_trader_30 (And.intro (fun h30 => absurd h30 (nI_ge (b := 6) hlt (by decide))) (fun h30 => ?_))
          refine R.b bk_X8_trader_33 (And.intro (by first | rfl | assumption) ?_)
          refine R.c br_X8_trader_40 (And.intro (fun h40 => ?_) (fun h40 => ?_))
          · refine R.b bk_X8_trader_59 ?_
            refine R.b bk_X8_trader_60 (And.intro (by first | rfl | assumption) (And.intro (by exact vp_in_nI (show i < 6 by omega) (by decide)) ?_))
            refine R.j gt_X8_trader_64 ?_
            rw [nI_inc]
            refine ih (i + 1) _ (by omega) (by omega) ?_
            rw [nI_clamp (show i < 2 ^ 31 by omega), mx_wr_up, hI1, mx_rw_rw, mx_rw_at, ← cut_up i (f_tr0 (M 104) dn)]
            congr 2
            unfold f_tr0
            first
            | (rw [if_neg (fun q => h40 (by rw [q]))]; done)
            | (have hid : i = dn := (nI_eq (by omega) (by omega)).mp h40; rw [if_pos hid]; subst hid; rw [hI1, mx_rw_ne (by decide), mx_rw_ne (by decide)] at h48; rw [h48]; done)
            | (have hid : i = dn := (nI_eq (by omega) (by omega)).mp h40; rw [if_pos hid]; subst hid; rw [hI1, mx_rw_ne (by decide), mx_rw_ne (by decide)] at h48; rw [f_eq_one h48]; done)
          · refine R.b bk_X8_trader_43 ?_
            refine R.V1i kc_X8_trader_45 (by first | rfl | assumption) (c_X8_isFair (d := i) (by omega)) (by omega) rfl ⟨Nat.le_refl _, Nat.le_refl _⟩ (fun x45 M45 q45 => ?_)
            obtain ⟨rfl, q45⟩ := q45
            replace q45 := q45.symm
            subst q45
            refine R.c br_X8_trader_48 (And.intro (fun h48 => ?_) (fun h48 => ?_))
            · refine R.b bk_X8_trader_55 ?_
              refine R.j gt_X8_trader_56 ?_
              refine R.b bk_X8_trader_60 (And.intro (by first | rfl | assumption) (And.intro (by exact vp_in_nI (show i < 6 by omega) (by decide)) ?_))
              refine R.j gt_X8_trader_64 ?_
              rw [nI_inc]
              refine ih (i + 1) _ (by omega) (by omega) ?_
              rw [nI_clamp (show i < 2 ^ 31 by omega), mx_wr_up, hI1, mx_rw_rw, mx_rw_at, ← cut_up i (f_tr0 (M 104) dn)]
              congr 2
              unfold f_tr0
              first
              | (rw [if_neg (fun q => h40 (by rw [q]))]; done)
              | (have hid : i = dn := (nI_eq (by omega) (by omega)).mp h40; rw [if_pos hid]; subst hid; rw [hI1, mx_rw_ne (by decide), mx_rw_ne (by decide)] at h48; rw [h48]; done)
              | (have hid : i = dn := (nI_eq (by omega) (by omega)).mp h40; rw [if_pos hid]; subst hid; rw [hI1, mx_rw_ne (by decide), mx_rw_ne (by decide)] at h48; rw [f_eq_one h48]; done)
            · refine R.b bk_X8_trader_51 ?_
              refine R.j gt_X8_trader_52 ?_
              refine R.b bk_X8_trader_60 (And.intro (by first | rfl | assumption) (And.intro (by exact vp_in_nI (show i < 6 by omega) (by decide)) ?_))
              refine R.j gt_X8_trader_64 ?_
              rw [nI_inc]
              refine ih (i + 1) _ (by omega) (by omega) ?_
              rw [nI_clamp (show i < 2 ^ 31 by omega), mx_wr_up, hI1, mx_rw_rw, mx_rw_at, ← cut_up i (f_tr0 (M 104) dn)]
              congr 2
              unfold f_tr0
              first
              | (rw [if_neg (fun q => h40 (by rw [q]))]; done)
              | (have hid : i = dn := (nI_eq (by omega) (by omega)).mp h40; rw [if_pos hid]; subst hid; rw [hI1, mx_rw_ne (by decide), mx_rw_ne (by decide)] at h48; rw [h48]; done)
              | (have hid : i = dn := (nI_eq (by omega) (by omega)).mp h40; rw [if_pos hid]; subst hid; rw [hI1, mx_rw_ne (by decide), mx_rw_ne (by decide)] at h48; rw [f_eq_one h48]; done)
      exact hA 6 0 _ rfl (by decide) (by rw [cut_0]; exact (mx_rw_id (mx_rw M 107 (cut 55 (M 104) (M 107))) 108).symm)
    · refine R.b bk_X8_trader_18 ?_
      refine R.ri rt_X8_trader_20 rfl ⟨_, rfl, ?_⟩
      exact ⟨by simp_all [F_trader, isD], fun q _ _ _ _ _ => rfl⟩
