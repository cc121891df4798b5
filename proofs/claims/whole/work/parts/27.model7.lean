/-! the model's calls on days and thoughts -/
theorem f_in_1 {v b : Int32} {n : Nat} (hb : b.toInt = n) (h : ¬ f_in v 1 b = 0) : ∃ d, d ≤ n ∧ v = nI d := by
  obtain ⟨h1, h2⟩ := f_in_ne h
  exact nI_of2 hb (by rw [Int32.not_lt]; rw [Int32.le_iff_toInt_le] at h1 ⊢; have e1 : (1 : Int32).toInt = 1 := by decide
                      have e0 : (0 : Int32).toInt = 0 := by decide
                      omega) h2
theorem f_held_nat {v b : Int32} {n : Nat} (hb : b.toInt = n) : ∃ k, k ≤ n ∧ f_held v 0 b = nI k := by
  unfold f_held
  split
  · exact ⟨0, Nat.zero_le n, rfl⟩
  · split
    · have h0 : ¬ b < 0 := by
        rw [Int32.lt_iff_toInt_lt, hb]
        have e0 : (0 : Int32).toInt = 0 := by decide
        omega
      exact nI_of2 hb h0 (Int32.le_iff_toInt_le.mpr (Int.le_refl _))
    · rename_i h1 h2
      exact nI_of2 hb h1 (Int32.not_lt.mp h2)
def f_days (a : Rw) (n : Int32) : Nat := cN (f_held (99999 - a 2) 0 n)
def F_days (a : Rw) (n : Int32) : Int32 := if f_in n 1 300 = 0 then (-1000000001) else A_goW a (f_days a n)
def A_days (a : Rw) (n : Int32) : Rw := if f_in n 1 300 = 0 then a else A_go a (f_days a n)
def A_dl (a : Rw) : Nat → Rw
  | 0 => a
  | i + 1 => A_come (A_draw (A_draw (A_dl a i))) (f_rem (f_dr (f_dz (A_dl a i 0))) 6) (f_rem (f_dr (f_dz (A_draw (A_dl a i) 0))) 10)
def f_deal (a : Rw) (n : Int32) : Nat := min (cN n) (6 - cN (a 1))
def F_deal (a : Rw) (n : Int32) : Int32 := if f_in n 1 6 = 0 then (-1000000001) else nI (f_deal a n)
def A_deal (a : Rw) (n : Int32) : Rw := if f_in n 1 6 = 0 then a else A_dl a (f_deal a n)
theorem A_dl_1 {a : Rw} {m : Nat} (h : a 1 = nI m) : ∀ i, A_dl a i 1 = nI (m + i)
  | 0 => h
  | i + 1 => by
    unfold A_dl
    simp only [A_come, if_true]
    rw [A_draw, up_ne (by decide), A_draw, up_ne (by decide), A_dl_1 h i, nI_1]
    rfl
def F_fine (a : Rw) : Int32 := if A_cnt a 2 = -1 then 0 else A_ev a (cN (A_cnt a 2)) (fc3 (a 2) (A_sum a 5 (cN (a 1))) 0)
def F_count (a : Rw) (wt tp w : Int32) : Int32 := if w = 0 then a 1 else if w = 1 then a 2 else if w = 2 then a 3 else if w = 3 then a 4 else if w = 4 then a 5 else if w = 5 then A_sum a 7 (cN (a 1)) else if w = 6 then a 6 else if w = 7 then wt else if w = 8 then tp else if w = 9 then a 0 else (-1000000001)
def F_behind (a : Rw) (d n w : Int32) : Int32 := if isD a d = 0 ∨ f_in n 0 300 = 0 ∨ f_in w 0 4 = 0 then (-1000000001) else A_go a (cN n) (7 + 8 * cN d + (if w < 4 then 2 + cN w else 7))
theorem A_day_keep {a : Rw} {j mm : Nat} (hV : VR a mm) (h : 55 ≤ j) : A_day a j = a j := by
  have hm := hV.1
  unfold A_day
  rw [up_ne (by omega), show cN (a 1) = mm by rw [hV.2.1]; exact cN_nI (by omega), A_dayN_keep (by omega) mm (by omega)]
theorem A_go_keep {a : Rw} {j mm : Nat} (hV : VR a mm) (h : 55 ≤ j) : ∀ n, A_go a n j = a j
  | 0 => rfl
  | n + 1 => by
    unfold A_go
    rw [A_day_keep (VR_go hV n) h, A_go_keep hV h n]
theorem cut_back {a b r : Rw} (h : ∀ j, 55 ≤ j → b j = a j) : cut 55 (cut 55 a r) b = a := by
  funext j
  simp only [cut]
  by_cases h1 : j < 55
  · simp [h1]
  · simp [h1]
    exact h j (by omega)
theorem c_X8_days {l : Launch} {G : Gt} {M : Mm} {n : Int32} {mm : Nat} (hV : VR (M 104) mm) : Runs l G true dm_X8_days 6 127 [.ref 103, .int n] M 127 (Pi (fun x M1 => x = F_days (M 104) n ∧ M1 104 = A_days (M 104) n ∧ ∀ q, q ≠ 104 → q ≠ 116 → q ≠ 117 → M1 q = M q)) := by
  refine mx_run ow_X8_days rfl rfl (fun dp X hdp R => ?_)
  refine R.b bk_X8_days_0 ?_
  refine R.S3i kc_X8_days_5 (c_X8_in) (by omega) rfl ⟨Nat.le_refl _, Nat.le_refl _⟩ (fun x5 M5 q5 => ?_)
  obtain ⟨rfl, q5⟩ := q5
  replace q5 := q5.symm
  subst q5
  refine R.c br_X8_days_8 (And.intro (fun h8 => ?_) (fun h8 => ?_))
  · refine R.b bk_X8_days_32 ?_
    refine R.ri rt_X8_days_34 rfl ⟨_, rfl, ?_⟩
    first
    | (refine ⟨?_, ?_, f26⟩
       · rw [F_days, if_neg h8, f_days, ek, cN_nI (by omega)]
       · rw [A_days, if_neg h8, f_days, ek, cN_nI (by omega)]; exact e26)
    | exact ⟨by rw [F_days, if_pos h8], by rw [A_days, if_pos h8], fun q _ _ _ => rfl⟩
  · refine R.b bk_X8_days_11 (And.intro (by first | rfl | assumption) (And.intro (by first | rfl | assumption) (And.intro (by exact vp_lit rfl) ?_)))
    refine R.S3i kc_X8_days_23 (c_X8_within) (by omega) rfl ⟨Nat.le_refl _, Nat.le_refl _⟩ (fun x23 M23 q23 => ?_)
    obtain ⟨e23, q23⟩ := q23
    replace e23 : x23 = f_held (99999 - M 104 2) 0 n := e23
    replace q23 := q23.symm
    subst q23
    obtain ⟨nn, hnn, rfl⟩ := f_in_1 (n := 300) (by decide) h8
    obtain ⟨k, hk, ek⟩ := f_held_nat (v := 99999 - M 104 2) (b := nI nn) (nI_toInt (by omega))
    rw [ek] at e23
    subst e23
    refine R.V1i kc_X8_days_26 (by first | rfl | assumption) (c_X8_goesOn (n := k) (by omega) hV) (by omega) rfl ⟨Nat.le_refl _, Nat.le_refl _⟩ (fun x26 M26 q26 => ?_)
    obtain ⟨rfl, e26, f26⟩ := q26
    refine R.j gt_X8_days_29 ?_
    refine R.ri rt_X8_days_34 rfl ⟨_, rfl, ?_⟩
    first
    | (refine ⟨?_, ?_, f26⟩
       · rw [F_days, if_neg h8, f_days, ek, cN_nI (by omega)]
       · rw [A_days, if_neg h8, f_days, ek, cN_nI (by omega)]; exact e26)
    | exact ⟨by rw [F_days, if_pos h8], by rw [A_days, if_pos h8], fun q _ _ _ => rfl⟩
theorem c_X8_deal {l : Launch} {G : Gt} {M : Mm} {n : Int32} {m : Nat} (hm : m ≤ 6) (h1 : M 104 1 = nI m) : Runs l G true dm_X8_deal 2 127 [.ref 103, .int n] M 127 (Pi (fun x M1 => x = F_deal (M 104) n ∧ M1 = mx_rw M 104 (A_deal (M 104) n))) := by
  refine mx_run ow_X8_deal rfl rfl (fun dp X hdp R => ?_)
  refine R.b bk_X8_deal_0 ?_
  refine R.S3i kc_X8_deal_4 (c_X8_in) (by omega) rfl ⟨Nat.le_refl _, Nat.le_refl _⟩ (fun x4 M4 q4 => ?_)
  obtain ⟨rfl, q4⟩ := q4
  replace q4 := q4.symm
  subst q4
  refine R.c br_X8_deal_7 (And.intro (fun h7 => ?_) (fun h7 => ?_))
  · refine R.b bk_X8_deal_13 ?_
    obtain ⟨n, hn, rfl⟩ := f_in_1 (n := 6) (by decide) h7
    have hmin : f_deal (M 104) (nI n) = min n (6 - m) := by rw [f_deal, h1, cN_nI (by omega), cN_nI (by omega)]
    have hF : F_deal (M 104) (nI n) = nI (min n (6 - m)) := by rw [F_deal, if_neg h7, hmin]
    have hA' : A_deal (M 104) (nI n) = A_dl (M 104) (min n (6 - m)) := by rw [A_deal, if_neg h7, hmin]
    have hA : ∀ (fu i : Nat) (M1 : Mm) (c3 : Option Value) (c4 : Option Value), (min n (6 - m)) - i = fu → i ≤ (min n (6 - m)) → (M1 = mx_rw M 104 (A_dl (M 104) i)) → X 127 M1 15 [some (.ref 103), some (.int (nI n)), some (.int (nI i)), c3, c4] [] := by
      intro fu
      induction fu with
      | zero =>
        intro i M1 c3 c4 hfu hi hI1
        have hiN : i = (min n (6 - m)) := by omega
        have e1 : M1 104 1 = nI (m + i) := by rw [hI1, mx_rw_at]; exact A_dl_1 h1 i
        refine R.b bk_X8_deal_15 ?_
        refine R.c br_X8_deal_17 (And.intro (fun h17 => ?_) (fun h17 => ?_))
        · refine R.b bk_X8_deal_59 ?_
          refine R.ri rt_X8_deal_60 rfl ⟨_, rfl, ?_⟩
          exact ⟨by rw [hF, hiN], by rw [hI1, hA', hiN]⟩
        · refine R.b bk_X8_deal_20 (And.intro (by first | rfl | assumption) (And.intro (by first | rfl | assumption) (And.intro (by exact vp_lit rfl) ?_)))
          refine R.c br_X8_deal_28 (And.intro (fun h28 => ?_) (fun h28 => absurd (by rw [show M1 104 (Int32.toNatClampNeg 1) = nI (m + i) from e1]; exact nI_le (a := 6) (by have := nI_lt8 (by omega) (by omega) h17; omega) (by omega)) h28))
          refine R.b bk_X8_deal_59 ?_
          refine R.ri rt_X8_deal_60 rfl ⟨_, rfl, ?_⟩
          exact ⟨by rw [hF, hiN], by rw [hI1, hA', hiN]⟩
      | succ fu ih =>
        intro i M1 c3 c4 hfu hi hI1
        have hlt : i < (min n (6 - m)) := by omega
        have e1 : M1 104 1 = nI (m + i) := by rw [hI1, mx_rw_at]; exact A_dl_1 h1 i
        refine R.b bk_X8_deal_15 ?_
        refine R.c br_X8_deal_17 (And.intro (fun h17 => absurd h17 (nI_ge (by omega) (by omega))) (fun h17 => ?_))
        refine R.b bk_X8_deal_20 (And.intro (by first | rfl | assumption) (And.intro (by first | rfl | assumption) (And.intro (by exact vp_lit rfl) ?_)))
        refine R.c br_X8_deal_28 (And.intro (fun h28 => absurd h28 (by rw [show M1 104 (Int32.toNatClampNeg 1) = nI (m + i) from e1]; exact nI_ge (b := 6) (by omega) (by decide))) (fun h28 => ?_))
        refine R.b bk_X8_deal_31 ?_
        refine R.V0i kc_X8_deal_32 (by first | rfl | assumption) (c_X8_draw) (by omega) rfl ⟨Nat.le_refl _, Nat.le_refl _⟩ (fun x32 M32 q32 => ?_)
        obtain ⟨rfl, q32⟩ := q32
        replace q32 := q32.symm
        subst q32
        refine R.b bk_X8_deal_35 (And.intro (by decide) ?_)
        refine R.V0i kc_X8_deal_42 (by first | rfl | assumption) (c_X8_draw) (by omega) rfl ⟨Nat.le_refl _, Nat.le_refl _⟩ (fun x42 M42 q42 => ?_)
        obtain ⟨rfl, q42⟩ := q42
        replace q42 := q42.symm
        subst q42
        refine R.b bk_X8_deal_45 (And.intro (by decide) ?_)
        refine R.V2i kc_X8_deal_48 (by first | rfl | assumption) (c_X8_comes (m := m + i) (by omega) (by rw [mx_rw_at, A_draw, up_ne (by decide), mx_rw_at, A_draw, up_ne (by decide)]; exact e1)) (by omega) rfl ⟨Nat.le_refl _, Nat.le_refl _⟩ (fun x48 M48 q48 => ?_)
        obtain ⟨rfl, q48⟩ := q48
        replace q48 := q48.symm
        subst q48
        refine R.b bk_X8_deal_51 ?_
        refine R.j gt_X8_deal_56 ?_
        rw [nI_inc]
        refine ih (i + 1) _ _ _ (by omega) (by omega) ?_
        subst hI1
        simp only [mx_rw_rw, mx_rw_at]
        rfl
    exact hA (min n (6 - m)) 0 M _ _ rfl (Nat.zero_le _) (by rw [A_dl, mx_rw_id])
  · refine R.b bk_X8_deal_10 ?_
    refine R.ri rt_X8_deal_12 rfl ⟨_, rfl, ?_⟩
    exact ⟨by rw [F_deal, if_pos h7], by rw [A_deal, if_pos h7, mx_rw_id]⟩
