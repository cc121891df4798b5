/-! rows copied; sums; days one behind the other -/
def cut (n : Nat) (f g : Rw) : Rw := fun j => if j < n then f j else g j
theorem cut_0 (f g : Rw) : cut 0 f g = g := by
  funext j
  simp [cut]
theorem cut_up (i : Nat) (f g : Rw) : up (cut i f g) i (f i) = cut (i + 1) f g := by
  funext j
  simp only [up, cut]
  grind
theorem c_X8_thinks {l : Launch} {G : Gt} {M : Mm}  : Runs l G true dm_X8_thinks 0 127 [.ref 103] M 127 (Pv (fun M1 => M1 = mx_rw M 107 (cut 55 (M 104) (M 107)))) := by
  refine mx_run ow_X8_thinks rfl rfl (fun dp X hdp R => ?_)
  have hA : ∀ (fu i : Nat) (M1 : Mm), 55 - i = fu → i ≤ 55 → (M1 = mx_rw M 107 (cut i (M 104) (M 107))) → X 127 M1 2 [some (.ref 103), some (.int (nI i))] [] := by
    intro fu
    induction fu with
    | zero =>
      intro i M1 hfu hi hI1
      have hiN : i = 55 := by omega
      refine R.b bk_X8_thinks_2 ?_
      refine R.c br_X8_thinks_5 (And.intro (fun h5 => ?_) (fun h5 => absurd (by rw [hiN]; exact nI_le (Nat.le_refl 55) (by decide)) h5))
      refine R.rv rt_X8_thinks_26 ⟨rfl, ?_⟩
      subst hiN
      exact hI1
    | succ fu ih =>
      intro i M1 hfu hi hI1
      have hlt : i < 55 := by omega
      refine R.b bk_X8_thinks_2 ?_
      refine R.c br_X8_thinks_5 (And.intro (fun h5 => absurd h5 (nI_ge (a := i) (b := 55) hlt (by decide))) (fun h5 => ?_))
      refine R.b bk_X8_thinks_8 (And.intro (by first | rfl | assumption) (And.intro (by first | rfl | assumption) (And.intro (by first | rfl | assumption) (And.intro (by first | exact vp_in_nI (n := i) (N := 55) (by omega) (by decide) | exact vp_in_nI (n := i) (N := 1427) (by omega) (by decide)) (And.intro (by first | rfl | assumption) (And.intro (by first | exact vp_in_nI (n := i) (N := 55) (by omega) (by decide) | exact vp_in_nI (n := i) (N := 1427) (by omega) (by decide)) ?_))))))
      refine R.j gt_X8_thinks_23 ?_
      rw [nI_inc]
      refine ih (i + 1) _ (by omega) (by omega) ?_
      subst hI1
      rw [nI_clamp (by omega), mx_wr_up, mx_rw_rw, mx_rw_at, mx_rw_ne (show 104 ≠ 107 by omega)]
      rw [cut_up]
  refine R.b bk_X8_thinks_0 ?_
  exact hA 55 0 M rfl (by decide) (by rw [cut_0, mx_rw_id])
theorem c_X8_putsBack {l : Launch} {G : Gt} {M : Mm}  : Runs l G true dm_X8_putsBack 0 127 [.ref 103] M 127 (Pv (fun M1 => M1 = mx_rw M 104 (cut 55 (M 107) (M 104)))) := by
  refine mx_run ow_X8_putsBack rfl rfl (fun dp X hdp R => ?_)
  have hA : ∀ (fu i : Nat) (M1 : Mm), 55 - i = fu → i ≤ 55 → (M1 = mx_rw M 104 (cut i (M 107) (M 104))) → X 127 M1 2 [some (.ref 103), some (.int (nI i))] [] := by
    intro fu
    induction fu with
    | zero =>
      intro i M1 hfu hi hI1
      have hiN : i = 55 := by omega
      refine R.b bk_X8_putsBack_2 ?_
      refine R.c br_X8_putsBack_5 (And.intro (fun h5 => ?_) (fun h5 => absurd (by rw [hiN]; exact nI_le (Nat.le_refl 55) (by decide)) h5))
      refine R.rv rt_X8_putsBack_26 ⟨rfl, ?_⟩
      subst hiN
      exact hI1
    | succ fu ih =>
      intro i M1 hfu hi hI1
      have hlt : i < 55 := by omega
      refine R.b bk_X8_putsBack_2 ?_
      refine R.c br_X8_putsBack_5 (And.intro (fun h5 => absurd h5 (nI_ge (a := i) (b := 55) hlt (by decide))) (fun h5 => ?_))
      refine R.b bk_X8_putsBack_8 (And.intro (by first | rfl | assumption) (And.intro (by first | rfl | assumption) (And.intro (by first | rfl | assumption) (And.intro (by first | exact vp_in_nI (n := i) (N := 55) (by omega) (by decide) | exact vp_in_nI (n := i) (N := 1427) (by omega) (by decide)) (And.intro (by first | rfl | assumption) (And.intro (by first | exact vp_in_nI (n := i) (N := 55) (by omega) (by decide) | exact vp_in_nI (n := i) (N := 1427) (by omega) (by decide)) ?_))))))
      refine R.j gt_X8_putsBack_23 ?_
      rw [nI_inc]
      refine ih (i + 1) _ (by omega) (by omega) ?_
      subst hI1
      rw [nI_clamp (by omega), mx_wr_up, mx_rw_rw, mx_rw_at, mx_rw_ne (show 107 ≠ 104 by omega)]
      rw [cut_up]
  refine R.b bk_X8_putsBack_0 ?_
  exact hA 55 0 M rfl (by decide) (by rw [cut_0, mx_rw_id])
theorem c_X8_copyAll {l : Launch} {G : Gt} {M : Mm} {k1 k2 : Nat} (hk1 : kd k1 = (11, 1427)) (hk2 : kd k2 = (11, 1427)) (hne : k1 ≠ k2) : Runs l G true dm_X8_copyAll 0 127 [.ref k1, .ref k2] M 127 (Pv (fun M1 => M1 = mx_rw M k2 (cut 1427 (M k1) (M k2)))) := by
  refine mx_run ow_X8_copyAll rfl rfl (fun dp X hdp R => ?_)
  have hq1 : (kd k1).1 = 11 := by rw [hk1]
  have hq2 : (kd k2).1 = 11 := by rw [hk2]
  have hA : ∀ (fu i : Nat) (M1 : Mm), 1427 - i = fu → i ≤ 1427 → (M1 = mx_rw M k2 (cut i (M k1) (M k2))) → X 127 M1 2 [some (.ref k1), some (.ref k2), some (.int (nI i))] [] := by
    intro fu
    induction fu with
    | zero =>
      intro i M1 hfu hi hI1
      have hiN : i = 1427 := by omega
      refine R.b bk_X8_copyAll_2 ?_
      refine R.c br_X8_copyAll_6 (And.intro (fun h6 => ?_) (fun h6 => absurd (by rw [hiN]; exact nI_le (Nat.le_refl 1427) (by decide)) h6))
      refine R.rv rt_X8_copyAll_21 ⟨rfl, ?_⟩
      subst hiN
      exact hI1
    | succ fu ih =>
      intro i M1 hfu hi hI1
      have hlt : i < 1427 := by omega
      refine R.b bk_X8_copyAll_2 ?_
      refine R.c br_X8_copyAll_6 (And.intro (fun h6 => absurd h6 (nI_ge (a := i) (b := 1427) hlt (by decide))) (fun h6 => ?_))
      refine R.b bk_X8_copyAll_9 (And.intro (by first | rfl | assumption) (And.intro (by exact vp_in_nI (by show _ < _; first | omega | (rw [hk1]; omega) | (rw [hk2]; omega)) (by first | decide | (rw [hk1]; decide) | (rw [hk2]; decide))) (And.intro (by first | rfl | assumption) (And.intro (by exact vp_in_nI (by show _ < _; first | omega | (rw [hk1]; omega) | (rw [hk2]; omega)) (by first | decide | (rw [hk1]; decide) | (rw [hk2]; decide))) ?_))))
      refine R.j gt_X8_copyAll_18 ?_
      rw [nI_inc]
      refine ih (i + 1) _ (by omega) (by omega) ?_
      subst hI1
      rw [nI_clamp (by omega), mx_wr_up, mx_rw_rw, mx_rw_at, mx_rw_ne (show k1 ≠ k2 by exact hne)]
      rw [cut_up]
  refine R.b bk_X8_copyAll_0 ?_
  exact hA 1427 0 M rfl (by decide) (by rw [cut_0, mx_rw_id])
def A_sum (a : Rw) (w : Nat) : Nat → Int32
  | 0 => 0
  | d + 1 => A_sum a w d + a (7 + 8 * d + w)
def A_fairs (a : Rw) : Nat → Int32
  | 0 => 0
  | d + 1 => A_fairs a d + f_eq (a (7 + 8 * d + 4)) (a 5)
theorem c_X8_sumOf {l : Launch} {G : Gt} {M : Mm} {w m : Nat} (hw : w < 8) (hm : m ≤ 6) (h1 : M 104 1 = nI m) : Runs l G true dm_X8_sumOf 1 127 [.ref 103, .int (nI w)] M 127 (Pi (fun x M1 => x = A_sum (M 104) w m ∧ M1 = M)) := by
  refine mx_run ow_X8_sumOf rfl rfl (fun dp X hdp R => ?_)
  have hA : ∀ (fu i : Nat) , m - i = fu → i ≤ m → X 127 M 4 [some (.ref 103), some (.int (nI w)), some (.int (A_sum (M 104) w i)), some (.int (nI i))] [] := by
    intro fu
    induction fu with
    | zero =>
      intro i  hfu hi 
      have hiN : i = m := by omega
      refine R.b bk_X8_sumOf_4 (And.intro (by first | rfl | assumption) (And.intro (by first | rfl | assumption) (And.intro (by exact vp_lit rfl) ?_)))
      refine R.c br_X8_sumOf_11 (And.intro (fun h11 => ?_) (fun h11 => absurd (by rw [show M 104 (Int32.toNatClampNeg 1) = nI m from h1]; exact nI_le (by omega) (by omega)) h11))
      refine R.b bk_X8_sumOf_29 ?_
      refine R.ri rt_X8_sumOf_30 rfl ⟨_, rfl, ?_⟩
      subst hiN
      exact ⟨rfl, rfl⟩
    | succ fu ih =>
      intro i  hfu hi 
      have hlt : i < m := by omega
      refine R.b bk_X8_sumOf_4 (And.intro (by first | rfl | assumption) (And.intro (by first | rfl | assumption) (And.intro (by exact vp_lit rfl) ?_)))
      refine R.c br_X8_sumOf_11 (And.intro (fun h11 => absurd h11 (by rw [show M 104 (Int32.toNatClampNeg 1) = nI m from h1]; exact nI_ge hlt (by omega))) (fun h11 => ?_))
      refine R.b bk_X8_sumOf_14 ?_
      refine R.V2i kc_X8_sumOf_18 (by first | rfl | assumption) (c_X8_of (d := i) (w := w) (by omega)) (by omega) rfl ⟨Nat.le_refl _, Nat.le_refl _⟩ (fun x18 M18 q18 => ?_)
      obtain ⟨rfl, q18⟩ := q18
      replace q18 := q18.symm
      subst q18
      refine R.b bk_X8_sumOf_21 ?_
      refine R.j gt_X8_sumOf_26 ?_
      rw [nI_inc]
      exact ih (i + 1) (by omega) (by omega)
  refine R.b bk_X8_sumOf_0 ?_
  exact hA m 0 rfl (Nat.zero_le m)
theorem c_X8_fairs {l : Launch} {G : Gt} {M : Mm} {m : Nat} (hm : m ≤ 6) (h1 : M 104 1 = nI m) : Runs l G true dm_X8_fairs 2 127 [.ref 103] M 127 (Pi (fun x M1 => x = A_fairs (M 104) m ∧ M1 = M)) := by
  refine mx_run ow_X8_fairs rfl rfl (fun dp X hdp R => ?_)
  have hA : ∀ (fu i : Nat) , m - i = fu → i ≤ m → X 127 M 4 [some (.ref 103), some (.int (A_fairs (M 104) i)), some (.int (nI i))] [] := by
    intro fu
    induction fu with
    | zero =>
      intro i  hfu hi 
      have hiN : i = m := by omega
      refine R.b bk_X8_fairs_4 (And.intro (by first | rfl | assumption) (And.intro (by first | rfl | assumption) (And.intro (by exact vp_lit rfl) ?_)))
      refine R.c br_X8_fairs_11 (And.intro (fun h11 => ?_) (fun h11 => absurd (by rw [show M 104 (Int32.toNatClampNeg 1) = nI m from h1]; exact nI_le (by omega) (by omega)) h11))
      refine R.b bk_X8_fairs_36 ?_
      refine R.ri rt_X8_fairs_37 rfl ⟨_, rfl, ?_⟩
      subst hiN
      exact ⟨rfl, rfl⟩
    | succ fu ih =>
      intro i  hfu hi 
      have hlt : i < m := by omega
      refine R.b bk_X8_fairs_4 (And.intro (by first | rfl | assumption) (And.intro (by first | rfl | assumption) (And.intro (by exact vp_lit rfl) ?_)))
      refine R.c br_X8_fairs_11 (And.intro (fun h11 => absurd h11 (by rw [show M 104 (Int32.toNatClampNeg 1) = nI m from h1]; exact nI_ge hlt (by omega))) (fun h11 => ?_))
      refine R.b bk_X8_fairs_14 ?_
      refine R.V1i kc_X8_fairs_17 (by first | rfl | assumption) (c_X8_isFair (d := i) (by omega)) (by omega) rfl ⟨Nat.le_refl _, Nat.le_refl _⟩ (fun x17 M17 q17 => ?_)
      obtain ⟨rfl, q17⟩ := q17
      replace q17 := q17.symm
      subst q17
      refine R.c br_X8_fairs_20 (And.intro (fun h20 => ?_) (fun h20 => ?_))
      · refine R.b bk_X8_fairs_27 ?_
        refine R.b bk_X8_fairs_28 ?_
        refine R.j gt_X8_fairs_33 ?_
        rw [nI_inc]
        have hx := ih (i + 1) (by omega) (by omega)
        rw [A_fairs] at hx
        unfold f_eq at h20 hx
        split at hx
        · rename_i hq
          first | exact hx | (rw [if_pos hq] at h20; exact absurd h20 (by decide))
        · rename_i hq
          first | exact hx | (rw [if_neg hq] at h20; exact absurd rfl h20)
      · refine R.b bk_X8_fairs_23 ?_
        refine R.j gt_X8_fairs_24 ?_
        refine R.b bk_X8_fairs_28 ?_
        refine R.j gt_X8_fairs_33 ?_
        rw [nI_inc]
        have hx := ih (i + 1) (by omega) (by omega)
        rw [A_fairs] at hx
        unfold f_eq at h20 hx
        split at hx
        · rename_i hq
          first | exact hx | (rw [if_pos hq] at h20; exact absurd h20 (by decide))
        · rename_i hq
          first | exact hx | (rw [if_neg hq] at h20; exact absurd rfl h20)
  refine R.b bk_X8_fairs_0 ?_
  exact hA m 0 rfl (Nat.zero_le m)
def A_go (a : Rw) : Nat → Rw
  | 0 => a
  | n + 1 => A_day (A_go a n)
def A_goW (a : Rw) : Nat → Int32
  | 0 => 0
  | n + 1 => A_goW a n + A_wk (A_go a n)
theorem VR_go {a : Rw} {mm : Nat} (h : VR a mm) : ∀ n, VR (A_go a n) mm
  | 0 => h
  | n + 1 => VR_day (VR_go h n)
theorem c_X8_goesOn {l : Launch} {G : Gt} {M : Mm} {n mm : Nat} (hn : n ≤ 1000) (hV : VR (M 104) mm) : Runs l G true dm_X8_goesOn 5 127 [.ref 103, .int (nI n)] M 127 (Pi (fun x M1 => x = A_goW (M 104) n ∧ M1 104 = A_go (M 104) n ∧ ∀ q, q ≠ 104 → q ≠ 116 → q ≠ 117 → M1 q = M q)) := by
  refine mx_run ow_X8_goesOn rfl rfl (fun dp X hdp R => ?_)
  have hA : ∀ (fu i : Nat) (M1 : Mm), n - i = fu → i ≤ n → (M1 104 = A_go (M 104) i) → (∀ q, q ≠ 104 → q ≠ 116 → q ≠ 117 → M1 q = M q) → X 127 M1 4 [some (.ref 103), some (.int (nI n)), some (.int (A_goW (M 104) i)), some (.int (nI i))] [] := by
    intro fu
    induction fu with
    | zero =>
      intro i M1 hfu hi hI1 hI2
      have hiN : i = n := by omega
      refine R.b bk_X8_goesOn_4 ?_
      refine R.c br_X8_goesOn_6 (And.intro (fun h6 => ?_) (fun h6 => absurd (by rw [hiN]; exact nI_le (Nat.le_refl n) (by omega)) h6))
      refine R.b bk_X8_goesOn_22 ?_
      refine R.ri rt_X8_goesOn_23 rfl ⟨_, rfl, ?_⟩
      subst hiN
      exact ⟨rfl, hI1, hI2⟩
    | succ fu ih =>
      intro i M1 hfu hi hI1 hI2
      have hlt : i < n := by omega
      refine R.b bk_X8_goesOn_4 ?_
      refine R.c br_X8_goesOn_6 (And.intro (fun h6 => absurd h6 (nI_ge hlt (by omega))) (fun h6 => ?_))
      refine R.b bk_X8_goesOn_9 ?_
      refine R.V0i kc_X8_goesOn_11 (by first | rfl | assumption) (c_X8_day (mm := mm) (by rw [hI1]; exact VR_go hV i)) (by omega) rfl ⟨Nat.le_refl _, Nat.le_refl _⟩ (fun x11 M11 q11 => ?_)
      obtain ⟨rfl, e11, f11⟩ := q11
      refine R.b bk_X8_goesOn_14 ?_
      refine R.j gt_X8_goesOn_19 ?_
      rw [nI_inc]
      have hx := ih (i + 1) M11 (by omega) (by omega) (by rw [e11, hI1]; rfl) (fun q g1 g2 g3 => by rw [f11 q g1 g2 g3]; exact hI2 q g1 g2 g3)
      rw [A_goW] at hx
      rw [hI1]
      exact hx
  refine R.b bk_X8_goesOn_0 ?_
  exact hA n 0 M rfl (Nat.zero_le n) rfl (fun q _ _ _ => rfl)
