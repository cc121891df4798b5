/-! the class's days and thoughts -/
theorem A_day_g {a : Rw} {mm j : Nat} (hV : VR a mm) (h0 : j ≠ 0) (h2 : j ≠ 2) (h : j < 7) : A_day a j = a j := by
  have hm := hV.1
  unfold A_day
  rw [up_ne h2, show cN (a 1) = mm by rw [hV.2.1]; exact cN_nI (by omega), A_dayN_keep h0 mm (Or.inl h)]
theorem A_go_g {a : Rw} {mm j : Nat} (hV : VR a mm) (h0 : j ≠ 0) (h2 : j ≠ 2) (h : j < 7) : ∀ n, A_go a n j = a j
  | 0 => rfl
  | n + 1 => by
    unfold A_go
    rw [A_day_g (VR_go hV n) h0 h2 h, A_go_g hV h0 h2 h n]
theorem T14 {a : Rw} (hV : VT a) : cN (a 6) ≤ 14 := by
  obtain ⟨T, q1, q2, -⟩ := hV
  rw [q2, cN_nI (by omega)]
  exact q1
theorem RLw_go {M M1 : Mm} {a : Rw} {mm : Nat} (hV : VR a mm) (hM : ∀ q, 14 ≤ q → q < 42 → M1 q = M q) (hL : RLw M a) (n : Nat) : RLw M1 (A_go a n) :=
  RLw_congr hM (fun j hj => by rcases hj with rfl | hj; exact A_go_g hV (by decide) (by decide) (by decide) n; exact A_go_keep hV hj n) (T14 hV.2.2.1) hL
theorem bit63 (i : Nat) (h : i < 6) : (((63 : Int32) >>> (nI i &&& 31)) &&& 1) = 1 ↔ Sall i = true := by
  have h2 : ∀ i, i < 6 → ((((63 : Int32) >>> (nI i &&& 31)) &&& 1) = 1 ↔ Sall i = true) := by decide +kernel
  exact h2 i h
abbrev Sone (d : Nat) : Nat → Bool := fun e => decide (e = d)
abbrev Stwo (d d2 : Nat) : Nat → Bool := fun e => decide (e = d) || decide (e = d2)
theorem bit1 (d i : Nat) (hd : d < 6) (h : i < 6) : ((((1 : Int32) <<< (nI d &&& 31)) >>> (nI i &&& 31)) &&& 1) = 1 ↔ Sone d i = true := by
  have h2 : ∀ d, d < 6 → ∀ i, i < 6 → (((((1 : Int32) <<< (nI d &&& 31)) >>> (nI i &&& 31)) &&& 1) = 1 ↔ Sone d i = true) := by decide +kernel
  exact h2 d hd i h
theorem bit2 (d e i : Nat) (hd : d < 6) (he : e < 6) (h : i < 6) : (((((1 : Int32) <<< (nI d &&& 31)) ||| ((1 : Int32) <<< (nI e &&& 31))) >>> (nI i &&& 31)) &&& 1) = 1 ↔ Stwo d e i = true := by
  have h2 : ∀ d, d < 6 → ∀ e, e < 6 → ∀ i, i < 6 → ((((((1 : Int32) <<< (nI d &&& 31)) ||| ((1 : Int32) <<< (nI e &&& 31))) >>> (nI i &&& 31)) &&& 1) = 1 ↔ Stwo d e i = true) := by decide +kernel
  exact h2 d hd e he i h
theorem wkS_all (a : Rw) : ∀ n, A_wkS a Sall n = A_wkN a n
  | 0 => rfl
  | n + 1 => by
    unfold A_wkS A_wkN
    rw [if_pos rfl, wkS_all a n]
theorem wkS_lo (a : Rw) (d : Nat) : ∀ n, n ≤ d → A_wkS a (Sone d) n = 0
  | 0, _ => rfl
  | n + 1, h => by
    unfold A_wkS
    rw [if_neg (by simp only [Sone, decide_eq_true_eq]; omega), wkS_lo a d n (by omega)]
theorem wkS_one (a : Rw) (d : Nat) : ∀ n, d < n → A_wkS a (Sone d) n = A_wkD (A_dayN a d) d
  | 0, h => absurd h (Nat.not_lt_zero d)
  | n + 1, h => by
    unfold A_wkS
    by_cases hd : n = d
    · subst hd
      rw [if_pos (by simp [Sone]), wkS_lo a n n (Nat.le_refl n), Int32.zero_add]
    · rw [if_neg (by simp only [Sone, decide_eq_true_eq]; exact hd), wkS_one a d n (by omega)]
theorem days_min {a : Rw} {dy n : Nat} (h2 : a 2 = nI dy) (hdy : dy ≤ 99999) (hn : n ≤ 1000) : (99999 : Int32) - a 2 = nI (99999 - dy) ∧ f_days a (nI n) = min n (99999 - dy) := by
  have e : (99999 : Int32) - a 2 = nI (99999 - dy) := by rw [h2]; exact pk_sub (a := 99999) hdy
  refine ⟨e, ?_⟩
  unfold f_days f_held
  rw [e, if_neg (nI_pos (by omega))]
  by_cases h : n < 99999 - dy
  · rw [if_pos (nI_lt h (by omega)), cN_nI (by omega), Nat.min_eq_left (by omega)]
  · rw [if_neg (nI_nlt (by omega) (by omega)), cN_nI (by omega), Nat.min_eq_right (by omega)]
theorem c_X7_days {l : Launch} {G : Gt} {M : Mm} {n : Int32} {a : Rw} {mm : Nat} (hV : VP a mm) (hR : RW M 70 a Sall mm) (hL : RLw M a) (hB : VB a mm 99999) : Runs l G true dm_X7_days 5 127 [.ref 0, .int n] M 127 (Pi (fun x M1 => x = F_days a n ∧ RN M1 70 (A_days a n) ∧ ∀ q, ¬ (70 ≤ q ∧ q < 81) → M1 q = M q)) := by
  refine mx_run ow_X7_days rfl rfl (fun dp X hdp R => ?_)
  have hm6 := hV.1.1
  have h4m : M 70 4 = nI mm := hR.2.1.trans hR.1
  have hDD : ∀ d, d < mm → ∀ f, f < 8 → M (70 + 5 + d) f = a (7 + 8 * d + f) := fun d hd f hf => hR.2.2.2.2.2.2.2.2.2 d hd rfl f hf
  have hisD : ∀ v, isD a v = f_in v 0 (nI mm - 1) := fun v => by rw [isD, hR.1]
  refine R.b bk_X7_days_0 ?_
  refine R.S3i kc_X7_days_5 (c_X7_within) (by omega) rfl ⟨Nat.le_refl _, Nat.le_refl _⟩ (fun x5 M5 q5 => ?_)
  obtain ⟨rfl, q5⟩ := q5
  replace q5 := q5.symm
  subst q5
  refine R.c br_X7_days_8 (And.intro (fun h8 => ?_) (fun h8 => ?_))
  · obtain ⟨n, hn, rfl⟩ := f_in_1 (n := 300) (by decide) h8
    obtain ⟨dy, hdy, hd2, -⟩ := id hB
    obtain ⟨eS, eF⟩ := days_min (n := n) hd2 hdy (by omega)
    have hF : A_goW a (min n (99999 - dy)) = F_days a (nI n) := by rw [F_days, if_neg h8, eF]
    have hA' : A_days a (nI n) = A_go a (min n (99999 - dy)) := by rw [A_days, if_neg h8, eF]
    have hA : ∀ (fu i : Nat) (M1 : Mm), (min n (99999 - dy)) - i = fu → i ≤ (min n (99999 - dy)) → (RW M1 70 (A_go a i) Sall mm) → (∀ q, ¬ (70 ≤ q ∧ q < 81) → M1 q = M q) → X 127 M1 34 [some (.ref 0), some (.int (nI n)), some (.int (nI (min n (99999 - dy)))), some (.int (A_goW a i)), some (.int (nI i))] [] := by
      intro fu
      induction fu with
      | zero =>
        intro i M1 hfu hi hI1 hI2
        have hiN : i = (min n (99999 - dy)) := by omega
        refine R.b bk_X7_days_34 ?_
        refine R.c br_X7_days_37 (And.intro (fun h37 => ?_) (fun h37 => absurd (by rw [hiN]; exact nI_le (Nat.le_refl _) (by omega)) h37))
        refine R.b bk_X7_days_58 ?_
        refine R.ri rt_X7_days_59 rfl ⟨_, rfl, ?_⟩
        exact ⟨by rw [hiN]; exact hF, by rw [hA', ← hiN]; exact RN_of hm6 hI1, hI2⟩
      | succ fu ih =>
        intro i M1 hfu hi hI1 hI2
        have hlt : i < (min n (99999 - dy)) := by omega
        refine R.b bk_X7_days_34 ?_
        refine R.c br_X7_days_37 (And.intro (fun h37 => absurd h37 (nI_ge hlt (by omega))) (fun h37 => ?_))
        refine R.b bk_X7_days_40 (And.intro (by first | rfl | assumption | exact kdE KW_70 (by omega) | exact KW_70.2.2.2.2.2.2.2.2.1 _ (by omega) | exact kdE KW_92 (by omega) | exact KW_92.2.2.2.2.2.2.2.2.1 _ (by omega)) ?_)
        refine R.V1i kc_X7_days_47 (by first | rfl | assumption | exact kdE KW_70 (by omega) | exact KW_70.2.2.2.2.2.2.2.2.1 _ (by omega) | exact kdE KW_92 (by omega) | exact KW_92.2.2.2.2.2.2.2.2.1 _ (by omega)) (c_X6_liveDay KW_70 (VP_go hV i) hI1 (RLw_go hV.1 (fun q q1 q2 => hI2 q (by omega)) hL i) (fun j hj => bit63 j (by omega))) (by omega) rfl ⟨Nat.le_refl _, Nat.le_refl _⟩ (fun x47 M47 q47 => ?_)
        obtain ⟨e47, r47, f47⟩ := q47
        refine R.b bk_X7_days_50 ?_
        refine R.j gt_X7_days_55 ?_
        rw [nI_inc]
        have hx := ih (i + 1) M47 (by omega) (by omega) r47 (fun q hq => by rw [f47 q (by omega)]; exact hI2 q hq)
        have ew : A_goW a (i + 1) = A_goW a i + x47 := by rw [A_goW, e47, wkS_all, A_wk, (VP_go hV i).1.2.1, cN_nI (by omega)]
        rw [ew] at hx
        exact hx
    refine R.b bk_X7_days_14 (And.intro (by first | rfl | assumption | exact kdE KW_70 (by omega) | exact KW_70.2.2.2.2.2.2.2.2.1 _ (by omega) | exact kdE KW_92 (by omega) | exact KW_92.2.2.2.2.2.2.2.2.1 _ (by omega)) (And.intro (by first | rfl | assumption | exact kdE KW_70 (by omega) | exact KW_70.2.2.2.2.2.2.2.2.1 _ (by omega) | exact kdE KW_92 (by omega) | exact KW_92.2.2.2.2.2.2.2.2.1 _ (by omega)) ?_))
    refine R.min kc_X7_days_25 (by omega) rfl (Nat.le_refl _) ?_
    refine R.b bk_X7_days_28 ?_
    have e6 : (99999 : Int32) - M 70 (389 % 64) = nI (99999 - dy) := by
      rw [show M 70 (389 % 64) = a 2 from hR.2.2.1]
      exact eS
    rw [e6, min_i (by omega) (by omega)]
    exact hA _ 0 M rfl (Nat.zero_le _) hR (fun q _ => rfl)
  · refine R.b bk_X7_days_11 ?_
    refine R.ri rt_X7_days_13 rfl ⟨_, rfl, ?_⟩
    exact ⟨by rw [F_days, if_pos h8], by rw [A_days, if_pos h8]; exact RN_of hm6 hR, fun q _ => rfl⟩
theorem c_X7_thinkFromNow {l : Launch} {G : Gt} {M : Mm} {a : Rw} {mm : Nat} (hV : VP a mm) (hR : RW M 70 a Sall mm) : Runs l G true dm_X7_thinkFromNow 2 127 [.ref 0] M 127 (Pv (fun M1 => RW M1 92 a Sall mm ∧ ∀ q, ¬ (92 ≤ q ∧ q < 103) → M1 q = M q)) := by
  refine mx_run ow_X7_thinkFromNow rfl rfl (fun dp X hdp R => ?_)
  have hm6 := hV.1.1
  have h4m : M 70 4 = nI mm := hR.2.1.trans hR.1
  have hDD : ∀ d, d < mm → ∀ f, f < 8 → M (70 + 5 + d) f = a (7 + 8 * d + f) := fun d hd f hf => hR.2.2.2.2.2.2.2.2.2 d hd rfl f hf
  have hisD : ∀ v, isD a v = f_in v 0 (nI mm - 1) := fun v => by rw [isD, hR.1]
  refine R.b bk_X7_thinkFromNow_0 (And.intro (by first | rfl | assumption | exact kdE KW_70 (by omega) | exact KW_70.2.2.2.2.2.2.2.2.1 _ (by omega) | exact kdE KW_92 (by omega) | exact KW_92.2.2.2.2.2.2.2.2.1 _ (by omega)) (And.intro (by first | rfl | assumption | exact kdE KW_70 (by omega) | exact KW_70.2.2.2.2.2.2.2.2.1 _ (by omega) | exact kdE KW_92 (by omega) | exact KW_92.2.2.2.2.2.2.2.2.1 _ (by omega)) ?_))
  refine R.V1v kc_X7_thinkFromNow_8 (by first | rfl | assumption | exact kdE KW_70 (by omega) | exact KW_70.2.2.2.2.2.2.2.2.1 _ (by omega) | exact kdE KW_92 (by omega) | exact KW_92.2.2.2.2.2.2.2.2.1 _ (by omega)) (c_X6_becomeLike KW_92 KW_70 (by decide) hm6 hR) (by omega) rfl ⟨Nat.le_refl _, Nat.le_refl _⟩ (fun M8 q8 => ?_)
  refine R.rv rt_X7_thinkFromNow_11 ⟨rfl, ?_⟩
  exact q8
theorem c_X7_thinkOn {l : Launch} {G : Gt} {M : Mm} {who : Int32} {n : Nat} {a : Rw} {mm : Nat} {S : Nat → Bool} (hn : n ≤ 1000) (hV : VP a mm) (hR : RW M 92 a S mm) (hL : RLw M a) (hS : ∀ i, i < mm → (((who >>> (nI i &&& 31)) &&& 1) = 1 ↔ S i = true)) : Runs l G true dm_X7_thinkOn 5 127 [.ref 0, .int (nI n), .int who] M 127 (Pv (fun M1 => RW M1 92 (A_go a n) S mm ∧ ∀ q, ¬ (92 ≤ q ∧ q < 103) → M1 q = M q)) := by
  refine mx_run ow_X7_thinkOn rfl rfl (fun dp X hdp R => ?_)
  have hA : ∀ (fu i : Nat) (M1 : Mm), n - i = fu → i ≤ n → (RW M1 92 (A_go a i) S mm) → (∀ q, ¬ (92 ≤ q ∧ q < 103) → M1 q = M q) → X 127 M1 2 [some (.ref 0), some (.int (nI n)), some (.int who), some (.int (nI i))] [] := by
    intro fu
    induction fu with
    | zero =>
      intro i M1 hfu hi hI1 hI2
      have hiN : i = n := by omega
      refine R.b bk_X7_thinkOn_2 ?_
      refine R.c br_X7_thinkOn_4 (And.intro (fun h4 => ?_) (fun h4 => absurd (by rw [hiN]; exact nI_le (Nat.le_refl _) (by omega)) h4))
      refine R.rv rt_X7_thinkOn_22 ⟨rfl, ?_⟩
      subst hiN
      exact ⟨hI1, hI2⟩
    | succ fu ih =>
      intro i M1 hfu hi hI1 hI2
      have hlt : i < n := by omega
      refine R.b bk_X7_thinkOn_2 ?_
      refine R.c br_X7_thinkOn_4 (And.intro (fun h4 => absurd h4 (nI_ge hlt (by omega))) (fun h4 => ?_))
      refine R.b bk_X7_thinkOn_7 (And.intro (by first | rfl | assumption | exact kdE KW_70 (by omega) | exact KW_70.2.2.2.2.2.2.2.2.1 _ (by omega) | exact kdE KW_92 (by omega) | exact KW_92.2.2.2.2.2.2.2.2.1 _ (by omega)) ?_)
      refine R.V1i kc_X7_thinkOn_12 (by first | rfl | assumption | exact kdE KW_70 (by omega) | exact KW_70.2.2.2.2.2.2.2.2.1 _ (by omega) | exact kdE KW_92 (by omega) | exact KW_92.2.2.2.2.2.2.2.2.1 _ (by omega)) (c_X6_liveDay KW_92 (VP_go hV i) hI1 (RLw_go hV.1 (fun q q1 q2 => hI2 q (by omega)) hL i) hS) (by omega) rfl ⟨Nat.le_refl _, Nat.le_refl _⟩ (fun x12 M12 q12 => ?_)
      obtain ⟨e12, r12, f12⟩ := q12
      refine R.b bk_X7_thinkOn_15 ?_
      refine R.j gt_X7_thinkOn_19 ?_
      rw [nI_inc]
      exact ih (i + 1) M12 (by omega) (by omega) r12 (fun q hq => by rw [f12 q (by omega)]; exact hI2 q hq)
  refine R.b bk_X7_thinkOn_0 ?_
  exact hA n 0 M rfl (Nat.zero_le _) hR (fun q _ => rfl)
theorem c_X7_behind {l : Launch} {G : Gt} {M : Mm} {d n w : Int32} {a : Rw} {mm : Nat} (hV : VP a mm) (hR : RW M 70 a Sall mm) (hL : RLw M a) : Runs l G true dm_X7_behind 6 127 [.ref 0, .int d, .int n, .int w] M 127 (Pi (fun x M1 => x = F_behind a d n w ∧ ∀ q, ¬ (92 ≤ q ∧ q < 103) → M1 q = M q)) := by
  refine mx_run ow_X7_behind rfl rfl (fun dp X hdp R => ?_)
  have hm6 := hV.1.1
  have h4m : M 70 4 = nI mm := hR.2.1.trans hR.1
  have hDD : ∀ d, d < mm → ∀ f, f < 8 → M (70 + 5 + d) f = a (7 + 8 * d + f) := fun d hd f hf => hR.2.2.2.2.2.2.2.2.2 d hd rfl f hf
  have hisD : ∀ v, isD a v = f_in v 0 (nI mm - 1) := fun v => by rw [isD, hR.1]
  refine R.b bk_X7_behind_0 (And.intro (by first | rfl | assumption | exact kdE KW_70 (by omega) | exact KW_70.2.2.2.2.2.2.2.2.1 _ (by omega) | exact kdE KW_92 (by omega) | exact KW_92.2.2.2.2.2.2.2.2.1 _ (by omega)) ?_)
  refine R.V1i kc_X7_behind_5 (by first | rfl | assumption | exact kdE KW_70 (by omega) | exact KW_70.2.2.2.2.2.2.2.2.1 _ (by omega) | exact kdE KW_92 (by omega) | exact KW_92.2.2.2.2.2.2.2.2.1 _ (by omega)) (c_X6_has KW_70 hm6 h4m) (by omega) rfl ⟨Nat.le_refl _, Nat.le_refl _⟩ (fun x5 M5 q5 => ?_)
  obtain ⟨rfl, q5⟩ := q5
  replace q5 := q5.symm
  subst q5
  refine R.c br_X7_behind_8 (And.intro (fun h8 => ?_) (fun h8 => ?_))
  · refine R.b bk_X7_behind_31 ?_
    refine R.ri rt_X7_behind_33 rfl ⟨_, rfl, ?_⟩
    exact ⟨by rw [F_behind, hisD, if_pos (by simp_all)], fun q _ => rfl⟩
  · refine R.b bk_X7_behind_11 ?_
    refine R.S3i kc_X7_behind_16 (c_X7_within) (by omega) rfl ⟨Nat.le_refl _, Nat.le_refl _⟩ (fun x16 M16 q16 => ?_)
    obtain ⟨rfl, q16⟩ := q16
    replace q16 := q16.symm
    subst q16
    refine R.c br_X7_behind_19 (And.intro (fun h19 => ?_) (fun h19 => ?_))
    · refine R.b bk_X7_behind_31 ?_
      refine R.ri rt_X7_behind_33 rfl ⟨_, rfl, ?_⟩
      exact ⟨by rw [F_behind, hisD, if_pos (by simp_all)], fun q _ => rfl⟩
    · refine R.b bk_X7_behind_22 ?_
      refine R.S3i kc_X7_behind_25 (c_X7_within) (by omega) rfl ⟨Nat.le_refl _, Nat.le_refl _⟩ (fun x25 M25 q25 => ?_)
      obtain ⟨rfl, q25⟩ := q25
      replace q25 := q25.symm
      subst q25
      refine R.c br_X7_behind_28 (And.intro (fun h28 => ?_) (fun h28 => ?_))
      · obtain ⟨dn, hdn, rfl⟩ := f_in_dist (by omega) rfl h8
        have hcdn : cN (nI dn) = dn := cN_nI (by omega)
        obtain ⟨nn, hnn, rfl⟩ := f_in_nat (n := 300) (by decide) h19
        have hcnn : cN (nI nn) = nn := cN_nI (by omega)
        refine R.b bk_X7_behind_34 ?_
        refine R.V0v kc_X7_behind_35 (by first | rfl | assumption | exact kdE KW_70 (by omega) | exact KW_70.2.2.2.2.2.2.2.2.1 _ (by omega) | exact kdE KW_92 (by omega) | exact KW_92.2.2.2.2.2.2.2.2.1 _ (by omega)) (c_X7_thinkFromNow hV hR) (by omega) rfl ⟨Nat.le_refl _, Nat.le_refl _⟩ (fun M35 q35 => ?_)
        obtain ⟨r35, f35⟩ := q35
        have l35 : RLw M35 a := RLw_congr (fun q q1 q2 => f35 q (by omega)) (fun _ _ => rfl) (T14 hV.1.2.2.1) hL
        refine R.b bk_X7_behind_38 ?_
        refine R.S1i kc_X7_behind_41 (c_X7_only) (by omega) rfl ⟨Nat.le_refl _, Nat.le_refl _⟩ (fun x41 M41 q41 => ?_)
        obtain ⟨rfl, q41⟩ := q41
        replace q41 := q41.symm
        subst q41
        refine R.V2v kc_X7_behind_44 (by first | rfl | assumption | exact kdE KW_70 (by omega) | exact KW_70.2.2.2.2.2.2.2.2.1 _ (by omega) | exact kdE KW_92 (by omega) | exact KW_92.2.2.2.2.2.2.2.2.1 _ (by omega)) (c_X7_thinkOn (n := nn) (S := Sone dn) (a := a) (by omega) hV (RW_S r35 (fun _ _ _ => rfl)) l35 (fun j hj => bit1 dn j (by omega) (by omega))) (by omega) rfl ⟨Nat.le_refl _, Nat.le_refl _⟩ (fun M44 q44 => ?_)
        obtain ⟨r44, f44⟩ := q44
        have d44 : ∀ f, f < 8 → M44 (92 + 5 + dn) f = A_go a nn (7 + 8 * dn + f) := fun f hf => r44.2.2.2.2.2.2.2.2.2 dn hdn (by simp [Sone]) f hf
        refine R.b bk_X7_behind_47 (And.intro (by first | rfl | assumption | exact kdE KW_70 (by omega) | exact KW_70.2.2.2.2.2.2.2.2.1 _ (by omega) | exact kdE KW_92 (by omega) | exact KW_92.2.2.2.2.2.2.2.2.1 _ (by omega)) (And.intro (by first | rfl | assumption | exact kdE KW_70 (by omega) | exact KW_70.2.2.2.2.2.2.2.2.1 _ (by omega) | exact kdE KW_92 (by omega) | exact KW_92.2.2.2.2.2.2.2.2.1 _ (by omega)) (And.intro ⟨by decide, by decide, rfl⟩ (And.intro (by first | rfl | assumption | exact kdE KW_70 (by omega) | exact KW_70.2.2.2.2.2.2.2.2.1 _ (by omega) | exact kdE KW_92 (by omega) | exact KW_92.2.2.2.2.2.2.2.2.1 _ (by omega)) (And.intro (by exact vp_in_nI (show dn < 6 by omega) (by decide)) ?_)))))
        rw [el13 (w := 92) (show dn < 6 by omega)]
        refine R.s sw_X7_behind_59 (And.intro (fun h59_0 => ?_) (fun h59_0 => And.intro (fun h59_1 => ?_) (fun h59_1 => And.intro (fun h59_2 => ?_) (fun h59_2 => And.intro (fun h59_3 => ?_) (fun h59_3 => ?_)))))
        · refine R.b bk_X7_behind_88 (And.intro (by first | rfl | assumption | exact kdE KW_70 (by omega) | exact KW_70.2.2.2.2.2.2.2.2.1 _ (by omega) | exact kdE KW_92 (by omega) | exact KW_92.2.2.2.2.2.2.2.2.1 _ (by omega)) ?_)
          refine R.ri rt_X7_behind_93 rfl ⟨_, rfl, ?_⟩
          refine ⟨?_, fun q hq => by rw [f44 q hq]; exact f35 q hq⟩
          subst h59_0
          rw [F_behind, hisD, if_neg (by simp_all), hcdn, hcnn]
          exact d44 2 (by decide)
        · refine R.b bk_X7_behind_94 (And.intro (by first | rfl | assumption | exact kdE KW_70 (by omega) | exact KW_70.2.2.2.2.2.2.2.2.1 _ (by omega) | exact kdE KW_92 (by omega) | exact KW_92.2.2.2.2.2.2.2.2.1 _ (by omega)) ?_)
          refine R.ri rt_X7_behind_99 rfl ⟨_, rfl, ?_⟩
          refine ⟨?_, fun q hq => by rw [f44 q hq]; exact f35 q hq⟩
          subst h59_1
          rw [F_behind, hisD, if_neg (by simp_all), hcdn, hcnn]
          exact d44 3 (by decide)
        · refine R.b bk_X7_behind_100 (And.intro (by first | rfl | assumption | exact kdE KW_70 (by omega) | exact KW_70.2.2.2.2.2.2.2.2.1 _ (by omega) | exact kdE KW_92 (by omega) | exact KW_92.2.2.2.2.2.2.2.2.1 _ (by omega)) ?_)
          refine R.ri rt_X7_behind_105 rfl ⟨_, rfl, ?_⟩
          refine ⟨?_, fun q hq => by rw [f44 q hq]; exact f35 q hq⟩
          subst h59_2
          rw [F_behind, hisD, if_neg (by simp_all), hcdn, hcnn]
          exact d44 4 (by decide)
        · refine R.b bk_X7_behind_106 (And.intro (by first | rfl | assumption | exact kdE KW_70 (by omega) | exact KW_70.2.2.2.2.2.2.2.2.1 _ (by omega) | exact kdE KW_92 (by omega) | exact KW_92.2.2.2.2.2.2.2.2.1 _ (by omega)) ?_)
          refine R.ri rt_X7_behind_111 rfl ⟨_, rfl, ?_⟩
          refine ⟨?_, fun q hq => by rw [f44 q hq]; exact f35 q hq⟩
          subst h59_3
          rw [F_behind, hisD, if_neg (by simp_all), hcdn, hcnn]
          exact d44 5 (by decide)
        · refine R.b bk_X7_behind_112 (And.intro (by first | rfl | assumption | exact kdE KW_70 (by omega) | exact KW_70.2.2.2.2.2.2.2.2.1 _ (by omega) | exact kdE KW_92 (by omega) | exact KW_92.2.2.2.2.2.2.2.2.1 _ (by omega)) ?_)
          refine R.ri rt_X7_behind_117 rfl ⟨_, rfl, ?_⟩
          refine ⟨?_, fun q hq => by rw [f44 q hq]; exact f35 q hq⟩
          obtain ⟨wn, hwn, rfl⟩ := f_in_nat (n := 4) (by decide) h28
          have hw4 : wn = 4 := by
            rcases (show wn = 0 ∨ wn = 1 ∨ wn = 2 ∨ wn = 3 ∨ wn = 4 by omega) with rfl | rfl | rfl | rfl | rfl
            · exact absurd rfl h59_0
            · exact absurd rfl h59_1
            · exact absurd rfl h59_2
            · exact absurd rfl h59_3
            · rfl
          subst hw4
          rw [F_behind, hisD, if_neg (by simp_all), hcdn, hcnn]
          exact d44 7 (by decide)
      · refine R.b bk_X7_behind_31 ?_
        refine R.ri rt_X7_behind_33 rfl ⟨_, rfl, ?_⟩
        exact ⟨by rw [F_behind, hisD, if_pos (by simp_all)], fun q _ => rfl⟩
theorem c_X7_meets {l : Launch} {G : Gt} {M : Mm} {d e : Int32} {a : Rw} {mm : Nat} (hV : VP a mm) (hR : RW M 70 a Sall mm) (hL : RLw M a) : Runs l G true dm_X7_meets 5 127 [.ref 0, .int d, .int e] M 127 (Pi (fun x M1 => x = F_meets a d e ∧ ∀ q, ¬ (92 ≤ q ∧ q < 103) → M1 q = M q)) := by
  refine mx_run ow_X7_meets rfl rfl (fun dp X hdp R => ?_)
  have hm6 := hV.1.1
  have h4m : M 70 4 = nI mm := hR.2.1.trans hR.1
  have hDD : ∀ d, d < mm → ∀ f, f < 8 → M (70 + 5 + d) f = a (7 + 8 * d + f) := fun d hd f hf => hR.2.2.2.2.2.2.2.2.2 d hd rfl f hf
  have hisD : ∀ v, isD a v = f_in v 0 (nI mm - 1) := fun v => by rw [isD, hR.1]
  refine R.b bk_X7_meets_0 (And.intro (by first | rfl | assumption | exact kdE KW_70 (by omega) | exact KW_70.2.2.2.2.2.2.2.2.1 _ (by omega) | exact kdE KW_92 (by omega) | exact KW_92.2.2.2.2.2.2.2.2.1 _ (by omega)) ?_)
  refine R.V1i kc_X7_meets_5 (by first | rfl | assumption | exact kdE KW_70 (by omega) | exact KW_70.2.2.2.2.2.2.2.2.1 _ (by omega) | exact kdE KW_92 (by omega) | exact KW_92.2.2.2.2.2.2.2.2.1 _ (by omega)) (c_X6_has KW_70 hm6 h4m) (by omega) rfl ⟨Nat.le_refl _, Nat.le_refl _⟩ (fun x5 M5 q5 => ?_)
  obtain ⟨rfl, q5⟩ := q5
  replace q5 := q5.symm
  subst q5
  refine R.c br_X7_meets_8 (And.intro (fun h8 => ?_) (fun h8 => ?_))
  · refine R.b bk_X7_meets_22 ?_
    refine R.ri rt_X7_meets_24 rfl ⟨_, rfl, ?_⟩
    exact ⟨by rw [F_meets, hisD, hisD, if_pos (by simp_all)], fun q _ => rfl⟩
  · refine R.b bk_X7_meets_11 (And.intro (by first | rfl | assumption | exact kdE KW_70 (by omega) | exact KW_70.2.2.2.2.2.2.2.2.1 _ (by omega) | exact kdE KW_92 (by omega) | exact KW_92.2.2.2.2.2.2.2.2.1 _ (by omega)) ?_)
    refine R.V1i kc_X7_meets_16 (by first | rfl | assumption | exact kdE KW_70 (by omega) | exact KW_70.2.2.2.2.2.2.2.2.1 _ (by omega) | exact kdE KW_92 (by omega) | exact KW_92.2.2.2.2.2.2.2.2.1 _ (by omega)) (c_X6_has KW_70 hm6 h4m) (by omega) rfl ⟨Nat.le_refl _, Nat.le_refl _⟩ (fun x16 M16 q16 => ?_)
    obtain ⟨rfl, q16⟩ := q16
    replace q16 := q16.symm
    subst q16
    refine R.c br_X7_meets_19 (And.intro (fun h19 => ?_) (fun h19 => ?_))
    · obtain ⟨dn, hdn, rfl⟩ := f_in_dist (by omega) rfl h8
      have hcdn : cN (nI dn) = dn := cN_nI (by omega)
      obtain ⟨en, hen, rfl⟩ := f_in_dist (by omega) rfl h19
      have hcen : cN (nI en) = en := cN_nI (by omega)
      have hnb : ¬ (isD a (nI dn) = 0 ∨ isD a (nI en) = 0) := by rw [hisD, hisD]; exact fun q => q.elim h8 h19
      have hA : ∀ (fu i : Nat) (M1 : Mm), 201 - i = fu → i ≤ 201 → (RW M1 92 (A_go a i) (Stwo dn en) mm) → (∀ q, ¬ (92 ≤ q ∧ q < 103) → M1 q = M q) → (A_mt a dn en 201 0 = A_mt a dn en (201 - i) i) → X 127 M1 31 [some (.ref 0), some (.int (nI dn)), some (.int (nI en)), some (.int (nI i))] [] := by
        intro fu
        induction fu with
        | zero =>
          intro i M1 hfu hi hI1 hI2 hI3
          have hiN : i = 201 := by omega
          refine R.b bk_X7_meets_31 ?_
          refine R.c br_X7_meets_35 (And.intro (fun h35 => ?_) (fun h35 => absurd (by rw [hiN]; decide) h35))
          refine R.b bk_X7_meets_87 ?_
          refine R.ri rt_X7_meets_89 rfl ⟨_, rfl, ?_⟩
          refine ⟨?_, hI2⟩
          rw [F_meets, if_neg hnb, hcdn, hcen, hI3, hiN, A_mt, if_neg (by decide)]
        | succ fu ih =>
          intro i M1 hfu hi hI1 hI2 hI3
          have hlt : i < 201 := by omega
          have hm92 : M1 92 4 = nI mm := hI1.2.1.trans hI1.1
          refine R.b bk_X7_meets_31 ?_
          refine R.c br_X7_meets_35 (And.intro (fun h35 => absurd h35 (nI_nlt (a := 200) (b := i) (by omega) (by decide))) (fun h35 => ?_))
          refine R.b bk_X7_meets_38 (And.intro (by first | rfl | assumption | exact kdE KW_70 (by omega) | exact KW_70.2.2.2.2.2.2.2.2.1 _ (by omega) | exact kdE KW_92 (by omega) | exact KW_92.2.2.2.2.2.2.2.2.1 _ (by omega)) ?_)
          refine R.V1i kc_X7_meets_43 (by first | rfl | assumption | exact kdE KW_70 (by omega) | exact KW_70.2.2.2.2.2.2.2.2.1 _ (by omega) | exact kdE KW_92 (by omega) | exact KW_92.2.2.2.2.2.2.2.2.1 _ (by omega)) (c_X6_fairAt KW_92 (d := dn) hm6 hm92 hdn) (by omega) rfl ⟨Nat.le_refl _, Nat.le_refl _⟩ (fun x43 M43 q43 => ?_)
          obtain ⟨e43, q43⟩ := q43
          replace q43 := q43.symm
          subst q43
          replace e43 : x43 = f_eq (A_go a i (7 + 8 * dn + 4)) (A_go a i 5) := by rw [e43, hI1.2.2.2.2.2.2.2.2.2 dn hdn (by simp [Stwo]) 4 (by decide), hI1.2.2.2.2.2.1]
          refine R.b bk_X7_meets_46 ?_
          refine R.c br_X7_meets_47 (And.intro (fun h47 => ?_) (fun h47 => ?_))
          · refine R.b bk_X7_meets_64 (And.intro (by first | rfl | assumption | exact kdE KW_70 (by omega) | exact KW_70.2.2.2.2.2.2.2.2.1 _ (by omega) | exact kdE KW_92 (by omega) | exact KW_92.2.2.2.2.2.2.2.2.1 _ (by omega)) ?_)
            refine R.S1i kc_X7_meets_69 (c_X7_only) (by omega) rfl ⟨Nat.le_refl _, Nat.le_refl _⟩ (fun x69 M69 q69 => ?_)
            obtain ⟨rfl, q69⟩ := q69
            replace q69 := q69.symm
            subst q69
            refine R.b bk_X7_meets_72 ?_
            refine R.S1i kc_X7_meets_73 (c_X7_only) (by omega) rfl ⟨Nat.le_refl _, Nat.le_refl _⟩ (fun x73 M73 q73 => ?_)
            obtain ⟨rfl, q73⟩ := q73
            replace q73 := q73.symm
            subst q73
            refine R.b bk_X7_meets_76 ?_
            refine R.V1i kc_X7_meets_77 (by first | rfl | assumption | exact kdE KW_70 (by omega) | exact KW_70.2.2.2.2.2.2.2.2.1 _ (by omega) | exact kdE KW_92 (by omega) | exact KW_92.2.2.2.2.2.2.2.2.1 _ (by omega)) (c_X6_liveDay KW_92 (VP_go hV i) hI1 (RLw_go hV.1 (fun q q1 q2 => hI2 q (by omega)) hL i) (fun j hj => bit2 dn en j (by omega) (by omega) (by omega))) (by omega) rfl ⟨Nat.le_refl _, Nat.le_refl _⟩ (fun x77 M77 q77 => ?_)
            obtain ⟨e77, r77, f77⟩ := q77
            refine R.b bk_X7_meets_80 ?_
            refine R.j gt_X7_meets_84 ?_
            rw [nI_inc]
            refine ih (i + 1) M77 (by omega) (by omega) r77 (fun q hq => by rw [f77 q (by omega)]; exact hI2 q hq) ?_
            rw [hI3, show 201 - i = (201 - (i + 1)) + 1 by omega, A_mt]
            refine if_neg (fun hq => ?_)
            first
            | (rw [e43, f_eq, if_pos hq.1] at h47; exact absurd rfl h47)
            | (have q1 := h59; rw [e55, f_eq, if_pos hq.2] at q1; exact absurd rfl q1)
          · refine R.b bk_X7_meets_50 (And.intro (by first | rfl | assumption | exact kdE KW_70 (by omega) | exact KW_70.2.2.2.2.2.2.2.2.1 _ (by omega) | exact kdE KW_92 (by omega) | exact KW_92.2.2.2.2.2.2.2.2.1 _ (by omega)) ?_)
            refine R.V1i kc_X7_meets_55 (by first | rfl | assumption | exact kdE KW_70 (by omega) | exact KW_70.2.2.2.2.2.2.2.2.1 _ (by omega) | exact kdE KW_92 (by omega) | exact KW_92.2.2.2.2.2.2.2.2.1 _ (by omega)) (c_X6_fairAt KW_92 (d := en) hm6 hm92 hen) (by omega) rfl ⟨Nat.le_refl _, Nat.le_refl _⟩ (fun x55 M55 q55 => ?_)
            obtain ⟨e55, q55⟩ := q55
            replace q55 := q55.symm
            subst q55
            replace e55 : x55 = f_eq (A_go a i (7 + 8 * en + 4)) (A_go a i 5) := by rw [e55, hI1.2.2.2.2.2.2.2.2.2 en hen (by simp [Stwo]) 4 (by decide), hI1.2.2.2.2.2.1]
            refine R.b bk_X7_meets_58 ?_
            refine R.c br_X7_meets_59 (And.intro (fun h59 => ?_) (fun h59 => ?_))
            · refine R.b bk_X7_meets_64 (And.intro (by first | rfl | assumption | exact kdE KW_70 (by omega) | exact KW_70.2.2.2.2.2.2.2.2.1 _ (by omega) | exact kdE KW_92 (by omega) | exact KW_92.2.2.2.2.2.2.2.2.1 _ (by omega)) ?_)
              refine R.S1i kc_X7_meets_69 (c_X7_only) (by omega) rfl ⟨Nat.le_refl _, Nat.le_refl _⟩ (fun x69 M69 q69 => ?_)
              obtain ⟨rfl, q69⟩ := q69
              replace q69 := q69.symm
              subst q69
              refine R.b bk_X7_meets_72 ?_
              refine R.S1i kc_X7_meets_73 (c_X7_only) (by omega) rfl ⟨Nat.le_refl _, Nat.le_refl _⟩ (fun x73 M73 q73 => ?_)
              obtain ⟨rfl, q73⟩ := q73
              replace q73 := q73.symm
              subst q73
              refine R.b bk_X7_meets_76 ?_
              refine R.V1i kc_X7_meets_77 (by first | rfl | assumption | exact kdE KW_70 (by omega) | exact KW_70.2.2.2.2.2.2.2.2.1 _ (by omega) | exact kdE KW_92 (by omega) | exact KW_92.2.2.2.2.2.2.2.2.1 _ (by omega)) (c_X6_liveDay KW_92 (VP_go hV i) hI1 (RLw_go hV.1 (fun q q1 q2 => hI2 q (by omega)) hL i) (fun j hj => bit2 dn en j (by omega) (by omega) (by omega))) (by omega) rfl ⟨Nat.le_refl _, Nat.le_refl _⟩ (fun x77 M77 q77 => ?_)
              obtain ⟨e77, r77, f77⟩ := q77
              refine R.b bk_X7_meets_80 ?_
              refine R.j gt_X7_meets_84 ?_
              rw [nI_inc]
              refine ih (i + 1) M77 (by omega) (by omega) r77 (fun q hq => by rw [f77 q (by omega)]; exact hI2 q hq) ?_
              rw [hI3, show 201 - i = (201 - (i + 1)) + 1 by omega, A_mt]
              refine if_neg (fun hq => ?_)
              first
              | (rw [e43, f_eq, if_pos hq.1] at h47; exact absurd rfl h47)
              | (have q1 := h59; rw [e55, f_eq, if_pos hq.2] at q1; exact absurd rfl q1)
            · refine R.b bk_X7_meets_62 ?_
              refine R.ri rt_X7_meets_63 rfl ⟨_, rfl, ?_⟩
              refine ⟨?_, fun q hq => hI2 q hq⟩
              have h1 : A_go a i (7 + 8 * dn + 4) = A_go a i 5 := by
                apply Classical.byContradiction
                intro hn
                rw [e43, f_eq, if_neg hn] at h47
                exact absurd h47 (by decide)
              have h2 : A_go a i (7 + 8 * en + 4) = A_go a i 5 := by
                apply Classical.byContradiction
                intro hn
                rw [e55, f_eq, if_neg hn] at h59
                exact absurd h59 (by decide)
              have e : A_mt a dn en 201 0 = i := by rw [hI3, show 201 - i = (201 - (i + 1)) + 1 by omega, A_mt, if_pos ⟨h1, h2⟩]
              rw [F_meets, if_neg hnb, hcdn, hcen, e, if_pos (by omega)]
      refine R.b bk_X7_meets_25 ?_
      refine R.V0v kc_X7_meets_26 (by first | rfl | assumption | exact kdE KW_70 (by omega) | exact KW_70.2.2.2.2.2.2.2.2.1 _ (by omega) | exact kdE KW_92 (by omega) | exact KW_92.2.2.2.2.2.2.2.2.1 _ (by omega)) (c_X7_thinkFromNow hV hR) (by omega) rfl ⟨Nat.le_refl _, Nat.le_refl _⟩ (fun M26 q26 => ?_)
      obtain ⟨r26, f26⟩ := q26
      have l26 : RLw M26 a := RLw_congr (fun q q1 q2 => f26 q (by omega)) (fun _ _ => rfl) (T14 hV.1.2.2.1) hL
      refine R.b bk_X7_meets_29 ?_
      exact hA 201 0 M26 rfl (by decide) (RW_S r26 (fun _ _ _ => rfl)) f26 rfl
    · refine R.b bk_X7_meets_22 ?_
      refine R.ri rt_X7_meets_24 rfl ⟨_, rfl, ?_⟩
      exact ⟨by rw [F_meets, hisD, hisD, if_pos (by simp_all)], fun q _ => rfl⟩
theorem sun_one {b : Rw} {mm d : Nat} (hV : VP b mm) (hd : d < mm) : A_wkD (A_dayN b d) d = if A_day b (7 + 8 * d + 4) = 0 then 1 else 0 := by
  have hm := hV.1.1
  obtain ⟨k, L, p, -, -, hL, hp, hpL, -, hL60⟩ := VPd_dayN (hV.2 d hd) d
  have h := A_dayD_pl hL hp hpL hL60
  rw [A_day_at hV.1 hd (by decide)]
  by_cases hq : p + 1 < L
  · obtain ⟨h1, -, -, h4⟩ := h.1 hq
    rw [h1, h4, if_neg (nI_ne0 (by omega) (by omega))]
  · obtain ⟨h1, -, -, h4⟩ := h.2 (by omega)
    rw [h1, h4, if_pos rfl]
theorem c_X7_sundays {l : Launch} {G : Gt} {M : Mm} {d n : Int32} {a : Rw} {mm : Nat} (hV : VP a mm) (hR : RW M 70 a Sall mm) (hL : RLw M a) : Runs l G true dm_X7_sundays 5 127 [.ref 0, .int d, .int n] M 127 (Pi (fun x M1 => x = F_sundays a d n ∧ ∀ q, ¬ (92 ≤ q ∧ q < 103) → M1 q = M q)) := by
  refine mx_run ow_X7_sundays rfl rfl (fun dp X hdp R => ?_)
  have hm6 := hV.1.1
  have h4m : M 70 4 = nI mm := hR.2.1.trans hR.1
  have hDD : ∀ d, d < mm → ∀ f, f < 8 → M (70 + 5 + d) f = a (7 + 8 * d + f) := fun d hd f hf => hR.2.2.2.2.2.2.2.2.2 d hd rfl f hf
  have hisD : ∀ v, isD a v = f_in v 0 (nI mm - 1) := fun v => by rw [isD, hR.1]
  refine R.b bk_X7_sundays_0 (And.intro (by first | rfl | assumption | exact kdE KW_70 (by omega) | exact KW_70.2.2.2.2.2.2.2.2.1 _ (by omega) | exact kdE KW_92 (by omega) | exact KW_92.2.2.2.2.2.2.2.2.1 _ (by omega)) ?_)
  refine R.V1i kc_X7_sundays_5 (by first | rfl | assumption | exact kdE KW_70 (by omega) | exact KW_70.2.2.2.2.2.2.2.2.1 _ (by omega) | exact kdE KW_92 (by omega) | exact KW_92.2.2.2.2.2.2.2.2.1 _ (by omega)) (c_X6_has KW_70 hm6 h4m) (by omega) rfl ⟨Nat.le_refl _, Nat.le_refl _⟩ (fun x5 M5 q5 => ?_)
  obtain ⟨rfl, q5⟩ := q5
  replace q5 := q5.symm
  subst q5
  refine R.c br_X7_sundays_8 (And.intro (fun h8 => ?_) (fun h8 => ?_))
  · refine R.b bk_X7_sundays_22 ?_
    refine R.ri rt_X7_sundays_24 rfl ⟨_, rfl, ?_⟩
    exact ⟨by rw [F_sundays, hisD, if_pos (by simp_all)], fun q _ => rfl⟩
  · refine R.b bk_X7_sundays_11 ?_
    refine R.S3i kc_X7_sundays_16 (c_X7_within) (by omega) rfl ⟨Nat.le_refl _, Nat.le_refl _⟩ (fun x16 M16 q16 => ?_)
    obtain ⟨rfl, q16⟩ := q16
    replace q16 := q16.symm
    subst q16
    refine R.c br_X7_sundays_19 (And.intro (fun h19 => ?_) (fun h19 => ?_))
    · obtain ⟨dn, hdn, rfl⟩ := f_in_dist (by omega) rfl h8
      have hcdn : cN (nI dn) = dn := cN_nI (by omega)
      obtain ⟨nn, hnn, rfl⟩ := f_in_nat (n := 300) (by decide) h19
      have hcnn : cN (nI nn) = nn := cN_nI (by omega)
      have hnb : ¬ (isD a (nI dn) = 0 ∨ f_in (nI nn) 0 300 = 0) := by rw [hisD]; exact fun q => q.elim h8 h19
      have hA : ∀ (fu i : Nat) (M1 : Mm), nn - i = fu → i ≤ nn → (RW M1 92 (A_go a i) (Sone dn) mm) → (∀ q, ¬ (92 ≤ q ∧ q < 103) → M1 q = M q) → X 127 M1 34 [some (.ref 0), some (.int (nI dn)), some (.int (nI nn)), some (.int (A_sun a dn i)), some (.int (nI (i + 1)))] [] := by
        intro fu
        induction fu with
        | zero =>
          intro i M1 hfu hi hI1 hI2
          have hiN : i = nn := by omega
          refine R.b bk_X7_sundays_34 ?_
          refine R.c br_X7_sundays_37 (And.intro (fun h37 => ?_) (fun h37 => absurd (nI_lt (a := nn) (b := i + 1) (by omega) (by omega)) h37))
          refine R.b bk_X7_sundays_60 ?_
          refine R.ri rt_X7_sundays_61 rfl ⟨_, rfl, ?_⟩
          refine ⟨?_, hI2⟩
          rw [F_sundays, if_neg hnb, hcdn, hcnn, hiN]
        | succ fu ih =>
          intro i M1 hfu hi hI1 hI2
          have hlt : i < nn := by omega
          refine R.b bk_X7_sundays_34 ?_
          refine R.c br_X7_sundays_37 (And.intro (fun h37 => absurd h37 (nI_nlt (a := nn) (b := i + 1) (by omega) (by omega))) (fun h37 => ?_))
          refine R.b bk_X7_sundays_40 (And.intro (by first | rfl | assumption | exact kdE KW_70 (by omega) | exact KW_70.2.2.2.2.2.2.2.2.1 _ (by omega) | exact kdE KW_92 (by omega) | exact KW_92.2.2.2.2.2.2.2.2.1 _ (by omega)) ?_)
          refine R.S1i kc_X7_sundays_46 (c_X7_only) (by omega) rfl ⟨Nat.le_refl _, Nat.le_refl _⟩ (fun x46 M46 q46 => ?_)
          obtain ⟨rfl, q46⟩ := q46
          replace q46 := q46.symm
          subst q46
          refine R.V1i kc_X7_sundays_49 (by first | rfl | assumption | exact kdE KW_70 (by omega) | exact KW_70.2.2.2.2.2.2.2.2.1 _ (by omega) | exact kdE KW_92 (by omega) | exact KW_92.2.2.2.2.2.2.2.2.1 _ (by omega)) (c_X6_liveDay KW_92 (VP_go hV i) hI1 (RLw_go hV.1 (fun q q1 q2 => hI2 q (by omega)) hL i) (fun j hj => bit1 dn j (by omega) (by omega))) (by omega) rfl ⟨Nat.le_refl _, Nat.le_refl _⟩ (fun x49 M49 q49 => ?_)
          obtain ⟨e49, r49, f49⟩ := q49
          refine R.b bk_X7_sundays_52 ?_
          refine R.j gt_X7_sundays_57 ?_
          rw [nI_inc]
          have hx := ih (i + 1) M49 (by omega) (by omega) r49 (fun q hq => by rw [f49 q (by omega)]; exact hI2 q hq)
          have ew : A_sun a dn (i + 1) = A_sun a dn i + x49 := by rw [A_sun, e49, wkS_one _ _ _ hdn, sun_one (VP_go hV i) hdn]; rfl
          rw [ew] at hx
          exact hx
      refine R.b bk_X7_sundays_25 ?_
      refine R.V0v kc_X7_sundays_26 (by first | rfl | assumption | exact kdE KW_70 (by omega) | exact KW_70.2.2.2.2.2.2.2.2.1 _ (by omega) | exact kdE KW_92 (by omega) | exact KW_92.2.2.2.2.2.2.2.2.1 _ (by omega)) (c_X7_thinkFromNow hV hR) (by omega) rfl ⟨Nat.le_refl _, Nat.le_refl _⟩ (fun M26 q26 => ?_)
      obtain ⟨r26, f26⟩ := q26
      have l26 : RLw M26 a := RLw_congr (fun q q1 q2 => f26 q (by omega)) (fun _ _ => rfl) (T14 hV.1.2.2.1) hL
      refine R.b bk_X7_sundays_29 ?_
      exact hA nn 0 M26 rfl (Nat.zero_le _) (RW_S r26 (fun _ _ _ => rfl)) f26
    · refine R.b bk_X7_sundays_22 ?_
      refine R.ri rt_X7_sundays_24 rfl ⟨_, rfl, ?_⟩
      exact ⟨by rw [F_sundays, hisD, if_pos (by simp_all)], fun q _ => rfl⟩
theorem rich_1 (b : Rw) : ∀ n, 1 ≤ n → n ≤ 6 → ∃ k, k < n ∧ A_rich b n = nI k
  | 0, h, _ => absurd h (by decide)
  | 1, _, _ => ⟨0, by decide, by rw [A_rich, if_pos (Or.inl (show A_rich b 0 = (-1000000005) from rfl))]⟩
  | n + 2, _, h => by
    obtain ⟨k, h1, h2⟩ := rich_1 b (n + 1) (by omega) (by omega)
    unfold A_rich
    split
    · exact ⟨n + 1, by omega, rfl⟩
    · exact ⟨k, by omega, h2⟩
theorem c_X7_richest {l : Launch} {G : Gt} {M : Mm} {n : Int32} {a : Rw} {mm : Nat} (hV : VP a mm) (hR : RW M 70 a Sall mm) (hL : RLw M a) : Runs l G true dm_X7_richest 6 127 [.ref 0, .int n] M 127 (Pi (fun x M1 => x = F_richest a n ∧ ∀ q, ¬ (92 ≤ q ∧ q < 103) → M1 q = M q)) := by
  refine mx_run ow_X7_richest rfl rfl (fun dp X hdp R => ?_)
  have hm6 := hV.1.1
  have h4m : M 70 4 = nI mm := hR.2.1.trans hR.1
  have hDD : ∀ d, d < mm → ∀ f, f < 8 → M (70 + 5 + d) f = a (7 + 8 * d + f) := fun d hd f hf => hR.2.2.2.2.2.2.2.2.2 d hd rfl f hf
  have hisD : ∀ v, isD a v = f_in v 0 (nI mm - 1) := fun v => by rw [isD, hR.1]
  refine R.b bk_X7_richest_0 ?_
  refine R.S3i kc_X7_richest_5 (c_X7_within) (by omega) rfl ⟨Nat.le_refl _, Nat.le_refl _⟩ (fun x5 M5 q5 => ?_)
  obtain ⟨rfl, q5⟩ := q5
  replace q5 := q5.symm
  subst q5
  refine R.c br_X7_richest_8 (And.intro (fun h8 => ?_) (fun h8 => ?_))
  · refine R.b bk_X7_richest_14 (And.intro (by first | rfl | assumption | exact kdE KW_70 (by omega) | exact KW_70.2.2.2.2.2.2.2.2.1 _ (by omega) | exact kdE KW_92 (by omega) | exact KW_92.2.2.2.2.2.2.2.2.1 _ (by omega)) (And.intro (by first | rfl | assumption | exact kdE KW_70 (by omega) | exact KW_70.2.2.2.2.2.2.2.2.1 _ (by omega) | exact kdE KW_92 (by omega) | exact KW_92.2.2.2.2.2.2.2.2.1 _ (by omega)) ?_))
    refine R.c br_X7_richest_21 (And.intro (fun h21 => ?_) (fun h21 => ?_))
    · have hm1 : 1 ≤ mm := by
        apply Nat.pos_of_ne_zero
        intro q
        exact h21 (by rw [show M 70 (388 % 64) = nI mm from h4m, q]; rfl)
      obtain ⟨nn, hnn, rfl⟩ := f_in_nat (n := 300) (by decide) h8
      have hcnn : cN (nI nn) = nn := cN_nI (by omega)
      refine R.b bk_X7_richest_27 ?_
      refine R.V0v kc_X7_richest_28 (by first | rfl | assumption | exact kdE KW_70 (by omega) | exact KW_70.2.2.2.2.2.2.2.2.1 _ (by omega) | exact kdE KW_92 (by omega) | exact KW_92.2.2.2.2.2.2.2.2.1 _ (by omega)) (c_X7_thinkFromNow hV hR) (by omega) rfl ⟨Nat.le_refl _, Nat.le_refl _⟩ (fun M28 q28 => ?_)
      obtain ⟨r28, f28⟩ := q28
      have l28 : RLw M28 a := RLw_congr (fun q q1 q2 => f28 q (by omega)) (fun _ _ => rfl) (T14 hV.1.2.2.1) hL
      refine R.b bk_X7_richest_31 ?_
      refine R.V2v kc_X7_richest_35 (by first | rfl | assumption | exact kdE KW_70 (by omega) | exact KW_70.2.2.2.2.2.2.2.2.1 _ (by omega) | exact kdE KW_92 (by omega) | exact KW_92.2.2.2.2.2.2.2.2.1 _ (by omega)) (c_X7_thinkOn (n := nn) (S := Sall) (by omega) hV r28 l28 (fun j hj => bit63 j (by omega))) (by omega) rfl ⟨Nat.le_refl _, Nat.le_refl _⟩ (fun M35 q35 => ?_)
      obtain ⟨r35, f35⟩ := q35
      have d35 : ∀ d, d < mm → ∀ f, f < 8 → M35 (92 + 5 + d) f = A_go a nn (7 + 8 * d + f) := fun d hd f hf => r35.2.2.2.2.2.2.2.2.2 d hd rfl f hf
      have e4 : M35 92 4 = nI mm := r35.2.1.trans r35.1
      have hA : ∀ (fu i : Nat) (kk : Nat), (mm - 1) - i = fu → i ≤ (mm - 1) → (kk ≤ i) → (A_rich (A_go a nn) (i + 1) = nI kk) → X 127 M35 42 [some (.ref 0), some (.int (nI nn)), some (.int (nI kk)), some (.int (nI (i + 1)))] [] := by
        intro fu
        induction fu with
        | zero =>
          intro i kk hfu hi hI1 hI2
          have hiN : i = (mm - 1) := by omega
          refine R.b bk_X7_richest_42 (And.intro (by first | rfl | assumption | exact kdE KW_70 (by omega) | exact KW_70.2.2.2.2.2.2.2.2.1 _ (by omega) | exact kdE KW_92 (by omega) | exact KW_92.2.2.2.2.2.2.2.2.1 _ (by omega)) (And.intro (by first | rfl | assumption | exact kdE KW_70 (by omega) | exact KW_70.2.2.2.2.2.2.2.2.1 _ (by omega) | exact kdE KW_92 (by omega) | exact KW_92.2.2.2.2.2.2.2.2.1 _ (by omega)) ?_))
          refine R.c br_X7_richest_50 (And.intro (fun h50 => ?_) (fun h50 => absurd (by rw [show M35 92 (388 % 64) = nI mm from e4]; exact nI_le (by omega) (by omega)) h50))
          refine R.b bk_X7_richest_88 ?_
          refine R.ri rt_X7_richest_89 rfl ⟨_, rfl, ?_⟩
          refine ⟨?_, fun q hq => by rw [f35 q hq]; exact f28 q hq⟩
          rw [F_richest, if_neg h8, hcnn, hR.1, cN_nI (by omega), ← hI2, hiN, show mm - 1 + 1 = mm by omega]
        | succ fu ih =>
          intro i kk hfu hi hI1 hI2
          have hlt : i < (mm - 1) := by omega
          refine R.b bk_X7_richest_42 (And.intro (by first | rfl | assumption | exact kdE KW_92 (d := i + 1) (by omega) | exact kdE KW_92 (d := kk) (by omega)) (And.intro (by first | rfl | assumption | exact kdE KW_92 (d := i + 1) (by omega) | exact kdE KW_92 (d := kk) (by omega)) ?_))
          refine R.c br_X7_richest_50 (And.intro (fun h50 => absurd h50 (by rw [show M35 92 (388 % 64) = nI mm from e4]; exact nI_ge (by omega) (by omega))) (fun h50 => ?_))
          refine R.b bk_X7_richest_53 (And.intro (by first | rfl | assumption | exact kdE KW_92 (d := i + 1) (by omega) | exact kdE KW_92 (d := kk) (by omega)) (And.intro (by first | rfl | assumption | exact kdE KW_92 (d := i + 1) (by omega) | exact kdE KW_92 (d := kk) (by omega)) (And.intro ⟨by decide, by decide, rfl⟩ (And.intro (by first | rfl | assumption | exact kdE KW_92 (d := i + 1) (by omega) | exact kdE KW_92 (d := kk) (by omega)) (And.intro (by exact vp_in_nI (show i + 1 < 6 by omega) (by decide)) (And.intro (by first | rfl | assumption | exact kdE KW_92 (d := i + 1) (by omega) | exact kdE KW_92 (d := kk) (by omega)) (And.intro (by first | rfl | assumption | exact kdE KW_92 (d := i + 1) (by omega) | exact kdE KW_92 (d := kk) (by omega)) (And.intro (by first | rfl | assumption | exact kdE KW_92 (d := i + 1) (by omega) | exact kdE KW_92 (d := kk) (by omega)) (And.intro ⟨by decide, by decide, rfl⟩ (And.intro (by first | rfl | assumption | exact kdE KW_92 (d := i + 1) (by omega) | exact kdE KW_92 (d := kk) (by omega)) (And.intro (by exact vp_in_nI (show kk < 6 by omega) (by decide)) (And.intro (by first | rfl | assumption | exact kdE KW_92 (d := i + 1) (by omega) | exact kdE KW_92 (d := kk) (by omega)) ?_))))))))))))
          rw [el13 (w := 92) (show i + 1 < 6 by omega), el13 (w := 92) (show kk < 6 by omega)]
          rw [show M35 (92 + 5 + (i + 1)) (7 % 64) = A_go a nn (7 + 8 * (i + 1) + 7) from d35 (i + 1) (by omega) 7 (by decide), show M35 (92 + 5 + kk) (7 % 64) = A_go a nn (7 + 8 * kk + 7) from d35 kk (by omega) 7 (by decide)]
          have hc : cN (nI kk) = kk := cN_nI (by omega)
          refine R.c br_X7_richest_77 (And.intro (fun h77 => ?_) (fun h77 => ?_))
          · refine R.b bk_X7_richest_82 ?_
            refine R.j gt_X7_richest_85 ?_
            rw [nI_inc]
            first
            | (refine ih (i + 1) kk (by omega) (by omega) (by omega) ?_
               rw [A_rich, hI2, hc, if_neg (fun q => q.elim (nI_not_none (by omega)) (fun q => absurd q (Int32.not_lt.mpr h77)))]
               done)
            | (refine ih (i + 1) (i + 1) (by omega) (by omega) (by omega) ?_
               rw [A_rich, hI2, hc, if_pos (Or.inr (Int32.not_le.mp h77))]
               done)
          · refine R.b bk_X7_richest_80 ?_
            refine R.b bk_X7_richest_82 ?_
            refine R.j gt_X7_richest_85 ?_
            rw [nI_inc]
            first
            | (refine ih (i + 1) kk (by omega) (by omega) (by omega) ?_
               rw [A_rich, hI2, hc, if_neg (fun q => q.elim (nI_not_none (by omega)) (fun q => absurd q (Int32.not_lt.mpr h77)))]
               done)
            | (refine ih (i + 1) (i + 1) (by omega) (by omega) (by omega) ?_
               rw [A_rich, hI2, hc, if_pos (Or.inr (Int32.not_le.mp h77))]
               done)
      refine R.b bk_X7_richest_38 ?_
      exact hA (mm - 1) 0 0 rfl (Nat.zero_le _) (Nat.le_refl 0) (by rw [A_rich, if_pos (Or.inl (show A_rich (A_go a nn) 0 = (-1000000005) from rfl))])
    · refine R.b bk_X7_richest_24 ?_
      refine R.ri rt_X7_richest_26 rfl ⟨_, rfl, ?_⟩
      refine ⟨?_, fun q _ => rfl⟩
      have hm0 : mm = 0 := by
        have q := h21
        rw [show M 70 (388 % 64) = nI mm from h4m] at q
        exact (nI_eq (a := mm) (b := 0) (by omega) (by decide)).mp q
      rw [F_richest, if_neg h8, hR.1, hm0]
      rfl
  · refine R.b bk_X7_richest_11 ?_
    refine R.ri rt_X7_richest_13 rfl ⟨_, rfl, ?_⟩
    exact ⟨by rw [F_richest, if_pos h8], fun q _ => rfl⟩
