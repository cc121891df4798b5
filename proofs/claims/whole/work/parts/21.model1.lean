/-! the model: its row 'now' is cell 104 -/
theorem e_ix (d w : Nat) : (7 : Int32) + 8 * nI d + nI w = nI (7 + 8 * d + w) := by rw [show (7 : Int32) = nI 7 from rfl, show (8 : Int32) = nI 8 from rfl, pk_mul, nI_add, nI_add]
theorem vp_lit {i : Int32} {n : Nat} (h : decide (¬ (i < 0 ∨ n ≤ i.toNatClampNeg)) = true) : vp_in i n := (of_decide_eq_true h : ¬ (i < 0 ∨ n ≤ i.toNatClampNeg))
theorem vp_ix {d w : Nat} (h : 7 + 8 * d + w < 1427) : vp_in ((7 : Int32) + 8 * nI d + nI w) 1427 := by rw [e_ix]; exact vp_in_nI h (by decide)
theorem cl_ix {d w : Nat} (h : 7 + 8 * d + w < 1427) : ((7 : Int32) + 8 * nI d + nI w).toNatClampNeg = 7 + 8 * d + w := by rw [e_ix]; exact nI_clamp (by omega)
theorem nI_dec (n : Nat) (h : 0 < n) : nI n - 1 = nI (n - 1) := by
  obtain ⟨m, rfl⟩ : ∃ m, n = m + 1 := ⟨n - 1, by omega⟩
  exact nI_pred m
/-- a district's number, looked at -/
theorem f_in_dist {v x : Int32} {m : Nat} (hm : m ≤ 1000) (hx : x = nI m) (h : ¬ f_in v 0 (x - 1) = 0) : ∃ d, d < m ∧ v = nI d := by
  have h1 : (0 : Int32) ≤ v ∧ v ≤ x - 1 := by
    apply Classical.byContradiction
    intro hc
    exact h (by rw [f_in, if_neg hc])
  subst hx
  have h0 : 0 ≤ v.toInt := by simpa using Int32.le_iff_toInt_le.mp h1.1
  have h2 := Int32.le_iff_toInt_le.mp h1.2
  cases m with
  | zero =>
    have : (nI 0 - 1).toInt = -1 := by decide
    omega
  | succ m =>
    rw [nI_pred, nI_toInt (by omega)] at h2
    refine ⟨v.toInt.toNat, by omega, Int32.toInt_inj.mp ?_⟩
    rw [nI_toInt (by omega)]
    omega
theorem f_in_ne {v a b : Int32} (h : ¬ f_in v a b = 0) : a ≤ v ∧ v ≤ b := by
  apply Classical.byContradiction
  intro hc
  exact h (by rw [f_in, if_neg hc])
theorem f_in_nat {v b : Int32} {n : Nat} (hb : b.toInt = n) (h : ¬ f_in v 0 b = 0) : ∃ d, d ≤ n ∧ v = nI d := by
  obtain ⟨h1, h2⟩ := f_in_ne h
  exact nI_of2 hb (Int32.not_lt.mpr h1) h2
theorem f_in_nar (v a b : Int32) : narrow .boolean (.int (f_in v a b)) = .int (f_in v a b) := by
  unfold f_in
  split <;> rfl
theorem c_X8_isDistrict {l : Launch} {G : Gt} {M : Mm} {v : Int32} : Runs l G true dm_X8_isDistrict 1 127 [.ref 103, .int v] M 127 (Pi (fun x M1 => x = f_in v 0 (M 104 1 - 1) ∧ M1 = M)) := by
  refine mx_run ow_X8_isDistrict rfl rfl (fun dp X hdp R => ?_)
  refine R.b bk_X8_isDistrict_0 (And.intro (by first | rfl | assumption) (And.intro (by first | rfl | assumption) (And.intro (by exact vp_lit rfl) ?_)))
  refine R.S3i kc_X8_isDistrict_10 (c_X8_in) (by omega) rfl ⟨Nat.le_refl _, Nat.le_refl _⟩ (fun x10 M10 q10 => ?_)
  obtain ⟨rfl, q10⟩ := q10
  replace q10 := q10.symm
  subst q10
  refine R.ri rt_X8_isDistrict_13 (f_in_nar _ _ _) ⟨_, rfl, ?_⟩
  exact ⟨rfl, rfl⟩
theorem c_X8_of {l : Launch} {G : Gt} {M : Mm} {d w : Nat} (h : 7 + 8 * d + w < 1427) : Runs l G true dm_X8_of 0 127 [.ref 103, .int (nI d), .int (nI w)] M 127 (Pi (fun x M1 => x = M 104 (7 + 8 * d + w) ∧ M1 = M)) := by
  refine mx_run ow_X8_of rfl rfl (fun dp X hdp R => ?_)
  refine R.b bk_X8_of_0 (And.intro (by first | rfl | assumption) (And.intro (by first | rfl | assumption) (And.intro (by exact vp_ix h) ?_)))
  refine R.ri rt_X8_of_14 rfl ⟨_, rfl, ?_⟩
  exact ⟨by rw [cl_ix h], rfl⟩
theorem c_X8_put {l : Launch} {G : Gt} {M : Mm} {d w : Nat} {v : Int32} (h : 7 + 8 * d + w < 1427) : Runs l G true dm_X8_put 0 127 [.ref 103, .int (nI d), .int (nI w), .int v] M 127 (Pv (fun M1 => M1 = mx_wr M 104 (7 + 8 * d + w) v)) := by
  refine mx_run ow_X8_put rfl rfl (fun dp X hdp R => ?_)
  refine R.b bk_X8_put_0 (And.intro (by first | rfl | assumption) (And.intro (by first | rfl | assumption) (And.intro (by exact vp_ix h) ?_)))
  refine R.rv rt_X8_put_15 ⟨rfl, ?_⟩
  rw [cl_ix h]
theorem c_X8_becomes {l : Launch} {G : Gt} {M : Mm} {i : Nat} {x v : Int32} (hx : x = nI i) (h : i < 1427) : Runs l G true dm_X8_becomes 0 127 [.ref 103, .int x, .int v] M 127 (Pi (fun x M1 => x = M 104 i ∧ M1 = mx_wr M 104 i v)) := by
  refine mx_run ow_X8_becomes rfl rfl (fun dp X hdp R => ?_)
  subst hx
  refine R.b bk_X8_becomes_0 (And.intro (by first | rfl | assumption) (And.intro (by first | rfl | assumption) (And.intro (by exact vp_in_nI h (by decide)) (And.intro (by first | rfl | assumption) (And.intro (by first | rfl | assumption) (And.intro (by exact vp_in_nI h (by decide)) ?_))))))
  refine R.ri rt_X8_becomes_15 rfl ⟨_, rfl, ?_⟩
  exact ⟨by rw [nI_clamp (by omega)], by rw [nI_clamp (by omega)]⟩
def f_worth (k r : Int32) : Int32 := if k = 1 then r + 2 else if k = 2 then 30 - r else if k = 3 then 2 * (r + 2) else if k = 4 then 26 - r else if k = 5 then 11 else r
theorem c_X8_worthOf {l : Launch} {G : Gt} {M : Mm} {d : Nat} (h : d < 6) : Runs l G true dm_X8_worthOf 1 127 [.ref 103, .int (nI d)] M 127 (Pi (fun x M1 => x = f_worth (M 104 (7 + 8 * d)) (M 104 (7 + 8 * d + 1)) ∧ M1 = M)) := by
  refine mx_run ow_X8_worthOf rfl rfl (fun dp X hdp R => ?_)
  refine R.b bk_X8_worthOf_0 ?_
  refine R.V2i kc_X8_worthOf_3 (by first | rfl | assumption) (c_X8_of (w := 1) (by omega)) (by omega) rfl ⟨Nat.le_refl _, Nat.le_refl _⟩ (fun x3 M3 q3 => ?_)
  obtain ⟨rfl, q3⟩ := q3
  replace q3 := q3.symm
  subst q3
  refine R.b bk_X8_worthOf_6 ?_
  refine R.V2i kc_X8_worthOf_10 (by first | rfl | assumption) (c_X8_of (w := 0) (by omega)) (by omega) rfl ⟨Nat.le_refl _, Nat.le_refl _⟩ (fun x10 M10 q10 => ?_)
  obtain ⟨rfl, q10⟩ := q10
  replace q10 := q10.symm
  subst q10
  refine R.s sw_X8_worthOf_13 (And.intro (fun h13_0 => ?_) (fun h13_0 => And.intro (fun h13_1 => ?_) (fun h13_1 => And.intro (fun h13_2 => ?_) (fun h13_2 => And.intro (fun h13_3 => ?_) (fun h13_3 => And.intro (fun h13_4 => ?_) (fun h13_4 => ?_))))))
  · refine R.b bk_X8_worthOf_48 ?_
    refine R.ri rt_X8_worthOf_51 rfl ⟨_, rfl, ?_⟩
    exact ⟨by simp_all [f_worth], rfl⟩
  · refine R.b bk_X8_worthOf_52 ?_
    refine R.ri rt_X8_worthOf_56 rfl ⟨_, rfl, ?_⟩
    exact ⟨by simp_all [f_worth], rfl⟩
  · refine R.b bk_X8_worthOf_57 ?_
    refine R.ri rt_X8_worthOf_62 rfl ⟨_, rfl, ?_⟩
    exact ⟨by simp_all [f_worth], rfl⟩
  · refine R.b bk_X8_worthOf_63 ?_
    refine R.ri rt_X8_worthOf_67 rfl ⟨_, rfl, ?_⟩
    exact ⟨by simp_all [f_worth], rfl⟩
  · refine R.b bk_X8_worthOf_68 ?_
    refine R.ri rt_X8_worthOf_70 rfl ⟨_, rfl, ?_⟩
    exact ⟨by simp_all [f_worth], rfl⟩
  · refine R.b bk_X8_worthOf_71 ?_
    refine R.ri rt_X8_worthOf_72 rfl ⟨_, rfl, ?_⟩
    exact ⟨by simp_all [f_worth], rfl⟩
def f_eq (a b : Int32) : Int32 := if a = b then 1 else 0
theorem f_eq_nar (a b : Int32) : narrow .boolean (.int (f_eq a b)) = .int (f_eq a b) := by
  unfold f_eq
  split <;> rfl
theorem c_X8_isFair {l : Launch} {G : Gt} {M : Mm} {d : Nat} (h : d < 6) : Runs l G true dm_X8_isFair 1 127 [.ref 103, .int (nI d)] M 127 (Pi (fun x M1 => x = f_eq (M 104 (7 + 8 * d + 4)) (M 104 5) ∧ M1 = M)) := by
  refine mx_run ow_X8_isFair rfl rfl (fun dp X hdp R => ?_)
  refine R.b bk_X8_isFair_0 ?_
  refine R.V2i kc_X8_isFair_3 (by first | rfl | assumption) (c_X8_of (w := 4) (by omega)) (by omega) rfl ⟨Nat.le_refl _, Nat.le_refl _⟩ (fun x3 M3 q3 => ?_)
  obtain ⟨rfl, q3⟩ := q3
  replace q3 := q3.symm
  subst q3
  refine R.b bk_X8_isFair_6 (And.intro (by first | rfl | assumption) (And.intro (by first | rfl | assumption) (And.intro (by exact vp_lit rfl) ?_)))
  refine R.c br_X8_isFair_12 (And.intro (fun h12 => ?_) (fun h12 => ?_))
  · refine R.b bk_X8_isFair_19 ?_
    refine R.ri rt_X8_isFair_20 rfl ⟨_, rfl, ?_⟩
    exact ⟨by simp_all [f_eq] <;> rfl, rfl⟩
  · refine R.b bk_X8_isFair_15 ?_
    refine R.j gt_X8_isFair_16 ?_
    refine R.ri rt_X8_isFair_20 rfl ⟨_, rfl, ?_⟩
    exact ⟨by simp_all [f_eq] <;> rfl, rfl⟩
theorem nI_inc (i : Nat) : nI i + Int32.ofInt 1 = nI (i + 1) := nI_1 i
/-- a loop with a counter -/
theorem mx_loop {σ : Type} (XH : Nat → σ → Prop) (n : Nat) (I : Nat → σ → Prop) (step : ∀ i s, i < n → I i s → (∀ s', I (i + 1) s' → XH (i + 1) s') → XH i s) (exit : ∀ s, I n s → XH n s) : ∀ i s, i ≤ n → I i s → XH i s := by
  have h : ∀ (k i : Nat) (s : σ), n - i = k → i ≤ n → I i s → XH i s := by
    intro k
    induction k with
    | zero =>
      intro i s hk hi hI
      have e : i = n := by omega
      subst e
      exact exit s hI
    | succ k ih =>
      intro i s hk hi hI
      exact step i s (by omega) hI (fun s' hs' => ih (i + 1) s' (by omega) (by omega) hs')
  exact fun i s hi hI => h (n - i) i s rfl hi hI
def mx_rw (M : Mm) (k : Nat) (r : Nat → Int32) : Mm := fun q => if q = k then r else M q
def up (a : Nat → Int32) (i : Nat) (v : Int32) : Nat → Int32 := fun j => if j = i then v else a j
theorem mx_wr_up (M : Mm) (k i : Nat) (v : Int32) : mx_wr M k i v = mx_rw M k (up (M k) i v) := rfl
theorem mx_rw_rw (M : Mm) (k : Nat) (r r' : Nat → Int32) : mx_rw (mx_rw M k r) k r' = mx_rw M k r' := by
  funext q
  unfold mx_rw
  split <;> rfl
theorem mx_rw_at (M : Mm) (k : Nat) (r : Nat → Int32) : mx_rw M k r k = r := by simp [mx_rw]
theorem mx_rw_ne {M : Mm} {k q : Nat} {r : Nat → Int32} (h : q ≠ k) : mx_rw M k r q = M q := by simp [mx_rw, h]
theorem mx_rw_id (M : Mm) (k : Nat) : mx_rw M k (M k) = M := by
  funext q
  unfold mx_rw
  split
  · rename_i h; rw [h]
  · rfl
theorem up_at (a : Nat → Int32) (i : Nat) (v : Int32) : up a i v i = v := by simp [up]
theorem up_ne {a : Nat → Int32} {i j : Nat} {v : Int32} (h : j ≠ i) : up a i v j = a j := by simp [up, h]
/-- one more district -/
def A_come (a : Nat → Int32) (k r : Int32) : Nat → Int32 := fun j => if j = 1 then a 1 + 1 else if 7 + 8 * (a 1).toNatClampNeg ≤ j ∧ j < 15 + 8 * (a 1).toNatClampNeg then (if j = 7 + 8 * (a 1).toNatClampNeg then k else if j = 8 + 8 * (a 1).toNatClampNeg then r else if j = 10 + 8 * (a 1).toNatClampNeg then 7 else 0) else a j
def A_zero (a : Nat → Int32) (m i : Nat) : Nat → Int32 := fun j => if 7 + 8 * m ≤ j ∧ j < 7 + 8 * m + i then 0 else a j
theorem c_X8_comes {l : Launch} {G : Gt} {M : Mm} {k r : Int32} {m : Nat} (hm : m < 6) (h1 : M 104 1 = nI m) : Runs l G true dm_X8_comes 1 127 [.ref 103, .int k, .int r] M 127 (Pi (fun x M1 => x = nI m ∧ M1 = mx_rw M 104 (A_come (M 104) k r))) := by
  refine mx_run ow_X8_comes rfl rfl (fun dp X hdp R => ?_)
  have hA : ∀ (i : Nat) (M1 : Mm), i ≤ 8 → M1 = mx_rw M 104 (A_zero (M 104) m i) → X 127 M1 10 [some (.ref 103), some (.int k), some (.int r), some (.int (nI m)), some (.int (nI i))] [] := by
    refine mx_loop (fun i M1 => X 127 M1 10 [some (.ref 103), some (.int k), some (.int r), some (.int (nI m)), some (.int (nI i))] []) 8 (fun i M1 => M1 = mx_rw M 104 (A_zero (M 104) m i)) (fun i M1 hi hI ih => ?_) (fun M1 hI => ?_)
    · refine R.b bk_X8_comes_10 ?_
      refine R.c br_X8_comes_14 (And.intro (fun h14 => absurd h14 (nI_ge (a := i) (b := 8) hi (by decide))) (fun h14 => ?_))
      refine R.b bk_X8_comes_17 ?_
      refine R.V3v kc_X8_comes_22 (by first | rfl | assumption) (c_X8_put (d := m) (w := i) (by omega)) (by omega) rfl ⟨Nat.le_refl _, Nat.le_refl _⟩ (fun M22 q22 => ?_)
      replace q22 := q22.symm
      subst q22
      refine R.b bk_X8_comes_25 ?_
      refine R.j gt_X8_comes_28 ?_
      rw [nI_inc]
      refine ih _ ?_
      subst hI
      rw [mx_wr_up, mx_rw_rw, mx_rw_at]
      congr 1
      funext j
      simp only [up, A_zero]
      grind
    · refine R.b bk_X8_comes_10 ?_
      refine R.c br_X8_comes_14 (And.intro (fun h14 => ?_) (fun h14 => absurd (nI_le (Nat.le_refl 8) (by decide)) h14))
      refine R.b bk_X8_comes_31 ?_
      refine R.V3v kc_X8_comes_35 (by first | rfl | assumption) (c_X8_put (d := m) (w := 0) (by omega)) (by omega) rfl ⟨Nat.le_refl _, Nat.le_refl _⟩ (fun M35 q35 => ?_)
      replace q35 := q35.symm
      subst q35
      refine R.b bk_X8_comes_38 ?_
      refine R.V3v kc_X8_comes_42 (by first | rfl | assumption) (c_X8_put (d := m) (w := 1) (by omega)) (by omega) rfl ⟨Nat.le_refl _, Nat.le_refl _⟩ (fun M42 q42 => ?_)
      replace q42 := q42.symm
      subst q42
      refine R.b bk_X8_comes_45 ?_
      refine R.V3v kc_X8_comes_50 (by first | rfl | assumption) (c_X8_put (d := m) (w := 3) (by omega)) (by omega) rfl ⟨Nat.le_refl _, Nat.le_refl _⟩ (fun M50 q50 => ?_)
      replace q50 := q50.symm
      subst q50
      refine R.b bk_X8_comes_53 (And.intro (by first | rfl | assumption) (And.intro (by first | rfl | assumption) (And.intro (by exact vp_lit rfl) (And.intro (by first | rfl | assumption) (And.intro (by exact vp_lit rfl) ?_)))))
      refine R.ri rt_X8_comes_64 rfl ⟨_, rfl, ?_⟩
      refine ⟨rfl, ?_⟩
      subst hI
      simp only [mx_wr_up, mx_rw_rw, mx_rw_at]
      congr 1
      funext j
      have e9 : (A_zero (M 104) m 8) (Int32.toNatClampNeg 1) = nI m := by rw [← h1]; show A_zero (M 104) m 8 1 = _; simp only [A_zero]; grind
      have e8 : (M 104 1).toNatClampNeg = m := by rw [h1]; exact nI_clamp (by omega)
      have e7 : Int32.toNatClampNeg 1 = 1 := by decide
      simp only [up, A_come, e8, e7, A_zero]
      grind
  refine R.b bk_X8_comes_0 (And.intro (by first | rfl | assumption) (And.intro (by first | rfl | assumption) (And.intro (by exact vp_lit rfl) ?_)))
  have e1 : M 104 (Int32.toNatClampNeg 1) = nI m := h1
  rw [e1]
  refine hA 0 M (by omega) ?_
  have e2 : A_zero (M 104) m 0 = M 104 := by
    funext j
    simp only [A_zero]
    grind
  rw [e2, mx_rw_id]
