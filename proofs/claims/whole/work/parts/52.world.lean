/-! worlds -/
def isW (w : Nat) : Prop := w = 70 ∨ w = 81 ∨ w = 92
def KW (w : Nat) : Prop := (kd w).1 = 6 ∧ (kd (w + 1)).1 = 13 ∧ (kd (w + 1)).2 = 6 ∧ (kd (w + 2)).1 = 11 ∧ (kd (w + 2)).2 = 3 ∧ (kd (w + 3)).1 = 3 ∧ (kd (w + 3 + 1)).1 = 11 ∧ (kd (w + 3 + 1)).2 = 96 ∧ (∀ d, d < 6 → (kd (w + 5 + d)).1 = 0) ∧ 70 ≤ w ∧ w ≤ 92
theorem KW_70 : KW 70 := by unfold KW; decide +kernel
theorem KW_81 : KW 81 := by unfold KW; decide +kernel
theorem KW_92 : KW 92 := by unfold KW; decide +kernel
theorem el13 {w d : Nat} (h : d < 6) : mx_el 13 (w + 1) (nI d).toNatClampNeg = w + 5 + d := by
  rw [nI_clamp (by omega)]
  rfl
theorem kdE {w d : Nat} (hw : KW w) (h : d < 6) : (kd (mx_el 13 (w + 1) (nI d).toNatClampNeg)).1 = 0 := by
  rw [el13 h]
  exact hw.2.2.2.2.2.2.2.2.1 d h
theorem kd_law {t : Nat} (h : t < 14) : (kd (14 + 2 * t)).1 = 1 ∧ (kd (14 + 2 * t + 1)).1 = 11 ∧ (kd (14 + 2 * t + 1)).2 = 96 := by
  have h2 : ∀ t, t < 14 → (kd (14 + 2 * t)).1 = 1 ∧ (kd (14 + 2 * t + 1)).1 = 11 ∧ (kd (14 + 2 * t + 1)).2 = 96 := by decide +kernel
  exact h2 t h
theorem el14 {t : Nat} (h : t < 14) : mx_el 14 13 (nI t).toNatClampNeg = 14 + 2 * t := by
  rw [nI_clamp (by omega)]
  rfl
/-- a text as the class has it -/
def LawR (M : Mm) (t : Nat) (a : Rw) : Prop := M (14 + 2 * t) 0 = a (55 + 2 * t) / 1000 ∧ M (14 + 2 * t) 1 = a (56 + 2 * t) ∧ M (14 + 2 * t) 2 = f_rem (a (55 + 2 * t)) 1000 ∧ ∀ j, j < cN (f_rem (a (55 + 2 * t)) 1000) → M (14 + 2 * t + 1) j = f_st (a (83 + 96 * t + j)) ∧ sgk (a (83 + 96 * t + j))
def RLw (M : Mm) (a : Rw) : Prop := ∀ t, t < cN (a 6) → LawR M t a
theorem RLw_congr {M M1 : Mm} {a b : Rw} (hM : ∀ q, 14 ≤ q → q < 42 → M1 q = M q) (h : ∀ j, j = 6 ∨ 55 ≤ j → b j = a j) (hT : cN (a 6) ≤ 14) (hL : RLw M a) : RLw M1 b := by
  intro t ht
  rw [h 6 (Or.inl rfl)] at ht
  obtain ⟨h1, h2, h3, h4⟩ := hL t ht
  have e1 := hM (14 + 2 * t) (by omega) (by omega)
  have e2 := hM (14 + 2 * t + 1) (by omega) (by omega)
  refine ⟨?_, ?_, ?_, ?_⟩
  · rw [e1, h _ (Or.inr (by omega))]; exact h1
  · rw [e1, h _ (Or.inr (by omega))]; exact h2
  · rw [e1, h _ (Or.inr (by omega))]; exact h3
  · intro j hj
    rw [h _ (Or.inr (by omega))] at hj
    rw [e2, h _ (Or.inr (by omega))]
    exact h4 j hj
theorem cntF_lt (a : Rw) (key : Int32) : ∀ T, cntF a key T = -1 ∨ ∃ t, t < T ∧ cntF a key T = nI t
  | 0 => Or.inl rfl
  | T + 1 => by
    unfold cntF
    split
    · exact Or.inr ⟨T, by omega, rfl⟩
    · rcases cntF_lt a key T with h | ⟨t, h1, h2⟩
      · exact Or.inl h
      · exact Or.inr ⟨t, by omega, h2⟩
theorem cnt_spec2 {a : Rw} {kk : Nat} (hk : kk ≤ 2) (h : VT a) : A_cnt a (nI kk) = -1 ∨ ∃ t n, t < 14 ∧ t < cN (a 6) ∧ A_cnt a (nI kk) = nI t ∧ f_rem (a (55 + 2 * t)) 1000 = nI n ∧ WFc (fun j => a (83 + 96 * t + j)) n (nnK kk) := by
  rcases cnt_spec hk h with h1 | ⟨t, n, h1, h2, h3, h4⟩
  · exact Or.inl h1
  · rcases cntF_lt a (nI kk) (cN (a 6)) with g | ⟨t', g1, g2⟩
    · exact Or.inl g
    · have hT : cN (a 6) ≤ 14 := by
        obtain ⟨T, q1, q2, -⟩ := h
        rw [q2, cN_nI (by omega)]
        exact q1
      have e : t = t' := (nI_eq (by omega) (by omega)).mp (h2.symm.trans g2)
      exact Or.inr ⟨t, n, h1, by omega, h2, h3, h4⟩
theorem cntF_congr {a b : Rw} {key : Int32} : ∀ T, (∀ j, 55 ≤ j → b j = a j) → cntF b key T = cntF a key T
  | 0, _ => rfl
  | T + 1, h => by
    unfold cntF
    rw [h (55 + 2 * T) (by omega), cntF_congr T h]
theorem A_cnt_congr {a b : Rw} {key : Int32} (h : ∀ j, j = 6 ∨ 55 ≤ j → b j = a j) : A_cnt b key = A_cnt a key := by
  unfold A_cnt
  rw [h 6 (Or.inl rfl), cntF_congr _ (fun j hj => h j (Or.inr hj))]
theorem A_ev_row {a b : Rw} {t : Nat} {fc : Nat → Int32} (h : ∀ j, 55 ≤ j → b j = a j) : A_ev b t fc = A_ev a t fc := by
  unfold A_ev
  rw [h (55 + 2 * t) (by omega)]
  have e : (fun k => b (83 + 96 * t + k)) = fun k => a (83 + 96 * t + k) := by
    funext k
    exact h _ (by omega)
  rw [e]
theorem f_held_id {x : Int32} {j n : Nat} (hx : x = nI j) (hj : j ≤ n) (hn : n < 2 ^ 31) : f_held x 0 (nI n) = x := by
  subst hx
  unfold f_held
  rw [if_neg (nI_pos (by omega)), if_neg (nI_nlt hj hn)]
theorem lt_of_dec {m : Nat} {v : Int32} (hm : m ≤ 1000) (h : nI m ≤ v) : nI m - 1 < v := by
  rw [Int32.le_iff_toInt_le, nI_toInt (by omega)] at h
  rw [Int32.lt_iff_toInt_lt]
  cases m with
  | zero =>
    have : (nI 0 - 1).toInt = -1 := by decide
    omega
  | succ m =>
    rw [nI_pred, nI_toInt (by omega)]
    omega
theorem le_of_dec {m : Nat} {v : Int32} (hm : m ≤ 1000) (h0 : 0 ≤ v) (h : ¬ nI m ≤ v) : v ≤ nI m - 1 := by
  rw [Int32.le_iff_toInt_le, nI_toInt (by omega)] at h
  rw [Int32.le_iff_toInt_le] at h0 ⊢
  have e0 : (0 : Int32).toInt = 0 := by decide
  cases m with
  | zero => omega
  | succ m =>
    rw [nI_pred, nI_toInt (by omega)]
    omega
theorem c_X6_has {l : Launch} {G : Gt} {M : Mm} {v : Int32} {m : Nat} {w : Nat} (hw : KW w) (hm : m ≤ 6) (h4 : M w 4 = nI m) : Runs l G true dm_X6_has 0 127 [.ref w, .int v] M 127 (Pi (fun x M1 => x = f_in v 0 (nI m - 1) ∧ M1 = M)) := by
  refine mx_run ow_X6_has rfl rfl (fun dp X hdp R => ?_)
  obtain ⟨k0, k1, z1, k2, z2, k3, k4, z4, kD, wlo, whi⟩ := id hw
  refine R.b bk_X6_has_0 ?_
  refine R.c br_X6_has_1 (And.intro (fun h1 => ?_) (fun h1 => ?_))
  · refine R.b bk_X6_has_16 ?_
    refine R.ri rt_X6_has_17 rfl ⟨_, rfl, ?_⟩
    refine ⟨?_, rfl⟩
    first
    | exact (f_in_l h1).symm
    | (have q1 : M w 4 ≤ v := h9
       rw [h4] at q1
       refine (f_in_g ?_).symm
       exact lt_of_dec (by omega) q1)
    | (have q1 : ¬ M w 4 ≤ v := h9
       rw [h4] at q1
       exact (f_in_t (Int32.not_lt.mp h1) (le_of_dec (by omega) (Int32.not_lt.mp h1) q1)).symm)
  · refine R.b bk_X6_has_4 (And.intro (by first | rfl | assumption | exact kdE hw (by omega)) ?_)
    refine R.c br_X6_has_9 (And.intro (fun h9 => ?_) (fun h9 => ?_))
    · refine R.b bk_X6_has_16 ?_
      refine R.ri rt_X6_has_17 rfl ⟨_, rfl, ?_⟩
      refine ⟨?_, rfl⟩
      first
      | exact (f_in_l h1).symm
      | (have q1 : M w 4 ≤ v := h9
         rw [h4] at q1
         refine (f_in_g ?_).symm
         exact lt_of_dec (by omega) q1)
      | (have q1 : ¬ M w 4 ≤ v := h9
         rw [h4] at q1
         exact (f_in_t (Int32.not_lt.mp h1) (le_of_dec (by omega) (Int32.not_lt.mp h1) q1)).symm)
    · refine R.b bk_X6_has_12 ?_
      refine R.j gt_X6_has_13 ?_
      refine R.ri rt_X6_has_17 rfl ⟨_, rfl, ?_⟩
      refine ⟨?_, rfl⟩
      first
      | exact (f_in_l h1).symm
      | (have q1 : M w 4 ≤ v := h9
         rw [h4] at q1
         refine (f_in_g ?_).symm
         exact lt_of_dec (by omega) q1)
      | (have q1 : ¬ M w 4 ≤ v := h9
         rw [h4] at q1
         exact (f_in_t (Int32.not_lt.mp h1) (le_of_dec (by omega) (Int32.not_lt.mp h1) q1)).symm)
theorem c_X6_draw {l : Launch} {G : Gt} {M : Mm} {w : Nat} (hw : KW w) : Runs l G true dm_X6_draw 0 127 [.ref w] M 127 (Pi (fun x M1 => x = f_dr (f_dz (M w 9)) ∧ M1 = mx_wr M w 9 (f_dz (M w 9)))) := by
  refine mx_run ow_X6_draw rfl rfl (fun dp X hdp R => ?_)
  obtain ⟨k0, k1, z1, k2, z2, k3, k4, z4, kD, wlo, whi⟩ := id hw
  refine R.b bk_X6_draw_0 (And.intro (by first | rfl | assumption | exact kdE hw (by omega)) (And.intro (by first | rfl | assumption | exact kdE hw (by omega)) (And.intro rfl (And.intro rfl (And.intro (by first | rfl | assumption | exact kdE hw (by omega)) ?_)))))
  refine R.ri rt_X6_draw_22 rfl ⟨_, rfl, ?_⟩
  refine ⟨?_, rfl⟩
  show _ = f_dr (f_dz (M w 9))
  rw [mx_wr_up, mx_rw_at, up_at]
  rfl
theorem f_in_d {d m : Nat} (hd : d < m) (hm : m ≤ 1000) : ¬ f_in (nI d) 0 (nI m - 1) = 0 := by
  rw [f_in_t (nI_pos' (by omega)) (by rw [nI_dec m (by omega)]; exact nI_le (by omega) (by omega))]
  decide
theorem c_X6_fairAt {l : Launch} {G : Gt} {M : Mm} {w : Nat} (hw : KW w) {d : Nat} {m : Nat} (hm : m ≤ 6) (h4 : M w 4 = nI m) (hd : d < m) : Runs l G true dm_X6_fairAt 1 127 [.ref w, .int (nI d)] M 127 (Pi (fun x M1 => x = f_eq (M (w + 5 + d) 4) (M w 8) ∧ M1 = M)) := by
  refine mx_run ow_X6_fairAt rfl rfl (fun dp X hdp R => ?_)
  obtain ⟨k0, k1, z1, k2, z2, k3, k4, z4, kD, wlo, whi⟩ := id hw
  refine R.b bk_X6_fairAt_0 ?_
  refine R.V1i kc_X6_fairAt_2 (by first | rfl | assumption | exact kdE hw (by omega)) (c_X6_has hw hm h4) (by omega) rfl ⟨Nat.le_refl _, Nat.le_refl _⟩ (fun x2 M2 q2 => ?_)
  obtain ⟨rfl, q2⟩ := q2
  replace q2 := q2.symm
  subst q2
  refine R.c br_X6_fairAt_5 (And.intro (fun h5 => absurd h5 (f_in_d hd (by omega))) (fun h5 => ?_))
  refine R.b bk_X6_fairAt_8 (And.intro (by first | rfl | assumption | exact kdE hw (by omega)) (And.intro ⟨by decide, by decide, rfl⟩ (And.intro (by first | rfl | assumption | exact kdE hw (by omega)) (And.intro (by rw [z1]; exact vp_in_nI (show d < 6 by omega) (by decide)) (And.intro (by first | rfl | assumption | exact kdE hw (by omega)) (And.intro (by first | rfl | assumption | exact kdE hw (by omega)) ?_))))))
  rw [el13 (show d < 6 by omega)]
  refine R.c br_X6_fairAt_21 (And.intro (fun h21 => ?_) (fun h21 => ?_))
  · refine R.b bk_X6_fairAt_28 ?_
    refine R.ri rt_X6_fairAt_29 rfl ⟨_, rfl, ?_⟩
    exact ⟨by unfold f_eq; simp_all, rfl⟩
  · refine R.b bk_X6_fairAt_24 ?_
    refine R.j gt_X6_fairAt_25 ?_
    refine R.ri rt_X6_fairAt_29 rfl ⟨_, rfl, ?_⟩
    exact ⟨by unfold f_eq; simp_all, rfl⟩
/-- a world holds a row: of the districts those of S -/
def RW (M : Mm) (w : Nat) (a : Rw) (S : Nat → Bool) (mm : Nat) : Prop := a 1 = nI mm ∧ M w 4 = a 1 ∧ M w 5 = a 2 ∧ M w 6 = a 3 ∧ M w 7 = a 4 ∧ M w 8 = a 5 ∧ M w 9 = a 0 ∧ M w 10 = a 6 ∧ (∀ k, k < 3 → M (w + 2) k = A_cnt a (nI k)) ∧ ∀ d, d < mm → S d = true → ∀ f, f < 8 → M (w + 5 + d) f = a (7 + 8 * d + f)
abbrev Sall : Nat → Bool := fun _ => true
theorem c_X6_fairs {l : Launch} {G : Gt} {M : Mm} {w : Nat} (hw : KW w) {a : Rw} {mm : Nat} (hm : mm ≤ 6) (hR : RW M w a Sall mm) : Runs l G true dm_X6_fairs 2 127 [.ref w] M 127 (Pi (fun x M1 => x = A_fairs a mm ∧ M1 = M)) := by
  refine mx_run ow_X6_fairs rfl rfl (fun dp X hdp R => ?_)
  obtain ⟨k0, k1, z1, k2, z2, k3, k4, z4, kD, wlo, whi⟩ := id hw
  have h4 : M w 4 = nI mm := hR.2.1.trans hR.1
  have hDD := hR.2.2.2.2.2.2.2.2.2
  have hA : ∀ (fu i : Nat) , mm - i = fu → i ≤ mm → X 127 M 4 [some (.ref w), some (.int (A_fairs a i)), some (.int (nI i))] [] := by
    intro fu
    induction fu with
    | zero =>
      intro i  hfu hi 
      have hiN : i = mm := by omega
      refine R.b bk_X6_fairs_4 (And.intro (by first | rfl | assumption | exact kdE hw (by omega)) ?_)
      refine R.c br_X6_fairs_9 (And.intro (fun h9 => ?_) (fun h9 => absurd (by rw [h4, hiN]; exact nI_le (Nat.le_refl mm) (by omega)) h9))
      refine R.b bk_X6_fairs_26 ?_
      refine R.ri rt_X6_fairs_27 rfl ⟨_, rfl, ?_⟩
      subst hiN
      exact ⟨rfl, rfl⟩
    | succ fu ih =>
      intro i  hfu hi 
      have hlt : i < mm := by omega
      refine R.b bk_X6_fairs_4 (And.intro (by first | rfl | assumption | exact kdE hw (by omega)) ?_)
      refine R.c br_X6_fairs_9 (And.intro (fun h9 => absurd h9 (by rw [h4]; exact nI_ge hlt (by omega))) (fun h9 => ?_))
      refine R.b bk_X6_fairs_12 ?_
      refine R.V1i kc_X6_fairs_15 (by first | rfl | assumption | exact kdE hw (by omega)) (c_X6_fairAt hw (d := i) hm h4 hlt) (by omega) rfl ⟨Nat.le_refl _, Nat.le_refl _⟩ (fun x15 M15 q15 => ?_)
      obtain ⟨rfl, q15⟩ := q15
      replace q15 := q15.symm
      subst q15
      refine R.b bk_X6_fairs_18 ?_
      refine R.j gt_X6_fairs_23 ?_
      rw [nI_inc]
      rw [hDD i hlt rfl 4 (by decide), hR.2.2.2.2.2.1]
      exact ih (i + 1) (by omega) (by omega)
  refine R.b bk_X6_fairs_0 ?_
  exact hA mm 0 rfl (Nat.zero_le mm)
theorem c_X6_pursesOfAll {l : Launch} {G : Gt} {M : Mm} {w : Nat} (hw : KW w) {a : Rw} {mm : Nat} (hm : mm ≤ 6) (hR : RW M w a Sall mm) : Runs l G true dm_X6_pursesOfAll 2 127 [.ref w] M 127 (Pi (fun x M1 => x = A_sum a 7 mm ∧ M1 = M)) := by
  refine mx_run ow_X6_pursesOfAll rfl rfl (fun dp X hdp R => ?_)
  obtain ⟨k0, k1, z1, k2, z2, k3, k4, z4, kD, wlo, whi⟩ := id hw
  have h4 : M w 4 = nI mm := hR.2.1.trans hR.1
  have hDD := hR.2.2.2.2.2.2.2.2.2
  have hA : ∀ (fu i : Nat) , mm - i = fu → i ≤ mm → X 127 M 4 [some (.ref w), some (.int (A_sum a 7 i)), some (.int (nI i))] [] := by
    intro fu
    induction fu with
    | zero =>
      intro i  hfu hi 
      have hiN : i = mm := by omega
      refine R.b bk_X6_pursesOfAll_4 (And.intro (by first | rfl | assumption | exact kdE hw (by omega)) ?_)
      refine R.c br_X6_pursesOfAll_9 (And.intro (fun h9 => ?_) (fun h9 => absurd (by rw [h4, hiN]; exact nI_le (Nat.le_refl mm) (by omega)) h9))
      refine R.b bk_X6_pursesOfAll_30 ?_
      refine R.ri rt_X6_pursesOfAll_31 rfl ⟨_, rfl, ?_⟩
      subst hiN
      exact ⟨rfl, rfl⟩
    | succ fu ih =>
      intro i  hfu hi 
      have hlt : i < mm := by omega
      refine R.b bk_X6_pursesOfAll_4 (And.intro (by first | rfl | assumption | exact kdE hw (by omega)) ?_)
      refine R.c br_X6_pursesOfAll_9 (And.intro (fun h9 => absurd h9 (by rw [h4]; exact nI_ge hlt (by omega))) (fun h9 => ?_))
      refine R.b bk_X6_pursesOfAll_12 (And.intro (by first | rfl | assumption | exact kdE hw (by omega)) (And.intro ⟨by decide, by decide, rfl⟩ (And.intro (by first | rfl | assumption | exact kdE hw (by omega)) (And.intro (by rw [z1]; exact vp_in_nI (show i < 6 by omega) (by decide)) (And.intro (by first | rfl | assumption | exact kdE hw (by omega)) ?_)))))
      refine R.j gt_X6_pursesOfAll_27 ?_
      rw [nI_inc]
      rw [el13 (show i < 6 by omega), hDD i hlt rfl 7 (by decide)]
      exact ih (i + 1) (by omega) (by omega)
  refine R.b bk_X6_pursesOfAll_0 ?_
  exact hA mm 0 rfl (Nat.zero_le mm)
theorem c_X6_bornOfAll {l : Launch} {G : Gt} {M : Mm} {w : Nat} (hw : KW w) {a : Rw} {mm : Nat} (hm : mm ≤ 6) (hR : RW M w a Sall mm) : Runs l G true dm_X6_bornOfAll 2 127 [.ref w] M 127 (Pi (fun x M1 => x = A_sum a 5 mm ∧ M1 = M)) := by
  refine mx_run ow_X6_bornOfAll rfl rfl (fun dp X hdp R => ?_)
  obtain ⟨k0, k1, z1, k2, z2, k3, k4, z4, kD, wlo, whi⟩ := id hw
  have h4 : M w 4 = nI mm := hR.2.1.trans hR.1
  have hDD := hR.2.2.2.2.2.2.2.2.2
  have hA : ∀ (fu i : Nat) , mm - i = fu → i ≤ mm → X 127 M 4 [some (.ref w), some (.int (A_sum a 5 i)), some (.int (nI i))] [] := by
    intro fu
    induction fu with
    | zero =>
      intro i  hfu hi 
      have hiN : i = mm := by omega
      refine R.b bk_X6_bornOfAll_4 (And.intro (by first | rfl | assumption | exact kdE hw (by omega)) ?_)
      refine R.c br_X6_bornOfAll_9 (And.intro (fun h9 => ?_) (fun h9 => absurd (by rw [h4, hiN]; exact nI_le (Nat.le_refl mm) (by omega)) h9))
      refine R.b bk_X6_bornOfAll_30 ?_
      refine R.ri rt_X6_bornOfAll_31 rfl ⟨_, rfl, ?_⟩
      subst hiN
      exact ⟨rfl, rfl⟩
    | succ fu ih =>
      intro i  hfu hi 
      have hlt : i < mm := by omega
      refine R.b bk_X6_bornOfAll_4 (And.intro (by first | rfl | assumption | exact kdE hw (by omega)) ?_)
      refine R.c br_X6_bornOfAll_9 (And.intro (fun h9 => absurd h9 (by rw [h4]; exact nI_ge hlt (by omega))) (fun h9 => ?_))
      refine R.b bk_X6_bornOfAll_12 (And.intro (by first | rfl | assumption | exact kdE hw (by omega)) (And.intro ⟨by decide, by decide, rfl⟩ (And.intro (by first | rfl | assumption | exact kdE hw (by omega)) (And.intro (by rw [z1]; exact vp_in_nI (show i < 6 by omega) (by decide)) (And.intro (by first | rfl | assumption | exact kdE hw (by omega)) ?_)))))
      refine R.j gt_X6_bornOfAll_27 ?_
      rw [nI_inc]
      rw [el13 (show i < 6 by omega), hDD i hlt rfl 5 (by decide)]
      exact ih (i + 1) (by omega) (by omega)
  refine R.b bk_X6_bornOfAll_0 ?_
  exact hA mm 0 rfl (Nat.zero_le mm)
theorem c_X6_lawFor {l : Launch} {G : Gt} {M : Mm} {w : Nat} (hw : KW w) {kk : Nat} (hkk : kk < 3) {a : Rw} (hc : ∀ k, k < 3 → M (w + 2) k = A_cnt a (nI k)) (hV : VT a) : Runs l G true dm_X6_lawFor 0 127 [.ref w, .int (nI kk)] M 127 (Pa (fun v M1 => M1 = M ∧ (A_cnt a (nI kk) = -1 → v = .null) ∧ ∀ t, t < 14 → A_cnt a (nI kk) = nI t → v = .ref (14 + 2 * t))) := by
  refine mx_run ow_X6_lawFor rfl rfl (fun dp X hdp R => ?_)
  obtain ⟨k0, k1, z1, k2, z2, k3, k4, z4, kD, wlo, whi⟩ := id hw
  have e2 : M (w + 2) (nI kk).toNatClampNeg = A_cnt a (nI kk) := by rw [nI_clamp (by omega)]; exact hc kk hkk
  refine R.b bk_X6_lawFor_0 (And.intro (by first | rfl | assumption | exact kdE hw (by omega)) (And.intro (by first | rfl | assumption | exact kdE hw (by omega)) (And.intro (by rw [z2]; exact vp_in_nI hkk (by decide)) ?_)))
  rw [e2]
  rcases cnt_spec2 (kk := kk) (by omega) hV with hq | ⟨t, n, ht1, -, ht2, -⟩
  · refine R.c br_X6_lawFor_8 (And.intro (fun h8 => ?_) (fun h8 => absurd (by rw [hq]; decide) h8))
    refine R.b bk_X6_lawFor_29 ?_
    refine R.rn rt_X6_lawFor_30 ⟨_, rfl, ?_⟩
    refine ⟨rfl, fun _ => rfl, fun t ht e => ?_⟩
    rw [hq] at e
    exact absurd e.symm (nI_not_m1 (by omega))
  · refine R.c br_X6_lawFor_8 (And.intro (fun h8 => absurd h8 (by rw [ht2]; exact nI_pos (by omega))) (fun h8 => ?_))
    refine R.b bk_X6_lawFor_11 (And.intro (by first | rfl | assumption | exact kdE hw (by omega)) (And.intro ⟨14, by decide, by decide, rfl⟩ ?_))
    refine R.c br_X6_lawFor_17 (And.intro (fun h17 => absurd h17 (by rw [ht2]; exact nI_ge (b := 14) ht1 (by decide))) (fun h17 => ?_))
    refine R.b bk_X6_lawFor_20 (And.intro (by first | rfl | assumption | exact kdE hw (by omega)) (And.intro ⟨by decide, by decide, rfl⟩ (And.intro (by first | rfl | assumption | exact kdE hw (by omega)) (And.intro (by rw [ht2]; exact vp_in_nI ht1 (by decide)) ?_))))
    refine R.j gt_X6_lawFor_26 ?_
    refine R.ra rt_X6_lawFor_30 ⟨_, rfl, ?_⟩
    refine ⟨rfl, fun e => ?_, fun t2 h2 e => ?_⟩
    · rw [ht2] at e
      exact absurd e (nI_not_m1 (by omega))
    · rw [ht2] at e ⊢
      rw [el14 ht1, (nI_eq (by omega) (by omega)).mp e]
theorem c_X6_birthsOf {l : Launch} {G : Gt} {M : Mm} {w : Nat} (hw : KW w) {k : Nat} {x : Int32} (hk : (kd k).1 = 0) (hke : k ≠ w + 3 + 1) {a : Rw} (hc : ∀ k, k < 3 → M (w + 2) k = A_cnt a (nI k)) (hV : VT a) (hL : RLw M a) (hx : ∃ j, j ≤ 30 ∧ x = nI j) : Runs l G true dm_X6_birthsOf 2 127 [.ref w, .ref k, .int x] M 127 (Pi (fun v M1 => v = f_bk (M k 0) (A_plain a x (M k 3) (M k 4)) (M k 1) (M k 4) (M k 3) ∧ ∀ p, p ≠ w + 3 + 1 → M1 p = M p)) := by
  refine mx_run ow_X6_birthsOf rfl rfl (fun dp X hdp R => ?_)
  obtain ⟨k0, k1, z1, k2, z2, k3, k4, z4, kD, wlo, whi⟩ := id hw
  refine R.b bk_X6_birthsOf_0 ?_
  refine R.V1a kc_X6_birthsOf_2 (by first | rfl | assumption | exact kdE hw (by omega)) (c_X6_lawFor hw (kk := 0) (by decide) hc hV) (by omega) rfl ⟨Nat.le_refl _, Nat.le_refl _⟩ (fun x2 M2 q2 => ?_)
  obtain ⟨q2e, q2n, q2r⟩ := q2
  replace q2e := q2e.symm
  subst q2e
  rcases cnt_spec2 (kk := 0) (by decide) hV with hcs | ⟨t, n, ht1, ht2, hcs, hn, hwf⟩
  · obtain rfl := q2n hcs
    refine R.b bk_X6_birthsOf_5 ?_
    refine R.c br_X6_birthsOf_7 ?_
    refine R.b bk_X6_birthsOf_10 ?_
    refine R.j gt_X6_birthsOf_11 ?_
    refine R.b bk_X6_birthsOf_31 ?_
    refine R.S3i kc_X6_birthsOf_39 (c_X7_held (by decide)) (by omega) rfl ⟨Nat.le_refl _, Nat.le_refl _⟩ (fun x39 M39 q39 => ?_)
    obtain ⟨rfl, q39⟩ := q39
    replace q39 := q39.symm
    subst q39
    refine R.V1i kc_X6_birthsOf_42 (by first | rfl | assumption | exact kdE hw (by omega)) (c_X0_birthsByKind hk) (by omega) rfl ⟨Nat.le_refl _, Nat.le_refl _⟩ (fun x42 M42 q42 => ?_)
    obtain ⟨rfl, q42⟩ := q42
    replace q42 := q42.symm
    subst q42
    refine R.ri rt_X6_birthsOf_45 rfl ⟨_, rfl, ?_⟩
    refine ⟨?_, fun p _ => rfl⟩
    obtain ⟨j, hj, rfl⟩ := hx
    rw [A_plain, if_pos (show A_cnt a 0 = -1 from hcs), show f_held (nI j) 0 30 = nI j from f_held_id rfl hj (by decide)]
  · obtain rfl := q2r t ht1 hcs
    have kt := kd_law ht1
    have hn96 := hwf.1
    refine R.b bk_X6_birthsOf_5 ?_
    refine R.c br_X6_birthsOf_7 ?_
    refine R.b bk_X6_birthsOf_14 (And.intro (by first | rfl | assumption | exact kdE hw (by omega)) (And.intro (by first | rfl | assumption | exact kdE hw (by omega)) (And.intro (by first | rfl | assumption | exact kdE hw (by omega)) ?_)))
    refine R.V4i kc_X6_birthsOf_28 (by first | rfl | assumption | exact kdE hw (by omega)) (c_X3_gives (q := 14 + 2 * t) (r := w + 3) (n := n) (nn := 3) (code := fun j => a (83 + 96 * t + j)) kt.1 kt.2.1 kt.2.2 k3 k4 z4 (by omega) (by omega) (by decide) hwf (by rw [(hL t ht2).2.2.1]; exact hn) (fun j hj => ((hL t ht2).2.2.2 j (by rw [hn, cN_nI (by omega)]; exact hj)).1) (fun j hj => ((hL t ht2).2.2.2 j (by rw [hn, cN_nI (by omega)]; exact hj)).2)) (by omega) rfl ⟨Nat.le_refl _, Nat.le_refl _⟩ (fun x28 M28 q28 => ?_)
    obtain ⟨e28, f28⟩ := q28
    have hkk : M28 k = M k := f28 k hke
    refine R.b bk_X6_birthsOf_31 ?_
    refine R.S3i kc_X6_birthsOf_39 (c_X7_held (by decide)) (by omega) rfl ⟨Nat.le_refl _, Nat.le_refl _⟩ (fun x39 M39 q39 => ?_)
    obtain ⟨rfl, q39⟩ := q39
    replace q39 := q39.symm
    subst q39
    refine R.V1i kc_X6_birthsOf_42 (by first | rfl | assumption | exact kdE hw (by omega)) (c_X0_birthsByKind hk) (by omega) rfl ⟨Nat.le_refl _, Nat.le_refl _⟩ (fun x42 M42 q42 => ?_)
    obtain ⟨rfl, q42⟩ := q42
    replace q42 := q42.symm
    subst q42
    refine R.ri rt_X6_birthsOf_45 rfl ⟨_, rfl, ?_⟩
    refine ⟨?_, f28⟩
    rw [hkk, A_plain, if_neg (by rw [show A_cnt a 0 = nI t from hcs]; exact nI_not_m1 (by omega)), show A_cnt a 0 = nI t from hcs, cN_nI (by omega), A_ev, hn, cN_nI (by omega), e28]
def rWg (a r : Rw) : Int32 := if A_cnt a 1 = -1 then a 3 else f_held (A_ev a (cN (A_cnt a 1)) (fc3 (r 3) (r 2) 0)) 0 9999
theorem c_X6_wageOf {l : Launch} {G : Gt} {M : Mm} {w : Nat} (hw : KW w) {k : Nat} (hk : (kd k).1 = 0) {a : Rw} (hc : ∀ k, k < 3 → M (w + 2) k = A_cnt a (nI k)) (hV : VT a) (hL : RLw M a) (h6 : M w 6 = a 3) : Runs l G true dm_X6_wageOf 2 127 [.ref w, .ref k] M 127 (Pi (fun v M1 => v = rWg a (M k) ∧ ∀ p, p ≠ w + 3 + 1 → M1 p = M p)) := by
  refine mx_run ow_X6_wageOf rfl rfl (fun dp X hdp R => ?_)
  obtain ⟨k0, k1, z1, k2, z2, k3, k4, z4, kD, wlo, whi⟩ := id hw
  refine R.b bk_X6_wageOf_0 ?_
  refine R.V1a kc_X6_wageOf_2 (by first | rfl | assumption | exact kdE hw (by omega)) (c_X6_lawFor hw (kk := 1) (by decide) hc hV) (by omega) rfl ⟨Nat.le_refl _, Nat.le_refl _⟩ (fun x2 M2 q2 => ?_)
  obtain ⟨q2e, q2n, q2r⟩ := q2
  replace q2e := q2e.symm
  subst q2e
  rcases cnt_spec2 (kk := 1) (by decide) hV with hcs | ⟨t, n, ht1, ht2, hcs, hn, hwf⟩
  · obtain rfl := q2n hcs
    refine R.b bk_X6_wageOf_5 ?_
    refine R.c br_X6_wageOf_7 ?_
    refine R.b bk_X6_wageOf_10 (And.intro (by first | rfl | assumption | exact kdE hw (by omega)) ?_)
    refine R.j gt_X6_wageOf_14 ?_
    refine R.ri rt_X6_wageOf_41 rfl ⟨_, rfl, ?_⟩
    refine ⟨?_, fun p _ => rfl⟩
    rw [rWg, if_pos (show A_cnt a 1 = -1 from hcs)]
    exact h6
  · obtain rfl := q2r t ht1 hcs
    have kt := kd_law ht1
    have hn96 := hwf.1
    refine R.b bk_X6_wageOf_5 ?_
    refine R.c br_X6_wageOf_7 ?_
    refine R.b bk_X6_wageOf_17 (And.intro (by first | rfl | assumption | exact kdE hw (by omega)) (And.intro (by first | rfl | assumption | exact kdE hw (by omega)) (And.intro (by first | rfl | assumption | exact kdE hw (by omega)) ?_)))
    refine R.V4i kc_X6_wageOf_31 (by first | rfl | assumption | exact kdE hw (by omega)) (c_X3_gives (q := 14 + 2 * t) (r := w + 3) (n := n) (nn := 2) (code := fun j => a (83 + 96 * t + j)) kt.1 kt.2.1 kt.2.2 k3 k4 z4 (by omega) (by omega) (by decide) hwf (by rw [(hL t ht2).2.2.1]; exact hn) (fun j hj => ((hL t ht2).2.2.2 j (by rw [hn, cN_nI (by omega)]; exact hj)).1) (fun j hj => ((hL t ht2).2.2.2 j (by rw [hn, cN_nI (by omega)]; exact hj)).2)) (by omega) rfl ⟨Nat.le_refl _, Nat.le_refl _⟩ (fun x31 M31 q31 => ?_)
    obtain ⟨e31, f31⟩ := q31
    refine R.b bk_X6_wageOf_34 ?_
    refine R.S3i kc_X6_wageOf_38 (c_X7_held (by decide)) (by omega) rfl ⟨Nat.le_refl _, Nat.le_refl _⟩ (fun x38 M38 q38 => ?_)
    obtain ⟨rfl, q38⟩ := q38
    replace q38 := q38.symm
    subst q38
    refine R.ri rt_X6_wageOf_41 rfl ⟨_, rfl, ?_⟩
    refine ⟨?_, f31⟩
    rw [rWg, if_neg (by rw [show A_cnt a 1 = nI t from hcs]; exact nI_not_m1 (by omega)), show A_cnt a 1 = nI t from hcs, cN_nI (by omega), A_ev, hn, cN_nI (by omega), e31]
