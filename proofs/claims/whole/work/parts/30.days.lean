/-! what holds of the districts of a row, over days -/
/-- a district's kind, length, place -/
def VPd (a : Rw) (d : Nat) : Prop := ∃ k L p, k ≤ 5 ∧ a (7 + 8 * d) = nI k ∧ a (7 + 8 * d + 3) = nI L ∧ a (7 + 8 * d + 4) = nI p ∧ p < L ∧ 2 ≤ L ∧ L ≤ 60
def VP (a : Rw) (mm : Nat) : Prop := VR a mm ∧ ∀ d, d < mm → VPd a d
theorem f_held_2_60 (v : Int32) : ∃ L, 2 ≤ L ∧ L ≤ 60 ∧ f_held v 2 60 = nI L := by
  unfold f_held
  split
  · exact ⟨2, by decide, by decide, rfl⟩
  · split
    · exact ⟨60, by decide, by decide, rfl⟩
    · rename_i h1 h2
      have e0 : (0 : Int32).toInt = 0 := by decide
      have e2 : (2 : Int32).toInt = 2 := by decide
      have h0 : ¬ v < 0 := by
        rw [Int32.lt_iff_toInt_lt] at h1 ⊢
        omega
      obtain ⟨j, hj, e⟩ := nI_of2 (x := v) (M := 60) (n := 60) (by decide) h0 (Int32.not_lt.mp h2)
      refine ⟨j, ?_, hj, e⟩
      rw [e] at h1
      rcases Nat.lt_or_ge j 2 with q | q
      · exact absurd (nI_lt (b := 2) q (by decide)) h1
      · exact q
theorem A_dayD_ne {a : Rw} {d e f : Nat} (h : e ≠ d) (hf : f < 8) : A_dayD a e (7 + 8 * d + f) = a (7 + 8 * d + f) := A_dayD_keep (by omega) (by omega)
theorem A_dayN_lo {a : Rw} {d f : Nat} (hf : f < 8) : ∀ n, n ≤ d → A_dayN a n (7 + 8 * d + f) = a (7 + 8 * d + f)
  | 0, _ => rfl
  | n + 1, h => by
    unfold A_dayN
    rw [A_dayD_ne (by omega) hf, A_dayN_lo hf n (by omega)]
theorem A_dayN_hi {a : Rw} {d f : Nat} (hf : f < 8) : ∀ n, d < n → A_dayN a n (7 + 8 * d + f) = A_dayD (A_dayN a d) d (7 + 8 * d + f)
  | 0, h => absurd h (Nat.not_lt_zero d)
  | n + 1, h => by
    by_cases hd : d = n
    · subst hd
      rfl
    · rw [A_dayN, A_dayD_ne (by omega) hf, A_dayN_hi hf n (by omega)]
theorem A_day_at {a : Rw} {mm d f : Nat} (hV : VR a mm) (hd : d < mm) (hf : f < 8) : A_day a (7 + 8 * d + f) = A_dayD (A_dayN a d) d (7 + 8 * d + f) := by
  have hm := hV.1
  unfold A_day
  rw [up_ne (by omega), show cN (a 1) = mm by rw [hV.2.1]; exact cN_nI (by omega), A_dayN_hi hf mm hd]
theorem nI_in_eq {p L : Nat} (hp : p < 2 ^ 30) (hL : L < 2 ^ 30) : (nI p + 1 = nI L) ↔ p + 1 = L := by
  rw [nI_1]
  exact nI_eq (by omega) (by omega)
/-- a day of a district, by its place -/
theorem A_dayD_pl {a : Rw} {d L p : Nat} (hL : a (7 + 8 * d + 3) = nI L) (hp : a (7 + 8 * d + 4) = nI p) (hpL : p < L) (hL60 : L ≤ 60) :
    (p + 1 < L → A_wkD a d = 0 ∧ A_dayD a d (7 + 8 * d + 2) = a (7 + 8 * d + 2) ∧ A_dayD a d (7 + 8 * d + 3) = nI L ∧ A_dayD a d (7 + 8 * d + 4) = nI (p + 1)) ∧
    (p + 1 = L → A_wkD a d = 1 ∧ A_dayD a d (7 + 8 * d + 2) = a (7 + 8 * d + 2) + 1 ∧ A_dayD a d (7 + 8 * d + 3) = f_held (A_d2 a d (7 + 8 * d + 5)) 2 60 ∧ A_dayD a d (7 + 8 * d + 4) = 0) := by
  have e4 : A_d2 a d (7 + 8 * d + 4) = nI (p + 1) := by
    simp only [A_d2]
    rw [if_neg (by omega), if_neg (by omega), if_pos trivial, hp, nI_1]
  have e3 : A_d2 a d (7 + 8 * d + 3) = nI L := by
    simp only [A_d2]
    rw [if_neg (by omega), if_neg (by omega), if_neg (by omega), if_neg (by omega), hL]
  have e2 : A_d2 a d (7 + 8 * d + 2) = a (7 + 8 * d + 2) := by
    simp only [A_d2]
    rw [if_neg (by omega), if_neg (by omega), if_neg (by omega), if_neg (by omega)]
  constructor
  · intro h
    have hne : ¬ A_d2 a d (7 + 8 * d + 4) = A_d2 a d (7 + 8 * d + 3) := by
      rw [e4, e3, nI_eq (by omega) (by omega)]
      omega
    rw [A_wkD, A_dayD, if_neg hne, if_neg hne]
    exact ⟨rfl, e2, e3, e4⟩
  · intro h
    have heq : A_d2 a d (7 + 8 * d + 4) = A_d2 a d (7 + 8 * d + 3) := by rw [e4, e3, h]
    rw [A_wkD, A_dayD, if_pos heq, if_pos heq]
    refine ⟨rfl, ?_, ?_, ?_⟩
    · simp only [A_week]
      rw [if_neg (by omega), if_pos trivial, e2]
    · simp only [A_week]
      rw [if_neg (by omega), if_neg (by omega), if_pos trivial]
    · simp only [A_week]
      rw [if_neg (by omega), if_neg (by omega), if_neg (by omega), if_neg (by omega), if_neg (by omega), if_pos trivial]
theorem VPd_dayD {a : Rw} {d : Nat} (e : Nat) (h : VPd a d) : VPd (A_dayD a e) d := by
  obtain ⟨k, L, p, h1, h2, h3, h4, h5, h6, h7⟩ := h
  by_cases hed : e = d
  · subst hed
    have hk : A_dayD a e (7 + 8 * e) = nI k := by rw [A_dayD_keep (by omega) (by omega)]; exact h2
    obtain ⟨g1, g2⟩ := A_dayD_pl h3 h4 h5 h7
    rcases Nat.lt_or_ge (p + 1) L with q | q
    · obtain ⟨-, -, i3, i4⟩ := g1 q
      exact ⟨k, L, p + 1, h1, hk, i3, i4, q, h6, h7⟩
    · obtain ⟨-, -, i3, i4⟩ := g2 (by omega)
      obtain ⟨L', j1, j2, j3⟩ := f_held_2_60 (A_d2 a e (7 + 8 * e + 5))
      exact ⟨k, L', 0, h1, hk, i3.trans j3, i4, by omega, j1, j2⟩
  · have hk : A_dayD a e (7 + 8 * d) = a (7 + 8 * d) := A_dayD_ne (f := 0) hed (by decide)
    exact ⟨k, L, p, h1, hk.trans h2, (A_dayD_ne hed (by decide)).trans h3, (A_dayD_ne hed (by decide)).trans h4, h5, h6, h7⟩
theorem VPd_dayN {a : Rw} {d : Nat} (h : VPd a d) : ∀ n, VPd (A_dayN a n) d
  | 0 => h
  | n + 1 => VPd_dayD n (VPd_dayN h n)
theorem VPd_congr {a b : Rw} {d : Nat} (h : ∀ f, f < 8 → b (7 + 8 * d + f) = a (7 + 8 * d + f)) (hV : VPd a d) : VPd b d := by
  obtain ⟨k, L, p, h1, h2, h3, h4, h5⟩ := hV
  exact ⟨k, L, p, h1, (h 0 (by decide)).trans h2, (h 3 (by decide)).trans h3, (h 4 (by decide)).trans h4, h5⟩
theorem VP_day {a : Rw} {mm : Nat} (h : VP a mm) : VP (A_day a) mm := by
  have hm := h.1.1
  refine ⟨VR_day h.1, fun d hd => VPd_congr (fun f hf => ?_) (VPd_dayN (h.2 d hd) mm)⟩
  unfold A_day
  rw [up_ne (by omega), show cN (a 1) = mm by rw [h.1.2.1]; exact cN_nI (by omega)]
theorem VP_go {a : Rw} {mm : Nat} (h : VP a mm) : ∀ n, VP (A_go a n) mm
  | 0 => h
  | n + 1 => VP_day (VP_go h n)
/-- a day, as a district's place shows it -/
theorem A_day_pl {a : Rw} {mm d L p : Nat} (hV : VP a mm) (hd : d < mm) (hL : a (7 + 8 * d + 3) = nI L) (hp : a (7 + 8 * d + 4) = nI p) (hpL : p < L) (hL60 : L ≤ 60) :
    (p + 1 < L → A_day a (7 + 8 * d + 2) = a (7 + 8 * d + 2) ∧ A_day a (7 + 8 * d + 3) = nI L ∧ A_day a (7 + 8 * d + 4) = nI (p + 1)) ∧
    (p + 1 = L → A_day a (7 + 8 * d + 2) = a (7 + 8 * d + 2) + 1 ∧ A_day a (7 + 8 * d + 4) = 0) := by
  rw [A_day_at hV.1 hd (by decide), A_day_at hV.1 hd (by decide), A_day_at hV.1 hd (by decide)]
  have k2 := A_dayN_lo (a := a) (d := d) (f := 2) (by decide) d (Nat.le_refl d)
  have k3 := A_dayN_lo (a := a) (d := d) (f := 3) (by decide) d (Nat.le_refl d)
  have k4 := A_dayN_lo (a := a) (d := d) (f := 4) (by decide) d (Nat.le_refl d)
  obtain ⟨g1, g2⟩ := A_dayD_pl (a := A_dayN a d) (d := d) (k3.trans hL) (k4.trans hp) hpL hL60
  constructor
  · intro q
    obtain ⟨-, i2, i3, i4⟩ := g1 q
    exact ⟨i2.trans k2, i3, i4⟩
  · intro q
    obtain ⟨-, i2, -, i4⟩ := g2 q
    exact ⟨by rw [i2, k2], i4⟩
/-- how many days are left of a district's week -/
def f_left (a : Rw) (d : Nat) : Nat := cN (a (7 + 8 * d + 3)) - cN (a (7 + 8 * d + 4))
/-- the day on which a district's k-th week to come begins -/
def A_wd (a : Rw) (d : Nat) : Nat → Nat
  | 0 => 0
  | k + 1 => A_wd a d k + f_left (A_go a (A_wd a d k)) d
theorem A_go_add (a : Rw) (i : Nat) : ∀ j, A_go a (i + j) = A_go (A_go a i) j
  | 0 => rfl
  | j + 1 => by rw [← Nat.add_assoc, A_go, A_go_add a i j]; rfl
/-- within a week: the place goes up; the week stays -/
theorem A_go_in {a : Rw} {mm d L p : Nat} (hV : VP a mm) (hd : d < mm) (hL : a (7 + 8 * d + 3) = nI L) (hp : a (7 + 8 * d + 4) = nI p) (hpL : p < L) (hL60 : L ≤ 60) : ∀ j, p + j < L → A_go a j (7 + 8 * d + 2) = a (7 + 8 * d + 2) ∧ A_go a j (7 + 8 * d + 3) = nI L ∧ A_go a j (7 + 8 * d + 4) = nI (p + j)
  | 0, _ => ⟨rfl, hL, hp⟩
  | j + 1, h => by
    obtain ⟨i1, i2, i3⟩ := A_go_in hV hd hL hp hpL hL60 j (by omega)
    obtain ⟨g1, -⟩ := A_day_pl (VP_go hV j) hd i2 i3 (by omega) hL60
    obtain ⟨k1, k2, k3⟩ := g1 (by omega)
    exact ⟨k1.trans i1, k2, k3⟩
theorem A_go_end {a : Rw} {mm d L p : Nat} (hV : VP a mm) (hd : d < mm) (hL : a (7 + 8 * d + 3) = nI L) (hp : a (7 + 8 * d + 4) = nI p) (hpL : p < L) (hL60 : L ≤ 60) : A_go a (L - p) (7 + 8 * d + 2) = a (7 + 8 * d + 2) + 1 ∧ A_go a (L - p) (7 + 8 * d + 4) = 0 := by
  obtain ⟨i1, i2, i3⟩ := A_go_in hV hd hL hp hpL hL60 (L - p - 1) (by omega)
  obtain ⟨-, g2⟩ := A_day_pl (VP_go hV (L - p - 1)) hd i2 i3 (by omega) hL60
  obtain ⟨k1, k2⟩ := g2 (by omega)
  rw [show L - p = (L - p - 1) + 1 by omega]
  exact ⟨by rw [A_go, k1, i1], k2⟩
