/-! rows stay good -/
/-- a row that differs where nothing is asked -/
theorem VP_of {a b : Rw} {mm : Nat} (h : VP a mm) (h1 : b 1 = a 1) (ht : ∀ j, j = 6 ∨ 55 ≤ j → b j = a j) (hr : ∀ d, d < mm → ∃ rt, rt ≤ 9 ∧ b (7 + 8 * d + 1) = nI rt) (hp : ∀ d, d < mm → VPd b d) : VP b mm := ⟨⟨h.1.1, h1.trans h.1.2.1, VT_congr ht h.1.2.2.1, hr⟩, hp⟩
theorem VP_glob {a b : Rw} {mm : Nat} (h : VP a mm) (hk : ∀ j, j = 1 ∨ 6 ≤ j → b j = a j) : VP b mm :=
  VP_of h (hk 1 (Or.inl rfl)) (fun j hj => hk j (by omega)) (fun d hd => by
    obtain ⟨rt, h1, h2⟩ := h.1.2.2.2 d hd
    exact ⟨rt, h1, by rw [hk _ (by omega)]; exact h2⟩) (fun d hd => VPd_congr (fun f hf => hk _ (by omega)) (h.2 d hd))
theorem VB_of {a b : Rw} {mm top : Nat} (h : VB a mm top) (h2 : b 2 = a 2) (hk : ∀ d, d < mm → b (7 + 8 * d + 5) = a (7 + 8 * d + 5) ∧ b (7 + 8 * d + 6) = a (7 + 8 * d + 6)) : VB b mm top := by
  obtain ⟨dy, g1, g2, g3⟩ := h
  refine ⟨dy, g1, h2.trans g2, fun d hd => ?_⟩
  obtain ⟨x, y, e1, e2, e3⟩ := g3 d hd
  obtain ⟨k1, k2⟩ := hk d hd
  exact ⟨x, y, k1.trans e1, k2.trans e2, e3⟩
theorem VP_kind {a : Rw} {mm d k : Nat} (h : VP a mm) (hd : d < mm) (hk : k ≤ 5) : VP (up a (7 + 8 * d) (nI k)) mm := by
  have hm := h.1.1
  refine VP_of h (up_ne (by omega)) (fun j hj => up_ne (by omega)) (fun e he => ?_) (fun e he => ?_)
  · obtain ⟨rt, h1, h2⟩ := h.1.2.2.2 e he
    exact ⟨rt, h1, by rw [up_ne (by omega)]; exact h2⟩
  · obtain ⟨k0, L, p, q1, q2, q3, q4, q5⟩ := h.2 e he
    by_cases hed : e = d
    · subst hed
      exact ⟨k, L, p, hk, up_at _ _ _, by rw [up_ne (by omega)]; exact q3, by rw [up_ne (by omega)]; exact q4, q5⟩
    · exact ⟨k0, L, p, q1, by rw [up_ne (by omega)]; exact q2, by rw [up_ne (by omega)]; exact q3, by rw [up_ne (by omega)]; exact q4, q5⟩
theorem VP_long {a : Rw} {mm d L : Nat} (h : VP a mm) (hd : d < mm) (h2 : 2 ≤ L) (h60 : L ≤ 60) : VP (up (up a (7 + 8 * d + 4) 0) (7 + 8 * d + 3) (nI L)) mm := by
  have hm := h.1.1
  refine VP_of h (by rw [up_ne (by omega), up_ne (by omega)]) (fun j hj => by rw [up_ne (by omega), up_ne (by omega)]) (fun e he => ?_) (fun e he => ?_)
  · obtain ⟨rt, g1, g2⟩ := h.1.2.2.2 e he
    exact ⟨rt, g1, by rw [up_ne (by omega), up_ne (by omega)]; exact g2⟩
  · obtain ⟨k0, L0, p, q1, q2, q3, q4, q5⟩ := h.2 e he
    by_cases hed : e = d
    · subst hed
      exact ⟨k0, L, 0, q1, by rw [up_ne (by omega), up_ne (by omega)]; exact q2, up_at _ _ _, by rw [up_ne (by omega), up_at]; rfl, by omega, h2, h60⟩
    · exact ⟨k0, L0, p, q1, by rw [up_ne (by omega), up_ne (by omega)]; exact q2, by rw [up_ne (by omega), up_ne (by omega)]; exact q3, by rw [up_ne (by omega), up_ne (by omega)]; exact q4, q5⟩
theorem VP_purse {a : Rw} {mm d : Nat} {v : Int32} (h : VP a mm) (hd : d < mm) : VP (up a (7 + 8 * d + 7) v) mm := by
  have hm := h.1.1
  refine VP_of h (up_ne (by omega)) (fun j hj => up_ne (by omega)) (fun e he => ?_) (fun e he => ?_)
  · obtain ⟨rt, h1, h2⟩ := h.1.2.2.2 e he
    exact ⟨rt, h1, by rw [up_ne (by omega)]; exact h2⟩
  · obtain ⟨k0, L, p, q1, q2, q3, q4, q5⟩ := h.2 e he
    exact ⟨k0, L, p, q1, by rw [up_ne (by omega)]; exact q2, by rw [up_ne (by omega)]; exact q3, by rw [up_ne (by omega)]; exact q4, q5⟩
theorem come_keep {a : Rw} {m j : Nat} {k r : Int32} (h1 : a 1 = nI m) (hm : m ≤ 6) (j1 : j ≠ 1) (j2 : ¬ (7 + 8 * m ≤ j ∧ j < 15 + 8 * m)) : A_come a k r j = a j := by
  have ec : (a 1).toNatClampNeg = m := by rw [h1]; exact nI_clamp (by omega)
  simp only [A_come, ec]
  rw [if_neg j1, if_neg j2]
theorem come_at {a : Rw} {m f : Nat} {k r : Int32} (h1 : a 1 = nI m) (hm : m ≤ 6) (hf : f < 8) : A_come a k r (7 + 8 * m + f) = if f = 0 then k else if f = 1 then r else if f = 3 then 7 else 0 := by
  have ec : (a 1).toNatClampNeg = m := by rw [h1]; exact nI_clamp (by omega)
  simp only [A_come, ec]
  rw [if_neg (by omega), if_pos (by omega)]
  grind
theorem VP_come {a : Rw} {m k r : Nat} (h : VP a m) (hm : m < 6) (hk : k ≤ 5) (hr : r ≤ 9) : VP (A_come a (nI k) (nI r)) (m + 1) := by
  have h1 := h.1.2.1
  refine ⟨⟨by omega, ?_, VT_congr (fun j hj => come_keep h1 (by omega) (by omega) (by omega)) h.1.2.2.1, fun d hd => ?_⟩, fun d hd => ?_⟩
  · simp only [A_come, if_true]
    rw [h1, nI_1]
  · by_cases hdm : d = m
    · subst hdm
      exact ⟨r, hr, by rw [come_at h1 (by omega) (by decide)]; rfl⟩
    · obtain ⟨rt, g1, g2⟩ := h.1.2.2.2 d (by omega)
      exact ⟨rt, g1, by rw [come_keep h1 (by omega) (by omega) (by omega)]; exact g2⟩
  · by_cases hdm : d = m
    · subst hdm
      refine ⟨k, 7, 0, hk, ?_, ?_, ?_, by decide, by decide, by decide⟩
      · exact (come_at (f := 0) h1 (by omega) (by decide)).trans rfl
      · rw [come_at h1 (by omega) (by decide)]; rfl
      · rw [come_at h1 (by omega) (by decide)]; rfl
    · exact VPd_congr (fun f hf => come_keep h1 (by omega) (by omega) (by omega)) (h.2 d (by omega))
theorem VB_come {a : Rw} {m top : Nat} {k r : Int32} (h : VB a m top) (h1 : a 1 = nI m) (hm : m < 6) : VB (A_come a k r) (m + 1) top := by
  obtain ⟨dy, g1, g2, g3⟩ := h
  refine ⟨dy, g1, by rw [come_keep h1 (by omega) (by decide) (by omega)]; exact g2, fun d hd => ?_⟩
  by_cases hdm : d = m
  · subst hdm
    exact ⟨0, 0, by rw [come_at h1 (by omega) (by decide)]; rfl, by rw [come_at h1 (by omega) (by decide)]; rfl, by omega⟩
  · obtain ⟨x, y, e1, e2, e3⟩ := g3 d (by omega)
    exact ⟨x, y, by rw [come_keep h1 (by omega) (by omega) (by omega)]; exact e1, by rw [come_keep h1 (by omega) (by omega) (by omega)]; exact e2, e3⟩
theorem VB_hides {a : Rw} {mm d top : Nat} (ht : top ≤ 1000000) (h : VB a mm top) (hm : mm ≤ 6) (hd : d < mm) (hne : ¬ a (7 + 8 * d + 5) = 0) : VB (A_hides a d) mm top := by
  obtain ⟨dy, g1, g2, g3⟩ := h
  refine ⟨dy, g1, by unfold A_hides; rw [up_ne (by omega), up_ne (by omega)]; exact g2, fun e he => ?_⟩
  obtain ⟨x, y, e1, e2, e3⟩ := g3 e he
  by_cases hed : e = d
  · subst hed
    have hx : 0 < x := Nat.pos_of_ne_zero (fun q => hne (by rw [e1, q]; rfl))
    refine ⟨x - 1, y + 1, ?_, ?_, by omega⟩
    · unfold A_hides
      rw [up_ne (by omega), up_at, e1, nI_dec x hx]
    · unfold A_hides
      rw [up_at, e2, nI_1]
  · exact ⟨x, y, by unfold A_hides; rw [up_ne (by omega), up_ne (by omega)]; exact e1, by unfold A_hides; rw [up_ne (by omega), up_ne (by omega)]; exact e2, e3⟩
/-! births of a day -/
theorem held_nat' {v : Int32} {n : Nat} (hn : n < 2 ^ 31) : ∃ k, k ≤ n ∧ f_held v 0 (nI n) = nI k := f_held_nat (nI_toInt hn)
theorem bk_bd {k p r pl lg : Int32} {pn rn : Nat} (hp : p = nI pn) (hpn : pn ≤ 30) (hr : r = nI rn) (hrn : rn ≤ 9) : ∃ b, b ≤ 62 ∧ f_bk k p r pl lg = nI b := by
  subst hp hr
  have e2 : nI pn / 2 = nI (pn / 2) := pk_div (d := 2) (by omega) (by decide) (by decide)
  have e1 : nI pn + 1 = nI (pn + 1) := nI_1 pn
  have em : (2 : Int32) * nI (pn + 1) = nI (2 * (pn + 1)) := pk_mul 2 (pn + 1)
  unfold f_bk
  rw [e2, e1, em]
  split
  · exact ⟨_, by omega, rfl⟩
  · split
    · exact ⟨_, by omega, rfl⟩
    · split
      · split
        · exact ⟨0, by decide, rfl⟩
        · exact ⟨_, by omega, rfl⟩
      · split
        · split
          · exact ⟨_, by omega, rfl⟩
          · exact ⟨_, by omega, rfl⟩
        · split
          · exact ⟨rn, by omega, rfl⟩
          · exact ⟨pn, by omega, rfl⟩
theorem births_bd {a : Rw} {d xn rt : Nat} {x : Int32} (hx : x = nI xn) (hxn : xn ≤ 30) (hr : a (7 + 8 * d + 1) = nI rt) (hrt : rt ≤ 9) : ∃ b, b ≤ 62 ∧ A_births a d x = nI b := by
  unfold A_births
  have hp : ∃ pn, pn ≤ 30 ∧ A_plain a x (a (7 + 8 * d + 3)) (a (7 + 8 * d + 4)) = nI pn := by
    unfold A_plain
    split
    · exact ⟨xn, hxn, hx⟩
    · exact held_nat' (n := 30) (by decide)
  obtain ⟨pn, h1, h2⟩ := hp
  exact bk_bd h2 h1 hr hrt
theorem VB_dayD {a : Rw} {mm d top dy : Nat} (hm : mm ≤ 6) (hd : d < mm) (ht : 62 * (dy + 1) < 2 ^ 30) (hrt : ∃ rt, rt ≤ 9 ∧ a (7 + 8 * d + 1) = nI rt) (h : ∃ b h, a (7 + 8 * d + 5) = nI b ∧ a (7 + 8 * d + 6) = nI h ∧ b + h ≤ 62 * dy) : ∃ b h, A_dayD a d (7 + 8 * d + 5) = nI b ∧ A_dayD a d (7 + 8 * d + 6) = nI h ∧ b + h ≤ 62 * (dy + 1) := by
  obtain ⟨b, h, h5, h6, hbh⟩ := h
  obtain ⟨rt, hr1, hr2⟩ := hrt
  obtain ⟨jd, hj1, hj2⟩ := dr_nat (f_dz (a 0))
  obtain ⟨i, hi, ei⟩ := rem_nat hj2 hj1 hr1
  have ex : A_x a d = nI i := by unfold A_x f_rem; rw [hr2]; exact ei
  obtain ⟨bb, hb1, hb2⟩ := births_bd (a := A_draw a) (d := d) ex (by omega) (by rw [A_draw, up_ne (by omega)]; exact hr2) hr1
  have e5 : A_d2 a d (7 + 8 * d + 5) = nI (b + bb) := by
    unfold A_d2
    rw [if_pos rfl, h5, hb2, nI_add]
  have e6 : A_d2 a d (7 + 8 * d + 6) = nI h := by
    unfold A_d2
    rw [if_neg (by omega), if_neg (by omega), if_neg (by omega), if_neg (by omega)]
    exact h6
  unfold A_dayD
  split
  · refine ⟨h, 0, ?_, ?_, by omega⟩
    · unfold A_week
      rw [if_neg (by omega), if_neg (by omega), if_neg (by omega), if_pos rfl]
      exact e6
    · unfold A_week
      rw [if_neg (by omega), if_neg (by omega), if_neg (by omega), if_neg (by omega), if_pos rfl]
      rfl
  · exact ⟨b + bb, h, e5, e6, by omega⟩
theorem VB_day {a : Rw} {mm top : Nat} (ht : top ≤ 200000) (hV : VP a mm) (h : VB a mm top) : VB (A_day a) mm (top + 1) := by
  obtain ⟨dy, g1, g2, g3⟩ := h
  have hm := hV.1.1
  have hc : cN (a 1) = mm := by rw [hV.1.2.1]; exact cN_nI (by omega)
  refine ⟨dy + 1, by omega, ?_, fun d hd => ?_⟩
  · unfold A_day
    rw [up_at, hc, A_dayN_keep (by decide) mm (by omega), g2, nI_1]
  · rw [A_day_at hV.1 hd (by decide), A_day_at hV.1 hd (by decide)]
    refine VB_dayD (top := top) hm hd (by omega) ((VR_dayN hV.1 d (by omega)).2.2.2 d hd) ?_
    rw [A_dayN_lo (by decide) d (Nat.le_refl d), A_dayN_lo (by decide) d (Nat.le_refl d)]
    exact g3 d hd
theorem VB_go {a : Rw} {mm dy : Nat} (hV : VP a mm) (h2 : a 2 = nI dy) (hdy : dy ≤ 99999) (h : VB a mm dy) : ∀ n, n ≤ 100000 → VB (A_go a n) mm (dy + n)
  | 0, _ => h
  | n + 1, hn => VB_day (top := dy + n) (by omega) (VP_go hV n) (VB_go hV h2 hdy h n (by omega))
theorem VB_top {a : Rw} {mm t t' : Nat} (ht : t ≤ t') (h : VB a mm t) : VB a mm t' := by
  obtain ⟨dy, g1, g2, g3⟩ := h
  exact ⟨dy, by omega, g2, g3⟩
theorem VB_self {a : Rw} {mm t : Nat} (h : VB a mm t) : ∃ dy, dy ≤ t ∧ a 2 = nI dy ∧ VB a mm dy := by
  obtain ⟨dy, g1, g2, g3⟩ := h
  exact ⟨dy, g1, g2, dy, Nat.le_refl _, g2, g3⟩
theorem rem_lt {z : Int32} {m : Nat} (h0 : 0 < m) (hm : m ≤ 100) : ∃ k, k < m ∧ f_rem (f_dr z) (nI m) = nI k := by
  obtain ⟨j, hj, e⟩ := dr_nat z
  unfold f_rem
  rw [e, pk_rem (by omega) h0 (by omega)]
  exact ⟨j % m, Nat.mod_lt _ h0, rfl⟩
theorem good_dl {a : Rw} {m : Nat} (hV : VP a m) (hB : VB a m 99999) : ∀ i, m + i ≤ 6 → VP (A_dl a i) (m + i) ∧ VB (A_dl a i) (m + i) 99999
  | 0, _ => ⟨hV, hB⟩
  | i + 1, h => by
    obtain ⟨h1, h2⟩ := good_dl hV hB i (by omega)
    have hV2 : VP (A_draw (A_draw (A_dl a i))) (m + i) := VP_glob h1 (fun j hj => by rw [A_draw, up_ne (by omega), A_draw, up_ne (by omega)])
    have hB2 : VB (A_draw (A_draw (A_dl a i))) (m + i) 99999 := VB_of h2 (by rw [A_draw, up_ne (by decide), A_draw, up_ne (by decide)]) (fun d _ => ⟨by rw [A_draw, up_ne (by omega), A_draw, up_ne (by omega)], by rw [A_draw, up_ne (by omega), A_draw, up_ne (by omega)]⟩)
    obtain ⟨k, hk, ek⟩ := rem_lt (z := f_dz (A_dl a i 0)) (m := 6) (by decide) (by decide)
    obtain ⟨r, hr, er⟩ := rem_lt (z := f_dz (A_draw (A_dl a i) 0)) (m := 10) (by decide) (by decide)
    unfold A_dl
    rw [show (6 : Int32) = nI 6 from rfl, show (10 : Int32) = nI 10 from rfl, ek, er]
    exact ⟨VP_come (m := m + i) hV2 (by omega) (by omega) (by omega), VB_come (m := m + i) hB2 hV2.1.2.1 (by omega)⟩
theorem dl_keep {a : Rw} {m j : Nat} (h1 : a 1 = nI m) (hj : j = 6 ∨ 55 ≤ j) : ∀ i, m + i ≤ 6 → A_dl a i j = a j
  | 0, _ => rfl
  | i + 1, h => by
    unfold A_dl
    rw [come_keep (m := m + i) (by rw [A_draw, up_ne (by decide), A_draw, up_ne (by decide)]; exact A_dl_1 h1 i) (by omega) (by omega) (by omega), A_draw, up_ne (by omega), A_draw, up_ne (by omega), dl_keep h1 hj i (by omega)]
theorem pr_nat {r v : Int32} {rn : Nat} (h : r = nI rn) (hr : rn ≤ 9) : ∃ k, k ≤ 9 ∧ f_pr r v = nI k := by
  unfold f_pr
  split
  · exact ⟨rn, hr, h⟩
  · exact held_nat' (n := 9) (by decide)
theorem VP_pour {a c : Rw} {mm : Nat} (h : VP a mm) : ∀ n, n ≤ mm → VP (A_pour a c n) mm
  | 0, _ => h
  | n + 1, hn => by
    unfold A_pour
    obtain ⟨rt, h1, h2⟩ := h.1.2.2.2 n (by omega)
    obtain ⟨k, hk, ek⟩ := pr_nat (v := c n) h2 h1
    rw [ek]
    have hm := h.1.1
    exact VP_rate (VP_pour h n (by omega)) hk (by omega)
theorem pour_keep {a c : Rw} {j : Nat} (hj : j < 7 ∨ 55 ≤ j ∨ j % 8 ≠ 0) : ∀ n, n ≤ 6 → A_pour a c n j = a j := fun n hn => A_pour_keep a c j n (fun d hd => by omega)
