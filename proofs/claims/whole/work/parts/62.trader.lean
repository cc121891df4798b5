/-! the class's trader -/
theorem A_mx_le {s : Rw} {v : Int32} (h0 : 0 ≤ v) : ∀ n, (∀ j, j < n → s j ≤ v) → A_mx s n ≤ v
  | 0, _ => h0
  | n + 1, h => by
    unfold A_mx
    split
    · exact h n (by omega)
    · exact A_mx_le h0 n (fun j hj => h j (by omega))
theorem A_mx_ge {s : Rw} {k : Nat} : ∀ n, k < n → s k ≤ A_mx s n
  | 0, h => absurd h (Nat.not_lt_zero k)
  | n + 1, h => by
    unfold A_mx
    by_cases hk : k = n
    · subst hk
      split
      · exact Int32.le_refl _
      · rename_i hq
        exact Int32.not_lt.mp hq
    · have ih := A_mx_ge (s := s) (k := k) n (by omega)
      split
      · rename_i hq
        exact Int32.le_trans ih (Int32.le_of_lt hq)
      · exact ih
theorem A_mx_eq {s : Rw} {n k : Nat} (hk : k < n) (h0 : 0 ≤ s k) (h : ∀ j, j < n → s j ≤ s k) : A_mx s n = s k := Int32.le_antisymm (A_mx_le h0 n h) (A_mx_ge n hk)
theorem f_b2_pos {s : Rw} {mm d : Nat} (h : ¬ s d < 0) : ¬ f_b2 s mm d < 0 := by
  have h1 : ¬ f_b1 s d < 0 := by
    unfold f_b1
    split
    · rename_i hq
      exact fun q => h (Int32.lt_trans hq.2 q)
    · exact h
  unfold f_b2
  split
  · rename_i hq
    exact fun q => h1 (Int32.lt_trans hq.2 q)
  · exact h1
theorem f_tr_pos {a s : Rw} {mm d B : Nat} {c : Int32} (hB : B ≤ 2000) (hT : TRv (f_tr a s mm d) c B) (h : ¬ s d < 0) : ¬ f_tr a s mm d < 0 := by
  have hb := f_b2_pos (mm := mm) h
  rcases hT with ⟨k, hk, e, -⟩ | ⟨e, -⟩
  · rw [e]
    exact nI_pos (by omega)
  · exfalso
    unfold f_tr at e
    rw [if_neg hb] at e
    unfold f_eq at e
    split at e
    · have e2 : f_b2 s mm d = -2 := by grind
      rw [e2] at hb
      exact hb (by decide)
    · have e2 : f_b2 s mm d = -1 := by grind
      rw [e2] at hb
      exact hb (by decide)
theorem c_X7_mostSeenAt {l : Launch} {G : Gt} {M : Mm} {c1 : Nat} (k1 : (kd c1).1 = 11) (z1 : (kd c1).2 = 6) {mm : Nat} (h13 : (M 0 (461 % 64)).toNatClampNeg = c1) (h4 : M 92 4 = nI mm) (hm1 : 1 ≤ mm) (hm6 : mm ≤ 6) : Runs l G true dm_X7_mostSeenAt 0 127 [.ref 0] M 127 (Pi (fun r M1 => (∃ k, k < mm ∧ r = nI k ∧ ∀ j, j < mm → M c1 j ≤ M c1 k) ∧ M1 = M)) := by
  refine mx_run ow_X7_mostSeenAt rfl rfl (fun dp X hdp R => ?_)
  have hA : ∀ (fu i : Nat) (kk : Nat), (mm - 1) - i = fu → i ≤ (mm - 1) → (kk ≤ i) → (∀ j, j ≤ i → M c1 j ≤ M c1 kk) → X 127 M 4 [some (.ref 0), some (.int (nI kk)), some (.int (nI (i + 1)))] [] := by
    intro fu
    induction fu with
    | zero =>
      intro i kk hfu hi hI1 hI2
      have hiN : i = (mm - 1) := by omega
      refine R.b bk_X7_mostSeenAt_4 (And.intro (by first | rfl | (rw [h13]; exact k1)) (And.intro (by first | rfl | (rw [h13]; exact k1)) ?_))
      refine R.c br_X7_mostSeenAt_12 (And.intro (fun h12 => ?_) (fun h12 => absurd (by rw [show M 92 (388 % 64) = nI mm from h4]; exact nI_le (by omega) (by omega)) h12))
      refine R.b bk_X7_mostSeenAt_38 ?_
      refine R.ri rt_X7_mostSeenAt_39 rfl ⟨_, rfl, ?_⟩
      exact ⟨⟨kk, by omega, rfl, fun j hj => hI2 j (by omega)⟩, rfl⟩
    | succ fu ih =>
      intro i kk hfu hi hI1 hI2
      have hlt : i < (mm - 1) := by omega
      refine R.b bk_X7_mostSeenAt_4 (And.intro (by first | rfl | (rw [h13]; exact k1)) (And.intro (by first | rfl | (rw [h13]; exact k1)) ?_))
      refine R.c br_X7_mostSeenAt_12 (And.intro (fun h12 => absurd h12 (by rw [show M 92 (388 % 64) = nI mm from h4]; exact nI_ge (by omega) (by omega))) (fun h12 => ?_))
      refine R.b bk_X7_mostSeenAt_15 (And.intro (by first | rfl | (rw [h13]; exact k1)) (And.intro (by first | rfl | (rw [h13]; exact k1)) (And.intro (by rw [h13, z1]; exact vp_in_nI (show i + 1 < 6 by omega) (by decide)) (And.intro (by first | rfl | (rw [h13]; exact k1)) (And.intro (by first | rfl | (rw [h13]; exact k1)) (And.intro (by rw [h13, z1]; exact vp_in_nI (show kk < 6 by omega) (by decide)) ?_))))))
      rw [h13, nI_clamp (show i + 1 < 2 ^ 31 by omega), nI_clamp (show kk < 2 ^ 31 by omega)]
      refine R.c br_X7_mostSeenAt_27 (And.intro (fun h27 => ?_) (fun h27 => ?_))
      · refine R.b bk_X7_mostSeenAt_32 ?_
        refine R.j gt_X7_mostSeenAt_35 ?_
        rw [nI_inc]
        refine ih (i + 1) kk (by omega) (by omega) (by omega) (fun j hj => ?_)
        by_cases hji : j = i + 1
        · rw [hji]; exact h27
        · exact hI2 j (by omega)
      · refine R.b bk_X7_mostSeenAt_30 ?_
        refine R.b bk_X7_mostSeenAt_32 ?_
        refine R.j gt_X7_mostSeenAt_35 ?_
        rw [nI_inc]
        refine ih (i + 1) (i + 1) (by omega) (by omega) (by omega) (fun j hj => ?_)
        by_cases hji : j = i + 1
        · rw [hji]; exact Int32.le_refl _
        · exact Int32.le_trans (hI2 j (by omega)) (Int32.le_of_lt (Int32.not_le.mp h27))
  refine R.b bk_X7_mostSeenAt_0 ?_
  exact hA (mm - 1) 0 0 rfl (Nat.zero_le _) (Nat.le_refl 0) (fun j hj => by rw [Nat.le_zero.mp hj]; exact Int32.le_refl _)
/-- the row that the class begins with -/
def c_tr0 (a : Rw) (d : Nat) : Rw := fun j => if j = d then f_eq (a (7 + 8 * d + 4)) (a 5) else (-1000000005)
theorem TRv_0 (a : Rw) (d j : Nat) : TRv (f_tr0 a d j) (c_tr0 a d j) 1 := by
  unfold f_tr0 c_tr0
  by_cases h : j = d
  · rw [if_pos h, if_pos h]
    unfold f_eq
    split
    · exact Or.inl ⟨1, by decide, rfl, rfl⟩
    · exact Or.inl ⟨0, by decide, rfl, rfl⟩
  · rw [if_neg h, if_neg h]
    exact Or.inr ⟨rfl, rfl⟩
theorem f_tr0_pos (a : Rw) (d : Nat) : ¬ f_tr0 a d d < 0 := by
  unfold f_tr0 f_eq
  rw [if_pos rfl]
  split <;> decide
def SN (c1 c2 : Nat) : Prop := c1 = 11 ∧ c2 = 12 ∨ c1 = 12 ∧ c2 = 11
theorem c_X7_trader {l : Launch} {G : Gt} {M : Mm} {d n : Int32} {c1 c2 : Nat} {a : Rw} {mm : Nat} (hV : VP a mm) (hR : RW M 70 a Sall mm) (hL : RLw M a) (hc : SN c1 c2) (h13x : M 0 13 = nI c1) (h14x : M 0 14 = nI c2) : Runs l G true dm_X7_trader 6 127 [.ref 0, .int d, .int n] M 127 (Pi (fun r M1 => r = F_trader a d n ∧ (∀ q, ¬ (92 ≤ q ∧ q < 103) → q ≠ 0 → q ≠ 11 → q ≠ 12 → M1 q = M q) ∧ ∃ d1 d2, SN d1 d2 ∧ M1 0 = up (up (M 0) 13 (nI d1)) 14 (nI d2))) := by
  refine mx_run ow_X7_trader rfl rfl (fun dp X hdp R => ?_)
  have hm6 := hV.1.1
  have h4m : M 70 4 = nI mm := hR.2.1.trans hR.1
  have hDD : ∀ d, d < mm → ∀ f, f < 8 → M (70 + 5 + d) f = a (7 + 8 * d + f) := fun d hd f hf => hR.2.2.2.2.2.2.2.2.2 d hd rfl f hf
  have hisD : ∀ v, isD a v = f_in v 0 (nI mm - 1) := fun v => by rw [isD, hR.1]
  have hcc : (kd c1).1 = 11 ∧ (kd c1).2 = 6 ∧ c1 ≠ c2 ∧ 0 < c1 ∧ c1 < 70 ∧ 0 < c2 ∧ c2 < 70 ∧ (c1 = 11 ∨ c1 = 12) := by
    rcases hc with ⟨rfl, rfl⟩ | ⟨rfl, rfl⟩ <;> exact ⟨rfl, rfl, by decide, by decide, by decide, by decide, by decide, by decide⟩
  obtain ⟨k1, z1, hcc⟩ := hcc
  have h13 : (M 0 13).toNatClampNeg = c1 := by rw [h13x]; exact nI_clamp (by omega)
  refine R.b bk_X7_trader_0 (And.intro (by first | rfl | assumption | exact kdE KW_70 (by omega) | exact KW_70.2.2.2.2.2.2.2.2.1 _ (by omega) | exact kdE KW_92 (by omega) | exact KW_92.2.2.2.2.2.2.2.2.1 _ (by omega)) ?_)
  refine R.V1i kc_X7_trader_5 (by first | rfl | assumption | exact kdE KW_70 (by omega) | exact KW_70.2.2.2.2.2.2.2.2.1 _ (by omega) | exact kdE KW_92 (by omega) | exact KW_92.2.2.2.2.2.2.2.2.1 _ (by omega)) (c_X6_has KW_70 hm6 h4m) (by omega) rfl ⟨Nat.le_refl _, Nat.le_refl _⟩ (fun x5 M5 q5 => ?_)
  obtain ⟨rfl, q5⟩ := q5
  replace q5 := q5.symm
  subst q5
  refine R.c br_X7_trader_8 (And.intro (fun h8 => ?_) (fun h8 => ?_))
  · refine R.b bk_X7_trader_21 ?_
    refine R.ri rt_X7_trader_23 rfl ⟨_, rfl, ?_⟩
    refine ⟨by rw [F_trader, hisD, if_pos (by simp_all)], fun q _ _ _ _ => rfl, c1, c2, hc, ?_⟩
    funext j
    simp only [up]
    split
    · rename_i h; rw [h]; exact h14x
    · split
      · rename_i h; rw [h]; exact h13x
      · rfl
  · refine R.b bk_X7_trader_11 ?_
    refine R.S3i kc_X7_trader_15 (c_X7_within) (by omega) rfl ⟨Nat.le_refl _, Nat.le_refl _⟩ (fun x15 M15 q15 => ?_)
    obtain ⟨rfl, q15⟩ := q15
    replace q15 := q15.symm
    subst q15
    refine R.c br_X7_trader_18 (And.intro (fun h18 => ?_) (fun h18 => ?_))
    · obtain ⟨dn, hdn, rfl⟩ := f_in_dist (by omega) rfl h8
      have hcdn : cN (nI dn) = dn := cN_nI (by omega)
      obtain ⟨nn, hnn, rfl⟩ := f_in_nat (n := 100) (by decide) h18
      have hcnn : cN (nI nn) = nn := cN_nI (by omega)
      have hnb : ¬ (isD a (nI dn) = 0 ∨ f_in (nI nn) 0 100 = 0) := by rw [hisD]; exact fun q => q.elim h8 h18
      refine R.b bk_X7_trader_24 ?_
      refine R.V0v kc_X7_trader_25 (by first | rfl | assumption | exact kdE KW_70 (by omega) | exact KW_70.2.2.2.2.2.2.2.2.1 _ (by omega) | exact kdE KW_92 (by omega) | exact KW_92.2.2.2.2.2.2.2.2.1 _ (by omega)) (c_X7_thinkFromNow hV hR) (by omega) rfl ⟨Nat.le_refl _, Nat.le_refl _⟩ (fun M25 q25 => ?_)
      obtain ⟨r25, f25⟩ := q25
      have hE : ∀ (fu i : Nat) (M1 : Mm) (d1 : Nat) (d2 : Nat), nn - i = fu → i ≤ nn → (SN d1 d2) → (M1 0 = up (up (M 0) 13 (nI d1)) 14 (nI d2)) → (RW M1 92 (A_go a i) Sall mm) → (∀ j, j < mm → TRv (A_trd a mm dn i j) (M1 d1 j) (i + 1)) → (¬ A_trd a mm dn i dn < 0) → (∀ q, ¬ (92 ≤ q ∧ q < 103) → q ≠ 0 → q ≠ 11 → q ≠ 12 → M1 q = M q) → X 127 M1 71 [some (.ref 0), some (.int (nI dn)), some (.int (nI nn)), some (.int (nI (i + 1)))] [] := by
        intro fu
        induction fu with
        | zero =>
          intro i M1 d1 d2 hfu hi hI1 hI2 hI3 hI4 hI5 hI6
          have hiN : i = nn := by omega
          have hd : (kd d1).1 = 11 ∧ (kd d1).2 = 6 ∧ (kd d2).1 = 11 ∧ (kd d2).2 = 6 ∧ d1 ≠ d2 ∧ (0 < d1 ∧ d1 < 70 ∧ 0 < d2 ∧ d2 < 70) := by
            rcases hI1 with ⟨rfl, rfl⟩ | ⟨rfl, rfl⟩ <;> exact ⟨rfl, rfl, rfl, rfl, by decide, by decide⟩
          have hd2 : d1 < 70 ∧ d2 < 70 := ⟨hd.2.2.2.2.2.2.1, hd.2.2.2.2.2.2.2.2⟩
          have hq12 : (d1 = 11 ∨ d1 = 12) ∧ (d2 = 11 ∨ d2 = 12) := by
            rcases hI1 with ⟨rfl, rfl⟩ | ⟨rfl, rfl⟩ <;> decide
          have e13 : (M1 0 (461 % 64)).toNatClampNeg = d1 := by
            rw [hI2]
            show (nI d1).toNatClampNeg = d1
            exact nI_clamp (by omega)
          have e14 : (M1 0 (462 % 64)).toNatClampNeg = d2 := by
            rw [hI2]
            show (nI d2).toNatClampNeg = d2
            exact nI_clamp (by omega)
          refine R.b bk_X7_trader_71 ?_
          refine R.c br_X7_trader_73 (And.intro (fun h73 => ?_) (fun h73 => absurd (nI_lt (a := nn) (b := i + 1) (by omega) (by omega)) h73))
          refine R.b bk_X7_trader_96 (And.intro (by first | rfl | (rw [e13]; exact hd.1)) ?_)
          refine R.V0i kc_X7_trader_101 (by first | rfl | (rw [e13]; exact hd.1)) (c_X7_mostSeenAt hd.1 hd.2.1 e13 (hI3.2.1.trans hI3.1) (by omega) hm6) (by omega) rfl ⟨Nat.le_refl _, Nat.le_refl _⟩ (fun x101 M101 q101 => ?_)
          obtain ⟨⟨k, hk, rfl, hkm⟩, q101⟩ := q101
          replace q101 := q101.symm
          subst q101
          refine R.b bk_X7_trader_104 (And.intro (by first | rfl | (rw [e13]; exact hd.1)) (And.intro (by rw [e13, hd.2.1]; exact vp_in_nI (show k < 6 by omega) (by decide)) ?_))
          refine R.ri rt_X7_trader_105 rfl ⟨_, rfl, ?_⟩
          rw [hiN] at hI4 hI5
          have hdn0 : 0 ≤ M1 d1 dn := by
            rcases hI4 dn hdn with ⟨m0, hm0, e1, e2⟩ | ⟨e1, e2⟩
            · rw [e2]; exact nI_pos' (by omega)
            · rw [e1] at hI5; exact absurd (by decide) hI5
          have hk0 : 0 ≤ M1 d1 k := Int32.le_trans hdn0 (hkm dn hdn)
          have hks : ∃ m, m ≤ nn + 1 ∧ A_trd a mm dn nn k = nI m ∧ M1 d1 k = nI m := by
            rcases hI4 k hk with h | ⟨e1, e2⟩
            · exact h
            · rw [e2] at hk0; exact absurd hk0 (by decide)
          obtain ⟨m, hm, em1, em2⟩ := hks
          refine ⟨?_, hI6, ⟨d1, d2, hI1, hI2⟩⟩
          rw [e13, nI_clamp (show k < 2 ^ 31 by omega), em2, F_trader, if_neg hnb, hcdn, hcnn, hR.1, cN_nI (by omega), ← em1]
          refine (A_mx_eq hk (by rw [em1]; exact nI_pos' (by omega)) (fun j hj => ?_)).symm
          have hjk := hkm j hj
          rw [em2] at hjk
          rw [em1]
          rcases hI4 j hj with ⟨mj, hmj, e1, e2⟩ | ⟨e1, e2⟩
          · rw [e1, ← e2]; exact hjk
          · rw [e1]; exact Int32.le_trans (by decide : (-1 : Int32) ≤ 0) (nI_pos' (by omega))
        | succ fu ih =>
          intro i M1 d1 d2 hfu hi hI1 hI2 hI3 hI4 hI5 hI6
          have hlt : i < nn := by omega
          have hd : (kd d1).1 = 11 ∧ (kd d1).2 = 6 ∧ (kd d2).1 = 11 ∧ (kd d2).2 = 6 ∧ d1 ≠ d2 ∧ (0 < d1 ∧ d1 < 70 ∧ 0 < d2 ∧ d2 < 70) := by
            rcases hI1 with ⟨rfl, rfl⟩ | ⟨rfl, rfl⟩ <;> exact ⟨rfl, rfl, rfl, rfl, by decide, by decide⟩
          have hd2 : d1 < 70 ∧ d2 < 70 := ⟨hd.2.2.2.2.2.2.1, hd.2.2.2.2.2.2.2.2⟩
          have hq12 : (d1 = 11 ∨ d1 = 12) ∧ (d2 = 11 ∨ d2 = 12) := by
            rcases hI1 with ⟨rfl, rfl⟩ | ⟨rfl, rfl⟩ <;> decide
          have e13 : (M1 0 (461 % 64)).toNatClampNeg = d1 := by
            rw [hI2]
            show (nI d1).toNatClampNeg = d1
            exact nI_clamp (by omega)
          have e14 : (M1 0 (462 % 64)).toNatClampNeg = d2 := by
            rw [hI2]
            show (nI d2).toNatClampNeg = d2
            exact nI_clamp (by omega)
          refine R.b bk_X7_trader_71 ?_
          refine R.c br_X7_trader_73 (And.intro (fun h73 => absurd h73 (nI_nlt (a := nn) (b := i + 1) (by omega) (by omega))) (fun h73 => ?_))
          refine R.b bk_X7_trader_76 (And.intro (by first | rfl | (rw [e13]; exact hd.1)) ?_)
          refine R.V1i kc_X7_trader_82 (by first | rfl | (rw [e13]; exact hd.1)) (c_X6_liveDay KW_92 (VP_go hV i) hI3 (RLw_go hV.1 (fun q q1 q2 => hI6 q (by omega) (by omega) (by omega) (by omega)) hL i) (fun j hj => bit63 j (by omega))) (by omega) rfl ⟨Nat.le_refl _, Nat.le_refl _⟩ (fun x82 M82 q82 => ?_)
          obtain ⟨-, r82, f82⟩ := q82
          refine R.b bk_X7_trader_85 ?_
          refine R.V0v kc_X7_trader_87 (by first | rfl | (rw [e13]; exact hd.1)) (c_X7_tradeOneDay (c1 := d1) (c2 := d2) (a := A_go a (i + 1)) (s := A_trd a mm dn i) (B := i + 1) hd.1 hd.2.1 hd.2.2.1 hd.2.2.2.1 hd.2.2.2.2.1 hd.2.2.2.2.2 (by rw [f82 0 (by decide)]; exact e13) (by rw [f82 0 (by decide)]; exact e14) hm6 r82 (by omega) (fun j hj => by rw [f82 d1 (by omega)]; exact hI4 j hj)) (by omega) rfl ⟨Nat.le_refl _, Nat.le_refl _⟩ (fun M87 q87 => ?_)
          obtain ⟨z87, t87, f87⟩ := q87
          refine R.b bk_X7_trader_90 ?_
          refine R.j gt_X7_trader_93 ?_
          rw [nI_inc]
          have eT : ∀ j, j < mm → A_trd a mm dn (i + 1) j = f_tr (A_go a (i + 1)) (A_trd a mm dn i) mm j := fun j hj => by rw [A_trd, cut, if_pos hj]
          refine ih (i + 1) M87 d2 d1 (by omega) (by omega) ?_ ?_ ?_ ?_ ?_ ?_
          · rcases hI1 with ⟨h1, h2⟩ | ⟨h1, h2⟩
            · exact Or.inr ⟨h2, h1⟩
            · exact Or.inl ⟨h2, h1⟩
          · rw [z87, f82 0 (by decide), hI2]
            funext j
            simp only [up]
            grind
          · exact RW_frame hm6 r82 (fun q hq => f87 q (by omega) (by omega))
          · intro j hj
            rw [eT j hj]
            exact t87 j hj
          · rw [eT dn hdn]
            exact f_tr_pos (by omega) (t87 dn hdn) hI5
          · intro q q1 q2 q3 q4
            rw [f87 q q2 (by omega), f82 q (by omega)]
            exact hI6 q q1 q2 q3 q4
      have hA : ∀ (fu i : Nat) (M1 : Mm), 6 - i = fu → i ≤ 6 → (∀ q, q ≠ c1 → M1 q = M25 q) → (∀ j, j < i → M1 c1 j = c_tr0 a dn j) → X 127 M1 30 [some (.ref 0), some (.int (nI dn)), some (.int (nI nn)), some (.int (nI i))] [] := by
        intro fu
        induction fu with
        | zero =>
          intro i M1 hfu hi hI1 hI2
          have hiN : i = 6 := by omega
          have e13 : (M1 0 (461 % 64)).toNatClampNeg = c1 := by rw [hI1 0 (by omega), f25 0 (by decide)]; exact h13
          refine R.b bk_X7_trader_30 (And.intro (by first | rfl | (rw [e13]; exact k1)) (And.intro ⟨11, by decide, by decide, by rw [e13]; exact k1⟩ ?_))
          refine R.c br_X7_trader_36 (And.intro (fun h36 => ?_) (fun h36 => absurd (by rw [hiN, e13, z1]; decide) h36))
          refine R.b bk_X7_trader_69 ?_
          refine hE nn 0 M1 c1 c2 rfl (Nat.zero_le _) hc ?_ ?_ (fun j hj => ?_) (f_tr0_pos a dn) ?_
          · rw [hI1 0 (by omega), f25 0 (by decide)]
            funext j
            simp only [up]
            split
            · rename_i h; rw [h]; exact h14x
            · split
              · rename_i h; rw [h]; exact h13x
              · rfl
          · exact RW_frame hm6 r25 (fun q hq => hI1 q (by omega))
          · rw [hI2 j (by omega)]; exact TRv_0 a dn j
          · intro q q1 q2 q3 q4
            rw [hI1 q (by omega)]
            exact f25 q q1
        | succ fu ih =>
          intro i M1 hfu hi hI1 hI2
          have hlt : i < 6 := by omega
          have e13 : (M1 0 (461 % 64)).toNatClampNeg = c1 := by rw [hI1 0 (by omega), f25 0 (by decide)]; exact h13
          have e4 : M1 92 4 = nI mm := by rw [hI1 92 (by omega)]; exact r25.2.1.trans r25.1
          refine R.b bk_X7_trader_30 (And.intro (by first | rfl | (rw [e13]; exact k1)) (And.intro ⟨11, by decide, by decide, by rw [e13]; exact k1⟩ ?_))
          refine R.c br_X7_trader_36 (And.intro (fun h36 => absurd h36 (by rw [e13, z1]; exact nI_ge (b := 6) hlt (by decide))) (fun h36 => ?_))
          refine R.b bk_X7_trader_39 (And.intro (by first | rfl | (rw [e13]; exact k1)) ?_)
          refine R.c br_X7_trader_46 (And.intro (fun h46 => ?_) (fun h46 => ?_))
          · refine R.b bk_X7_trader_60 ?_
            refine R.b bk_X7_trader_62 (And.intro (by first | rfl | (rw [e13]; exact k1)) (And.intro (by rw [e13, z1]; exact vp_in_nI (show i < 6 by omega) (by decide)) ?_))
            refine R.j gt_X7_trader_66 ?_
            rw [nI_inc, e13, nI_clamp (show i < 2 ^ 31 by omega)]
            refine ih (i + 1) _ (by omega) (by omega) (fun q hq => by rw [mx_wr_ne hq]; exact hI1 q hq) (fun j hj => ?_)
            rw [mx_wr_up, mx_rw_at]
            by_cases hji : j = i
            · rw [hji, up_at, c_tr0]
              rw [if_neg (fun q => h46 (by rw [q]))]
            · rw [up_ne hji]
              exact hI2 j (by omega)
          · have hid : i = dn := (nI_eq (by omega) (by omega)).mp h46
            refine R.b bk_X7_trader_49 (And.intro (by first | rfl | (rw [e13]; exact k1)) ?_)
            refine R.V1i kc_X7_trader_54 (by first | rfl | (rw [e13]; exact k1)) (c_X6_fairAt KW_92 (d := i) hm6 e4 (by omega)) (by omega) rfl ⟨Nat.le_refl _, Nat.le_refl _⟩ (fun x54 M54 q54 => ?_)
            obtain ⟨e54, q54⟩ := q54
            replace q54 := q54.symm
            subst q54
            rw [hI1 (92 + 5 + i) (by omega), hI1 92 (by omega), r25.2.2.2.2.2.2.2.2.2 i (by omega) rfl 4 (by decide), r25.2.2.2.2.2.1] at e54
            subst e54
            refine R.j gt_X7_trader_57 ?_
            refine R.b bk_X7_trader_62 (And.intro (by first | rfl | (rw [e13]; exact k1)) (And.intro (by rw [e13, z1]; exact vp_in_nI (show i < 6 by omega) (by decide)) ?_))
            refine R.j gt_X7_trader_66 ?_
            rw [nI_inc, e13, nI_clamp (show i < 2 ^ 31 by omega)]
            refine ih (i + 1) _ (by omega) (by omega) (fun q hq => by rw [mx_wr_ne hq]; exact hI1 q hq) (fun j hj => ?_)
            rw [mx_wr_up, mx_rw_at]
            by_cases hji : j = i
            · rw [hji, up_at, c_tr0]
              rw [if_pos hid, hid]
            · rw [up_ne hji]
              exact hI2 j (by omega)
      refine R.b bk_X7_trader_28 ?_
      exact hA 6 0 M25 rfl (by decide) (fun q _ => rfl) (fun j hj => absurd hj (Nat.not_lt_zero j))
    · refine R.b bk_X7_trader_21 ?_
      refine R.ri rt_X7_trader_23 rfl ⟨_, rfl, ?_⟩
      refine ⟨by rw [F_trader, hisD, if_pos (by simp_all)], fun q _ _ _ _ => rfl, c1, c2, hc, ?_⟩
      funext j
      simp only [up]
      split
      · rename_i h; rw [h]; exact h14x
      · split
        · rename_i h; rw [h]; exact h13x
        · rfl
