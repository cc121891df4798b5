/-! laws worked out by the class -/
def f_nm (s a b c : Int32) : Int32 := if s = -1 then a else if s = -2 then b else c
def f_join (s a b : Int32) : Int32 := if s = 38 then (if a = 0 ∨ b = 0 then 0 else 1) else if s = 42 then a * b else if s = 43 then a + b else if s = 45 then a - b else if s = 47 then (if b = 0 then 0 else a / b) else if s = 60 then (if a < b then 1 else 0) else if s = 61 then (if a = b then 1 else 0) else if s = 62 then (if b < a then 1 else 0) else (if a = 0 ∧ b = 0 then 0 else 1)
theorem c_X3_named {l : Launch} {G : Gt} {M : Mm} {s a b c : Int32} : Runs l G true dm_X3_named 0 127 [.int s, .int a, .int b, .int c] M 127 (Pi (fun x M1 => x = f_nm s a b c ∧ M1 = M)) := by
  refine mx_run ow_X3_named rfl rfl (fun dp X hdp R => ?_)
  refine R.b bk_X3_named_0 ?_
  refine R.c br_X3_named_2 (And.intro (fun h2 => ?_) (fun h2 => ?_))
  · refine R.b bk_X3_named_7 ?_
    refine R.c br_X3_named_10 (And.intro (fun h10 => ?_) (fun h10 => ?_))
    · refine R.b bk_X3_named_17 ?_
      refine R.ri rt_X3_named_18 rfl ⟨_, rfl, ?_⟩
      refine ⟨?_, rfl⟩
      simp_all [f_nm]
    · refine R.b bk_X3_named_13 ?_
      refine R.j gt_X3_named_14 ?_
      refine R.ri rt_X3_named_18 rfl ⟨_, rfl, ?_⟩
      refine ⟨?_, rfl⟩
      simp_all [f_nm]
  · refine R.b bk_X3_named_5 ?_
    refine R.ri rt_X3_named_6 rfl ⟨_, rfl, ?_⟩
    refine ⟨?_, rfl⟩
    simp_all [f_nm]
theorem c_X3_joined {l : Launch} {G : Gt} {M : Mm} {s a b : Int32} : Runs l G true dm_X3_joined 0 127 [.int s, .int a, .int b] M 127 (Pi (fun x M1 => x = f_join s a b ∧ M1 = M)) := by
  refine mx_run ow_X3_joined rfl rfl (fun dp X hdp R => ?_)
  have hD : f_join s a b = (if a = 0 ∧ b = 0 then 0 else 1) → X 127 M 187 [some (.int s), some (.int a), some (.int b)] [] := by
    intro hj
    refine R.b bk_X3_joined_187 ?_
    refine R.c br_X3_joined_188 (And.intro (fun h188 => ?_) (fun h188 => ?_))
    · refine R.b bk_X3_joined_195 ?_
      refine R.j gt_X3_joined_196 ?_
      refine R.ri rt_X3_joined_200 rfl ⟨_, rfl, ?_⟩
      refine ⟨?_, rfl⟩
      rw [hj]
      simp_all
    · refine R.b bk_X3_joined_191 ?_
      refine R.c br_X3_joined_192 (And.intro (fun h192 => ?_) (fun h192 => ?_))
      · refine R.b bk_X3_joined_199 ?_
        refine R.ri rt_X3_joined_200 rfl ⟨_, rfl, ?_⟩
        refine ⟨?_, rfl⟩
        rw [hj]
        simp_all
      · refine R.b bk_X3_joined_195 ?_
        refine R.j gt_X3_joined_196 ?_
        refine R.ri rt_X3_joined_200 rfl ⟨_, rfl, ?_⟩
        refine ⟨?_, rfl⟩
        rw [hj]
        simp_all
  refine R.b bk_X3_joined_0 ?_
  refine R.s sw_X3_joined_1 (And.intro (fun h1_0 => ?_) (fun h1_0 => And.intro (fun h1_1 => ?_) (fun h1_1 => And.intro (fun h1_2 => ?_) (fun h1_2 => And.intro (fun h1_3 => ?_) (fun h1_3 => And.intro (fun h1_4 => ?_) (fun h1_4 => And.intro (fun h1_5 => ?_) (fun h1_5 => And.intro (fun h1_6 => ?_) (fun h1_6 => And.intro (fun h1_7 => ?_) (fun h1_7 => And.intro (fun h1_8 => ?_) (fun h1_8 => And.intro (fun h1_9 => ?_) (fun h1_9 => And.intro (fun h1_10 => ?_) (fun h1_10 => And.intro (fun h1_11 => ?_) (fun h1_11 => And.intro (fun h1_12 => ?_) (fun h1_12 => And.intro (fun h1_13 => ?_) (fun h1_13 => And.intro (fun h1_14 => ?_) (fun h1_14 => And.intro (fun h1_15 => ?_) (fun h1_15 => And.intro (fun h1_16 => ?_) (fun h1_16 => And.intro (fun h1_17 => ?_) (fun h1_17 => And.intro (fun h1_18 => ?_) (fun h1_18 => And.intro (fun h1_19 => ?_) (fun h1_19 => And.intro (fun h1_20 => ?_) (fun h1_20 => And.intro (fun h1_21 => ?_) (fun h1_21 => And.intro (fun h1_22 => ?_) (fun h1_22 => And.intro (fun h1_23 => ?_) (fun h1_23 => And.intro (fun h1_24 => ?_) (fun h1_24 => ?_))))))))))))))))))))))))))
  · refine R.b bk_X3_joined_173 ?_
    refine R.c br_X3_joined_174 (And.intro (fun h174 => ?_) (fun h174 => ?_))
    · refine R.b bk_X3_joined_185 ?_
      refine R.ri rt_X3_joined_186 rfl ⟨_, rfl, ?_⟩
      refine ⟨?_, rfl⟩
      unfold f_join
      simp_all [Int32.not_lt, Int32.not_le] <;> first | (intro hq; exact absurd hq (Int32.not_lt.mpr (by assumption))) | (split <;> first | rfl | (exfalso; simp_all))
    · refine R.b bk_X3_joined_177 ?_
      refine R.c br_X3_joined_178 (And.intro (fun h178 => ?_) (fun h178 => ?_))
      · refine R.b bk_X3_joined_185 ?_
        refine R.ri rt_X3_joined_186 rfl ⟨_, rfl, ?_⟩
        refine ⟨?_, rfl⟩
        unfold f_join
        simp_all [Int32.not_lt, Int32.not_le] <;> first | (intro hq; exact absurd hq (Int32.not_lt.mpr (by assumption))) | (split <;> first | rfl | (exfalso; simp_all))
      · refine R.b bk_X3_joined_181 ?_
        refine R.j gt_X3_joined_182 ?_
        refine R.ri rt_X3_joined_186 rfl ⟨_, rfl, ?_⟩
        refine ⟨?_, rfl⟩
        unfold f_join
        simp_all [Int32.not_lt, Int32.not_le] <;> first | (intro hq; exact absurd hq (Int32.not_lt.mpr (by assumption))) | (split <;> first | rfl | (exfalso; simp_all))
  · exact hD (by unfold f_join; simp_all)
  · exact hD (by unfold f_join; simp_all)
  · exact hD (by unfold f_join; simp_all)
  · refine R.b bk_X3_joined_124 ?_
    refine R.ri rt_X3_joined_127 rfl ⟨_, rfl, ?_⟩
    refine ⟨?_, rfl⟩
    unfold f_join
    simp_all [Int32.not_lt, Int32.not_le] <;> first | (intro hq; exact absurd hq (Int32.not_lt.mpr (by assumption))) | (split <;> first | rfl | (exfalso; simp_all))
  · refine R.b bk_X3_joined_116 ?_
    refine R.ri rt_X3_joined_119 rfl ⟨_, rfl, ?_⟩
    refine ⟨?_, rfl⟩
    unfold f_join
    simp_all [Int32.not_lt, Int32.not_le] <;> first | (intro hq; exact absurd hq (Int32.not_lt.mpr (by assumption))) | (split <;> first | rfl | (exfalso; simp_all))
  · exact hD (by unfold f_join; simp_all)
  · refine R.b bk_X3_joined_120 ?_
    refine R.ri rt_X3_joined_123 rfl ⟨_, rfl, ?_⟩
    refine ⟨?_, rfl⟩
    unfold f_join
    simp_all [Int32.not_lt, Int32.not_le] <;> first | (intro hq; exact absurd hq (Int32.not_lt.mpr (by assumption))) | (split <;> first | rfl | (exfalso; simp_all))
  · exact hD (by unfold f_join; simp_all)
  · refine R.b bk_X3_joined_128 ?_
    refine R.c br_X3_joined_129 (And.intro (fun h129 => ?_) (fun h129 => ?_))
    · refine R.b bk_X3_joined_136 (And.intro h129 ?_)
      refine R.ri rt_X3_joined_139 rfl ⟨_, rfl, ?_⟩
      refine ⟨?_, rfl⟩
      unfold f_join
      simp_all [Int32.not_lt, Int32.not_le] <;> first | (intro hq; exact absurd hq (Int32.not_lt.mpr (by assumption))) | (split <;> first | rfl | (exfalso; simp_all))
    · refine R.b bk_X3_joined_132 ?_
      refine R.j gt_X3_joined_133 ?_
      refine R.ri rt_X3_joined_139 rfl ⟨_, rfl, ?_⟩
      refine ⟨?_, rfl⟩
      unfold f_join
      simp_all [Int32.not_lt, Int32.not_le] <;> first | (intro hq; exact absurd hq (Int32.not_lt.mpr (by assumption))) | (split <;> first | rfl | (exfalso; simp_all))
  · exact hD (by unfold f_join; simp_all)
  · exact hD (by unfold f_join; simp_all)
  · exact hD (by unfold f_join; simp_all)
  · exact hD (by unfold f_join; simp_all)
  · exact hD (by unfold f_join; simp_all)
  · exact hD (by unfold f_join; simp_all)
  · exact hD (by unfold f_join; simp_all)
  · exact hD (by unfold f_join; simp_all)
  · exact hD (by unfold f_join; simp_all)
  · exact hD (by unfold f_join; simp_all)
  · exact hD (by unfold f_join; simp_all)
  · exact hD (by unfold f_join; simp_all)
  · refine R.b bk_X3_joined_140 ?_
    refine R.c br_X3_joined_142 (And.intro (fun h142 => ?_) (fun h142 => ?_))
    · refine R.b bk_X3_joined_149 ?_
      refine R.ri rt_X3_joined_150 rfl ⟨_, rfl, ?_⟩
      refine ⟨?_, rfl⟩
      unfold f_join
      simp_all [Int32.not_lt, Int32.not_le] <;> first | (intro hq; exact absurd hq (Int32.not_lt.mpr (by assumption))) | (split <;> first | rfl | (exfalso; simp_all))
    · refine R.b bk_X3_joined_145 ?_
      refine R.j gt_X3_joined_146 ?_
      refine R.ri rt_X3_joined_150 rfl ⟨_, rfl, ?_⟩
      refine ⟨?_, rfl⟩
      unfold f_join
      simp_all [Int32.not_lt, Int32.not_le] <;> first | (intro hq; exact absurd hq (Int32.not_lt.mpr (by assumption))) | (split <;> first | rfl | (exfalso; simp_all))
  · refine R.b bk_X3_joined_151 ?_
    refine R.c br_X3_joined_153 (And.intro (fun h153 => ?_) (fun h153 => ?_))
    · refine R.b bk_X3_joined_160 ?_
      refine R.ri rt_X3_joined_161 rfl ⟨_, rfl, ?_⟩
      refine ⟨?_, rfl⟩
      unfold f_join
      simp_all [Int32.not_lt, Int32.not_le] <;> first | (intro hq; exact absurd hq (Int32.not_lt.mpr (by assumption))) | (split <;> first | rfl | (exfalso; simp_all))
    · refine R.b bk_X3_joined_156 ?_
      refine R.j gt_X3_joined_157 ?_
      refine R.ri rt_X3_joined_161 rfl ⟨_, rfl, ?_⟩
      refine ⟨?_, rfl⟩
      unfold f_join
      simp_all [Int32.not_lt, Int32.not_le] <;> first | (intro hq; exact absurd hq (Int32.not_lt.mpr (by assumption))) | (split <;> first | rfl | (exfalso; simp_all))
  · refine R.b bk_X3_joined_162 ?_
    refine R.c br_X3_joined_164 (And.intro (fun h164 => ?_) (fun h164 => ?_))
    · refine R.b bk_X3_joined_171 ?_
      refine R.ri rt_X3_joined_172 rfl ⟨_, rfl, ?_⟩
      refine ⟨?_, rfl⟩
      unfold f_join
      simp_all [Int32.not_lt, Int32.not_le] <;> first | (intro hq; exact absurd hq (Int32.not_lt.mpr (by assumption))) | (split <;> first | rfl | (exfalso; simp_all))
    · refine R.b bk_X3_joined_167 ?_
      refine R.j gt_X3_joined_168 ?_
      refine R.ri rt_X3_joined_172 rfl ⟨_, rfl, ?_⟩
      refine ⟨?_, rfl⟩
      unfold f_join
      simp_all [Int32.not_lt, Int32.not_le] <;> first | (intro hq; exact absurd hq (Int32.not_lt.mpr (by assumption))) | (split <;> first | rfl | (exfalso; simp_all))
  · exact hD (by unfold f_join; simp_all)
/-- a step of the class, out of a code of the model -/
def f_st (c : Int32) : Int32 := if 10000 ≤ c then 9999 - c else if 0 ≤ c then c else if c = -10 then -33 else if c = -9 then -47 else if c = -8 then -42 else if c = -7 then -45 else if c = -6 then -43 else if c = -5 then -62 else if c = -4 then -61 else if c = -3 then -60 else if c = -2 then -38 else -124
def sgn (c : Int32) : Prop := c = -1 ∨ c = -2 ∨ c = -3 ∨ c = -4 ∨ c = -5 ∨ c = -6 ∨ c = -7 ∨ c = -8 ∨ c = -9
def sgk (c : Int32) : Prop := c < 0 → c = -10 ∨ sgn c
theorem st_sgn {c : Int32} (h : sgn c) (x y : Int32) : (f_st c < -3) ∧ ¬ f_st c = -33 ∧ f_join (-(f_st c)) x y = f_two c x y := by
  rcases h with rfl | rfl | rfl | rfl | rfl | rfl | rfl | rfl | rfl <;> exact ⟨by decide, by decide, rfl⟩
theorem st_num {j : Nat} (h : j < 10000) : f_st (nI j) = nI j := by
  unfold f_st
  rw [if_neg (show ¬ (10000 : Int32) ≤ nI j from nI_ge (b := 10000) h (by decide)), if_pos (nI_pos' (by omega))]
theorem st_name {i : Nat} (h : i < 3) : f_st (nI (10000 + i)) = -1 ∧ i = 0 ∨ f_st (nI (10000 + i)) = -2 ∧ i = 1 ∨ f_st (nI (10000 + i)) = -3 ∧ i = 2 := by
  rcases (show i = 0 ∨ i = 1 ∨ i = 2 by omega) with rfl | rfl | rfl
  · exact Or.inl ⟨by decide, rfl⟩
  · exact Or.inr (Or.inl ⟨by decide, rfl⟩)
  · exact Or.inr (Or.inr ⟨by decide, rfl⟩)
theorem nm_name {i : Nat} (h : i < 3) (x y z : Int32) : f_st (nI (10000 + i)) < 0 ∧ ¬ f_st (nI (10000 + i)) < -3 ∧ f_nm (f_st (nI (10000 + i))) x y z = fc3 x y z (cN (nI (10000 + i) - 10000)) := by
  rcases (show i = 0 ∨ i = 1 ∨ i = 2 by omega) with rfl | rfl | rfl <;> exact ⟨by decide, by decide, rfl⟩
theorem c_X3_gives {l : Launch} {G : Gt} {M : Mm} {q r n nn : Nat} {x y z : Int32} {code : Nat → Int32} (k0 : (kd q).1 = 1) (k1 : (kd (q + 1)).1 = 11) (z1 : (kd (q + 1)).2 = 96) (kr : (kd r).1 = 3) (k2 : (kd (r + 1)).1 = 11) (z2 : (kd (r + 1)).2 = 96) (hqr : q ≠ r + 1) (hne : q + 1 ≠ r + 1) (hnn : nn ≤ 3) (hw : WFc code n nn) (hn : M q 2 = nI n) (hst : ∀ j, j < n → M (q + 1) j = f_st (code j)) (hsg : ∀ j, j < n → sgk (code j)) : Runs l G true dm_X3_gives 1 127 [.ref r, .ref q, .int x, .int y, .int z] M 127 (Pi (fun v M1 => v = (evN (fc3 x y z) code n).getLastD 0 ∧ ∀ p, p ≠ r + 1 → M1 p = M p)) := by
  refine mx_run ow_X3_gives rfl rfl (fun dp X hdp R => ?_)
  have hn96 := hw.1
  have hA : ∀ (k : Nat) (s : Mm × Option Value), k ≤ n → ((∀ p, p ≠ r + 1 → s.1 p = M p) ∧ stR (s.1 (r + 1)) (evN (fc3 x y z) code k)) → X 127 s.1 6 [some (.ref r), some (.ref q), some (.int x), some (.int y), some (.int z), some (.int (nI (evN (fc3 x y z) code k).length)), some (.int (nI k)), s.2] [] := by
    refine mx_loop (σ := Mm × Option Value) (fun k s => X 127 s.1 6 [some (.ref r), some (.ref q), some (.int x), some (.int y), some (.int z), some (.int (nI (evN (fc3 x y z) code k).length)), some (.int (nI k)), s.2] []) n (fun k s => (∀ p, p ≠ r + 1 → s.1 p = M p) ∧ stR (s.1 (r + 1)) (evN (fc3 x y z) code k)) (fun k s hk hI ih => ?_) (fun s hI => ?_)
    · obtain ⟨M1, c5⟩ := s
      obtain ⟨hI1, hI2⟩ := hI
      dsimp only at hI1 hI2 ⊢
      have hlen := evN_len (fc := fc3 x y z) hw k (by omega)
      have hle := dlN_le code k
      have hwk := hw.2.2 k hk
      have eq2 : M1 q 2 = nI n := by rw [hI1 q hqr]; exact hn
      have eqs : M1 (q + 1) (nI k).toNatClampNeg = f_st (code k) := by rw [nI_clamp (by omega), hI1 (q + 1) hne]; exact hst k hk
      have hsk := hsg k hk
      have ih2 : ∀ (M2 : Mm) (c : Option Value), (∀ p, p ≠ r + 1 → M2 p = M p) → stR (M2 (r + 1)) (ev1 (fc3 x y z) (code k) (evN (fc3 x y z) code k)) → X 127 M2 6 [some (.ref r), some (.ref q), some (.int x), some (.int y), some (.int z), some (.int (nI (ev1 (fc3 x y z) (code k) (evN (fc3 x y z) code k)).length)), some (.int (nI (k + 1))), c] [] := fun M2 c h1 h2 => ih (M2, c) ⟨h1, h2⟩
      clear ih
      rw [← hlen] at hwk hle
      generalize (evN (fc3 x y z) code k) = st at *
      have hs96 : st.length < 96 := by omega
      by_cases hneg : code k < 0
      · have hd2 := hwk.1 hneg
        by_cases h10 : code k = -10
        · rw [if_pos h10] at hd2
          match st, hd2, hs96, hI2, ih2 with
          | [], hd2, _, _, _ => exact absurd hd2 (by simp)
          | xx :: rr, hd2, hs96, hI2, ih2 =>
            refine R.b bk_X3_gives_6 (And.intro (by first | rfl | assumption) ?_)
            refine R.c br_X3_gives_12 (And.intro (fun h12 => absurd h12 (by rw [eq2]; exact nI_ge hk (by omega))) (fun h12 => ?_))
            refine R.b bk_X3_gives_15 (And.intro (by first | rfl | assumption) (And.intro (by first | rfl | assumption) (And.intro (by rw [z1]; exact vp_in_nI (by omega) (by decide)) ?_)))
            rw [eqs]
            refine R.c br_X3_gives_28 (And.intro (fun h28 => ?_) (fun h28 => absurd (by rw [h10]; decide) h28))
            refine R.b bk_X3_gives_73 ?_
            refine R.c br_X3_gives_77 (And.intro (fun h77 => absurd (by rw [h10]; decide) h77) (fun h77 => ?_))
            refine R.b bk_X3_gives_80 ?_
            refine R.c br_X3_gives_82 (And.intro (fun h82 => absurd h82 (nI_nle (by simp) (by simp at hs96; omega))) (fun h82 => ?_))
            refine R.b bk_X3_gives_85 (And.intro (by first | rfl | assumption) (And.intro (by first | rfl | assumption) (And.intro (by first | rfl | assumption) (And.intro (by rw [z2]; exact vp_n (nI_pm rr.length) (by simp at hs96; omega) (by decide)) ?_))))
            refine R.c br_X3_gives_102 (And.intro (fun h102 => ?_) (fun h102 => ?_))
            · refine R.b bk_X3_gives_109 ?_
              refine R.b bk_X3_gives_110 (And.intro (by first | rfl | assumption) (And.intro (by rw [z2]; exact vp_n (nI_pm rr.length) (by simp at hs96; omega) (by decide)) ?_))
              refine R.j gt_X3_gives_111 ?_
              refine R.b bk_X3_gives_154 ?_
              refine R.j gt_X3_gives_157 ?_
              rw [nI_inc]
              have hx := ih2 (mx_wr M1 (r + 1) rr.length (if xx = 0 then 1 else 0)) (some (.int (f_st (code k)))) (fun p hp => by rw [mx_wr_ne hp]; exact hI1 p hp) (by
                rw [ev1_not hneg h10]
                rw [mx_wr_up, mx_rw_at]
                exact stR_push (stR_tail hI2))
              rw [ev1_not hneg h10] at hx
              simp only [List.length_cons] at hx h102 ⊢
              have e9 : (nI (rr.length + 1) - 1).toNatClampNeg = rr.length := by rw [nI_pm]; exact nI_clamp (by simp at hs96; omega)
              rw [e9] at h102 ⊢
              rw [stR_top hI2] at h102
              simp only [h102] at hx
              exact hx
            · refine R.b bk_X3_gives_105 ?_
              refine R.j gt_X3_gives_106 ?_
              refine R.b bk_X3_gives_110 (And.intro (by first | rfl | assumption) (And.intro (by rw [z2]; exact vp_n (nI_pm rr.length) (by simp at hs96; omega) (by decide)) ?_))
              refine R.j gt_X3_gives_111 ?_
              refine R.b bk_X3_gives_154 ?_
              refine R.j gt_X3_gives_157 ?_
              rw [nI_inc]
              have hx := ih2 (mx_wr M1 (r + 1) rr.length (if xx = 0 then 1 else 0)) (some (.int (f_st (code k)))) (fun p hp => by rw [mx_wr_ne hp]; exact hI1 p hp) (by
                rw [ev1_not hneg h10]
                rw [mx_wr_up, mx_rw_at]
                exact stR_push (stR_tail hI2))
              rw [ev1_not hneg h10] at hx
              simp only [List.length_cons] at hx h102 ⊢
              have e9 : (nI (rr.length + 1) - 1).toNatClampNeg = rr.length := by rw [nI_pm]; exact nI_clamp (by simp at hs96; omega)
              rw [e9] at h102 ⊢
              rw [stR_top hI2] at h102
              simp only [h102] at hx
              exact hx
        · rw [if_neg h10] at hd2
          match st, hd2, hs96, hI2, ih2 with
          | [], hd2, _, _, _ => exact absurd hd2 (by simp)
          | [yy], hd2, _, _, _ => exact absurd hd2 (by simp)
          | yy :: xx :: rr, hd2, hs96, hI2, ih2 =>
            have hsx := st_sgn ((hsk hneg).resolve_left h10) xx yy
            refine R.b bk_X3_gives_6 (And.intro (by first | rfl | assumption) ?_)
            refine R.c br_X3_gives_12 (And.intro (fun h12 => absurd h12 (by rw [eq2]; exact nI_ge hk (by omega))) (fun h12 => ?_))
            refine R.b bk_X3_gives_15 (And.intro (by first | rfl | assumption) (And.intro (by first | rfl | assumption) (And.intro (by rw [z1]; exact vp_in_nI (by omega) (by decide)) ?_)))
            rw [eqs]
            refine R.c br_X3_gives_28 (And.intro (fun h28 => ?_) (fun h28 => absurd hsx.1 h28))
            refine R.b bk_X3_gives_73 ?_
            refine R.c br_X3_gives_77 (And.intro (fun h77 => ?_) (fun h77 => absurd h77 hsx.2.1))
            refine R.b bk_X3_gives_114 ?_
            refine R.c br_X3_gives_117 (And.intro (fun h117 => absurd h117 (nI_ge (a := 1) (b := rr.length + 2) (by omega) (by simp at hs96; omega))) (fun h117 => ?_))
            refine R.b bk_X3_gives_120 (And.intro (by first | rfl | assumption) (And.intro (by first | rfl | assumption) (And.intro (by first | rfl | assumption) (And.intro (by rw [z2]; exact vp_n (show nI ((rr.length + 1) + 1) + Int32.ofInt (-1) - 1 = nI rr.length by rw [nI_m1', nI_pm, nI_pm]) (by simp at hs96; omega) (by decide)) (And.intro (by first | rfl | assumption) (And.intro (by first | rfl | assumption) (And.intro (by rw [z2]; exact vp_n (show nI ((rr.length + 1) + 1) + Int32.ofInt (-1) = nI (rr.length + 1) by rw [nI_m1', nI_pm]) (by simp at hs96; omega) (by decide)) ?_)))))))
            refine R.S3i kc_X3_gives_150 (c_X3_joined) (by omega) rfl ⟨Nat.le_refl _, Nat.le_refl _⟩ (fun x150 M150 q150 => ?_)
            obtain ⟨rfl, q150⟩ := q150
            replace q150 := q150.symm
            subst q150
            refine R.b bk_X3_gives_153 (And.intro (by first | rfl | assumption) (And.intro (by rw [z2]; exact vp_n (show nI ((rr.length + 1) + 1) + Int32.ofInt (-1) - 1 = nI rr.length by rw [nI_m1', nI_pm, nI_pm]) (by simp at hs96; omega) (by decide)) ?_))
            refine R.b bk_X3_gives_154 ?_
            refine R.j gt_X3_gives_157 ?_
            rw [nI_inc]
            have hx := ih2 (mx_wr M1 (r + 1) rr.length (f_two (code k) xx yy)) (some (.int (f_st (code k)))) (fun p hp => by rw [mx_wr_ne hp]; exact hI1 p hp) (by
              rw [ev1_two hneg h10]
              rw [mx_wr_up, mx_rw_at]
              exact stR_push (stR_tail (stR_tail hI2)))
            rw [ev1_two hneg h10] at hx
            simp only [List.length_cons] at hx
            have et : nI ((rr.length + 1) + 1) + Int32.ofInt (-1) = nI (rr.length + 1) := by rw [nI_m1', nI_pm]
            have e9 : (nI (rr.length + 1) - 1).toNatClampNeg = rr.length := by rw [nI_pm]; exact nI_clamp (by simp at hs96; omega)
            have e8 : (nI (rr.length + 1)).toNatClampNeg = rr.length + 1 := nI_clamp (by simp at hs96; omega)
            have ey : M1 (r + 1) (rr.length + 1) = yy := stR_top hI2
            have ex : M1 (r + 1) rr.length = xx := stR_top (stR_tail hI2)
            simp only [List.length_cons, et, e9, e8, ex, ey, hsx.2.2]
            exact hx
      · obtain ⟨j, hj, hj2⟩ := hwk.2 hneg
        by_cases hbig : code k < 10000
        · have hnn0 : 0 ≤ code k := Int32.not_lt.mp hneg
          have est : f_st (code k) = code k := by
            rw [hj]
            refine st_num ?_
            apply Nat.lt_of_not_le
            intro q
            exact absurd hbig (by rw [hj]; exact nI_nlt (b := 10000) q (by omega))
          refine R.b bk_X3_gives_6 (And.intro (by first | rfl | assumption) ?_)
          refine R.c br_X3_gives_12 (And.intro (fun h12 => absurd h12 (by rw [eq2]; exact nI_ge hk (by omega))) (fun h12 => ?_))
          refine R.b bk_X3_gives_15 (And.intro (by first | rfl | assumption) (And.intro (by first | rfl | assumption) (And.intro (by rw [z1]; exact vp_in_nI (by omega) (by decide)) ?_)))
          rw [eqs]
          refine R.c br_X3_gives_28 (And.intro (fun h28 => absurd (show f_st (code k) < -3 from h28) (by rw [est]; exact Int32.not_lt.mpr (Int32.le_trans (by decide) hnn0))) (fun h28 => ?_))
          refine R.b bk_X3_gives_31 (And.intro (by first | rfl | assumption) (And.intro ⟨11, by decide, by decide, by first | exact k2 | exact k1⟩ ?_))
          refine R.c br_X3_gives_38 (And.intro (fun h38 => absurd h38 (by rw [z2]; exact nI_ge (b := 96) hs96 (by decide))) (fun h38 => ?_))
          refine R.b bk_X3_gives_41 (And.intro (by first | rfl | assumption) ?_)
          refine R.c br_X3_gives_49 (And.intro (fun h49 => absurd h49 (by rw [est]; exact Int32.not_lt.mpr hnn0)) (fun h49 => ?_))
          refine R.b bk_X3_gives_52 ?_
          refine R.j gt_X3_gives_54 ?_
          refine R.b bk_X3_gives_66 (And.intro (by first | rfl | assumption) (And.intro (by rw [z2]; exact vp_in_nI hs96 (by decide)) ?_))
          refine R.j gt_X3_gives_70 ?_
          refine R.b bk_X3_gives_154 ?_
          refine R.j gt_X3_gives_157 ?_
          rw [nI_inc, nI_inc, nI_clamp (show st.length < 2 ^ 31 by omega), est]
          have hx := ih2 (mx_wr M1 (r + 1) st.length (code k)) (some (.int (code k))) (fun p hp => by rw [mx_wr_ne hp]; exact hI1 p hp) (by
            rw [ev1_num hneg hbig]
            rw [mx_wr_up, mx_rw_at]
            exact stR_push hI2)
          rw [ev1_num hneg hbig] at hx
          exact hx
        · have h5 : 10000 ≤ j := by
            apply Nat.le_of_not_lt
            intro q
            exact hbig (by rw [hj]; exact nI_lt (b := 10000) q (by decide))
          obtain ⟨i, rfl⟩ : ∃ i, j = 10000 + i := ⟨j - 10000, by omega⟩
          have hnm := nm_name (show i < 3 by omega) x y z
          refine R.b bk_X3_gives_6 (And.intro (by first | rfl | assumption) ?_)
          refine R.c br_X3_gives_12 (And.intro (fun h12 => absurd h12 (by rw [eq2]; exact nI_ge hk (by omega))) (fun h12 => ?_))
          refine R.b bk_X3_gives_15 (And.intro (by first | rfl | assumption) (And.intro (by first | rfl | assumption) (And.intro (by rw [z1]; exact vp_in_nI (by omega) (by decide)) ?_)))
          rw [eqs]
          refine R.c br_X3_gives_28 (And.intro (fun h28 => absurd (show f_st (code k) < -3 from h28) (by rw [hj]; exact hnm.2.1)) (fun h28 => ?_))
          refine R.b bk_X3_gives_31 (And.intro (by first | rfl | assumption) (And.intro ⟨11, by decide, by decide, by first | exact k2 | exact k1⟩ ?_))
          refine R.c br_X3_gives_38 (And.intro (fun h38 => absurd h38 (by rw [z2]; exact nI_ge (b := 96) hs96 (by decide))) (fun h38 => ?_))
          refine R.b bk_X3_gives_41 (And.intro (by first | rfl | assumption) ?_)
          refine R.c br_X3_gives_49 (And.intro (fun h49 => ?_) (fun h49 => absurd (by rw [hj]; exact hnm.1) h49))
          refine R.b bk_X3_gives_57 ?_
          refine R.S4i kc_X3_gives_63 (c_X3_named) (by omega) rfl ⟨Nat.le_refl _, Nat.le_refl _⟩ (fun x63 M63 q63 => ?_)
          obtain ⟨rfl, q63⟩ := q63
          replace q63 := q63.symm
          subst q63
          refine R.b bk_X3_gives_66 (And.intro (by first | rfl | assumption) (And.intro (by rw [z2]; exact vp_in_nI hs96 (by decide)) ?_))
          refine R.j gt_X3_gives_70 ?_
          refine R.b bk_X3_gives_154 ?_
          refine R.j gt_X3_gives_157 ?_
          rw [nI_inc, nI_inc, nI_clamp (show st.length < 2 ^ 31 by omega)]
          have hx := ih2 (mx_wr M1 (r + 1) st.length (f_nm (f_st (code k)) x y z)) (some (.int (f_st (code k)))) (fun p hp => by rw [mx_wr_ne hp]; exact hI1 p hp) (by
            rw [ev1_nm hneg hbig]
            rw [mx_wr_up, mx_rw_at, hj, hnm.2.2]
            exact stR_push hI2)
          rw [ev1_nm hneg hbig] at hx
          exact hx
    · obtain ⟨M1, c5⟩ := s
      obtain ⟨hI1, hI2⟩ := hI
      dsimp only at hI1 hI2 ⊢
      have hlen := evN_len (fc := fc3 x y z) hw n (Nat.le_refl n)
      have eq2 : M1 q 2 = nI n := by rw [hI1 q hqr]; exact hn
      have hl96 := dlN_le code n
      refine R.b bk_X3_gives_6 (And.intro (by first | rfl | assumption) ?_)
      refine R.c br_X3_gives_12 (And.intro (fun h12 => ?_) (fun h12 => absurd (by rw [eq2]; exact nI_le (Nat.le_refl n) (by omega)) h12))
      refine R.b bk_X3_gives_160 ?_
      refine R.c br_X3_gives_162 (And.intro (fun h162 => absurd h162 (nI_nle (by rw [hlen]; exact hw.2.1) (by omega))) (fun h162 => ?_))
      refine R.b bk_X3_gives_165 (And.intro (by first | rfl | assumption) (And.intro (by first | rfl | assumption) (And.intro (by rw [z2]; exact vp_lit rfl) ?_)))
      refine R.j gt_X3_gives_171 ?_
      refine R.ri rt_X3_gives_175 rfl ⟨_, rfl, ?_⟩
      refine ⟨?_, hI1⟩
      exact stR_last hI2 (by rw [hlen]; exact hw.2.1)
  refine R.b bk_X3_gives_0 ?_
  exact hA 0 (M, none) (Nat.zero_le n) ⟨fun q _ => rfl, fun j hj => absurd hj (Nat.not_lt_zero j)⟩
