/-! the reader's tokens -/
theorem tp_nat {b t : Int32} (h : (b &&& 255) = t) : ∃ k, k < 256 ∧ t = nI k := by
  obtain ⟨k, hk, e⟩ := pk_andE b (m := 255) 8 (by decide)
  exact ⟨k, hk, h ▸ e⟩
theorem c_X2_byteAt {l : Launch} {G : Gt} {M : Mm} {tp : Rw} (ht : ∀ k, k < 96 → (M 1 k &&& 255) = tp k) {p : Nat} (hb : M 2 0 = nI 1) (hp : p < 96) : Runs l G true dm_X2_byteAt 0 127 [.ref 2, .int (nI p)] M 127 (Pi (fun r M1 => r = tp p ∧ M1 = M)) := by
  refine mx_run ow_X2_byteAt rfl rfl (fun dp X hdp R => ?_)
  have e0 : (M 2 (128 % 64)).toNatClampNeg = 1 := by rw [show M 2 (128 % 64) = nI 1 from hb]; rfl
  refine R.b bk_X2_byteAt_0 ?_
  refine R.c br_X2_byteAt_1 (And.intro (fun h1 => absurd h1 (nI_pos (by omega))) (fun h1 => ?_))
  refine R.b bk_X2_byteAt_4 (And.intro (by first | rfl | (rw [e0]; rfl)) (And.intro ⟨9, by decide, by decide, by rw [e0]; rfl⟩ ?_))
  refine R.c br_X2_byteAt_10 (And.intro (fun h10 => absurd h10 (by rw [e0]; exact nI_ge (b := 96) hp (by decide))) (fun h10 => ?_))
  refine R.b bk_X2_byteAt_13 (And.intro (by first | rfl | (rw [e0]; rfl)) (And.intro (by first | rfl | (rw [e0]; rfl)) (And.intro (by rw [e0]; exact vp_in_nI (show p < 96 from hp) (by decide)) ?_)))
  refine R.j gt_X2_byteAt_23 ?_
  refine R.ri rt_X2_byteAt_27 rfl ⟨_, rfl, ?_⟩
  refine ⟨?_, rfl⟩
  rw [e0, nI_clamp (by omega)]
  exact ht p hp
def c_sort (b : Int32) : Int32 := if 97 ≤ b ∧ b ≤ 122 then -2 else if 48 ≤ b ∧ b ≤ 57 then -3 else b
theorem c_X2_sortOf {l : Launch} {G : Gt} {M : Mm} {b : Int32} : Runs l G true dm_X2_sortOf 0 127 [.int b] M 127 (Pi (fun r M1 => r = c_sort b ∧ M1 = M)) := by
  refine mx_run ow_X2_sortOf rfl rfl (fun dp X hdp R => ?_)
  refine R.b bk_X2_sortOf_0 ?_
  refine R.c br_X2_sortOf_3 (And.intro (fun h3 => ?_) (fun h3 => ?_))
  · refine R.b bk_X2_sortOf_15 ?_
    refine R.c br_X2_sortOf_18 (And.intro (fun h18 => ?_) (fun h18 => ?_))
    · refine R.b bk_X2_sortOf_32 ?_
      refine R.ri rt_X2_sortOf_33 rfl ⟨_, rfl, ?_⟩
      refine ⟨?_, rfl⟩
      unfold c_sort
      try simp only [Int32.not_lt, Int32.not_le] at *
      first
      | (rw [if_pos ⟨h3, h9⟩]; done)
      | (rw [if_neg (fun q => absurd q.1 (Int32.not_le.mpr h3))]; first | (rw [if_neg (fun q => absurd q.1 (Int32.not_le.mpr h18))]; done) | (have q1 := h24; rw [if_neg (fun q => absurd q.2 (Int32.not_le.mpr q1))]; done) | (have q1 := h24; rw [if_pos ⟨h18, q1⟩]; done))
      | (have q0 := h9; rw [if_neg (fun q => absurd q.2 (Int32.not_le.mpr q0))]; first | (rw [if_neg (fun q => absurd q.1 (Int32.not_le.mpr h18))]; done) | (have q1 := h24; rw [if_neg (fun q => absurd q.2 (Int32.not_le.mpr q1))]; done) | (have q1 := h24; rw [if_pos ⟨h18, q1⟩]; done))
    · refine R.b bk_X2_sortOf_21 ?_
      refine R.c br_X2_sortOf_24 (And.intro (fun h24 => ?_) (fun h24 => ?_))
      · refine R.b bk_X2_sortOf_32 ?_
        refine R.ri rt_X2_sortOf_33 rfl ⟨_, rfl, ?_⟩
        refine ⟨?_, rfl⟩
        unfold c_sort
        try simp only [Int32.not_lt, Int32.not_le] at *
        first
        | (rw [if_pos ⟨h3, h9⟩]; done)
        | (rw [if_neg (fun q => absurd q.1 (Int32.not_le.mpr h3))]; first | (rw [if_neg (fun q => absurd q.1 (Int32.not_le.mpr h18))]; done) | (have q1 := h24; rw [if_neg (fun q => absurd q.2 (Int32.not_le.mpr q1))]; done) | (have q1 := h24; rw [if_pos ⟨h18, q1⟩]; done))
        | (have q0 := h9; rw [if_neg (fun q => absurd q.2 (Int32.not_le.mpr q0))]; first | (rw [if_neg (fun q => absurd q.1 (Int32.not_le.mpr h18))]; done) | (have q1 := h24; rw [if_neg (fun q => absurd q.2 (Int32.not_le.mpr q1))]; done) | (have q1 := h24; rw [if_pos ⟨h18, q1⟩]; done))
      · refine R.b bk_X2_sortOf_27 ?_
        refine R.j gt_X2_sortOf_29 ?_
        refine R.ri rt_X2_sortOf_33 rfl ⟨_, rfl, ?_⟩
        refine ⟨?_, rfl⟩
        unfold c_sort
        try simp only [Int32.not_lt, Int32.not_le] at *
        first
        | (rw [if_pos ⟨h3, h9⟩]; done)
        | (rw [if_neg (fun q => absurd q.1 (Int32.not_le.mpr h3))]; first | (rw [if_neg (fun q => absurd q.1 (Int32.not_le.mpr h18))]; done) | (have q1 := h24; rw [if_neg (fun q => absurd q.2 (Int32.not_le.mpr q1))]; done) | (have q1 := h24; rw [if_pos ⟨h18, q1⟩]; done))
        | (have q0 := h9; rw [if_neg (fun q => absurd q.2 (Int32.not_le.mpr q0))]; first | (rw [if_neg (fun q => absurd q.1 (Int32.not_le.mpr h18))]; done) | (have q1 := h24; rw [if_neg (fun q => absurd q.2 (Int32.not_le.mpr q1))]; done) | (have q1 := h24; rw [if_pos ⟨h18, q1⟩]; done))
  · refine R.b bk_X2_sortOf_6 ?_
    refine R.c br_X2_sortOf_9 (And.intro (fun h9 => ?_) (fun h9 => ?_))
    · refine R.b bk_X2_sortOf_15 ?_
      refine R.c br_X2_sortOf_18 (And.intro (fun h18 => ?_) (fun h18 => ?_))
      · refine R.b bk_X2_sortOf_32 ?_
        refine R.ri rt_X2_sortOf_33 rfl ⟨_, rfl, ?_⟩
        refine ⟨?_, rfl⟩
        unfold c_sort
        try simp only [Int32.not_lt, Int32.not_le] at *
        first
        | (rw [if_pos ⟨h3, h9⟩]; done)
        | (rw [if_neg (fun q => absurd q.1 (Int32.not_le.mpr h3))]; first | (rw [if_neg (fun q => absurd q.1 (Int32.not_le.mpr h18))]; done) | (have q1 := h24; rw [if_neg (fun q => absurd q.2 (Int32.not_le.mpr q1))]; done) | (have q1 := h24; rw [if_pos ⟨h18, q1⟩]; done))
        | (have q0 := h9; rw [if_neg (fun q => absurd q.2 (Int32.not_le.mpr q0))]; first | (rw [if_neg (fun q => absurd q.1 (Int32.not_le.mpr h18))]; done) | (have q1 := h24; rw [if_neg (fun q => absurd q.2 (Int32.not_le.mpr q1))]; done) | (have q1 := h24; rw [if_pos ⟨h18, q1⟩]; done))
      · refine R.b bk_X2_sortOf_21 ?_
        refine R.c br_X2_sortOf_24 (And.intro (fun h24 => ?_) (fun h24 => ?_))
        · refine R.b bk_X2_sortOf_32 ?_
          refine R.ri rt_X2_sortOf_33 rfl ⟨_, rfl, ?_⟩
          refine ⟨?_, rfl⟩
          unfold c_sort
          try simp only [Int32.not_lt, Int32.not_le] at *
          first
          | (rw [if_pos ⟨h3, h9⟩]; done)
          | (rw [if_neg (fun q => absurd q.1 (Int32.not_le.mpr h3))]; first | (rw [if_neg (fun q => absurd q.1 (Int32.not_le.mpr h18))]; done) | (have q1 := h24; rw [if_neg (fun q => absurd q.2 (Int32.not_le.mpr q1))]; done) | (have q1 := h24; rw [if_pos ⟨h18, q1⟩]; done))
          | (have q0 := h9; rw [if_neg (fun q => absurd q.2 (Int32.not_le.mpr q0))]; first | (rw [if_neg (fun q => absurd q.1 (Int32.not_le.mpr h18))]; done) | (have q1 := h24; rw [if_neg (fun q => absurd q.2 (Int32.not_le.mpr q1))]; done) | (have q1 := h24; rw [if_pos ⟨h18, q1⟩]; done))
        · refine R.b bk_X2_sortOf_27 ?_
          refine R.j gt_X2_sortOf_29 ?_
          refine R.ri rt_X2_sortOf_33 rfl ⟨_, rfl, ?_⟩
          refine ⟨?_, rfl⟩
          unfold c_sort
          try simp only [Int32.not_lt, Int32.not_le] at *
          first
          | (rw [if_pos ⟨h3, h9⟩]; done)
          | (rw [if_neg (fun q => absurd q.1 (Int32.not_le.mpr h3))]; first | (rw [if_neg (fun q => absurd q.1 (Int32.not_le.mpr h18))]; done) | (have q1 := h24; rw [if_neg (fun q => absurd q.2 (Int32.not_le.mpr q1))]; done) | (have q1 := h24; rw [if_pos ⟨h18, q1⟩]; done))
          | (have q0 := h9; rw [if_neg (fun q => absurd q.2 (Int32.not_le.mpr q0))]; first | (rw [if_neg (fun q => absurd q.1 (Int32.not_le.mpr h18))]; done) | (have q1 := h24; rw [if_neg (fun q => absurd q.2 (Int32.not_le.mpr q1))]; done) | (have q1 := h24; rw [if_pos ⟨h18, q1⟩]; done))
    · refine R.b bk_X2_sortOf_12 ?_
      refine R.ri rt_X2_sortOf_14 rfl ⟨_, rfl, ?_⟩
      refine ⟨?_, rfl⟩
      unfold c_sort
      try simp only [Int32.not_lt, Int32.not_le] at *
      first
      | (rw [if_pos ⟨h3, h9⟩]; done)
      | (rw [if_neg (fun q => absurd q.1 (Int32.not_le.mpr h3))]; first | (rw [if_neg (fun q => absurd q.1 (Int32.not_le.mpr h18))]; done) | (have q1 := h24; rw [if_neg (fun q => absurd q.2 (Int32.not_le.mpr q1))]; done) | (have q1 := h24; rw [if_pos ⟨h18, q1⟩]; done))
      | (have q0 := h9; rw [if_neg (fun q => absurd q.2 (Int32.not_le.mpr q0))]; first | (rw [if_neg (fun q => absurd q.1 (Int32.not_le.mpr h18))]; done) | (have q1 := h24; rw [if_neg (fun q => absurd q.2 (Int32.not_le.mpr q1))]; done) | (have q1 := h24; rw [if_pos ⟨h18, q1⟩]; done))
def c_tok (tp : Rw) (n s : Nat) : Int32 := if s = n then -1 else c_sort (tp s)
def rgo (tp : Rw) (n : Nat) (r : Rw) (p : Nat) : Rw := fun j => if j = 3 then c_tok tp n (t_s tp n p) else if j = 4 then nI (t_s tp n p) else if j = 5 then nI (t_q tp n (t_s tp n p)) else if j = 6 then (if (r 3 = -2 ∨ r 3 = -3) ∧ t_s tp n p = p then 1 else 0) else r j
theorem sort_L {tp : Rw} {n k : Nat} (hk : k < n) (h8 : ∃ b, b < 256 ∧ tp k = nI b) : c_sort (tp k) = -2 ↔ isL tp n k = true := by
  unfold c_sort isL
  rw [decide_eq_true_eq]
  by_cases h : 97 ≤ tp k ∧ tp k ≤ 122
  · rw [if_pos h]
    exact ⟨fun _ => ⟨hk, h⟩, fun _ => rfl⟩
  · rw [if_neg h]
    refine ⟨fun e => ?_, fun e => absurd e.2 h⟩
    exfalso
    split at e
    · exact absurd e (by decide)
    · obtain ⟨b, hb, hb2⟩ := h8
      rw [hb2] at e
      exact absurd (show nI b < 0 by rw [e]; decide) (nI_pos (by omega))
theorem sort_F {tp : Rw} {n k : Nat} (hk : k < n) (h8 : ∃ b, b < 256 ∧ tp k = nI b) : c_sort (tp k) = -3 ↔ isF tp n k = true := by
  unfold c_sort isF
  rw [decide_eq_true_eq]
  by_cases h : 97 ≤ tp k ∧ tp k ≤ 122
  · rw [if_pos h]
    refine ⟨fun e => absurd e (by decide), fun e => ?_⟩
    exact absurd (Int32.le_trans h.1 e.2.2) (by decide)
  · rw [if_neg h]
    by_cases h2 : 48 ≤ tp k ∧ tp k ≤ 57
    · rw [if_pos h2]
      exact ⟨fun _ => ⟨hk, h2⟩, fun _ => rfl⟩
    · rw [if_neg h2]
      refine ⟨fun e => ?_, fun e => absurd e.2 h2⟩
      obtain ⟨b, hb, hb2⟩ := h8
      rw [hb2] at e
      exact absurd (show nI b < 0 by rw [e]; decide) (nI_pos (by omega))
theorem L_F {tp : Rw} {n k : Nat} (h : isL tp n k = true) : isF tp n k = false := by
  unfold isL at h
  rw [decide_eq_true_eq] at h
  unfold isF
  refine decide_eq_false (fun q => ?_)
  exact absurd (Int32.le_trans h.2.1 q.2.2) (by decide)
theorem c_X2_goOn {l : Launch} {G : Gt} {M : Mm} {p n : Nat} {tp : Rw} (ht : ∀ k, k < 96 → (M 1 k &&& 255) = tp k) (hn : n ≤ 96) (hp : p ≤ n) (hb : M 2 0 = nI 1) (h1 : M 2 1 = nI n) (h5 : M 2 5 = nI p) : Runs l G true dm_X2_goOn 1 127 [.ref 2] M 127 (Pv (fun M1 => M1 = mx_rw M 2 (rgo tp n (M 2) p))) := by
  refine mx_run ow_X2_goOn rfl rfl (fun dp X hdp R => ?_)
  obtain ⟨s, hs⟩ : ∃ s, s = t_s tp n p := ⟨_, rfl⟩
  have hsp : p ≤ s ∧ s ≤ n := by
    have := whl_ge (isB tp n) (n - p) p
    rw [hs, t_s]
    omega
  have h8 : ∀ k, k < 96 → ∃ b, b < 256 ∧ tp k = nI b := fun k hk => tp_nat (ht k hk)
  have hW : ∀ (fu q : Nat) (r1 : Rw) (cc : Nat → Bool) (c1 : Option Value), n - q = fu → q ≤ n → r1 0 = nI 1 → r1 1 = nI n → r1 5 = nI q → (∀ k, k < n → (c_sort (tp k) = r1 3 ↔ cc k = true)) → (∀ k, n ≤ k → cc k = false) → mx_rw M 2 (up r1 5 (nI (whl cc fu q))) = mx_rw M 2 (rgo tp n (M 2) p) → X 127 (mx_rw M 2 r1) 158 [some (.ref 2), c1] [] := by
    intro fu
    induction fu with
    | zero =>
      intro q r1 cc c1 hfu hq hr0 hr1 hr5 hcs hce hT
      have hqn : q = n := by omega
      refine R.b bk_X2_goOn_158 (And.intro (by rfl) (And.intro (by rfl) ?_))
      refine R.c br_X2_goOn_166 (And.intro (fun h166 => ?_) (fun h166 => absurd (by rw [mx_rw_at]; show r1 1 ≤ r1 5; rw [hr1, hr5, hqn]; exact nI_le (Nat.le_refl n) (by omega)) h166))
      refine R.rv rt_X2_goOn_200 ⟨rfl, ?_⟩
      rw [whl, show up r1 5 (nI q) = r1 by rw [← hr5]; exact up_same r1 5] at hT
      exact hT
    | succ fu ih =>
      intro q r1 cc c1 hfu hq hr0 hr1 hr5 hcs hce hT
      have hlt : q < n := by omega
      have e5 : mx_rw M 2 r1 2 (133 % 64) = nI q := by rw [mx_rw_at]; exact hr5
      refine R.b bk_X2_goOn_158 (And.intro (by rfl) (And.intro (by rfl) ?_))
      refine R.c br_X2_goOn_166 (And.intro (fun h166 => absurd h166 (by rw [mx_rw_at]; show ¬ r1 1 ≤ r1 5; rw [hr1, hr5]; exact nI_ge hlt (by omega))) (fun h166 => ?_))
      refine R.b bk_X2_goOn_169 (And.intro (by rfl) ?_)
      rw [e5]
      refine R.V1i kc_X2_goOn_174 (by rfl) (c_X2_byteAt (p := q) (tp := tp) (by intro k hk; rw [mx_rw_ne (by decide)]; exact ht k hk) (by rw [mx_rw_at]; exact hr0) (by omega)) (by omega) rfl ⟨Nat.le_refl _, Nat.le_refl _⟩ (fun x174 M174 q174 => ?_)
      obtain ⟨rfl, q174⟩ := q174
      replace q174 := q174.symm
      subst q174
      refine R.S1i kc_X2_goOn_177 (c_X2_sortOf) (by omega) rfl ⟨Nat.le_refl _, Nat.le_refl _⟩ (fun x177 M177 q177 => ?_)
      obtain ⟨rfl, q177⟩ := q177
      replace q177 := q177.symm
      subst q177
      refine R.b bk_X2_goOn_180 (And.intro (by rfl) ?_)
      rw [mx_rw_at]
      refine R.c br_X2_goOn_184 (And.intro (fun h184 => ?_) (fun h184 => ?_))
      · refine R.rv rt_X2_goOn_200 ⟨rfl, ?_⟩
        have hcq : ¬ cc q = true := fun e => h184 ((hcs q hlt).mpr e)
        rw [whl, if_neg hcq, show up r1 5 (nI q) = r1 by rw [← hr5]; exact up_same r1 5] at hT
        exact hT
      · refine R.b bk_X2_goOn_187 (And.intro (by rfl) (And.intro (by rfl) (And.intro rfl (And.intro rfl ?_))))
        refine R.j gt_X2_goOn_197 ?_
        have hcq : cc q = true := (hcs q hlt).mp h184
        rw [show n - q = n - q from rfl] at hfu
        have hT2 := hT
        rw [whl, if_pos hcq] at hT2
        have hx := ih (q + 1) (up r1 5 (nI (q + 1))) cc c1 (by omega) (by omega) hr0 hr1 (up_at _ _ _) hcs hce (by rw [up_up]; exact hT2)
        have e : mx_wr (mx_rw M 2 r1) 2 5 (mx_rw M 2 r1 2 (133 % 64) + 1) = mx_rw M 2 (up r1 5 (nI (q + 1))) := by rw [e5, nI_1, mx_wr_up, mx_rw_rw, mx_rw_at]
        rw [← e] at hx
        exact hx
  have hT : ∀ (r1 : Rw) (tk : Int32) (c1 : Option Value), tk = c_tok tp n s → r1 0 = nI 1 → r1 1 = nI n → r1 4 = nI s → (∀ j, j ≠ 3 → j ≠ 5 → r1 j = rgo tp n (M 2) p j) → X 127 (mx_rw M 2 r1) 120 [some (.ref 2), c1] [.int tk, .ref 2] := by
    intro r1 tk c1 htk hr0 hr1 hr4 hrj
    have e4 : mx_wr (mx_rw M 2 r1) 2 3 tk 2 (132 % 64) = nI s := by rw [mx_wr_up, mx_rw_rw, mx_rw_at, mx_rw_at]; exact hr4
    have e1 : mx_wr (mx_rw M 2 r1) 2 3 tk 2 (129 % 64) = nI n := by rw [mx_wr_up, mx_rw_rw, mx_rw_at, mx_rw_at]; exact hr1
    have eR : ∀ v : Int32, mx_wr (mx_wr (mx_rw M 2 r1) 2 3 tk) 2 5 v = mx_rw M 2 (up (up r1 3 tk) 5 v) := fun v => by simp only [mx_wr_up, mx_rw_rw, mx_rw_at]
    have eM : nI s + 1 = nI (s + 1) := nI_1 s
    have hfin : ∀ Q : Nat, Q = t_q tp n s → mx_rw M 2 (up (up r1 3 tk) 5 (nI Q)) = mx_rw M 2 (rgo tp n (M 2) p) := fun Q hQ => by
      congr 1
      funext j
      by_cases h5 : j = 5
      · rw [h5, up_at, hQ, rgo, ← hs]; rfl
      · rw [up_ne h5]
        by_cases h3 : j = 3
        · rw [h3, up_at, htk, rgo, ← hs]; rfl
        · rw [up_ne h3]; exact hrj j h3 h5
    refine R.b bk_X2_goOn_120 (And.intro (by rfl) (And.intro rfl (And.intro rfl (And.intro (by rfl) (And.intro (by rfl) ?_)))))
    rw [e4, e1, eM]
    refine R.min kc_X2_goOn_134 (by omega) rfl (Nat.le_refl _) ?_
    have emn : (if nI n < nI (s + 1) then nI n else nI (s + 1)) = nI (min (s + 1) n) := min_i (by omega) (by omega)
    rw [emn]
    by_cases hsn : s = n
    · have htk1 : tk = -1 := by rw [htk, c_tok, if_pos hsn]
      rw [show min (s + 1) n = n by omega]
      refine R.b bk_X2_goOn_137 (And.intro (by rfl) (And.intro rfl (And.intro rfl (And.intro (by rfl) ?_))))
      rw [eR, mx_rw_at]
      refine R.c br_X2_goOn_146 (And.intro (fun h146 => absurd (show tk = -2 from h146) (by rw [htk1]; decide)) (fun h146 => ?_))
      refine R.b bk_X2_goOn_149 (And.intro (by rfl) ?_)
      refine R.c br_X2_goOn_155 (And.intro (fun h155 => ?_) (fun h155 => absurd (show tk = -3 from (by rw [mx_rw_at] at h155; exact h155)) (by rw [htk1]; decide)))
      refine R.rv rt_X2_goOn_200 ⟨rfl, ?_⟩
      exact hfin n (by rw [t_q, if_pos hsn]; exact hsn.symm)
    · have htk2 : tk = c_sort (tp s) := by rw [htk, c_tok, if_neg hsn]
      rw [show min (s + 1) n = s + 1 by omega]
      refine R.b bk_X2_goOn_137 (And.intro (by rfl) (And.intro rfl (And.intro rfl (And.intro (by rfl) ?_))))
      refine R.c br_X2_goOn_146 (And.intro (fun h146 => ?_) (fun h146 => ?_))
      · have h3 : tk = -2 := by have q := h146; rw [eR, mx_rw_at] at q; exact q
        have hc0 : isL tp n s = true := (sort_L (by omega) (h8 s (by omega))).mp (by rw [← htk2]; exact h3)
        rw [eR]
        refine hW (n - (s + 1)) (s + 1) (up (up r1 3 tk) 5 (nI (s + 1))) (isL tp n) c1 rfl (by omega) hr0 hr1 (up_at _ _ _) (fun k hk => ?_) (fun k hk => isL_end hk) ?_
        · show c_sort (tp k) = tk ↔ _
          rw [h3]; exact sort_L hk (h8 k (by omega))
        · rw [up_up]
          refine hfin _ ?_
          rw [t_q, if_neg hsn, if_pos hc0, whl_succ (by omega) hc0]
      · refine R.b bk_X2_goOn_149 (And.intro (by rfl) ?_)
        refine R.c br_X2_goOn_155 (And.intro (fun h155 => ?_) (fun h155 => ?_))
        · refine R.rv rt_X2_goOn_200 ⟨rfl, ?_⟩
          rw [eR]
          refine hfin (s + 1) ?_
          have hL0 : isL tp n s = false := by
            cases hq : isL tp n s with
            | false => rfl
            | true => exact absurd ((sort_L (by omega) (h8 s (by omega))).mpr hq) (by rw [← htk2]; exact fun e => h146 (by rw [eR, mx_rw_at]; exact e))
          have hF0 : isF tp n s = false := by
            cases hq : isF tp n s with
            | false => rfl
            | true => exact absurd ((sort_F (by omega) (h8 s (by omega))).mpr hq) (by rw [← htk2]; exact fun e => h155 (by rw [eR, mx_rw_at]; exact e))
          rw [t_q, if_neg hsn, hL0, hF0]
          rfl
        · have h3 : tk = -3 := by have q := h155; rw [eR, mx_rw_at] at q; exact q
          have hc0 : isF tp n s = true := (sort_F (by omega) (h8 s (by omega))).mp (by rw [← htk2]; exact h3)
          rw [eR]
          refine hW (n - (s + 1)) (s + 1) (up (up r1 3 tk) 5 (nI (s + 1))) (isF tp n) c1 rfl (by omega) hr0 hr1 (up_at _ _ _) (fun k hk => ?_) (fun k hk => isF_end hk) ?_
          · show c_sort (tp k) = tk ↔ _
            rw [h3]; exact sort_F hk (h8 k (by omega))
          · rw [up_up]
            refine hfin _ ?_
            have hL0 : isL tp n s = false := by
              cases hq : isL tp n s with
              | false => rfl
              | true => exact absurd hc0 (by rw [L_F hq]; decide)
            rw [t_q, if_neg hsn, hL0, if_neg (by decide), if_pos hc0, whl_succ (by omega) hc0]
  have hLb : ∀ (lb : Int32) (c1 : Option Value), lb = rgo tp n (M 2) p 6 → narrow .boolean (.int lb) = .int lb → X 127 (mx_rw M 2 (up (M 2) 4 (nI s))) 90 [some (.ref 2), c1] [.int lb, .ref 2] := by
    intro lb c1 hlb hnar
    have eW : mx_wr (mx_rw M 2 (up (M 2) 4 (nI s))) 2 6 lb = mx_rw M 2 (up (up (M 2) 4 (nI s)) 6 lb) := by rw [mx_wr_up, mx_rw_rw, mx_rw_at]
    have hr0 : (up (up (M 2) 4 (nI s)) 6 lb) 0 = nI 1 := hb
    have hrr : ∀ j, j ≠ 3 → j ≠ 5 → up (up (M 2) 4 (nI s)) 6 lb j = rgo tp n (M 2) p j := fun j h3 h5 => by
      by_cases h6 : j = 6
      · rw [h6, up_at]; exact hlb
      · rw [up_ne h6]
        by_cases h4 : j = 4
        · rw [h4, up_at, rgo, ← hs]; rfl
        · rw [up_ne h4, rgo, if_neg h3, if_neg h4, if_neg h5, if_neg h6]
    refine R.b bk_X2_goOn_90 (And.intro (by rfl) (And.intro rfl (And.intro hnar (And.intro (by rfl) (And.intro (by rfl) ?_)))))
    rw [eW]
    have h102n : ¬ mx_rw M 2 (up (up (M 2) 4 (nI s)) 6 lb) 2 (129 % 64) ≤ mx_rw M 2 (up (up (M 2) 4 (nI s)) 6 lb) 2 (132 % 64) → s < n := fun q => by
      rw [mx_rw_at] at q
      exact nI_lt8 (by omega) (by omega) (by rw [← h1]; exact q)
    have h102e : mx_rw M 2 (up (up (M 2) 4 (nI s)) 6 lb) 2 (129 % 64) ≤ mx_rw M 2 (up (up (M 2) 4 (nI s)) 6 lb) 2 (132 % 64) → s = n := fun q => by
      rw [mx_rw_at] at q
      have q2 : nI n ≤ nI s := by rw [← h1]; exact q
      have := (nI_leI (by omega) (by omega)).mp q2
      omega
    refine R.c br_X2_goOn_102 (And.intro (fun h102 => ?_) (fun h102 => ?_))
    · refine R.b bk_X2_goOn_119 ?_
      exact hT _ _ _ (by rw [c_tok, if_pos (h102e h102)]) hr0 h1 rfl hrr
    · refine R.b bk_X2_goOn_105 (And.intro (by rfl) ?_)
      rw [show mx_rw M 2 (up (up (M 2) 4 (nI s)) 6 lb) 2 (132 % 64) = nI s by rw [mx_rw_at]; rfl]
      refine R.V1i kc_X2_goOn_110 (by rfl) (c_X2_byteAt (p := s) (tp := tp) (by intro k hk; rw [mx_rw_ne (by decide)]; exact ht k hk) (by rw [mx_rw_at]; exact hr0) (by have q := h102n h102; omega)) (by omega) rfl ⟨Nat.le_refl _, Nat.le_refl _⟩ (fun x110 M110 q110 => ?_)
      obtain ⟨rfl, q110⟩ := q110
      replace q110 := q110.symm
      subst q110
      refine R.S1i kc_X2_goOn_113 (c_X2_sortOf) (by omega) rfl ⟨Nat.le_refl _, Nat.le_refl _⟩ (fun x113 M113 q113 => ?_)
      obtain ⟨rfl, q113⟩ := q113
      replace q113 := q113.symm
      subst q113
      refine R.j gt_X2_goOn_116 ?_
      exact hT _ _ _ (by rw [c_tok, if_neg (by have q := h102n h102; omega)]) hr0 h1 rfl hrr
  have hLz : ∀ (bw : Int32), (bw = if M 2 3 = -2 ∨ M 2 3 = -3 then 1 else 0) → X 127 (mx_rw M 2 (up (M 2) 4 (nI s))) 69 [some (.ref 2), some (.int bw)] [] := by
    intro bw hbw
    have e6 : rgo tp n (M 2) p 6 = if (M 2 3 = -2 ∨ M 2 3 = -3) ∧ s = p then 1 else 0 := by rw [hs]; rfl
    have e4 : mx_rw M 2 (up (M 2) 4 (nI s)) 2 (132 % 64) = nI s := by rw [mx_rw_at]; rfl
    have e5 : mx_rw M 2 (up (M 2) 4 (nI s)) 2 (133 % 64) = nI p := by rw [mx_rw_at]; exact h5
    refine R.b bk_X2_goOn_69 ?_
    refine R.c br_X2_goOn_71 (And.intro (fun h71 => ?_) (fun h71 => ?_))
    · refine R.b bk_X2_goOn_89 ?_
      refine hLb _ _ ?_ rfl
      rw [e6, if_neg (fun q => ?_)]
      rw [hbw, if_pos q.1] at h71
      exact absurd h71 (by decide)
    · refine R.b bk_X2_goOn_74 (And.intro (by rfl) (And.intro (by rfl) ?_))
      refine R.c br_X2_goOn_82 (And.intro (fun h82 => ?_) (fun h82 => ?_))
      · refine R.b bk_X2_goOn_89 ?_
        refine hLb _ _ ?_ rfl
        rw [e6, if_neg (fun q => h82 (by rw [e4, e5, q.2]))]
      · refine R.b bk_X2_goOn_85 ?_
        refine R.j gt_X2_goOn_86 ?_
        refine hLb _ _ ?_ rfl
        rw [e4, e5] at h82
        rw [e6, if_pos ⟨Classical.byContradiction (fun q => h71 (by rw [hbw, if_neg q])), (nI_eq (by omega) (by omega)).mp h82⟩]
  have hSk : ∀ (fu q : Nat) (bw : Int32), n - q = fu → p ≤ q → q ≤ n → whl (isB tp n) fu q = s → (bw = if M 2 3 = -2 ∨ M 2 3 = -3 then 1 else 0) → X 127 (mx_rw M 2 (up (M 2) 4 (nI q))) 32 [some (.ref 2), some (.int bw)] [] := by
    intro fu
    induction fu with
    | zero =>
      intro q bw hfu hpq hq hw hbw
      have hqn : q = n := by omega
      have hqs : q = s := hw
      have e4 : mx_rw M 2 (up (M 2) 4 (nI q)) 2 (132 % 64) = nI q := by rw [mx_rw_at]; rfl
      have e1 : mx_rw M 2 (up (M 2) 4 (nI q)) 2 (129 % 64) = nI n := by rw [mx_rw_at]; exact h1
      refine R.b bk_X2_goOn_32 (And.intro (by rfl) (And.intro (by rfl) ?_))
      refine R.c br_X2_goOn_40 (And.intro (fun h40 => ?_) (fun h40 => absurd (by rw [e4, e1, hqn]; exact nI_le (Nat.le_refl n) (by omega)) h40))
      subst hqs
      exact hLz bw hbw
    | succ fu ih =>
      intro q bw hfu hpq hq hw hbw
      have hlt : q < n := by omega
      have hr0 : up (M 2) 4 (nI q) 0 = nI 1 := hb
      have e4 : mx_rw M 2 (up (M 2) 4 (nI q)) 2 (132 % 64) = nI q := by rw [mx_rw_at]; rfl
      have e1 : mx_rw M 2 (up (M 2) 4 (nI q)) 2 (129 % 64) = nI n := by rw [mx_rw_at]; exact h1
      refine R.b bk_X2_goOn_32 (And.intro (by rfl) (And.intro (by rfl) ?_))
      refine R.c br_X2_goOn_40 (And.intro (fun h40 => absurd h40 (by rw [e4, e1]; exact nI_ge hlt (by omega))) (fun h40 => ?_))
      refine R.b bk_X2_goOn_43 (And.intro (by rfl) ?_)
      rw [e4]
      refine R.V1i kc_X2_goOn_48 (by rfl) (c_X2_byteAt (p := q) (tp := tp) (by intro k hk; rw [mx_rw_ne (by decide)]; exact ht k hk) (by rw [mx_rw_at]; exact hr0) (by omega)) (by omega) rfl ⟨Nat.le_refl _, Nat.le_refl _⟩ (fun x48 M48 q48 => ?_)
      obtain ⟨rfl, q48⟩ := q48
      replace q48 := q48.symm
      subst q48
      refine R.b bk_X2_goOn_51 ?_
      refine R.c br_X2_goOn_53 (And.intro (fun h53 => ?_) (fun h53 => ?_))
      · have hB0 : ¬ isB tp n q = true := by
          unfold isB
          rw [decide_eq_true_eq]
          exact fun e => h53 e.2
        rw [whl, if_neg hB0] at hw
        subst hw
        exact hLz bw hbw
      · refine R.b bk_X2_goOn_56 (And.intro (by rfl) (And.intro (by rfl) (And.intro rfl (And.intro rfl ?_))))
        refine R.j gt_X2_goOn_66 ?_
        have hB0 : isB tp n q = true := decide_eq_true ⟨hlt, h53⟩
        rw [whl, if_pos hB0] at hw
        have hx := ih (q + 1) bw (by omega) (by omega) (by omega) hw hbw
        have e : mx_wr (mx_rw M 2 (up (M 2) 4 (nI q))) 2 4 (mx_rw M 2 (up (M 2) 4 (nI q)) 2 (132 % 64) + 1) = mx_rw M 2 (up (M 2) 4 (nI (q + 1))) := by rw [e4, nI_1, mx_wr_up, mx_rw_rw, mx_rw_at, up_up]
        rw [← e] at hx
        exact hx
  refine R.b bk_X2_goOn_0 (And.intro (by rfl) ?_)
  refine R.c br_X2_goOn_6 (And.intro (fun h6 => ?_) (fun h6 => ?_))
  · refine R.b bk_X2_goOn_18 ?_
    refine R.j gt_X2_goOn_19 ?_
    refine R.b bk_X2_goOn_23 (And.intro (by rfl) (And.intro (by rfl) (And.intro rfl (And.intro rfl ?_))))
    have e : mx_wr M 2 4 (M 2 (133 % 64)) = mx_rw M 2 (up (M 2) 4 (nI p)) := by rw [show M 2 (133 % 64) = nI p from h5, mx_wr_up]
    refine Eq.mp (congrArg (fun m => X 127 m 32 [some (.ref 2), some (.int _)] []) e.symm) ?_
    refine hSk (n - p) p _ rfl (Nat.le_refl p) hp hs.symm ?_
    first
    | (rw [if_pos (Or.inl h6)]; done)
    | (have q1 := h15; rw [if_pos (Or.inr q1)]; done)
    | (have q1 := h15; rw [if_neg (fun q => q.elim h6 q1)]; done)
  · refine R.b bk_X2_goOn_9 (And.intro (by rfl) ?_)
    refine R.c br_X2_goOn_15 (And.intro (fun h15 => ?_) (fun h15 => ?_))
    · refine R.b bk_X2_goOn_22 ?_
      refine R.b bk_X2_goOn_23 (And.intro (by rfl) (And.intro (by rfl) (And.intro rfl (And.intro rfl ?_))))
      have e : mx_wr M 2 4 (M 2 (133 % 64)) = mx_rw M 2 (up (M 2) 4 (nI p)) := by rw [show M 2 (133 % 64) = nI p from h5, mx_wr_up]
      refine Eq.mp (congrArg (fun m => X 127 m 32 [some (.ref 2), some (.int _)] []) e.symm) ?_
      refine hSk (n - p) p _ rfl (Nat.le_refl p) hp hs.symm ?_
      first
      | (rw [if_pos (Or.inl h6)]; done)
      | (have q1 := h15; rw [if_pos (Or.inr q1)]; done)
      | (have q1 := h15; rw [if_neg (fun q => q.elim h6 q1)]; done)
    · refine R.b bk_X2_goOn_18 ?_
      refine R.j gt_X2_goOn_19 ?_
      refine R.b bk_X2_goOn_23 (And.intro (by rfl) (And.intro (by rfl) (And.intro rfl (And.intro rfl ?_))))
      have e : mx_wr M 2 4 (M 2 (133 % 64)) = mx_rw M 2 (up (M 2) 4 (nI p)) := by rw [show M 2 (133 % 64) = nI p from h5, mx_wr_up]
      refine Eq.mp (congrArg (fun m => X 127 m 32 [some (.ref 2), some (.int _)] []) e.symm) ?_
      refine hSk (n - p) p _ rfl (Nat.le_refl p) hp hs.symm ?_
      first
      | (rw [if_pos (Or.inl h6)]; done)
      | (have q1 := h15; rw [if_pos (Or.inr q1)]; done)
      | (have q1 := h15; rw [if_neg (fun q => q.elim h6 q1)]; done)
