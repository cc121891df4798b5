/-! texts at work -/
def cntF (a : Rw) (key : Int32) : Nat → Int32
  | 0 => -1
  | t + 1 => if a (55 + 2 * t) / 1000 = key then nI t else cntF a key t
/-- the text that counts for a key -/
def A_cnt (a : Rw) (key : Int32) : Int32 := cntF a key (cN (a 6))
theorem e_55 (t : Nat) : (55 : Int32) + 2 * nI t = nI (55 + 2 * t) := by rw [show (55 : Int32) = nI 55 from rfl, show (2 : Int32) = nI 2 from rfl, pk_mul, nI_add]
theorem e_83 (t k : Nat) : (83 : Int32) + 96 * nI t + nI k = nI (83 + 96 * t + k) := by rw [show (83 : Int32) = nI 83 from rfl, show (96 : Int32) = nI 96 from rfl, pk_mul, nI_add, nI_add]
theorem vp_n {x : Int32} {i n : Nat} (e : x = nI i) (h : i < n) (hn : n < 2 ^ 31) : vp_in x n := by rw [e]; exact vp_in_nI h hn
theorem cl_n {x : Int32} {i : Nat} (e : x = nI i) (h : i < 2 ^ 31) : x.toNatClampNeg = i := by rw [e]; exact nI_clamp h
theorem nI_pm (t : Nat) : nI (t + 1) - 1 = nI t := nI_pred t
theorem nI_m1' (t : Nat) : nI t + Int32.ofInt (-1) = nI t - 1 := by
  rw [show Int32.ofInt (-1) = -1 from rfl]
  exact (Int32.sub_eq_add_neg (nI t) 1).symm
theorem c_X8_counts {l : Launch} {G : Gt} {M : Mm} {key : Int32} {T : Nat} (hT : T ≤ 14) (h6 : M 104 6 = nI T) : Runs l G true dm_X8_counts 0 127 [.ref 103, .int key] M 127 (Pi (fun x M1 => x = A_cnt (M 104) key ∧ M1 = M)) := by
  refine mx_run ow_X8_counts rfl rfl (fun dp X hdp R => ?_)
  have hA : ∀ (t : Nat), t ≤ 14 → cntF (M 104) key t = A_cnt (M 104) key → X 127 M 10 [some (.ref 103), some (.int key), some (.int (nI t - 1))] [] := by
    intro t
    induction t with
    | zero =>
      intro ht hc
      refine R.b bk_X8_counts_10 ?_
      refine R.c br_X8_counts_11 (And.intro (fun h11 => ?_) (fun h11 => absurd (by decide) h11))
      refine R.b bk_X8_counts_41 ?_
      refine R.ri rt_X8_counts_42 rfl ⟨_, rfl, ?_⟩
      exact ⟨hc, rfl⟩
    | succ t ih =>
      intro ht hc
      rw [nI_pm]
      refine R.b bk_X8_counts_10 ?_
      refine R.c br_X8_counts_11 (And.intro (fun h11 => absurd h11 (nI_pos (by omega))) (fun h11 => ?_))
      refine R.b bk_X8_counts_14 (And.intro (by first | rfl | assumption) (And.intro (by first | rfl | assumption) (And.intro (by exact vp_n (e_55 t) (by show _ < 1427; omega) (by decide)) (And.intro (by decide) ?_))))
      rw [cl_n (e_55 t) (by omega)]
      refine R.c br_X8_counts_30 (And.intro (fun h30 => ?_) (fun h30 => ?_))
      · refine R.b bk_X8_counts_35 ?_
        refine R.j gt_X8_counts_38 ?_
        rw [nI_m1']
        exact ih (by omega) (by rw [← hc, cntF, if_neg h30])
      · refine R.b bk_X8_counts_33 ?_
        refine R.ri rt_X8_counts_34 rfl ⟨_, rfl, ?_⟩
        exact ⟨by rw [← hc, cntF, if_pos h30], rfl⟩
  refine R.b bk_X8_counts_0 (And.intro (by first | rfl | assumption) (And.intro (by first | rfl | assumption) (And.intro (by exact vp_lit rfl) ?_)))
  have e1 : M 104 (Int32.toNatClampNeg 6) = nI T := h6
  rw [e1]
  exact hA T (by omega) (by rw [A_cnt, h6, cN_nI (by omega)])
def f_two (s a b : Int32) : Int32 := if s = -8 then a * b else if s = -7 then a - b else if s = -6 then a + b else if s = -5 then (if b < a then 1 else 0) else if s = -4 then (if a = b then 1 else 0) else if s = -3 then (if a < b then 1 else 0) else if s = -2 then (if a = 0 ∨ b = 0 then 0 else 1) else if s = -1 then (if a = 0 ∧ b = 0 then 0 else 1) else if b = 0 then 0 else a / b
theorem c_X8_two {l : Launch} {G : Gt} {M : Mm} {s a b : Int32} : Runs l G true dm_X8_two 0 127 [.int s, .int a, .int b] M 127 (Pi (fun x M1 => x = f_two s a b ∧ M1 = M)) := by
  refine mx_run ow_X8_two rfl rfl (fun dp X hdp R => ?_)
  refine R.b bk_X8_two_0 ?_
  refine R.s sw_X8_two_1 (And.intro (fun h1_0 => ?_) (fun h1_0 => And.intro (fun h1_1 => ?_) (fun h1_1 => And.intro (fun h1_2 => ?_) (fun h1_2 => And.intro (fun h1_3 => ?_) (fun h1_3 => And.intro (fun h1_4 => ?_) (fun h1_4 => And.intro (fun h1_5 => ?_) (fun h1_5 => And.intro (fun h1_6 => ?_) (fun h1_6 => And.intro (fun h1_7 => ?_) (fun h1_7 => ?_)))))))))
  · refine R.b bk_X8_two_117 ?_
    refine R.ri rt_X8_two_120 rfl ⟨_, rfl, ?_⟩
    refine ⟨?_, rfl⟩
    simp_all [f_two, Int32.not_lt, Int32.not_le] <;> first | (intro hq; exact absurd hq (Int32.not_lt.mpr (by assumption))) | (split <;> first | rfl | (exfalso; simp_all))
  · refine R.b bk_X8_two_113 ?_
    refine R.ri rt_X8_two_116 rfl ⟨_, rfl, ?_⟩
    refine ⟨?_, rfl⟩
    simp_all [f_two, Int32.not_lt, Int32.not_le] <;> first | (intro hq; exact absurd hq (Int32.not_lt.mpr (by assumption))) | (split <;> first | rfl | (exfalso; simp_all))
  · refine R.b bk_X8_two_109 ?_
    refine R.ri rt_X8_two_112 rfl ⟨_, rfl, ?_⟩
    refine ⟨?_, rfl⟩
    simp_all [f_two, Int32.not_lt, Int32.not_le] <;> first | (intro hq; exact absurd hq (Int32.not_lt.mpr (by assumption))) | (split <;> first | rfl | (exfalso; simp_all))
  · refine R.b bk_X8_two_98 ?_
    refine R.c br_X8_two_100 (And.intro (fun h100 => ?_) (fun h100 => ?_))
    · refine R.b bk_X8_two_107 ?_
      refine R.ri rt_X8_two_108 rfl ⟨_, rfl, ?_⟩
      refine ⟨?_, rfl⟩
      simp_all [f_two, Int32.not_lt, Int32.not_le] <;> first | (intro hq; exact absurd hq (Int32.not_lt.mpr (by assumption))) | (split <;> first | rfl | (exfalso; simp_all))
    · refine R.b bk_X8_two_103 ?_
      refine R.j gt_X8_two_104 ?_
      refine R.ri rt_X8_two_108 rfl ⟨_, rfl, ?_⟩
      refine ⟨?_, rfl⟩
      simp_all [f_two, Int32.not_lt, Int32.not_le] <;> first | (intro hq; exact absurd hq (Int32.not_lt.mpr (by assumption))) | (split <;> first | rfl | (exfalso; simp_all))
  · refine R.b bk_X8_two_87 ?_
    refine R.c br_X8_two_89 (And.intro (fun h89 => ?_) (fun h89 => ?_))
    · refine R.b bk_X8_two_96 ?_
      refine R.ri rt_X8_two_97 rfl ⟨_, rfl, ?_⟩
      refine ⟨?_, rfl⟩
      simp_all [f_two, Int32.not_lt, Int32.not_le] <;> first | (intro hq; exact absurd hq (Int32.not_lt.mpr (by assumption))) | (split <;> first | rfl | (exfalso; simp_all))
    · refine R.b bk_X8_two_92 ?_
      refine R.j gt_X8_two_93 ?_
      refine R.ri rt_X8_two_97 rfl ⟨_, rfl, ?_⟩
      refine ⟨?_, rfl⟩
      simp_all [f_two, Int32.not_lt, Int32.not_le] <;> first | (intro hq; exact absurd hq (Int32.not_lt.mpr (by assumption))) | (split <;> first | rfl | (exfalso; simp_all))
  · refine R.b bk_X8_two_76 ?_
    refine R.c br_X8_two_78 (And.intro (fun h78 => ?_) (fun h78 => ?_))
    · refine R.b bk_X8_two_85 ?_
      refine R.ri rt_X8_two_86 rfl ⟨_, rfl, ?_⟩
      refine ⟨?_, rfl⟩
      simp_all [f_two, Int32.not_lt, Int32.not_le] <;> first | (intro hq; exact absurd hq (Int32.not_lt.mpr (by assumption))) | (split <;> first | rfl | (exfalso; simp_all))
    · refine R.b bk_X8_two_81 ?_
      refine R.j gt_X8_two_82 ?_
      refine R.ri rt_X8_two_86 rfl ⟨_, rfl, ?_⟩
      refine ⟨?_, rfl⟩
      simp_all [f_two, Int32.not_lt, Int32.not_le] <;> first | (intro hq; exact absurd hq (Int32.not_lt.mpr (by assumption))) | (split <;> first | rfl | (exfalso; simp_all))
  · refine R.b bk_X8_two_62 ?_
    refine R.c br_X8_two_63 (And.intro (fun h63 => ?_) (fun h63 => ?_))
    · refine R.b bk_X8_two_74 ?_
      refine R.ri rt_X8_two_75 rfl ⟨_, rfl, ?_⟩
      refine ⟨?_, rfl⟩
      simp_all [f_two, Int32.not_lt, Int32.not_le] <;> first | (intro hq; exact absurd hq (Int32.not_lt.mpr (by assumption))) | (split <;> first | rfl | (exfalso; simp_all))
    · refine R.b bk_X8_two_66 ?_
      refine R.c br_X8_two_67 (And.intro (fun h67 => ?_) (fun h67 => ?_))
      · refine R.b bk_X8_two_74 ?_
        refine R.ri rt_X8_two_75 rfl ⟨_, rfl, ?_⟩
        refine ⟨?_, rfl⟩
        simp_all [f_two, Int32.not_lt, Int32.not_le] <;> first | (intro hq; exact absurd hq (Int32.not_lt.mpr (by assumption))) | (split <;> first | rfl | (exfalso; simp_all))
      · refine R.b bk_X8_two_70 ?_
        refine R.j gt_X8_two_71 ?_
        refine R.ri rt_X8_two_75 rfl ⟨_, rfl, ?_⟩
        refine ⟨?_, rfl⟩
        simp_all [f_two, Int32.not_lt, Int32.not_le] <;> first | (intro hq; exact absurd hq (Int32.not_lt.mpr (by assumption))) | (split <;> first | rfl | (exfalso; simp_all))
  · refine R.b bk_X8_two_48 ?_
    refine R.c br_X8_two_49 (And.intro (fun h49 => ?_) (fun h49 => ?_))
    · refine R.b bk_X8_two_56 ?_
      refine R.j gt_X8_two_57 ?_
      refine R.ri rt_X8_two_61 rfl ⟨_, rfl, ?_⟩
      refine ⟨?_, rfl⟩
      simp_all [f_two, Int32.not_lt, Int32.not_le] <;> first | (intro hq; exact absurd hq (Int32.not_lt.mpr (by assumption))) | (split <;> first | rfl | (exfalso; simp_all))
    · refine R.b bk_X8_two_52 ?_
      refine R.c br_X8_two_53 (And.intro (fun h53 => ?_) (fun h53 => ?_))
      · refine R.b bk_X8_two_60 ?_
        refine R.ri rt_X8_two_61 rfl ⟨_, rfl, ?_⟩
        refine ⟨?_, rfl⟩
        simp_all [f_two, Int32.not_lt, Int32.not_le] <;> first | (intro hq; exact absurd hq (Int32.not_lt.mpr (by assumption))) | (split <;> first | rfl | (exfalso; simp_all))
      · refine R.b bk_X8_two_56 ?_
        refine R.j gt_X8_two_57 ?_
        refine R.ri rt_X8_two_61 rfl ⟨_, rfl, ?_⟩
        refine ⟨?_, rfl⟩
        simp_all [f_two, Int32.not_lt, Int32.not_le] <;> first | (intro hq; exact absurd hq (Int32.not_lt.mpr (by assumption))) | (split <;> first | rfl | (exfalso; simp_all))
  · refine R.b bk_X8_two_121 ?_
    refine R.c br_X8_two_122 (And.intro (fun h122 => ?_) (fun h122 => ?_))
    · refine R.b bk_X8_two_129 (And.intro h122 ?_)
      refine R.ri rt_X8_two_132 rfl ⟨_, rfl, ?_⟩
      refine ⟨?_, rfl⟩
      simp_all [f_two, Int32.not_lt, Int32.not_le] <;> first | (intro hq; exact absurd hq (Int32.not_lt.mpr (by assumption))) | (split <;> first | rfl | (exfalso; simp_all))
    · refine R.b bk_X8_two_125 ?_
      refine R.j gt_X8_two_126 ?_
      refine R.ri rt_X8_two_132 rfl ⟨_, rfl, ?_⟩
      refine ⟨?_, rfl⟩
      simp_all [f_two, Int32.not_lt, Int32.not_le] <;> first | (intro hq; exact absurd hq (Int32.not_lt.mpr (by assumption))) | (split <;> first | rfl | (exfalso; simp_all))
/-- one step of a text's working out: the stack, its top first -/
def ev1 (fc : Nat → Int32) (c : Int32) (st : List Int32) : List Int32 :=
  if c < 0 then (if c = -10 then (match st with | x :: r => (if x = 0 then 1 else 0) :: r | [] => []) else (match st with | y :: x :: r => f_two c x y :: r | r => r)) else (if c < 10000 then c else fc (cN (c - 10000))) :: st
theorem ev1_num {fc : Nat → Int32} {c : Int32} {st : List Int32} (h : ¬ c < 0) (h2 : c < 10000) : ev1 fc c st = c :: st := by
  unfold ev1
  rw [if_neg h, if_pos h2]
theorem ev1_nm {fc : Nat → Int32} {c : Int32} {st : List Int32} (h : ¬ c < 0) (h2 : ¬ c < 10000) : ev1 fc c st = fc (cN (c - 10000)) :: st := by
  unfold ev1
  rw [if_neg h, if_neg h2]
theorem ev1_not {fc : Nat → Int32} {c x : Int32} {r : List Int32} (h : c < 0) (h2 : c = -10) : ev1 fc c (x :: r) = (if x = 0 then 1 else 0) :: r := by
  unfold ev1
  rw [if_pos h, if_pos h2]
theorem ev1_two {fc : Nat → Int32} {c x y : Int32} {r : List Int32} (h : c < 0) (h2 : ¬ c = -10) : ev1 fc c (y :: x :: r) = f_two c x y :: r := by
  unfold ev1
  rw [if_pos h, if_neg h2]
def evN (fc : Nat → Int32) (code : Nat → Int32) : Nat → List Int32
  | 0 => []
  | n + 1 => ev1 fc (code n) (evN fc code n)
/-- how many stand on the stack -/
def dlN (code : Nat → Int32) : Nat → Nat
  | 0 => 0
  | n + 1 => if code n < 0 then (if code n = -10 then dlN code n else dlN code n - 1) else dlN code n + 1
/-- a code that can be worked out, with nn names -/
def WFc (code : Nat → Int32) (n nn : Nat) : Prop := n ≤ 96 ∧ 1 ≤ dlN code n ∧ (∀ k, k < n → (code k < 0 → (if code k = -10 then 1 else 2) ≤ dlN code k) ∧ (¬ code k < 0 → ∃ j, code k = nI j ∧ j < 10000 + nn))
theorem evN_len {fc : Nat → Int32} {code : Nat → Int32} {n nn : Nat} (h : WFc code n nn) : ∀ k, k ≤ n → (evN fc code k).length = dlN code k := by
  intro k
  induction k with
  | zero => intro _; rfl
  | succ k ih =>
    intro hk
    have h1 := ih (by omega)
    have h2 := h.2.2 k (by omega)
    simp only [evN, dlN, ev1]
    by_cases hc : code k < 0
    · have h3 := h2.1 hc
      rw [if_pos hc, if_pos hc]
      by_cases h10 : code k = -10
      · rw [if_pos h10, if_pos h10]
        rw [if_pos h10] at h3
        cases hs : evN fc code k with
        | nil => rw [hs] at h1; simp at h1; omega
        | cons x r => rw [hs] at h1; simpa using h1
      · rw [if_neg h10, if_neg h10]
        rw [if_neg h10] at h3
        match hs : evN fc code k with
        | [] => rw [hs] at h1; simp at h1; omega
        | [y] => rw [hs] at h1; simp at h1; omega
        | y :: x :: r => rw [hs] at h1; simp at h1 ⊢; omega
    · rw [if_neg hc, if_neg hc]
      simp [h1]
theorem dlN_le (code : Nat → Int32) : ∀ k, dlN code k ≤ k
  | 0 => Nat.le_refl 0
  | k + 1 => by
    have := dlN_le code k
    unfold dlN
    split
    · split <;> omega
    · omega
theorem evN_congr {fc fc' : Nat → Int32} {code : Nat → Int32} {n nn : Nat} (h : WFc code n nn) (hf : ∀ j, j < nn → fc j = fc' j) (hn : nn ≤ 1000) : ∀ k, k ≤ n → evN fc code k = evN fc' code k := by
  intro k
  induction k with
  | zero => intro _; rfl
  | succ k ih =>
    intro hk
    simp only [evN, ih (by omega), ev1]
    by_cases hc : code k < 0
    · rw [if_pos hc, if_pos hc]
    · rw [if_neg hc, if_neg hc]
      obtain ⟨j, hj, hlt⟩ := (h.2.2 k (by omega)).2 hc
      by_cases h4 : code k < 10000
      · rw [if_pos h4, if_pos h4]
      · rw [if_neg h4, if_neg h4]
        have h5 : 10000 ≤ j := by
          apply Nat.le_of_not_lt
          intro q
          exact h4 (by rw [hj]; exact nI_lt (b := 10000) q (by decide))
        have e : cN (code k - 10000) = j - 10000 := by
          rw [hj, show (10000 : Int32) = nI 10000 from rfl, pk_sub h5]
          exact cN_nI (by omega)
        rw [e, hf (j - 10000) (by omega)]
/-- the row holds the stack -/
def stR (r : Rw) (st : List Int32) : Prop := ∀ j, j < st.length → r j = st.getD (st.length - 1 - j) 0
theorem stR_push {r : Rw} {st : List Int32} {v : Int32} (h : stR r st) : stR (up r st.length v) (v :: st) := by
  intro j hj
  simp only [List.length_cons] at hj ⊢
  by_cases e : j = st.length
  · subst e
    simp [up]
  · rw [up_ne e, h j (by omega)]
    have : st.length + 1 - 1 - j = (st.length - 1 - j) + 1 := by omega
    rw [this]
    simp
theorem stR_top {r : Rw} {st : List Int32} {x : Int32} (h : stR r (x :: st)) : r st.length = x := by
  have := h st.length (by simp)
  simpa using this
theorem stR_tail {r : Rw} {st : List Int32} {x : Int32} (h : stR r (x :: st)) : stR r st := by
  intro j hj
  rw [h j (by simp; omega)]
  simp only [List.length_cons]
  have : st.length + 1 - 1 - j = (st.length - 1 - j) + 1 := by omega
  rw [this]
  simp
/-- a text worked out -/
def A_ev (a : Rw) (t : Nat) (fc : Nat → Int32) : Int32 := (evN fc (fun k => a (83 + 96 * t + k)) (cN (f_rem (a (55 + 2 * t)) 1000))).getLastD 0
theorem stR_last {r : Rw} {st : List Int32} (h : stR r st) (h1 : 1 ≤ st.length) : r 0 = st.getLastD 0 := by
  rw [h 0 h1]
  cases st with
  | nil => simp at h1
  | cons x r => simp [List.getLastD_cons, List.getD_eq_getElem?_getD, List.getLastD]; grind
theorem c_X8_worksOut {l : Launch} {G : Gt} {M : Mm} {t n nn : Nat} (ht : t < 14) (hn : f_rem (M 104 (55 + 2 * t)) 1000 = nI n) (hnn : nn ≤ 3) (hw : WFc (fun k => M 104 (83 + 96 * t + k)) n nn) : Runs l G true dm_X8_worksOut 1 127 [.ref 103, .int (nI t)] M 127 (Pi (fun x M1 => x = A_ev (M 104) t (M 117) ∧ ∀ q, q ≠ 116 → M1 q = M q)) := by
  refine mx_run ow_X8_worksOut rfl rfl (fun dp X hdp R => ?_)
  have hA : ∀ (k : Nat) (s : Mm × Option Value), k ≤ n → ((∀ q, q ≠ 116 → s.1 q = M q) ∧ stR (s.1 116) (evN (M 117) (fun k => M 104 (83 + 96 * t + k)) k)) → X 127 s.1 21 [some (.ref 103), some (.int (nI t)), some (.int (nI (evN (M 117) (fun k => M 104 (83 + 96 * t + k)) k).length)), some (.int (nI n)), some (.int (nI k)), s.2] [] := by
    refine mx_loop (σ := Mm × Option Value) (fun k s => X 127 s.1 21 [some (.ref 103), some (.int (nI t)), some (.int (nI (evN (M 117) (fun k => M 104 (83 + 96 * t + k)) k).length)), some (.int (nI n)), some (.int (nI k)), s.2] []) n (fun k s => (∀ q, q ≠ 116 → s.1 q = M q) ∧ stR (s.1 116) (evN (M 117) (fun k => M 104 (83 + 96 * t + k)) k)) (fun k s hk hI ih => ?_) (fun s hI => ?_)
    · obtain ⟨M1, c5⟩ := s
      obtain ⟨hI1, hI2⟩ := hI
      dsimp only at hI1 hI2 ⊢
      have hk96 := hw.1
      have hlen := evN_len (fc := M 117) hw k (by omega)
      have hle := dlN_le (fun k => M 104 (83 + 96 * t + k)) k
      have hwk := hw.2.2 k hk
      dsimp only at hwk
      have e104 := hI1 104 (by decide)
      have e117 := hI1 117 (by decide)
      have ih2 : ∀ (M2 : Mm) (c : Option Value), (∀ q, q ≠ 116 → M2 q = M q) → stR (M2 116) (ev1 (M 117) (M 104 (83 + 96 * t + k)) (evN (M 117) (fun k => M 104 (83 + 96 * t + k)) k)) → X 127 M2 21 [some (.ref 103), some (.int (nI t)), some (.int (nI (ev1 (M 117) (M 104 (83 + 96 * t + k)) (evN (M 117) (fun k => M 104 (83 + 96 * t + k)) k)).length)), some (.int (nI n)), some (.int (nI (k + 1))), c] [] := fun M2 c h1 h2 => ih (M2, c) ⟨h1, h2⟩
      clear ih
      rw [← hlen] at hwk hle
      generalize evN (M 117) (fun k => M 104 (83 + 96 * t + k)) k = st at *
      have hs96 : st.length < 96 := by omega
      by_cases hneg : M 104 (83 + 96 * t + k) < 0
      · have hd2 := hwk.1 hneg
        by_cases h10 : M 104 (83 + 96 * t + k) = -10
        · rw [if_pos h10] at hd2
          match st, hd2, hs96, hI2, ih2 with
          | [], hd2, _, _, _ => exact absurd hd2 (by simp)
          | x :: r, hd2, hs96, hI2, ih2 =>
            refine R.b bk_X8_worksOut_21 ?_
            refine R.c br_X8_worksOut_24 (And.intro (fun h24 => absurd h24 (nI_ge hk (by omega))) (fun h24 => ?_))
            refine R.b bk_X8_worksOut_27 (And.intro (by first | rfl | assumption) (And.intro (by first | rfl | assumption) (And.intro (by exact vp_n (e_83 t k) (by show _ < 1427; omega) (by decide)) ?_)))
            rw [cl_n (e_83 t k) (by omega), e104]
            refine R.c br_X8_worksOut_46 (And.intro (fun h46 => ?_) (fun h46 => absurd hneg h46))
            refine R.b bk_X8_worksOut_85 ?_
            refine R.c br_X8_worksOut_89 (And.intro (fun h89 => absurd h10 h89) (fun h89 => ?_))
            refine R.b bk_X8_worksOut_92 (And.intro (by first | rfl | assumption) (And.intro (by first | rfl | assumption) (And.intro (by first | rfl | assumption) (And.intro (by exact vp_n (nI_pm r.length) (by show _ < 96; simp at hs96; omega) (by decide)) ?_))))
            refine R.c br_X8_worksOut_107 (And.intro (fun h107 => ?_) (fun h107 => ?_))
            · refine R.b bk_X8_worksOut_114 ?_
              refine R.b bk_X8_worksOut_115 (And.intro (by first | rfl | assumption) (And.intro (by exact vp_n (nI_pm r.length) (by show _ < 96; simp at hs96; omega) (by decide)) ?_))
              refine R.j gt_X8_worksOut_116 ?_
              refine R.b bk_X8_worksOut_149 ?_
              refine R.j gt_X8_worksOut_152 ?_
              rw [nI_inc]
              have hx := ih2 (mx_wr M1 116 r.length (if x = 0 then 1 else 0)) (some (.int (M 104 (83 + 96 * t + k)))) (fun q hq => by rw [mx_wr_ne hq]; exact hI1 q hq) (by
                rw [ev1_not hneg h10]
                exact stR_push (stR_tail hI2))
              rw [ev1_not hneg h10] at hx
              simp only [List.length_cons] at hx h107 ⊢
              have e9 : (nI (r.length + 1) - 1).toNatClampNeg = r.length := by rw [nI_pm]; exact nI_clamp (by simp at hs96; omega)
              rw [e9] at h107 ⊢
              rw [stR_top hI2] at h107
              simp only [h107] at hx
              exact hx
            · refine R.b bk_X8_worksOut_110 ?_
              refine R.j gt_X8_worksOut_111 ?_
              refine R.b bk_X8_worksOut_115 (And.intro (by first | rfl | assumption) (And.intro (by exact vp_n (nI_pm r.length) (by show _ < 96; simp at hs96; omega) (by decide)) ?_))
              refine R.j gt_X8_worksOut_116 ?_
              refine R.b bk_X8_worksOut_149 ?_
              refine R.j gt_X8_worksOut_152 ?_
              rw [nI_inc]
              have hx := ih2 (mx_wr M1 116 r.length (if x = 0 then 1 else 0)) (some (.int (M 104 (83 + 96 * t + k)))) (fun q hq => by rw [mx_wr_ne hq]; exact hI1 q hq) (by
                rw [ev1_not hneg h10]
                exact stR_push (stR_tail hI2))
              rw [ev1_not hneg h10] at hx
              simp only [List.length_cons] at hx h107 ⊢
              have e9 : (nI (r.length + 1) - 1).toNatClampNeg = r.length := by rw [nI_pm]; exact nI_clamp (by simp at hs96; omega)
              rw [e9] at h107 ⊢
              rw [stR_top hI2] at h107
              simp only [h107] at hx
              exact hx
        · rw [if_neg h10] at hd2
          match st, hd2, hs96, hI2, ih2 with
          | [], hd2, _, _, _ => exact absurd hd2 (by simp)
          | [y], hd2, _, _, _ => exact absurd hd2 (by simp)
          | y :: x :: r, hd2, hs96, hI2, ih2 =>
            refine R.b bk_X8_worksOut_21 ?_
            refine R.c br_X8_worksOut_24 (And.intro (fun h24 => absurd h24 (nI_ge hk (by omega))) (fun h24 => ?_))
            refine R.b bk_X8_worksOut_27 (And.intro (by first | rfl | assumption) (And.intro (by first | rfl | assumption) (And.intro (by exact vp_n (e_83 t k) (by show _ < 1427; omega) (by decide)) ?_)))
            rw [cl_n (e_83 t k) (by omega), e104]
            refine R.c br_X8_worksOut_46 (And.intro (fun h46 => ?_) (fun h46 => absurd hneg h46))
            refine R.b bk_X8_worksOut_85 ?_
            refine R.c br_X8_worksOut_89 (And.intro (fun h89 => ?_) (fun h89 => absurd h89 h10))
            refine R.b bk_X8_worksOut_119 (And.intro (by first | rfl | assumption) (And.intro (by first | rfl | assumption) (And.intro (by first | rfl | assumption) (And.intro (by exact vp_n (show nI ((r.length + 1) + 1) + Int32.ofInt (-1) - 1 = nI r.length by rw [nI_m1', nI_pm, nI_pm]) (by show _ < 96; simp at hs96; omega) (by decide)) (And.intro (by first | rfl | assumption) (And.intro (by first | rfl | assumption) (And.intro (by exact vp_n (show nI ((r.length + 1) + 1) + Int32.ofInt (-1) = nI (r.length + 1) by rw [nI_m1', nI_pm]) (by show _ < 96; simp at hs96; omega) (by decide)) ?_)))))))
            refine R.S3i kc_X8_worksOut_145 (c_X8_two) (by omega) rfl ⟨Nat.le_refl _, Nat.le_refl _⟩ (fun x145 M145 q145 => ?_)
            obtain ⟨rfl, q145⟩ := q145
            replace q145 := q145.symm
            subst q145
            refine R.b bk_X8_worksOut_148 (And.intro (by first | rfl | assumption) (And.intro (by exact vp_n (show nI ((r.length + 1) + 1) + Int32.ofInt (-1) - 1 = nI r.length by rw [nI_m1', nI_pm, nI_pm]) (by show _ < 96; simp at hs96; omega) (by decide)) ?_))
            refine R.b bk_X8_worksOut_149 ?_
            refine R.j gt_X8_worksOut_152 ?_
            rw [nI_inc]
            have hx := ih2 (mx_wr M1 116 r.length (f_two (M 104 (83 + 96 * t + k)) x y)) (some (.int (M 104 (83 + 96 * t + k)))) (fun q hq => by rw [mx_wr_ne hq]; exact hI1 q hq) (by
              rw [ev1_two hneg h10]
              exact stR_push (stR_tail (stR_tail hI2)))
            rw [ev1_two hneg h10] at hx
            simp only [List.length_cons] at hx
            have et : nI ((r.length + 1) + 1) + Int32.ofInt (-1) = nI (r.length + 1) := by rw [nI_m1', nI_pm]
            have e9 : (nI (r.length + 1) - 1).toNatClampNeg = r.length := by rw [nI_pm]; exact nI_clamp (by simp at hs96; omega)
            have e8 : (nI (r.length + 1)).toNatClampNeg = r.length + 1 := nI_clamp (by simp at hs96; omega)
            have ey : M1 116 (r.length + 1) = y := stR_top hI2
            have ex : M1 116 r.length = x := stR_top (stR_tail hI2)
            simp only [List.length_cons, et, e9, e8, ex, ey]
            exact hx
      · obtain ⟨j, hj, hj2⟩ := hwk.2 hneg
        by_cases hbig : M 104 (83 + 96 * t + k) < 10000
        · refine R.b bk_X8_worksOut_21 ?_
          refine R.c br_X8_worksOut_24 (And.intro (fun h24 => absurd h24 (nI_ge hk (by omega))) (fun h24 => ?_))
          refine R.b bk_X8_worksOut_27 (And.intro (by first | rfl | assumption) (And.intro (by first | rfl | assumption) (And.intro (by exact vp_n (e_83 t k) (by show _ < 1427; omega) (by decide)) ?_)))
          rw [cl_n (e_83 t k) (by omega), e104]
          refine R.c br_X8_worksOut_46 (And.intro (fun h46 => absurd h46 hneg) (fun h46 => ?_))
          refine R.b bk_X8_worksOut_49 (And.intro (by first | rfl | assumption) ?_)
          refine R.c br_X8_worksOut_59 (And.intro (fun h59 => absurd h59 (Int32.not_le.mpr hbig)) (fun h59 => ?_))
          refine R.b bk_X8_worksOut_62 ?_
          refine R.j gt_X8_worksOut_64 ?_
          refine R.b bk_X8_worksOut_78 (And.intro (by first | rfl | assumption) (And.intro (by exact vp_in_nI (by show _ < 96; omega) (by decide)) ?_))
          refine R.j gt_X8_worksOut_82 ?_
          refine R.b bk_X8_worksOut_149 ?_
          refine R.j gt_X8_worksOut_152 ?_
          rw [nI_inc, nI_inc, nI_clamp (by omega)]
          have hx := ih2 (mx_wr M1 116 st.length (M 104 (83 + 96 * t + k))) (some (.int (M 104 (83 + 96 * t + k)))) (fun q hq => by rw [mx_wr_ne hq]; exact hI1 q hq) (by
            rw [ev1_num hneg hbig]
            exact stR_push hI2)
          rw [ev1_num hneg hbig] at hx
          exact hx
        · refine R.b bk_X8_worksOut_21 ?_
          refine R.c br_X8_worksOut_24 (And.intro (fun h24 => absurd h24 (nI_ge hk (by omega))) (fun h24 => ?_))
          refine R.b bk_X8_worksOut_27 (And.intro (by first | rfl | assumption) (And.intro (by first | rfl | assumption) (And.intro (by exact vp_n (e_83 t k) (by show _ < 1427; omega) (by decide)) ?_)))
          rw [cl_n (e_83 t k) (by omega), e104]
          refine R.c br_X8_worksOut_46 (And.intro (fun h46 => absurd h46 hneg) (fun h46 => ?_))
          refine R.b bk_X8_worksOut_49 (And.intro (by first | rfl | assumption) ?_)
          refine R.c br_X8_worksOut_59 (And.intro (fun h59 => ?_) (fun h59 => absurd (Int32.not_lt.mp hbig) h59))
          have h5 : 10000 ≤ j := by
            apply Nat.le_of_not_lt
            intro q
            exact hbig (by rw [hj]; exact nI_lt (b := 10000) q (by decide))
          have ej : M 104 (83 + 96 * t + k) - 10000 = nI (j - 10000) := by rw [hj, show (10000 : Int32) = nI 10000 from rfl, pk_sub h5]
          refine R.b bk_X8_worksOut_67 (And.intro (by first | rfl | assumption) (And.intro (by first | rfl | assumption) (And.intro (by exact vp_n ej (by show _ < 4; omega) (by decide)) ?_)))
          refine R.b bk_X8_worksOut_78 (And.intro (by first | rfl | assumption) (And.intro (by exact vp_in_nI (by show _ < 96; omega) (by decide)) ?_))
          refine R.j gt_X8_worksOut_82 ?_
          refine R.b bk_X8_worksOut_149 ?_
          refine R.j gt_X8_worksOut_152 ?_
          rw [nI_inc, nI_inc, nI_clamp (by omega), e117]
          have hx := ih2 (mx_wr M1 116 st.length (M 117 (M 104 (83 + 96 * t + k) - 10000).toNatClampNeg)) (some (.int (M 104 (83 + 96 * t + k)))) (fun q hq => by rw [mx_wr_ne hq]; exact hI1 q hq) (by
            rw [ev1_nm hneg hbig]
            exact stR_push hI2)
          rw [ev1_nm hneg hbig] at hx
          exact hx
    · obtain ⟨M1, c5⟩ := s
      obtain ⟨hI1, hI2⟩ := hI
      dsimp only at hI1 hI2 ⊢
      have hlen := evN_len (fc := M 117) hw n (Nat.le_refl n)
      refine R.b bk_X8_worksOut_21 ?_
      refine R.c br_X8_worksOut_24 (And.intro (fun h24 => ?_) (fun h24 => absurd (nI_le (Nat.le_refl n) (by have := hw.1; omega)) h24))
      refine R.b bk_X8_worksOut_155 (And.intro (by first | rfl | assumption) (And.intro (by first | rfl | assumption) (And.intro (by exact vp_lit rfl) ?_)))
      refine R.ri rt_X8_worksOut_161 rfl ⟨_, rfl, ?_⟩
      refine ⟨?_, hI1⟩
      rw [A_ev, hn, cN_nI (by have := hw.1; omega)]
      exact stR_last hI2 (by rw [hlen]; exact hw.2.1)
  refine R.b bk_X8_worksOut_0 (And.intro (by first | rfl | assumption) (And.intro (by first | rfl | assumption) (And.intro (by exact vp_n (e_55 t) (by show _ < 1427; omega) (by decide)) (And.intro (by decide) ?_))))
  rw [cl_n (e_55 t) (by omega)]
  have e1 : M 104 (55 + 2 * t) - M 104 (55 + 2 * t) / 1000 * 1000 = nI n := hn
  rw [e1]
  exact hA 0 (M, none) (Nat.zero_le n) ⟨fun q _ => rfl, fun j hj => absurd hj (Nat.not_lt_zero j)⟩
