/-! tokens -/
/-- how far a run goes -/
def whl (c : Nat → Bool) : Nat → Nat → Nat
  | 0, p => p
  | f + 1, p => if c p = true then whl c f (p + 1) else p
def isB (tp : Rw) (n k : Nat) : Bool := decide (k < n ∧ tp k = 32)
def isL (tp : Rw) (n k : Nat) : Bool := decide (k < n ∧ 97 ≤ tp k ∧ tp k ≤ 122)
def isF (tp : Rw) (n k : Nat) : Bool := decide (k < n ∧ 48 ≤ tp k ∧ tp k ≤ 57)
theorem whl_ge (c : Nat → Bool) : ∀ f p, p ≤ whl c f p ∧ whl c f p ≤ p + f
  | 0, p => ⟨Nat.le_refl p, Nat.le_refl p⟩
  | f + 1, p => by
    have h := whl_ge c f (p + 1)
    unfold whl
    split <;> omega
theorem whl_at (c : Nat → Bool) (n : Nat) (hc : ∀ k, n ≤ k → c k = false) : ∀ f p, n - p = f → c (whl c f p) = false
  | 0, p, h => hc p (by omega)
  | f + 1, p, h => by
    unfold whl
    split
    · exact whl_at c n hc f (p + 1) (by omega)
    · rename_i h1
      simpa using h1
def bI (b : Bool) : Int32 := if b = true then 1 else 0
theorem bI_nar (b : Bool) : narrow .boolean (.int (bI b)) = .int (bI b) := by cases b <;> rfl
theorem c_X8_isLetter {l : Launch} {G : Gt} {M : Mm} {n k : Nat} (hn : n ≤ 96) (hk : k ≤ 96) (h8 : M 103 8 = nI n) : Runs l G true dm_X8_isLetter 0 127 [.ref 103, .int (nI k)] M 127 (Pi (fun x M1 => x = bI (isL (M 110) n k) ∧ M1 = M)) := by
  refine mx_run ow_X8_isLetter rfl rfl (fun dp X hdp R => ?_)
  refine R.b bk_X8_isLetter_0 (And.intro (by first | rfl | assumption) ?_)
  refine R.c br_X8_isLetter_5 (And.intro (fun h5 => ?_) (fun h5 => ?_))
  · refine R.b bk_X8_isLetter_34 ?_
    refine R.ri rt_X8_isLetter_35 rfl ⟨_, rfl, ?_⟩
    refine ⟨?_, rfl⟩
    have hcl : (nI k).toNatClampNeg = k := nI_clamp (by omega)
    unfold bI isL
    first
    | (rw [if_neg]; intro q; have q2 := of_decide_eq_true q; exact absurd h5 (by rw [show M 103 (520 % 64) = nI n from h8]; exact nI_ge q2.1 (by omega)))
    | (have q1 := h27; rw [hcl] at h16 q1; rw [if_neg]; intro q; have q2 := of_decide_eq_true q; exact absurd q1 (Int32.not_lt.mpr q2.2.2))
    | (rw [hcl] at h16; rw [if_neg]; intro q; have q2 := of_decide_eq_true q; exact absurd h16 (Int32.not_lt.mpr q2.2.1))
    | (have q1 := h27; rw [hcl] at h16 q1; rw [if_pos (decide_eq_true ⟨nI_lt8 (by omega) (by omega) (show ¬ nI n ≤ nI k by rw [← h8]; exact h5), Int32.not_lt.mp h16, Int32.not_lt.mp q1⟩)])
  · refine R.b bk_X8_isLetter_8 (And.intro (by first | rfl | assumption) (And.intro (by first | rfl | assumption) (And.intro (by exact vp_in_nI (show k < 96 by have := nI_lt8 (by omega) (by omega) (show ¬ nI n ≤ nI k by rw [← h8]; exact h5); omega) (by decide)) ?_)))
    refine R.c br_X8_isLetter_16 (And.intro (fun h16 => ?_) (fun h16 => ?_))
    · refine R.b bk_X8_isLetter_34 ?_
      refine R.ri rt_X8_isLetter_35 rfl ⟨_, rfl, ?_⟩
      refine ⟨?_, rfl⟩
      have hcl : (nI k).toNatClampNeg = k := nI_clamp (by omega)
      unfold bI isL
      first
      | (rw [if_neg]; intro q; have q2 := of_decide_eq_true q; exact absurd h5 (by rw [show M 103 (520 % 64) = nI n from h8]; exact nI_ge q2.1 (by omega)))
      | (have q1 := h27; rw [hcl] at h16 q1; rw [if_neg]; intro q; have q2 := of_decide_eq_true q; exact absurd q1 (Int32.not_lt.mpr q2.2.2))
      | (rw [hcl] at h16; rw [if_neg]; intro q; have q2 := of_decide_eq_true q; exact absurd h16 (Int32.not_lt.mpr q2.2.1))
      | (have q1 := h27; rw [hcl] at h16 q1; rw [if_pos (decide_eq_true ⟨nI_lt8 (by omega) (by omega) (show ¬ nI n ≤ nI k by rw [← h8]; exact h5), Int32.not_lt.mp h16, Int32.not_lt.mp q1⟩)])
    · refine R.b bk_X8_isLetter_19 (And.intro (by first | rfl | assumption) (And.intro (by first | rfl | assumption) (And.intro (by exact vp_in_nI (show k < 96 by have := nI_lt8 (by omega) (by omega) (show ¬ nI n ≤ nI k by rw [← h8]; exact h5); omega) (by decide)) ?_)))
      refine R.c br_X8_isLetter_27 (And.intro (fun h27 => ?_) (fun h27 => ?_))
      · refine R.b bk_X8_isLetter_34 ?_
        refine R.ri rt_X8_isLetter_35 rfl ⟨_, rfl, ?_⟩
        refine ⟨?_, rfl⟩
        have hcl : (nI k).toNatClampNeg = k := nI_clamp (by omega)
        unfold bI isL
        first
        | (rw [if_neg]; intro q; have q2 := of_decide_eq_true q; exact absurd h5 (by rw [show M 103 (520 % 64) = nI n from h8]; exact nI_ge q2.1 (by omega)))
        | (have q1 := h27; rw [hcl] at h16 q1; rw [if_neg]; intro q; have q2 := of_decide_eq_true q; exact absurd q1 (Int32.not_lt.mpr q2.2.2))
        | (rw [hcl] at h16; rw [if_neg]; intro q; have q2 := of_decide_eq_true q; exact absurd h16 (Int32.not_lt.mpr q2.2.1))
        | (have q1 := h27; rw [hcl] at h16 q1; rw [if_pos (decide_eq_true ⟨nI_lt8 (by omega) (by omega) (show ¬ nI n ≤ nI k by rw [← h8]; exact h5), Int32.not_lt.mp h16, Int32.not_lt.mp q1⟩)])
      · refine R.b bk_X8_isLetter_30 ?_
        refine R.j gt_X8_isLetter_31 ?_
        refine R.ri rt_X8_isLetter_35 rfl ⟨_, rfl, ?_⟩
        refine ⟨?_, rfl⟩
        have hcl : (nI k).toNatClampNeg = k := nI_clamp (by omega)
        unfold bI isL
        first
        | (rw [if_neg]; intro q; have q2 := of_decide_eq_true q; exact absurd h5 (by rw [show M 103 (520 % 64) = nI n from h8]; exact nI_ge q2.1 (by omega)))
        | (have q1 := h27; rw [hcl] at h16 q1; rw [if_neg]; intro q; have q2 := of_decide_eq_true q; exact absurd q1 (Int32.not_lt.mpr q2.2.2))
        | (rw [hcl] at h16; rw [if_neg]; intro q; have q2 := of_decide_eq_true q; exact absurd h16 (Int32.not_lt.mpr q2.2.1))
        | (have q1 := h27; rw [hcl] at h16 q1; rw [if_pos (decide_eq_true ⟨nI_lt8 (by omega) (by omega) (show ¬ nI n ≤ nI k by rw [← h8]; exact h5), Int32.not_lt.mp h16, Int32.not_lt.mp q1⟩)])
theorem c_X8_isFigure {l : Launch} {G : Gt} {M : Mm} {n k : Nat} (hn : n ≤ 96) (hk : k ≤ 96) (h8 : M 103 8 = nI n) : Runs l G true dm_X8_isFigure 0 127 [.ref 103, .int (nI k)] M 127 (Pi (fun x M1 => x = bI (isF (M 110) n k) ∧ M1 = M)) := by
  refine mx_run ow_X8_isFigure rfl rfl (fun dp X hdp R => ?_)
  refine R.b bk_X8_isFigure_0 (And.intro (by first | rfl | assumption) ?_)
  refine R.c br_X8_isFigure_5 (And.intro (fun h5 => ?_) (fun h5 => ?_))
  · refine R.b bk_X8_isFigure_34 ?_
    refine R.ri rt_X8_isFigure_35 rfl ⟨_, rfl, ?_⟩
    refine ⟨?_, rfl⟩
    have hcl : (nI k).toNatClampNeg = k := nI_clamp (by omega)
    unfold bI isF
    first
    | (rw [if_neg]; intro q; have q2 := of_decide_eq_true q; exact absurd h5 (by rw [show M 103 (520 % 64) = nI n from h8]; exact nI_ge q2.1 (by omega)))
    | (have q1 := h27; rw [hcl] at h16 q1; rw [if_neg]; intro q; have q2 := of_decide_eq_true q; exact absurd q1 (Int32.not_lt.mpr q2.2.2))
    | (rw [hcl] at h16; rw [if_neg]; intro q; have q2 := of_decide_eq_true q; exact absurd h16 (Int32.not_lt.mpr q2.2.1))
    | (have q1 := h27; rw [hcl] at h16 q1; rw [if_pos (decide_eq_true ⟨nI_lt8 (by omega) (by omega) (show ¬ nI n ≤ nI k by rw [← h8]; exact h5), Int32.not_lt.mp h16, Int32.not_lt.mp q1⟩)])
  · refine R.b bk_X8_isFigure_8 (And.intro (by first | rfl | assumption) (And.intro (by first | rfl | assumption) (And.intro (by exact vp_in_nI (show k < 96 by have := nI_lt8 (by omega) (by omega) (show ¬ nI n ≤ nI k by rw [← h8]; exact h5); omega) (by decide)) ?_)))
    refine R.c br_X8_isFigure_16 (And.intro (fun h16 => ?_) (fun h16 => ?_))
    · refine R.b bk_X8_isFigure_34 ?_
      refine R.ri rt_X8_isFigure_35 rfl ⟨_, rfl, ?_⟩
      refine ⟨?_, rfl⟩
      have hcl : (nI k).toNatClampNeg = k := nI_clamp (by omega)
      unfold bI isF
      first
      | (rw [if_neg]; intro q; have q2 := of_decide_eq_true q; exact absurd h5 (by rw [show M 103 (520 % 64) = nI n from h8]; exact nI_ge q2.1 (by omega)))
      | (have q1 := h27; rw [hcl] at h16 q1; rw [if_neg]; intro q; have q2 := of_decide_eq_true q; exact absurd q1 (Int32.not_lt.mpr q2.2.2))
      | (rw [hcl] at h16; rw [if_neg]; intro q; have q2 := of_decide_eq_true q; exact absurd h16 (Int32.not_lt.mpr q2.2.1))
      | (have q1 := h27; rw [hcl] at h16 q1; rw [if_pos (decide_eq_true ⟨nI_lt8 (by omega) (by omega) (show ¬ nI n ≤ nI k by rw [← h8]; exact h5), Int32.not_lt.mp h16, Int32.not_lt.mp q1⟩)])
    · refine R.b bk_X8_isFigure_19 (And.intro (by first | rfl | assumption) (And.intro (by first | rfl | assumption) (And.intro (by exact vp_in_nI (show k < 96 by have := nI_lt8 (by omega) (by omega) (show ¬ nI n ≤ nI k by rw [← h8]; exact h5); omega) (by decide)) ?_)))
      refine R.c br_X8_isFigure_27 (And.intro (fun h27 => ?_) (fun h27 => ?_))
      · refine R.b bk_X8_isFigure_34 ?_
        refine R.ri rt_X8_isFigure_35 rfl ⟨_, rfl, ?_⟩
        refine ⟨?_, rfl⟩
        have hcl : (nI k).toNatClampNeg = k := nI_clamp (by omega)
        unfold bI isF
        first
        | (rw [if_neg]; intro q; have q2 := of_decide_eq_true q; exact absurd h5 (by rw [show M 103 (520 % 64) = nI n from h8]; exact nI_ge q2.1 (by omega)))
        | (have q1 := h27; rw [hcl] at h16 q1; rw [if_neg]; intro q; have q2 := of_decide_eq_true q; exact absurd q1 (Int32.not_lt.mpr q2.2.2))
        | (rw [hcl] at h16; rw [if_neg]; intro q; have q2 := of_decide_eq_true q; exact absurd h16 (Int32.not_lt.mpr q2.2.1))
        | (have q1 := h27; rw [hcl] at h16 q1; rw [if_pos (decide_eq_true ⟨nI_lt8 (by omega) (by omega) (show ¬ nI n ≤ nI k by rw [← h8]; exact h5), Int32.not_lt.mp h16, Int32.not_lt.mp q1⟩)])
      · refine R.b bk_X8_isFigure_30 ?_
        refine R.j gt_X8_isFigure_31 ?_
        refine R.ri rt_X8_isFigure_35 rfl ⟨_, rfl, ?_⟩
        refine ⟨?_, rfl⟩
        have hcl : (nI k).toNatClampNeg = k := nI_clamp (by omega)
        unfold bI isF
        first
        | (rw [if_neg]; intro q; have q2 := of_decide_eq_true q; exact absurd h5 (by rw [show M 103 (520 % 64) = nI n from h8]; exact nI_ge q2.1 (by omega)))
        | (have q1 := h27; rw [hcl] at h16 q1; rw [if_neg]; intro q; have q2 := of_decide_eq_true q; exact absurd q1 (Int32.not_lt.mpr q2.2.2))
        | (rw [hcl] at h16; rw [if_neg]; intro q; have q2 := of_decide_eq_true q; exact absurd h16 (Int32.not_lt.mpr q2.2.1))
        | (have q1 := h27; rw [hcl] at h16 q1; rw [if_pos (decide_eq_true ⟨nI_lt8 (by omega) (by omega) (show ¬ nI n ≤ nI k by rw [← h8]; exact h5), Int32.not_lt.mp h16, Int32.not_lt.mp q1⟩)])
/-- a number's value, so far -/
def vN (tp : Rw) (s : Nat) : Nat → Int32
  | 0 => 0
  | k + 1 => if k < 4 then 10 * vN tp s k + tp (s + k) - 48 else vN tp s k
/-- where the next token begins; where it ends; its sort; its value -/
def t_s (tp : Rw) (n p : Nat) : Nat := whl (isB tp n) (n - p) p
def t_q (tp : Rw) (n s : Nat) : Nat := if s = n then s else if isL tp n s = true then whl (isL tp n) (n - s) s else if isF tp n s = true then whl (isF tp n) (n - s) s else s + 1
def t_t (tp : Rw) (n s : Nat) (e : Int32) : Int32 := if s = n then 0 else if isL tp n s = true then (if nI s = e then 4 else 1) else if isF tp n s = true then (if nI s = e ∨ 4 < t_q tp n s - s then 4 else 2) else 3
def t_v (tp : Rw) (n s : Nat) (v : Int32) : Int32 := if s = n then v else if isL tp n s = true then tp s else if isF tp n s = true then vN tp s (t_q tp n s - s) else tp s
def t_e (tp : Rw) (n s : Nat) (e : Int32) : Int32 := if s = n then e else if isL tp n s = true ∨ isF tp n s = true then nI (t_q tp n s) else e
def G_go (tp : Rw) (n : Nat) (r : Rw) (s : Nat) : Rw := fun j => if j = 9 then nI (t_q tp n s) else if j = 10 then nI s else if j = 11 then t_t tp n s (r 13) else if j = 12 then t_v tp n s (r 12) else if j = 13 then t_e tp n s (r 13) else r j
theorem whl_zero {c : Nat → Bool} {f p : Nat} (h : c p = false) : whl c f p = p := by
  cases f with
  | zero => rfl
  | succ f => rw [whl, if_neg (by rw [h]; decide)]
theorem whl_succ {c : Nat → Bool} {n p : Nat} (hp : p < n) (h : c p = true) : whl c (n - p) p = whl c (n - (p + 1)) (p + 1) := by
  rw [show n - p = (n - (p + 1)) + 1 by omega, whl, if_pos h]
theorem isB_end {tp : Rw} {n k : Nat} (h : n ≤ k) : isB tp n k = false := decide_eq_false (fun q => absurd q.1 (by omega))
theorem isL_end {tp : Rw} {n k : Nat} (h : n ≤ k) : isL tp n k = false := decide_eq_false (fun q => absurd q.1 (by omega))
theorem isF_end {tp : Rw} {n k : Nat} (h : n ≤ k) : isF tp n k = false := decide_eq_false (fun q => absurd q.1 (by omega))
theorem bI_0 {b : Bool} (h : bI b = 0) : b = false := by
  cases b
  · rfl
  · exact absurd h (by decide)
theorem bI_1 {b : Bool} (h : ¬ bI b = 0) : b = true := by
  cases b
  · exact absurd rfl h
  · rfl
