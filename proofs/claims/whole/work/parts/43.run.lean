/-! a text read by the model -/
def nOp : List Int32 → Nat
  | [] => 0
  | x :: W => nOp W + (if x = -11 then 1 else 0)
theorem nOp_stl (lv : Int32) : ∀ W C, nOp (stl lv W C).1 = nOp W
  | [], C => rfl
  | x :: W, C => by
    unfold stl
    split
    · rfl
    · rename_i h
      rw [nOp_stl lv W (x :: C), nOp, if_neg (fun q => h (Or.inl q)), Nat.add_zero]
theorem f_rank_pos (s : Int32) : ¬ f_rank s < 0 := by
  unfold f_rank
  split
  · decide
  · split
    · decide
    · split
      · decide
      · split
        · decide
        · split <;> decide
theorem stl_open : ∀ W C, 0 < nOp W → ∃ V, (stl 0 W C).1 = -11 :: V ∧ nOp V + 1 = nOp W
  | [], C, h => absurd h (Nat.lt_irrefl 0)
  | x :: W, C, h => by
    by_cases hx : x = -11
    · subst hx
      refine ⟨W, ?_, ?_⟩
      · rw [stl, if_pos (Or.inl rfl)]
      · rw [nOp, if_pos rfl]
    · rw [nOp, if_neg hx, Nat.add_zero] at h ⊢
      rw [stl, if_neg (not_or.mpr ⟨hx, f_rank_pos x⟩)]
      exact stl_open W (x :: C) h
/-- a token's row -/
def TKV (n : Nat) (tk : Rw) (s q : Nat) : Prop := tk 10 = nI s ∧ tk 9 = nI q ∧ s ≤ q ∧ q ≤ n ∧ (s < n → s < q) ∧ (tk 11 = 0 ↔ s = n)
theorem whl_gt {c : Nat → Bool} {n s : Nat} (hs : s < n) (h : c s = true) : s < whl c (n - s) s := by
  rw [whl_succ hs h]
  have := whl_ge c (n - (s + 1)) (s + 1)
  omega
theorem t_q_ok (tp : Rw) {n s : Nat} (hs : s ≤ n) : s ≤ t_q tp n s ∧ t_q tp n s ≤ n ∧ (s < n → s < t_q tp n s) := by
  unfold t_q
  by_cases h1 : s = n
  · rw [if_pos h1]
    omega
  · rw [if_neg h1]
    by_cases h2 : isL tp n s = true
    · rw [if_pos h2]
      have := whl_ge (isL tp n) (n - s) s
      have := whl_gt (show s < n by omega) h2
      omega
    · rw [if_neg h2]
      by_cases h3 : isF tp n s = true
      · rw [if_pos h3]
        have := whl_ge (isF tp n) (n - s) s
        have := whl_gt (show s < n by omega) h3
        omega
      · rw [if_neg h3]
        omega
theorem t_t_0 (tp : Rw) {n s : Nat} (e : Int32) : t_t tp n s e = 0 ↔ s = n := by
  unfold t_t
  by_cases h1 : s = n
  · rw [if_pos h1]
    exact ⟨fun _ => h1, fun _ => rfl⟩
  · rw [if_neg h1]
    refine ⟨fun h => ?_, fun h => absurd h h1⟩
    exfalso
    split at h
    · split at h <;> exact absurd h (by decide)
    · split at h
      · split at h <;> exact absurd h (by decide)
      · exact absurd h (by decide)
theorem TKV_nxt {tp : Rw} {n : Nat} {tk : Rw} {s q : Nat} (hn : n ≤ 96) (h : TKV n tk s q) : ∃ s' q', q ≤ s' ∧ s' ≤ n ∧ TKV n (nxt tp n tk) s' q' := by
  obtain ⟨h1, h2, h3, h4, h5, h6⟩ := h
  have hw := whl_ge (isB tp n) (n - q) q
  have hs : q ≤ t_s tp n q ∧ t_s tp n q ≤ n := by
    unfold t_s
    omega
  obtain ⟨g1, g2, g3⟩ := t_q_ok tp hs.2
  unfold nxt
  rw [h2, cN_nI (by omega)]
  exact ⟨t_s tp n q, t_q tp n (t_s tp n q), hs.1, hs.2, rfl, rfl, g1, g2, g3, t_t_0 tp (tk 13)⟩
def E_sg (tk : Rw) : Int32 := if tk 11 = 3 then f_sign (tk 12) else 0
def E_tf (s : Int32) (b : Bool) : Bool := decide (f_rank s = 3) || (decide (3 < f_rank s) && b)
/-- the reading of an E, token by token: where it ends, and what it gives -/
def E_run (tp : Rw) (n : Nat) (key : Int32) : Nat → Bool → Rw → List Int32 → List Int32 → Nat → List Bool → Nat → Int32 × Option (List Int32 × Nat)
  | 0, _, tk, _, _, _, _, _ => (tk 10, none)
  | f + 1, true, tk, W, C, at_, T, k =>
    if tk 11 = 3 ∧ tk 12 = 33 ∧ k < 8 then E_run tp n key f true (nxt tp n tk) (-10 :: W) C at_ T (nts (-10 :: W))
    else if tk 11 = 3 ∧ tk 12 = 40 ∧ T.length < 9 then E_run tp n key f true (nxt tp n tk) (-11 :: W) C at_ (false :: T) (nts (-11 :: W))
    else if tk 11 = 2 ∨ isNm key tk then E_run tp n key f false (nxt tp n tk) (stl 6 W (f_part key tk :: C)).1 (stl 6 W (f_part key tk :: C)).2 (at_ + 1) T (nts (stl 6 W (f_part key tk :: C)).1)
    else (tk 10, none)
  | f + 1, false, tk, W, C, at_, T, k =>
    if tk 11 = 0 then (tk 10, if T.length = 1 then some ((stl 0 W C).2, at_) else none)
    else if tk 11 = 3 ∧ tk 12 = 41 ∧ 1 < T.length then E_run tp n key f false (nxt tp n tk) (stl 6 (stl 0 W C).1.tail (stl 0 W C).2).1 (stl 6 (stl 0 W C).1.tail (stl 0 W C).2).2 at_ T.tail (nts (stl 6 (stl 0 W C).1.tail (stl 0 W C).2).1)
    else if E_sg tk = 0 ∨ (f_rank (E_sg tk) = 3 ∧ T.headD false = true) then (tk 10, none)
    else E_run tp n key f true (nxt tp n tk) (E_sg tk :: (stl (f_rank (E_sg tk)) W C).1) (stl (f_rank (E_sg tk)) W C).2 at_ (E_tf (E_sg tk) (T.headD false) :: T.tail) k
/-- what takesE leaves -/
def E_post (M : Mm) (a0 : Rw) (res : Int32 × Option (List Int32 × Nat)) (x : Int32) (M1 : Mm) : Prop := ∃ tk wl cl at_ c w t, M1 = S4 M (rowP a0 tk wl cl at_) c w t ∧ tk 10 = res.1 ∧ x = bI res.2.isSome ∧ ∀ C' n', res.2 = some (C', n') → cl = C'.length ∧ at_ = n' ∧ stR c C'
