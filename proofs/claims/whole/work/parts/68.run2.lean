/-! the reading of a text, on both sides -/
def RdS (tp : Rw) (n ky : Nat) (r d st tk : Rw) (s q : Nat) (C : List Int32) (at_ : Nat) : Prop := r 0 = nI 1 ∧ r 1 = nI n ∧ r 2 = nI 6 ∧ TCur tp n r tk s q ∧ d 0 = nI ky ∧ d 1 = nI at_ ∧ d 2 = nI C.length ∧ stR st (C.map f_st)
theorem RdS_go {tp : Rw} {n ky : Nat} {r d st tk : Rw} {s q : Nat} {C : List Int32} {at_ : Nat} (hn : n ≤ 96) (h8 : ∀ k, k < 96 → ∃ b, b < 256 ∧ tp k = nI b) (h : RdS tp n ky r d st tk s q C at_) (hs : s < n) : s < q ∧ q ≤ n ∧ ∃ s1 q1, s < s1 ∧ s1 ≤ n ∧ RdS tp n ky (rgo tp n r q) d st (nxt tp n tk) s1 q1 C at_ := by
  obtain ⟨h0, h1, h2, hT, hd0, hd1, hd2, hst⟩ := h
  obtain ⟨h4, h10, hsn, hq, h9, h5, h3, h6, h11, h12, hpre⟩ := hT
  have hq' := t_q_ok tp hsn
  rw [← hq] at hq'
  obtain ⟨g1, g2⟩ := T_go (q := q) hn hq'.2.1 h8 (hpre hs)
  have := hq'.2.2 hs
  exact ⟨this, hq'.2.1, _, _, by omega, g1.2.2.1, h0, h1, h2, g1, hd0, hd1, hd2, hst⟩
theorem RdS_atom {tp : Rw} {n ky : Nat} {r d st tk : Rw} {s q : Nat} {C : List Int32} {at_ : Nat} {v : Int32} (h : RdS tp n ky r d st tk s q C at_) : RdS tp n ky r (dA d C.length at_) (up st C.length (f_st v)) tk s q (v :: C) (at_ + 1) := by
  obtain ⟨h0, h1, h2, hT, hd0, hd1, hd2, hst⟩ := h
  refine ⟨h0, h1, h2, hT, hd0, rfl, rfl, ?_⟩
  have := stR_push (v := f_st v) hst
  rw [List.length_map] at this
  exact this
theorem RdS_sign {tp : Rw} {n ky : Nat} {r d st tk : Rw} {s q : Nat} {C : List Int32} {at_ : Nat} {v : Int32} (h : RdS tp n ky r d st tk s q C at_) : RdS tp n ky r (dS d C.length) (up st C.length (f_st v)) tk s q (v :: C) at_ := by
  obtain ⟨h0, h1, h2, hT, hd0, hd1, hd2, hst⟩ := h
  refine ⟨h0, h1, h2, hT, hd0, hd1, rfl, ?_⟩
  have := stR_push (v := f_st v) hst
  rw [List.length_map] at this
  exact this
abbrev Rn_ : Type := Int32 × Option (List Int32 × Nat)
/-- it fails: the place is the class's start -/
def PFl (M : Mm) (run : Rn_) (M1 : Mm) : Prop := ∃ r1 d1 st1, M1 = S3 M r1 d1 st1 ∧ run = (r1 4, none)
/-- a piece is read -/
def PPt (tp : Rw) (n ky : Nat) (M : Mm) (run : Rn_) (W : List Int32) (T : List Bool) (s0 : Nat) (M1 : Mm) : Prop := ∃ r1 d1 st1 tk1 s1 q1 C1 at1 f1, M1 = S3 M r1 d1 st1 ∧ RdS tp n ky r1 d1 st1 tk1 s1 q1 C1 at1 ∧ s0 < s1 ∧ n < f1 + s1 ∧ W.length + C1.length + 1 ≤ s1 ∧ run = E_run tp n (nI ky) f1 false tk1 (stl 6 W C1).1 (stl 6 W C1).2 at1 T (nts (stl 6 W C1).1)
/-- a level is read -/
def PLt (tp : Rw) (n ky : Nat) (M : Mm) (run : Rn_) (W : List Int32) (T : List Bool) (L s0 : Nat) (M1 : Mm) : Prop := ∃ r1 d1 st1 tk1 s1 q1 C1 at1 f1 W' C' b', M1 = S3 M r1 d1 st1 ∧ RdS tp n ky r1 d1 st1 tk1 s1 q1 C1 at1 ∧ s0 < s1 ∧ n < f1 + s1 ∧ W.length + C1.length + 1 ≤ s1 ∧ run = E_run tp n (nI ky) f1 false tk1 W' C' at1 (b' :: T.tail) (nts W) ∧ (∀ lv : Int32, lv ≤ nI (L + 1) → stl lv W' C' = stl lv W C1) ∧ (3 ≤ L → b' = T.headD false) ∧ (E_sg tk1 = 0 ∨ f_rank (E_sg tk1) ≤ nI L ∨ (f_rank (E_sg tk1) = 3 ∧ b' = true ∧ L ≤ 2))
def PIn (tp : Rw) (n ky p b : Nat) (r d st tk : Rw) (s q : Nat) (W C : List Int32) (at_ : Nat) (T : List Bool) (f : Nat) : Prop := RdS tp n ky r d st tk s q C at_ ∧ n < f + s ∧ W.length + C.length + 1 ≤ s ∧ b = nts W ∧ T.length = p + 1 ∧ p ≤ 8 ∧ b ≤ 8
def topOK (W : List Int32) (L : Nat) : Prop := ∀ w V, W = w :: V → w = -11 ∨ f_rank w < nI (L + 1)
theorem stl_topOK {W C : List Int32} {L : Nat} {lv : Int32} (h : topOK W L) (hl : nI (L + 1) ≤ lv) : stl lv W C = (W, C) := by
  cases W with
  | nil => rfl
  | cons w V =>
    unfold stl
    rw [if_pos]
    rcases h w V rfl with h | h
    · exact Or.inl h
    · exact Or.inr (Int32.lt_of_lt_of_le h hl)
/-! the model's run, a step -/
section RUN
variable {tp : Rw} {n : Nat} {key : Int32} {f : Nat} {tk : Rw} {W C : List Int32} {at_ : Nat} {T : List Bool} {k : Nat}
theorem run_not (h1 : tk 11 = 3) (h2 : tk 12 = 33) (h3 : k < 8) : E_run tp n key (f + 1) true tk W C at_ T k = E_run tp n key f true (nxt tp n tk) (-10 :: W) C at_ T (nts (-10 :: W)) := by
  rw [E_run, if_pos ⟨h1, h2, h3⟩]
theorem run_open (h1 : tk 11 = 3) (h2 : tk 12 = 40) (h3 : T.length < 9) : E_run tp n key (f + 1) true tk W C at_ T k = E_run tp n key f true (nxt tp n tk) (-11 :: W) C at_ (false :: T) (nts (-11 :: W)) := by
  rw [E_run, if_neg (fun q => absurd (h2.symm.trans q.2.1) (by decide)), if_pos ⟨h1, h2, h3⟩]
theorem run_part (h1 : ¬ tk 11 = 3) (h2 : tk 11 = 2 ∨ isNm key tk) : E_run tp n key (f + 1) true tk W C at_ T k = E_run tp n key f false (nxt tp n tk) (stl 6 W (f_part key tk :: C)).1 (stl 6 W (f_part key tk :: C)).2 (at_ + 1) T (nts (stl 6 W (f_part key tk :: C)).1) := by
  rw [E_run, if_neg (fun q => h1 q.1), if_neg (fun q => h1 q.1), if_pos h2]
theorem run_fail (h1 : ¬ (tk 11 = 3 ∧ tk 12 = 33 ∧ k < 8)) (h2 : ¬ (tk 11 = 3 ∧ tk 12 = 40 ∧ T.length < 9)) (h3 : ¬ (tk 11 = 2 ∨ isNm key tk)) : E_run tp n key (f + 1) true tk W C at_ T k = (tk 10, none) := by
  rw [E_run, if_neg h1, if_neg h2, if_neg h3]
theorem run_end (h1 : tk 11 = 0) : E_run tp n key (f + 1) false tk W C at_ T k = (tk 10, if T.length = 1 then some ((stl 0 W C).2, at_) else none) := by
  rw [E_run, if_pos h1]
theorem run_close (h1 : tk 11 = 3) (h2 : tk 12 = 41) (h3 : 1 < T.length) : E_run tp n key (f + 1) false tk W C at_ T k = E_run tp n key f false (nxt tp n tk) (stl 6 (stl 0 W C).1.tail (stl 0 W C).2).1 (stl 6 (stl 0 W C).1.tail (stl 0 W C).2).2 at_ T.tail (nts (stl 6 (stl 0 W C).1.tail (stl 0 W C).2).1) := by
  rw [E_run, if_neg (fun q => absurd (h1.symm.trans q) (by decide)), if_pos ⟨h1, h2, h3⟩]
theorem run_stop (h1 : ¬ tk 11 = 0) (h2 : ¬ (tk 11 = 3 ∧ tk 12 = 41 ∧ 1 < T.length)) (h3 : E_sg tk = 0 ∨ (f_rank (E_sg tk) = 3 ∧ T.headD false = true)) : E_run tp n key (f + 1) false tk W C at_ T k = (tk 10, none) := by
  rw [E_run, if_neg h1, if_neg h2, if_pos h3]
theorem run_op (h1 : tk 11 = 3) (h2 : ¬ tk 12 = 41) (h3 : ¬ E_sg tk = 0) (h4 : ¬ (f_rank (E_sg tk) = 3 ∧ T.headD false = true)) : E_run tp n key (f + 1) false tk W C at_ T k = E_run tp n key f true (nxt tp n tk) (E_sg tk :: (stl (f_rank (E_sg tk)) W C).1) (stl (f_rank (E_sg tk)) W C).2 at_ (E_tf (E_sg tk) (T.headD false) :: T.tail) k := by
  rw [E_run, if_neg (fun q => absurd (h1.symm.trans q) (by decide)), if_neg (fun q => h2 q.2.1), if_neg (fun q => q.elim h3 h4)]
end RUN
/-! numbers and names -/
theorem whl_all {c : Nat → Bool} : ∀ (f p i : Nat), p ≤ i → i < whl c f p → c i = true
  | 0, p, i, h1, h2 => by
    rw [whl] at h2
    omega
  | f + 1, p, i, h1, h2 => by
    rw [whl] at h2
    by_cases hc : c p = true
    · rw [if_pos hc] at h2
      by_cases hi : i = p
      · rw [hi]; exact hc
      · exact whl_all f (p + 1) i (by omega) h2
    · rw [if_neg hc] at h2
      omega
theorem vN_lt {tp : Rw} {n s : Nat} : ∀ k, k ≤ 4 → (∀ i, s ≤ i → i < s + k → isF tp n i = true) → ∃ v, v < 10 ^ k ∧ vN tp s k = nI v
  | 0, _, _ => ⟨0, by decide, rfl⟩
  | k + 1, hk, h => by
    obtain ⟨v, hv, e⟩ := vN_lt k (by omega) (fun i h1 h2 => h i h1 (by omega))
    have hf := h (s + k) (by omega) (by omega)
    unfold isF at hf
    rw [decide_eq_true_eq] at hf
    obtain ⟨j, hj, ej⟩ := nI_of2 (x := tp (s + k)) (M := 57) (n := 57) (by decide) (Int32.not_lt.mpr (Int32.le_trans (by decide) hf.2.1)) hf.2.2
    have hj48 : 48 ≤ j := (nI_leI (a := 48) (by decide) (by omega)).mp (by rw [← ej]; exact hf.2.1)
    have h10 : 10 ^ k ≤ 10000 := Nat.le_trans (Nat.pow_le_pow_right (n := 10) (by decide) (show k ≤ 4 by omega)) (by decide)
    refine ⟨10 * v + (j - 48), by rw [Nat.pow_succ]; omega, ?_⟩
    unfold vN
    rw [if_pos (by omega), e, ej, show (10 : Int32) = nI 10 from rfl, pk_mul, nI_add, show (48 : Int32) = nI 48 from rfl, pk_sub (by omega)]
    congr 1
    omega
theorem f_name_val {ky : Nat} (hky : ky ≤ 2) (c : Int32) : f_name (nI ky) c = -1 ∨ ∃ i, i < nnK ky ∧ f_name (nI ky) c = nI i := by
  rcases (show ky = 0 ∨ ky = 1 ∨ ky = 2 by omega) with rfl | rfl | rfl
  · unfold f_name
    rw [if_pos (by decide)]
    split
    · exact Or.inr ⟨0, by decide, rfl⟩
    · split
      · exact Or.inr ⟨1, by decide, rfl⟩
      · split
        · exact Or.inr ⟨2, by decide, rfl⟩
        · exact Or.inl rfl
  · unfold f_name
    rw [if_neg (by decide), if_pos (by decide)]
    split
    · exact Or.inr ⟨0, by decide, rfl⟩
    · split
      · exact Or.inr ⟨1, by decide, rfl⟩
      · exact Or.inl rfl
  · unfold f_name
    rw [if_neg (by decide), if_neg (by decide)]
    split
    · exact Or.inr ⟨0, by decide, rfl⟩
    · split
      · exact Or.inr ⟨1, by decide, rfl⟩
      · exact Or.inl rfl
theorem st_nm {i : Nat} (h : i < 3) : f_st (10000 + nI i) = -1 - nI i := by
  rcases (show i = 0 ∨ i = 1 ∨ i = 2 by omega) with rfl | rfl | rfl <;> decide
/-- a number's token -/
theorem tk_num {tp r tk : Rw} {n s q : Nat} (hn : n ≤ 96) (h8 : ∀ k, k < 96 → ∃ b, b < 256 ∧ tp k = nI b) (h : TCur tp n r tk s q) (h3 : r 3 = -3) : s < n ∧ ¬ tk 11 = 3 ∧ ((¬ r 6 = 0 ∨ 4 < q - s) → ¬ tk 11 = 2 ∧ ∀ key, ¬ isNm key tk) ∧ (¬ (¬ r 6 = 0 ∨ 4 < q - s) → tk 11 = 2 ∧ tk 12 = vN tp s (q - s) ∧ ∃ v, v < 10000 ∧ vN tp s (q - s) = nI v) := by
  obtain ⟨h4, h10, hsn, hq, h9, h5, e3, h6, h11, h12, hpre⟩ := h
  have c1 : ¬ s = n := fun e => by
    rw [e3, c_tok, if_pos e] at h3
    exact absurd h3 (by decide)
  have hlt : s < n := by omega
  have h8s := h8 s (by omega)
  rw [e3, c_tok, if_neg c1, sort_F hlt h8s] at h3
  have hL : ¬ isL tp n s = true := fun e => by
    rw [L_F e] at h3
    exact absurd h3 (by decide)
  rw [k_t, if_neg c1, if_neg hL, if_pos h3, ← hq] at h11
  refine ⟨hlt, ?_, ?_, ?_⟩
  · rw [h11]
    split <;> decide
  · intro hc
    rw [if_pos hc] at h11
    refine ⟨by rw [h11]; decide, fun key e => ?_⟩
    rw [isNm, h11] at e
    exact absurd e.1 (by decide)
  · intro hc
    rw [if_neg hc] at h11
    have hq4 : q - s ≤ 4 := by
      apply Nat.le_of_not_lt
      exact fun e => hc (Or.inr e)
    have hqw : q = whl (isF tp n) (n - s) s := by rw [hq, t_q, if_neg c1, if_neg hL, if_pos h3]
    have hge := (whl_ge (isF tp n) (n - s) s).1
    obtain ⟨v, hv, e⟩ := vN_lt (tp := tp) (n := n) (s := s) (q - s) hq4 (fun i h1 h2 => whl_all (n - s) s i h1 (by rw [← hqw]; omega))
    have h10 : 10 ^ (q - s) ≤ 10000 := Nat.le_trans (Nat.pow_le_pow_right (n := 10) (by decide) hq4) (by decide)
    refine ⟨h11, ?_, v, by omega, e⟩
    rw [h12 hlt, t_v, if_neg c1, if_neg hL, if_pos h3, ← hq]
/-- a name's token -/
theorem tk_nam {tp r tk : Rw} {n s q : Nat} (hn : n ≤ 96) (h8 : ∀ k, k < 96 → ∃ b, b < 256 ∧ tp k = nI b) (h : TCur tp n r tk s q) (h3 : r 3 = -2) (key : Int32) : s < n ∧ ¬ tk 11 = 3 ∧ ¬ tk 11 = 2 ∧ ((¬ r 6 = 0 ∨ ¬ q - s = 1 ∨ f_name key (tp s) < 0) ↔ ¬ isNm key tk) ∧ tk 12 = tp s := by
  obtain ⟨h4, h10, hsn, hq, h9, h5, e3, h6, h11, h12, hpre⟩ := h
  have c1 : ¬ s = n := fun e => by
    rw [e3, c_tok, if_pos e] at h3
    exact absurd h3 (by decide)
  have hlt : s < n := by omega
  have h8s := h8 s (by omega)
  rw [e3, c_tok, if_neg c1, sort_L hlt h8s] at h3
  rw [k_t, if_neg c1, if_pos h3] at h11
  have hv : tk 12 = tp s := by rw [h12 hlt, t_v, if_neg c1, if_pos h3]
  have hq' := t_q_ok tp hsn
  rw [← hq] at hq'
  refine ⟨hlt, ?_, ?_, ?_, hv⟩
  · rw [h11]
    split <;> decide
  · rw [h11]
    split <;> decide
  · unfold isNm
    rw [h11, h9, h10, hv, pk_sub hq'.1]
    have e1 : (nI (q - s) = 1) ↔ q - s = 1 := nI_eq (b := 1) (by omega) (by decide)
    rw [e1]
    by_cases h0 : r 6 = 0
    · rw [if_pos h0]
      refine ⟨fun e q2 => ?_, fun e => ?_⟩
      · rcases e with e | e | e
        · exact e h0
        · exact e q2.2.1
        · exact q2.2.2 e
      · apply Classical.byContradiction
        intro hc
        simp only [not_or, Classical.not_not] at hc
        exact e ⟨rfl, hc.2.1, hc.2.2⟩
    · rw [if_neg h0]
      exact ⟨fun _ e => absurd e.1 (by decide), fun _ => Or.inl h0⟩
