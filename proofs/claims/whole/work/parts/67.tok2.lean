/-! tokens of both sides -/
/-- a token of the model that stands at s, with the class's lacksBlank -/
def k_t (tp : Rw) (n s : Nat) (c : Int32) : Int32 := if s = n then 0 else if isL tp n s = true then (if c = 0 then 1 else 4) else if isF tp n s = true then (if ¬ c = 0 ∨ 4 < t_q tp n s - s then 4 else 2) else 3
def isWd (c : Int32) : Prop := c = -2 ∨ c = -3
def TPre (r tk : Rw) (q : Nat) : Prop := tk 9 = nI q ∧ r 5 = nI q ∧ (isWd (r 3) → tk 13 = nI q) ∧ (¬ isWd (r 3) → ∀ k, q ≤ k → k ≤ 96 → ¬ tk 13 = nI k)
def TCur (tp : Rw) (n : Nat) (r tk : Rw) (s q : Nat) : Prop := r 4 = nI s ∧ tk 10 = nI s ∧ s ≤ n ∧ q = t_q tp n s ∧ tk 9 = nI q ∧ r 5 = nI q ∧ r 3 = c_tok tp n s ∧ (r 6 = 0 ∨ r 6 = 1) ∧ tk 11 = k_t tp n s (r 6) ∧ (s < n → tk 12 = t_v tp n s 0) ∧ (s < n → TPre r tk q)
theorem t_v_any {tp : Rw} {n s : Nat} (h : s < n) (v w : Int32) : t_v tp n s v = t_v tp n s w := by
  unfold t_v
  have hne : ¬ s = n := by omega
  simp only [if_neg hne]
theorem wd_iff {tp : Rw} {n s : Nat} (h : s < n) (h8 : ∃ b, b < 256 ∧ tp s = nI b) : isWd (c_tok tp n s) ↔ (isL tp n s = true ∨ isF tp n s = true) := by
  unfold isWd c_tok
  rw [if_neg (by omega), sort_L h h8, sort_F h h8]
theorem T_go {tp r tk : Rw} {n q : Nat} (hn : n ≤ 96) (hq : q ≤ n) (h8 : ∀ k, k < 96 → ∃ b, b < 256 ∧ tp k = nI b) (h : TPre r tk q) : TCur tp n (rgo tp n r q) (nxt tp n tk) (t_s tp n q) (t_q tp n (t_s tp n q)) ∧ q ≤ t_s tp n q := by
  obtain ⟨h9, h5, hw, hnw⟩ := h
  have hsg := whl_ge (isB tp n) (n - q) q
  have hsq : q ≤ t_s tp n q ∧ t_s tp n q ≤ n := by
    unfold t_s
    omega
  have e9 : cN (tk 9) = q := by rw [h9]; exact cN_nI (by omega)
  have eN : nxt tp n tk = G_go tp n tk (t_s tp n q) := by unfold nxt; rw [e9]
  obtain ⟨s, hs⟩ : ∃ s, s = t_s tp n q := ⟨_, rfl⟩
  rw [← hs] at hsq eN ⊢
  have hq' := t_q_ok tp hsq.2
  have hr3 : rgo tp n r q 3 = c_tok tp n s := by rw [hs]; rfl
  have hr4 : rgo tp n r q 4 = nI s := by rw [hs]; rfl
  have hr5 : rgo tp n r q 5 = nI (t_q tp n s) := by rw [hs]; rfl
  have hr6 : rgo tp n r q 6 = if (r 3 = -2 ∨ r 3 = -3) ∧ s = q then 1 else 0 := by rw [hs]; rfl
  have hcl : (nI s = tk 13) ↔ (isWd (r 3) ∧ s = q) := by
    by_cases hwd : isWd (r 3)
    · rw [hw hwd, nI_eq (by omega) (by omega)]
      exact ⟨fun e => ⟨hwd, e⟩, fun e => e.2⟩
    · refine ⟨fun e => absurd e.symm (hnw hwd s hsq.1 (by omega)), fun e => absurd e.1 hwd⟩
  have h60 : (¬ rgo tp n r q 6 = 0) ↔ nI s = tk 13 := by
    rw [hcl, hr6]
    by_cases hc : (r 3 = -2 ∨ r 3 = -3) ∧ s = q
    · rw [if_pos hc]
      exact ⟨fun _ => hc, fun _ => by decide⟩
    · rw [if_neg hc]
      exact ⟨fun e => absurd rfl e, fun e => absurd e hc⟩
  have h11 : nxt tp n tk 11 = k_t tp n s (rgo tp n r q 6) := by
    rw [eN]
    show t_t tp n s (tk 13) = _
    unfold t_t k_t
    by_cases c1 : s = n
    · rw [if_pos c1, if_pos c1]
    · rw [if_neg c1, if_neg c1]
      by_cases c2 : isL tp n s = true
      · rw [if_pos c2, if_pos c2]
        by_cases c3 : nI s = tk 13
        · rw [if_pos c3, if_neg (h60.mpr c3)]
        · rw [if_neg c3, if_pos (Classical.byContradiction (fun e => c3 (h60.mp e)))]
      · rw [if_neg c2, if_neg c2]
        by_cases c4 : isF tp n s = true
        · rw [if_pos c4, if_pos c4]
          by_cases c3 : nI s = tk 13 ∨ 4 < t_q tp n s - s
          · rw [if_pos c3, if_pos (c3.elim (fun e => Or.inl (h60.mpr e)) Or.inr)]
          · rw [if_neg c3, if_neg (fun e => c3 (e.elim (fun e => Or.inl (h60.mp e)) Or.inr))]
        · rw [if_neg c4, if_neg c4]
  refine ⟨⟨hr4, ?_, hsq.2, rfl, ?_, hr5, hr3, ?_, h11, ?_, ?_⟩, hsq.1⟩
  · rw [eN]; rfl
  · rw [eN]; rfl
  · rw [hr6]
    split
    · exact Or.inr rfl
    · exact Or.inl rfl
  · intro hlt
    rw [eN]
    exact t_v_any hlt _ _
  · intro hlt
    have h8s := h8 s (by omega)
    refine ⟨?_, hr5, ?_, ?_⟩
    · rw [eN]; rfl
    · intro hwd
      rw [hr3, wd_iff hlt h8s] at hwd
      rw [eN]
      show t_e tp n s (tk 13) = _
      unfold t_e
      rw [if_neg (by omega), if_pos hwd]
    · intro hwd k hk1 hk2
      rw [hr3, wd_iff hlt h8s] at hwd
      rw [eN]
      show ¬ t_e tp n s (tk 13) = _
      unfold t_e
      rw [if_neg (by omega), if_neg hwd]
      have hqs : t_q tp n s = s + 1 := by
        unfold t_q
        rw [if_neg (by omega), if_neg (fun e => hwd (Or.inl e)), if_neg (fun e => hwd (Or.inr e))]
      by_cases hw2 : isWd (r 3)
      · rw [hw hw2, nI_eq (by omega) (by omega)]
        omega
      · exact hnw hw2 k (by omega) hk2
/-- a sign of the class is one of the model -/
theorem T_sign {tp r tk : Rw} {n s q : Nat} (hn : n ≤ 96) (h8 : ∀ k, k < 96 → ∃ b, b < 256 ∧ tp k = nI b) (h : TCur tp n r tk s q) : (tk 11 = 3 ∧ tk 12 = r 3 ∧ ¬ r 3 < 0 ∧ s < n) ∨ (¬ tk 11 = 3 ∧ r 3 < 0) := by
  obtain ⟨h4, h10, hsn, hq, h9, h5, h3, h6, h11, h12, hpre⟩ := h
  by_cases c1 : s = n
  · right
    rw [h11, h3, k_t, if_pos c1, c_tok, if_pos c1]
    decide
  · have h8s := h8 s (by omega)
    rw [h11, h3, k_t, if_neg c1, c_tok, if_neg c1]
    by_cases c2 : isL tp n s = true
    · right
      rw [if_pos c2, (sort_L (by omega) h8s).mpr c2]
      refine ⟨?_, by decide⟩
      split <;> decide
    · rw [if_neg c2]
      by_cases c4 : isF tp n s = true
      · right
        rw [if_pos c4, (sort_F (by omega) h8s).mpr c4]
        refine ⟨?_, by decide⟩
        split <;> decide
      · left
        rw [if_neg c4]
        have e : c_sort (tp s) = tp s := by
          unfold c_sort
          rw [if_neg (fun q => c2 (decide_eq_true ⟨by omega, q⟩)), if_neg (fun q => c4 (decide_eq_true ⟨by omega, q⟩))]
        obtain ⟨b, hb, hb2⟩ := h8s
        refine ⟨rfl, ?_, ?_, by omega⟩
        · rw [h12 (by omega), e, t_v, if_neg c1, if_neg c2, if_neg c4]
        · rw [e, hb2]
          exact nI_pos (by omega)
theorem T_end {tp r tk : Rw} {n s q : Nat} (hn : n ≤ 96) (h8 : ∀ k, k < 96 → ∃ b, b < 256 ∧ tp k = nI b) (h : TCur tp n r tk s q) : (r 3 = -1 ↔ s = n) ∧ (tk 11 = 0 ↔ s = n) := by
  obtain ⟨h4, h10, hsn, hq, h9, h5, h3, h6, h11, h12, hpre⟩ := h
  rw [h3, h11]
  by_cases c1 : s = n
  · rw [c_tok, if_pos c1, k_t, if_pos c1]
    exact ⟨⟨fun _ => c1, fun _ => rfl⟩, ⟨fun _ => c1, fun _ => rfl⟩⟩
  · obtain ⟨b, hb, hb2⟩ := h8 s (by omega)
    rw [c_tok, if_neg c1, k_t, if_neg c1]
    refine ⟨⟨fun e => ?_, fun e => absurd e c1⟩, ⟨fun e => ?_, fun e => absurd e c1⟩⟩
    · exfalso
      unfold c_sort at e
      split at e
      · exact absurd e (by decide)
      · split at e
        · exact absurd e (by decide)
        · rw [hb2] at e
          exact absurd e (nI_not_m1 (by omega))
    · exfalso
      split at e
      · split at e <;> exact absurd e (by decide)
      · split at e
        · split at e <;> exact absurd e (by decide)
        · exact absurd e (by decide)
/-- signs: level and code -/
theorem lev_sign (c : Int32) : f_lev c = (if f_sign c = 0 then -1 else f_rank (f_sign c) - 1) ∧ (¬ f_sign c = 0 → f_st (f_sign c) = -c ∧ sgn (f_sign c) ∧ ¬ c = 41) := by
  unfold f_sign f_lev
  by_cases h1 : c = 38
  · subst h1; exact ⟨by decide, fun _ => ⟨by decide, by unfold sgn; decide, by decide⟩⟩
  · rw [if_neg h1, if_neg h1]
    by_cases h2 : c = 42
    · subst h2; exact ⟨by decide, fun _ => ⟨by decide, by unfold sgn; decide, by decide⟩⟩
    · rw [if_neg h2, if_neg h2]
      by_cases h3 : c = 43
      · subst h3; exact ⟨by decide, fun _ => ⟨by decide, by unfold sgn; decide, by decide⟩⟩
      · rw [if_neg h3, if_neg h3]
        by_cases h4 : c = 45
        · subst h4; exact ⟨by decide, fun _ => ⟨by decide, by unfold sgn; decide, by decide⟩⟩
        · rw [if_neg h4, if_neg h4]
          by_cases h5 : c = 47
          · subst h5; exact ⟨by decide, fun _ => ⟨by decide, by unfold sgn; decide, by decide⟩⟩
          · rw [if_neg h5, if_neg h5]
            by_cases h6 : c = 60
            · subst h6; exact ⟨by decide, fun _ => ⟨by decide, by unfold sgn; decide, by decide⟩⟩
            · rw [if_neg h6, if_neg h6]
              by_cases h7 : c = 61
              · subst h7; exact ⟨by decide, fun _ => ⟨by decide, by unfold sgn; decide, by decide⟩⟩
              · rw [if_neg h7, if_neg h7]
                by_cases h8 : c = 62
                · subst h8; exact ⟨by decide, fun _ => ⟨by decide, by unfold sgn; decide, by decide⟩⟩
                · rw [if_neg h8, if_neg h8]
                  by_cases h9 : c = 124
                  · subst h9; exact ⟨by decide, fun _ => ⟨by decide, by unfold sgn; decide, by decide⟩⟩
                  · rw [if_neg h9, if_neg h9]
                    exact ⟨by rw [if_pos rfl], fun e => absurd rfl e⟩
theorem sgn_rank {c : Int32} (h : sgn c) : ∃ k, 1 ≤ k ∧ k ≤ 5 ∧ f_rank c = nI k ∧ ¬ c = -10 ∧ ¬ c = -11 ∧ c < 0 := by
  rcases h with rfl | rfl | rfl | rfl | rfl | rfl | rfl | rfl | rfl
  · exact ⟨1, by decide⟩
  · exact ⟨2, by decide⟩
  · exact ⟨3, by decide⟩
  · exact ⟨3, by decide⟩
  · exact ⟨3, by decide⟩
  · exact ⟨4, by decide⟩
  · exact ⟨4, by decide⟩
  · exact ⟨5, by decide⟩
  · exact ⟨5, by decide⟩
/-- the level of the class's token, by the model's sign -/
theorem T_lev {tp r tk : Rw} {n s q : Nat} (hn : n ≤ 96) (h8 : ∀ k, k < 96 → ∃ b, b < 256 ∧ tp k = nI b) (h : TCur tp n r tk s q) : (E_sg tk = 0 ∧ f_lev (r 3) = -1) ∨ (∃ k, 1 ≤ k ∧ k ≤ 5 ∧ f_rank (E_sg tk) = nI k ∧ f_lev (r 3) = nI (k - 1) ∧ f_st (E_sg tk) = -(r 3) ∧ sgn (E_sg tk) ∧ tk 11 = 3 ∧ ¬ tk 12 = 41 ∧ s < n) := by
  rcases T_sign hn h8 h with ⟨h1, h2, h3, h4⟩ | ⟨h1, h2⟩
  · obtain ⟨l1, l2⟩ := lev_sign (r 3)
    have e : E_sg tk = f_sign (r 3) := by rw [E_sg, if_pos h1, h2]
    rw [e]
    by_cases hz : f_sign (r 3) = 0
    · left
      rw [l1, if_pos hz]
      exact ⟨hz, rfl⟩
    · right
      obtain ⟨g1, g2, g3⟩ := l2 hz
      obtain ⟨k, k1, k2, k3, -⟩ := sgn_rank g2
      refine ⟨k, k1, k2, k3, ?_, g1, g2, h1, by rw [h2]; exact g3, h4⟩
      rw [l1, if_neg hz, k3, nI_dec k (by omega)]
  · left
    refine ⟨by rw [E_sg, if_neg h1], ?_⟩
    have hn : ∀ k : Nat, k < 2 ^ 31 → ¬ r 3 = nI k := fun k hk e => nI_pos hk (e ▸ h2)
    unfold f_lev
    rw [if_neg (show ¬ r 3 = 38 from hn 38 (by decide)), if_neg (show ¬ r 3 = 42 from hn 42 (by decide)), if_neg (show ¬ r 3 = 43 from hn 43 (by decide)), if_neg (show ¬ r 3 = 45 from hn 45 (by decide)), if_neg (show ¬ r 3 = 47 from hn 47 (by decide)), if_neg (show ¬ r 3 = 60 from hn 60 (by decide)), if_neg (show ¬ r 3 = 61 from hn 61 (by decide)), if_neg (show ¬ r 3 = 62 from hn 62 (by decide)), if_neg (show ¬ r 3 = 124 from hn 124 (by decide))]
