/-! text of the model -/
theorem E_run_len {tp : Rw} {n : Nat} {key : Int32} (hn : n ≤ 96) : ∀ (f : Nat) (wants : Bool) (tk : Rw) (W C : List Int32) (at_ : Nat) (T : List Bool) (k s q : Nat), TKV n tk s q → s ≤ n → W.length + C.length + 1 ≤ s → ∀ C' n', (E_run tp n key f wants tk W C at_ T k).2 = some (C', n') → C'.length ≤ n := by
  intro f
  induction f with
  | zero =>
    intro wants tk W C at_ T k s q hT hsn hb C' n' h
    rw [E_run] at h
    exact absurd h (by simp)
  | succ f ih =>
    intro wants tk W C at_ T k s q hT hsn hb C' n' h
    obtain ⟨s1, q1, g1, g2, g3⟩ := TKV_nxt (tp := tp) hn hT
    have hlt : ¬ tk 11 = 0 → s < q := fun h0 => hT.2.2.2.2.1 (Nat.lt_of_le_of_ne hsn (fun e => h0 (hT.2.2.2.2.2.mpr e)))
    cases wants with
    | true =>
      rw [E_run] at h
      split at h
      · rename_i hc
        have hq := hlt (fun e => absurd (hc.1.symm.trans e) (by decide))
        exact ih true _ _ _ _ _ _ s1 q1 g3 g2 (by simp only [List.length_cons]; omega) C' n' h
      · split at h
        · rename_i hc
          have hq := hlt (fun e => absurd (hc.1.symm.trans e) (by decide))
          exact ih true _ _ _ _ _ _ s1 q1 g3 g2 (by simp only [List.length_cons]; omega) C' n' h
        · split at h
          · rename_i hc
            have hq := hlt (fun e => by
              rcases hc with hc | hc
              · exact absurd (hc.symm.trans e) (by decide)
              · exact absurd (hc.1.symm.trans e) (by decide))
            have hl := stl_len 6 W (f_part key tk :: C)
            simp only [List.length_cons] at hl
            exact ih false _ _ _ _ _ _ s1 q1 g3 g2 (by omega) C' n' h
          · exact absurd h (by simp)
    | false =>
      rw [E_run] at h
      split at h
      · have hl := stl_len 0 W C
        split at h
        · obtain ⟨rfl, -⟩ := Prod.mk.inj (Option.some.inj h)
          omega
        · exact absurd h (by simp)
      · rename_i h0
        have hq := hlt h0
        split at h
        · have hl := stl_len 0 W C
          have hl6 := stl_len 6 (stl 0 W C).1.tail (stl 0 W C).2
          rw [List.length_tail] at hl6
          exact ih false _ _ _ _ _ _ s1 q1 g3 g2 (by omega) C' n' h
        · split at h
          · exact absurd h (by simp)
          · have hl := stl_len (f_rank (E_sg tk)) W C
            exact ih true _ _ _ _ _ _ s1 q1 g3 g2 (by simp only [List.length_cons]; omega) C' n' h
theorem TKV_go {tp : Rw} {n p : Nat} {tk : Rw} (hp : p ≤ n) (h9 : tk 9 = nI p) (hn : n ≤ 96) : nxt tp n tk = G_go tp n tk (t_s tp n p) ∧ TKV n (nxt tp n tk) (t_s tp n p) (t_q tp n (t_s tp n p)) ∧ p ≤ t_s tp n p ∧ t_s tp n p ≤ n := by
  have hw := whl_ge (isB tp n) (n - p) p
  have hs : p ≤ t_s tp n p ∧ t_s tp n p ≤ n := by
    unfold t_s
    omega
  obtain ⟨g1, g2, g3⟩ := t_q_ok tp hs.2
  have e : nxt tp n tk = G_go tp n tk (t_s tp n p) := by
    unfold nxt
    rw [h9, cN_nI (by omega)]
  refine ⟨e, ?_, hs⟩
  rw [e]
  exact ⟨rfl, rfl, g1, g2, g3, t_t_0 tp (tk 13)⟩
theorem sW_len {tp kc : Rw} {s q at0 ln : Nat} (h : sW tp kc s q at0 ln = true) : q - s = ln := of_decide_eq_true (sm_b ln h)
theorem f_key_q {tp kc : Rw} {s q : Nat} (h : f_key tp kc s q < 3) : 4 ≤ q := by
  unfold f_key at h
  split at h
  · have := sW_len ‹_›
    omega
  · split at h
    · have := sW_len ‹_›
      omega
    · split at h
      · have := sW_len ‹_›
        omega
      · exact absurd h (by decide)
/-- the tape read as a text: where the reading ends; the key, the code (its last step first), the atoms -/
def tk0 (tp : Rw) (n : Nat) (r : Rw) : Rw := nxt tp n (up (up r 9 0) 13 (-1))
def ky0 (tp kc : Rw) (n : Nat) : Nat := f_key tp kc (t_s tp n 0) (t_q tp n (t_s tp n 0))
def tk1 (tp : Rw) (n : Nat) (r : Rw) (ky : Nat) : Rw := nxt tp n (up (tk0 tp n r) 14 (nI ky))
def R_text (tp kc : Rw) (n : Nat) (r : Rw) : Int32 × Option (List Int32 × Nat) := if tk0 tp n r 11 = 1 ∧ ky0 tp kc n < 3 then E_run tp n (nI (ky0 tp kc n)) (n + 1) true (tk1 tp n r (ky0 tp kc n)) [] [] 0 [false] 0 else (tk0 tp n r 10, none)
def A_text (a : Rw) (T ky : Nat) (C : List Int32) (at_ : Nat) : Rw := fun j => if j = 6 then nI (T + 1) else if j = 55 + 2 * T then nI (1000 * ky + C.length) else if j = 56 + 2 * T then nI at_ else if 83 + 96 * T ≤ j ∧ j < 83 + 96 * T + C.length then C.getD (C.length - 1 - (j - (83 + 96 * T))) 0 else a j
def scr (M M1 : Mm) : Prop := M1 103 8 = 0 ∧ (∀ j, j ≠ 8 → ¬ (9 ≤ j ∧ j ≤ 14) → j ≠ 18 → j ≠ 19 → j ≠ 21 → M1 103 j = M 103 j) ∧ ∀ q, q ≠ 103 → q ≠ 104 → q ≠ 113 → q ≠ 114 → q ≠ 115 → M1 q = M q
def T_post (M : Mm) (T : Nat) (R : Int32 × Option (List Int32 × Nat)) (ky : Nat) (x : Int32) (M1 : Mm) : Prop := scr M M1 ∧ (R.2 = none → x = -100 - R.1 ∧ M1 104 = M 104) ∧ (∀ C at_, R.2 = some (C, at_) → (T = 14 → x = (-1000000003) ∧ M1 104 = M 104) ∧ (T < 14 → x = nI T ∧ M1 104 = A_text (M 104) T ky C at_))
