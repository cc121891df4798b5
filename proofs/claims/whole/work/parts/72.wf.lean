/-! what is read can be worked out -/
def dlR : List Int32 → Nat
  | [] => 0
  | c :: C => if c < 0 then (if c = -10 then dlR C else dlR C - 1) else dlR C + 1
def wfR (nn : Nat) : List Int32 → Prop
  | [] => True
  | c :: C => wfR nn C ∧ sgk c ∧ (c < 0 → (if c = -10 then 1 else 2) ≤ dlR C) ∧ (¬ c < 0 → ∃ j, c = nI j ∧ j < 10000 + nn)
def bnW : List Int32 → Nat
  | [] => 0
  | w :: W => bnW W + (if w = -11 ∨ w = -10 then 0 else 1)
def opW (W : List Int32) : Prop := ∀ w ∈ W, w = -11 ∨ w = -10 ∨ sgn w
theorem stl_wf (nn : Nat) (lv : Int32) : ∀ W C, opW W → wfR nn C → dlR C = bnW W + 1 → opW (stl lv W C).1 ∧ wfR nn (stl lv W C).2 ∧ dlR (stl lv W C).2 = bnW (stl lv W C).1 + 1
  | [], C, h1, h2, h3 => ⟨h1, h2, h3⟩
  | w :: W, C, h1, h2, h3 => by
    unfold stl
    by_cases hc : w = -11 ∨ f_rank w < lv
    · rw [if_pos hc]
      exact ⟨h1, h2, h3⟩
    · rw [if_neg hc]
      have hW : opW W := fun v hv => h1 v (List.mem_cons_of_mem _ hv)
      have hn11 : ¬ w = -11 := fun e => hc (Or.inl e)
      rcases h1 w List.mem_cons_self with e | e | e
      · exact absurd e hn11
      · subst e
        rw [bnW, if_pos (Or.inr rfl), Nat.add_zero] at h3
        refine stl_wf nn lv W (-10 :: C) hW ⟨h2, fun _ => Or.inl rfl, fun _ => ?_, fun q => absurd (by decide) q⟩ ?_
        · rw [if_pos rfl]; omega
        · rw [dlR, if_pos (by decide), if_pos rfl]; exact h3
      · obtain ⟨k, -, -, -, n10, n11, nneg⟩ := sgn_rank e
        rw [bnW, if_neg (fun q => q.elim n11 n10)] at h3
        refine stl_wf nn lv W (w :: C) hW ⟨h2, fun _ => Or.inr e, fun _ => ?_, fun q => absurd nneg q⟩ ?_
        · rw [if_neg n10]; omega
        · rw [dlR, if_pos nneg, if_neg n10]; omega
theorem stl_zero : ∀ W C, (stl 0 W C).1 = [] ∨ ∃ V, (stl 0 W C).1 = -11 :: V
  | [], C => Or.inl rfl
  | w :: W, C => by
    unfold stl
    by_cases hc : w = -11 ∨ f_rank w < 0
    · rw [if_pos hc]
      rcases hc with e | e
      · exact Or.inr ⟨W, by rw [e]⟩
      · exact absurd e (f_rank_pos w)
    · rw [if_neg hc]
      exact stl_zero W (w :: C)
def tkok (tk : Rw) : Prop := tk 11 = 2 → ∃ v, v < 10000 ∧ tk 12 = nI v
theorem nxt_ok (tp : Rw) (n : Nat) (tk : Rw) : tkok (nxt tp n tk) := by
  unfold tkok nxt
  generalize t_s tp n (cN (tk 9)) = s
  show t_t tp n s (tk 13) = 2 → ∃ v, v < 10000 ∧ t_v tp n s (tk 12) = nI v
  unfold t_t t_v
  by_cases c1 : s = n
  · rw [if_pos c1]
    exact fun e => absurd e (by decide)
  · rw [if_neg c1, if_neg c1]
    by_cases c2 : isL tp n s = true
    · rw [if_pos c2]
      intro e
      exfalso
      split at e <;> exact absurd e (by decide)
    · rw [if_neg c2, if_neg c2]
      by_cases c3 : isF tp n s = true
      · rw [if_pos c3, if_pos c3]
        intro e
        split at e
        · exact absurd e (by decide)
        · rename_i h4
          have hq4 : t_q tp n s - s ≤ 4 := Nat.le_of_not_lt (fun q => h4 (Or.inr q))
          have hqw : t_q tp n s = whl (isF tp n) (n - s) s := by rw [t_q, if_neg c1, if_neg c2, if_pos c3]
          obtain ⟨v, hv, e2⟩ := vN_lt (tp := tp) (n := n) (s := s) (t_q tp n s - s) hq4 (fun i h1 h2 => whl_all (n - s) s i h1 (by rw [← hqw]; omega))
          have h10 : 10 ^ (t_q tp n s - s) ≤ 10000 := Nat.le_trans (Nat.pow_le_pow_right (n := 10) (by decide) hq4) (by decide)
          exact ⟨v, by omega, e2⟩
      · rw [if_neg c3]
        exact fun e => absurd e (by decide)
theorem E_wf {tp : Rw} {n ky : Nat} (hky : ky ≤ 2) : ∀ (f : Nat) (wants : Bool) (tk : Rw) (W C : List Int32) (at_ : Nat) (T : List Bool) (k : Nat), tkok tk → opW W → wfR (nnK ky) C → dlR C = bnW W + (if wants = true then 0 else 1) → ∀ p C' n', E_run tp n (nI ky) f wants tk W C at_ T k = (p, some (C', n')) → wfR (nnK ky) C' ∧ 1 ≤ dlR C' := by
  intro f
  induction f with
  | zero =>
    intro wants tk W C at_ T k _ _ _ _ p C' n' h
    rw [E_run] at h
    exact absurd (congrArg Prod.snd h) (by simp)
  | succ f ih =>
    intro wants tk W C at_ T k htk hW hC hd p C' n' h
    cases wants with
    | true =>
      rw [if_pos rfl, Nat.add_zero] at hd
      rw [E_run] at h
      split at h
      · refine ih true _ _ _ _ _ _ (nxt_ok tp n tk) ?_ hC ?_ p C' n' h
        · intro w hw
          rcases List.mem_cons.mp hw with e | e
          · exact Or.inr (Or.inl e)
          · exact hW w e
        · rw [bnW, if_pos (Or.inr rfl), if_pos rfl]; omega
      · split at h
        · refine ih true _ _ _ _ _ _ (nxt_ok tp n tk) ?_ hC ?_ p C' n' h
          · intro w hw
            rcases List.mem_cons.mp hw with e | e
            · exact Or.inl e
            · exact hW w e
          · rw [bnW, if_pos (Or.inl rfl), if_pos rfl]; omega
        · split at h
          · rename_i hpt
            have hj : ∃ j, f_part (nI ky) tk = nI j ∧ j < 10000 + nnK ky := by
              unfold f_part
              by_cases h2 : tk 11 = 2
              · rw [if_pos h2]
                obtain ⟨v, hv, e⟩ := htk h2
                exact ⟨v, e, by omega⟩
              · rw [if_neg h2]
                have hnm := hpt.resolve_left h2
                rcases f_name_val hky (tk 12) with e | ⟨i, hi, e⟩
                · have := hnm.2.2
                  rw [e] at this
                  exact absurd (by decide) this
                · refine ⟨10000 + i, ?_, by omega⟩
                  rw [e]
                  exact nI_add 10000 i
            obtain ⟨j, ej, hj2⟩ := hj
            have hnk : nnK ky ≤ 3 := by unfold nnK; split <;> decide
            have hnn : ¬ f_part (nI ky) tk < 0 := by rw [ej]; exact nI_pos (by omega)
            have hs := stl_wf (nnK ky) 6 W (f_part (nI ky) tk :: C) hW ⟨hC, fun q => absurd q hnn, fun q => absurd q hnn, fun _ => ⟨j, ej, hj2⟩⟩ (by rw [dlR, if_neg hnn]; omega)
            exact ih false _ _ _ _ _ _ (nxt_ok tp n tk) hs.1 hs.2.1 (by rw [hs.2.2]; rfl) p C' n' h
          · exact absurd (congrArg Prod.snd h) (by simp)
    | false =>
      rw [if_neg (by decide)] at hd
      rw [E_run] at h
      split at h
      · split at h
        · have hs := stl_wf (nnK ky) 0 W C hW hC hd
          obtain ⟨rfl, -⟩ := Prod.mk.inj (Option.some.inj (congrArg Prod.snd h))
          exact ⟨hs.2.1, by omega⟩
        · exact absurd (congrArg Prod.snd h) (by simp)
      · split at h
        · have hs := stl_wf (nnK ky) 0 W C hW hC hd
          have ht : opW (stl 0 W C).1.tail ∧ bnW (stl 0 W C).1.tail = bnW (stl 0 W C).1 := by
            rcases stl_zero W C with e | ⟨V, e⟩
            · rw [e]
              exact ⟨fun w hw => absurd hw List.not_mem_nil, rfl⟩
            · rw [e] at hs ⊢
              refine ⟨fun w hw => hs.1 w (List.mem_cons_of_mem _ hw), ?_⟩
              rw [bnW, if_pos (Or.inl rfl)]
              rfl
          have hs6 := stl_wf (nnK ky) 6 (stl 0 W C).1.tail (stl 0 W C).2 ht.1 hs.2.1 (by rw [ht.2]; exact hs.2.2)
          exact ih false _ _ _ _ _ _ (nxt_ok tp n tk) hs6.1 hs6.2.1 (by rw [hs6.2.2]; rfl) p C' n' h
        · split at h
          · exact absurd (congrArg Prod.snd h) (by simp)
          · rename_i hno
            have hsg : sgn (E_sg tk) := by
              have h0 : ¬ E_sg tk = 0 := fun e => hno (Or.inl e)
              unfold E_sg at h0 ⊢
              split at h0
              · rename_i h3
                rw [if_pos h3]
                exact ((lev_sign (tk 12)).2 h0).2.1
              · exact absurd rfl h0
            obtain ⟨kk, -, -, -, n10, n11, nneg⟩ := sgn_rank hsg
            have hs := stl_wf (nnK ky) (f_rank (E_sg tk)) W C hW hC hd
            refine ih true _ _ _ _ _ _ (nxt_ok tp n tk) ?_ hs.2.1 ?_ p C' n' h
            · intro w hw
              rcases List.mem_cons.mp hw with e | e
              · rw [e]; exact Or.inr (Or.inr hsg)
              · exact hs.1 w e
            · rw [bnW, if_neg (fun q => q.elim n11 n10), if_pos rfl, hs.2.2]
/-- a code as a list, the last one first -/
def cdL (C : List Int32) : Nat → Int32 := fun k => C.getD (C.length - 1 - k) 0
theorem cdL_lo {c : Int32} {C : List Int32} {k : Nat} (h : k < C.length) : cdL (c :: C) k = cdL C k := by
  unfold cdL
  rw [List.length_cons, show C.length + 1 - 1 - k = (C.length - 1 - k) + 1 by omega, List.getD_cons_succ]
theorem cdL_hi (c : Int32) (C : List Int32) : cdL (c :: C) C.length = c := by
  unfold cdL
  rw [List.length_cons, show C.length + 1 - 1 - C.length = 0 by omega]
  rfl
theorem dlN_cd {c : Int32} {C : List Int32} : ∀ k, k ≤ C.length → dlN (cdL (c :: C)) k = dlN (cdL C) k
  | 0, _ => rfl
  | k + 1, h => by
    unfold dlN
    rw [cdL_lo (by omega), dlN_cd k (by omega)]
theorem dlN_list : ∀ C, dlN (cdL C) C.length = dlR C
  | [] => rfl
  | c :: C => by
    rw [List.length_cons, dlN, cdL_hi, dlN_cd C.length (Nat.le_refl _), dlN_list C, dlR]
theorem wf_list {nn : Nat} : ∀ C, wfR nn C → ∀ k, k < C.length → sgk (cdL C k) ∧ (cdL C k < 0 → (if cdL C k = -10 then 1 else 2) ≤ dlN (cdL C) k) ∧ (¬ cdL C k < 0 → ∃ j, cdL C k = nI j ∧ j < 10000 + nn)
  | [], _, k, h => absurd h (Nat.not_lt_zero k)
  | c :: C, hw, k, h => by
    rw [List.length_cons] at h
    by_cases hk : k < C.length
    · rw [cdL_lo hk, dlN_cd k (by omega)]
      exact wf_list C hw.1 k hk
    · have e : k = C.length := by omega
      subst e
      rw [cdL_hi, dlN_cd C.length (Nat.le_refl _), dlN_list]
      exact hw.2
theorem WFc_list {nn : Nat} {C : List Int32} (h96 : C.length ≤ 96) (hw : wfR nn C) (hd : 1 ≤ dlR C) : WFc (cdL C) C.length nn := ⟨h96, by rw [dlN_list]; exact hd, fun k hk => (wf_list C hw k hk).2⟩
/-- a code is looked at below its length only -/
theorem dlN_congr {c c' : Nat → Int32} : ∀ k, (∀ j, j < k → c j = c' j) → dlN c k = dlN c' k
  | 0, _ => rfl
  | k + 1, h => by
    unfold dlN
    rw [h k (by omega), dlN_congr k (fun j hj => h j (by omega))]
theorem WFc_congr {c c' : Nat → Int32} {n nn : Nat} (h : ∀ j, j < n → c j = c' j) (hw : WFc c n nn) : WFc c' n nn := by
  obtain ⟨h1, h2, h3⟩ := hw
  refine ⟨h1, by rw [← dlN_congr n h]; exact h2, fun k hk => ?_⟩
  rw [← h k hk, ← dlN_congr k (fun j hj => h j (by omega))]
  exact h3 k hk
theorem stR_cd {r : Rw} {C : List Int32} (h : stR r (C.map f_st)) {j : Nat} (hj : j < C.length) : r j = f_st (cdL C j) := by
  rw [h j (by rw [List.length_map]; exact hj), List.length_map]
  unfold cdL
  rw [List.getD_eq_getElem?_getD, List.getD_eq_getElem?_getD, List.getElem?_map, List.getElem?_eq_getElem (show C.length - 1 - j < C.length by omega)]
  rfl
/-- one more text -/
theorem A_text_code {a : Rw} {T ky at_ j : Nat} {C : List Int32} (hT : T < 14) (h96 : C.length ≤ 96) (hj : j < C.length) : A_text a T ky C at_ (83 + 96 * T + j) = cdL C j := by
  unfold A_text cdL
  rw [if_neg (by omega), if_neg (by omega), if_neg (by omega), if_pos (by omega)]
  congr 1
  omega
theorem A_text_keep {a : Rw} {T ky at_ j : Nat} {C : List Int32} (h6 : j ≠ 6) (h1 : j ≠ 55 + 2 * T) (h2 : j ≠ 56 + 2 * T) (h3 : ¬ (83 + 96 * T ≤ j ∧ j < 83 + 96 * T + C.length)) : A_text a T ky C at_ j = a j := by
  unfold A_text
  rw [if_neg h6, if_neg h1, if_neg h2, if_neg h3]
theorem VT_text {a : Rw} {T ky at_ : Nat} {C : List Int32} (hV : VT a) (h6 : a 6 = nI T) (hT : T < 14) (hky : ky ≤ 2) (h96 : C.length ≤ 96) (hw : wfR (nnK ky) C) (hd : 1 ≤ dlR C) : VT (A_text a T ky C at_) := by
  obtain ⟨T', hT', h6', ht⟩ := hV
  have eT : T' = T := (nI_eq (by omega) (by omega)).mp (h6'.symm.trans h6)
  subst eT
  refine ⟨T' + 1, by omega, by unfold A_text; rw [if_pos rfl], fun t htl => ?_⟩
  by_cases e : t = T'
  · subst e
    refine ⟨ky, C.length, hky, h96, ?_, ?_⟩
    · unfold A_text
      rw [if_neg (by omega), if_pos rfl]
    · exact WFc_congr (fun j hj => (A_text_code hT h96 hj).symm) (WFc_list h96 hw hd)
  · obtain ⟨k, n, k1, k2, k3, k4⟩ := ht t (by omega)
    refine ⟨k, n, k1, k2, ?_, ?_⟩
    · rw [A_text_keep (by omega) (by omega) (by omega) (by omega)]; exact k3
    · exact WFc_congr (fun j hj => (A_text_keep (by omega) (by omega) (by omega) (by omega)).symm) k4
theorem cnt_text {a : Rw} {T ky at_ : Nat} {C : List Int32} {key : Int32} (h6 : a 6 = nI T) (hT : T < 14) (hky : ky ≤ 2) (h96 : C.length ≤ 96) : A_cnt (A_text a T ky C at_) key = if nI ky = key then nI T else A_cnt a key := by
  unfold A_cnt
  rw [show A_text a T ky C at_ 6 = nI (T + 1) by unfold A_text; rw [if_pos rfl], h6, cN_nI (by omega), cN_nI (by omega), cntF]
  have e : A_text a T ky C at_ (55 + 2 * T) = nI (1000 * ky + C.length) := by
    unfold A_text
    rw [if_neg (by omega), if_pos rfl]
  rw [e, show (1000 : Int32) = nI 1000 from rfl, pk_div (by omega) (by decide) (by decide), show (1000 * ky + C.length) / 1000 = ky by omega]
  have ec : ∀ t, t ≤ T → cntF (A_text a T ky C at_) key t = cntF a key t := by
    intro t
    induction t with
    | zero => intro _; rfl
    | succ t ih =>
      intro ht
      unfold cntF
      rw [ih (by omega), A_text_keep (by omega) (by omega) (by omega) (by omega)]
  rw [ec T (Nat.le_refl T)]
