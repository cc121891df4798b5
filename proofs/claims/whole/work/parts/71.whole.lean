/-! a whole text read by the class -/
def keysOK (kc : Rw) : Prop := ∀ j i, j < 3 → i < s_len j → kc ((if j = 0 then 0 else if j = 1 then 5 else 9) + i) = s_at j i
theorem sm_congr {tp kc kd_ : Rw} {s a1 a2 : Nat} {b0 : Bool} : ∀ n, (∀ i, i < n → kc (a1 + i) = kd_ (a2 + i)) → sm tp kc s a1 b0 n = sm tp kd_ s a2 b0 n
  | 0, _ => rfl
  | n + 1, h => by
    rw [sm, sm, sm_congr n (fun i hi => h i (by omega)), h n (by omega)]
theorem key_eq {tp kc : Rw} {s q : Nat} (h : keysOK kc) : f_key tp kc s q = c_key tp s q := by
  have e0 : sW tp kc s q 0 5 = sm tp (s_at 0) s 0 (decide (q - s = 5)) 5 := sm_congr 5 (fun i hi => by have := h 0 i (by decide) hi; simpa using this)
  have e1 : sW tp kc s q 5 4 = sm tp (s_at 1) s 0 (decide (q - s = 4)) 4 := sm_congr 4 (fun i hi => by rw [Nat.zero_add]; exact h 1 i (by decide) hi)
  have e2 : sW tp kc s q 9 4 = sm tp (s_at 2) s 0 (decide (q - s = 4)) 4 := sm_congr 4 (fun i hi => by rw [Nat.zero_add]; exact h 2 i (by decide) hi)
  unfold f_key c_key
  rw [e0, e1, e2]
def r0 (M : Mm) (n : Nat) : Rw := up (up (up (up (up (M 2) 0 (nI 1)) 1 (nI n)) 2 (nI 6)) 3 (-1)) 5 0
def UPost (M : Mm) (R : Rn_) (ky : Nat) (x : Int32) (M1 : Mm) : Prop := ∃ r1 d1 st1, M1 = S3 M r1 d1 st1 ∧ ((x = 0 ∧ R = (r1 4, none)) ∨ (x = 1 ∧ ky ≤ 2 ∧ ∃ C1 at1 p, R = (p, some (C1, at1)) ∧ C1.length ≤ 96 ∧ d1 0 = nI ky ∧ d1 1 = nI at1 ∧ d1 2 = nI C1.length ∧ stR st1 (C1.map f_st)))
theorem c_X2_understands {l : Launch} {G : Gt} {M : Mm} {tp kc rm : Rw} {n : Nat} (ht : ∀ k, k < 96 → (M 1 k &&& 255) = tp k) (hn : n ≤ 96) (hkc : keysOK kc) : Runs l G true dm_X2_understands 180 127 [.ref 2, .ref 1, .int (nI n), .ref 6] M 127 (Pi (UPost M (R_text tp kc n rm) (ky0 tp kc n))) := by
  refine mx_run ow_X2_understands rfl rfl (fun dp X hdp R => ?_)
  have h8 := tb_nat ht
  have hpre0 : TPre (r0 M n) (up (up rm 9 0) 13 (-1)) 0 := ⟨rfl, rfl, fun h => absurd (show isWd (-1) from h) (by unfold isWd; decide), fun _ k _ hk => fun e => nI_not_m1 (show k < 2 ^ 31 by omega) e.symm⟩
  obtain ⟨gT, -⟩ := T_go (tp := tp) hn (Nat.zero_le n) h8 hpre0
  have hr6 : rgo tp n (r0 M n) 0 6 = 0 := by
    show (if (r0 M n 3 = -2 ∨ r0 M n 3 = -3) ∧ t_s tp n 0 = 0 then (1 : Int32) else 0) = 0
    exact if_neg (fun e => absurd (show (-1 : Int32) = -2 ∨ (-1 : Int32) = -3 from e.1) (by decide))
  obtain ⟨s, hs⟩ : ∃ s, s = t_s tp n 0 := ⟨_, rfl⟩
  obtain ⟨q, hq⟩ : ∃ q, q = t_q tp n s := ⟨_, rfl⟩
  obtain ⟨ra, hra⟩ : ∃ ra, ra = rgo tp n (r0 M n) 0 := ⟨_, rfl⟩
  rw [← hs, ← hq, ← hra] at gT
  rw [← hra] at hr6
  have ek : nxt tp n (up (up rm 9 0) 13 (-1)) = tk0 tp n rm := rfl
  rw [ek] at gT
  have hky0 : ky0 tp kc n = c_key tp s q := by rw [ky0, key_eq hkc, ← hs, ← hq]
  have h0 : ra 0 = nI 1 := by rw [hra]; rfl
  have h1 : ra 1 = nI n := by rw [hra]; rfl
  have h2 : ra 2 = nI 6 := by rw [hra]; rfl
  have hsn := gT.2.2.1
  have hq' := t_q_ok tp hsn
  rw [← hq] at hq'
  have hwd : tk0 tp n rm 11 = 1 ↔ ra 3 = -2 := by
    rw [gT.2.2.2.2.2.2.1, gT.2.2.2.2.2.2.2.2.1, hr6]
    unfold k_t c_tok
    by_cases c1 : s = n
    · rw [if_pos c1, if_pos c1]
      exact ⟨fun e => absurd e (by decide), fun e => absurd e (by decide)⟩
    · rw [if_neg c1, if_neg c1, sort_L (tp := tp) (n := n) (k := s) (by omega) (h8 s (by omega))]
      by_cases c2 : isL tp n s = true
      · rw [if_pos c2, if_pos rfl]
        exact ⟨fun _ => c2, fun _ => rfl⟩
      · rw [if_neg c2]
        refine ⟨fun e => ?_, fun e => absurd e c2⟩
        exfalso
        split at e
        · split at e <;> exact absurd e (by decide)
        · exact absurd e (by decide)
  refine R.b bk_X2_understands_0 (And.intro (by rfl) (And.intro (Or.inl rfl) (And.intro (by decide) (And.intro ⟨9, by decide, by decide, rfl⟩ ?_))))
  refine R.min kc_X2_understands_9 (by omega) rfl (Nat.le_refl _) ?_
  have emn : (if (nI (kd 1).2) < nI n then nI (kd 1).2 else nI n) = nI n := if_neg (nI_nlt (a := 96) hn (by decide))
  rw [emn]
  refine R.b bk_X2_understands_12 (And.intro (by rfl) (And.intro rfl (And.intro rfl (And.intro (by rfl) (And.intro (Or.inl rfl) (And.intro (by decide) (And.intro (by rfl) (And.intro rfl (And.intro rfl (And.intro (by rfl) (And.intro rfl (And.intro rfl ?_))))))))))))
  show X 127 (mx_wr (mx_wr (mx_wr (mx_wr (mx_wr M 2 0 (nI 1)) 2 1 (nI n)) 2 2 (nI 6)) 2 3 (-1)) 2 5 0) 31 [some (.ref 2), some (.ref 1), some (.int (nI n)), some (.ref 6), none] [.ref 2]
  have e5 : (mx_wr (mx_wr (mx_wr (mx_wr (mx_wr M 2 0 (nI 1)) 2 1 (nI n)) 2 2 (nI 6)) 2 3 (-1)) 2 5 0) = S3 M (r0 M n) (M 6) (M 7) := by
    have h := S3_id (mx_wr (mx_wr (mx_wr (mx_wr (mx_wr M 2 0 (nI 1)) 2 1 (nI n)) 2 2 (nI 6)) 2 3 (-1)) 2 5 0)
    have e2 : (mx_wr (mx_wr (mx_wr (mx_wr (mx_wr M 2 0 (nI 1)) 2 1 (nI n)) 2 2 (nI 6)) 2 3 (-1)) 2 5 0) 2 = r0 M n := by
      simp only [mx_wr_up, mx_rw_rw, mx_rw_at]
      rfl
    have e6 : (mx_wr (mx_wr (mx_wr (mx_wr (mx_wr M 2 0 (nI 1)) 2 1 (nI n)) 2 2 (nI 6)) 2 3 (-1)) 2 5 0) 6 = M 6 := by simp only [mx_wr_ne (show (6 : Nat) ≠ 2 by decide)]
    have e7 : (mx_wr (mx_wr (mx_wr (mx_wr (mx_wr M 2 0 (nI 1)) 2 1 (nI n)) 2 2 (nI 6)) 2 3 (-1)) 2 5 0) 7 = M 7 := by simp only [mx_wr_ne (show (7 : Nat) ≠ 2 by decide)]
    rw [e2, e6, e7] at h
    rw [← h]
    funext z
    by_cases z2 : z = 2
    · rw [z2]; rfl
    · by_cases z6 : z = 6
      · rw [z6]; rfl
      · by_cases z7 : z = 7
        · rw [z7]; rfl
        · rw [S3_ne z2 z6 z7, S3_ne z2 z6 z7]
          simp only [mx_wr_ne z2]
  rw [e5]
  refine R.V0v kc_X2_understands_31 (by rfl) (c_goOn3 (tp := tp) (n := n) ht hn (Nat.zero_le n) rfl rfl rfl) (by omega) rfl ⟨Nat.le_refl _, Nat.le_refl _⟩ (fun M31 q31 => ?_)
  replace q31 := q31.symm
  rw [← hra] at q31
  subst q31
  refine R.b bk_X2_understands_34 ?_
  refine R.V0i kc_X2_understands_35 (by rfl) (c_X2_keyHere ht hn h0 h1 h2 gT.1 gT.2.2.2.2.2.1 hq'.1 hq'.2.1) (by omega) rfl ⟨Nat.le_refl _, Nat.le_refl _⟩ (fun x35 M35 q35 => ?_)
  obtain ⟨q35a, q35b, q35⟩ := q35
  replace q35 := q35.symm
  subst q35
  refine R.b bk_X2_understands_38 ?_
  refine R.c br_X2_understands_42 (And.intro (fun h42 => ?_) (fun h42 => ?_))
  · have hk3 : ra 3 = -2 ∧ c_key tp s q < 3 := by
      apply Classical.byContradiction
      intro e
      rw [q35b e] at h42
      exact absurd h42 (by decide)
    rw [q35a hk3]
    have hsl : s < n := by
      apply Nat.lt_of_le_of_ne hsn
      intro e
      have := gT.2.2.2.2.2.2.1
      rw [c_tok, if_pos e, hk3.1] at this
      exact absurd this (by decide)
    have hsq := hq'.2.2 hsl
    obtain ⟨ky, hky⟩ : ∃ ky, ky = c_key tp s q := ⟨_, rfl⟩
    rw [← hky]
    have hpre1 : TPre ra (up (tk0 tp n rm) 14 (nI ky)) q := gT.2.2.2.2.2.2.2.2.2.2 hsl
    obtain ⟨gT1, hqs1⟩ := T_go (tp := tp) hn hq'.2.1 h8 hpre1
    refine R.b bk_X2_understands_47 (And.intro (by rfl) ?_)
    show X 127 (S3 M ra (M 6) (M 7)) 53 [some (.ref 2), some (.ref 1), some (.int (nI n)), some (.ref 6), some (.int (nI ky))] [.int (nI ky), .ref (S3 M ra (M 6) (M 7) 2 (130 % 64)).toNatClampNeg]
    rw [show (S3 M ra (M 6) (M 7) 2 (130 % 64)).toNatClampNeg = 6 by rw [S3_2, show ra (130 % 64) = nI 6 from h2]; rfl]
    refine R.V1v kc_X2_understands_53 (by rfl) (c_X1_becomeNew (q := 6) rfl) (by omega) rfl ⟨Nat.le_refl _, Nat.le_refl _⟩ (fun M53 q53 => ?_)
    rw [S3_6, S3_d] at q53
    replace q53 := q53.symm
    subst q53
    refine R.b bk_X2_understands_56 ?_
    refine R.V0v kc_X2_understands_57 (by rfl) (c_goOn3 (tp := tp) (n := n) ht hn hq'.2.1 h0 h1 gT.2.2.2.2.2.1) (by omega) rfl ⟨Nat.le_refl _, Nat.le_refl _⟩ (fun M57 q57 => ?_)
    replace q57 := q57.symm
    subst q57
    refine R.b bk_X2_understands_60 ?_
    refine R.V3i kc_X2_understands_64 (by rfl) (((read_ok ht hn (show ky ≤ 2 by omega) 16).2 0 (by decide)) 0 0 _ _ _ (tk1 tp n rm ky) (t_s tp n q) (t_q tp n (t_s tp n q)) [] [] 0 [false] (n + 1) rfl ⟨⟨h0, h1, h2, gT1, rfl, rfl, rfl, fun j hj => absurd hj (Nat.not_lt_zero j)⟩, by omega, by simp only [List.length_nil]; omega, rfl, rfl, by decide, by decide⟩ (fun w V e => absurd e (by simp)) (fun _ => rfl)) (by omega) rfl ⟨Nat.le_refl _, Nat.le_refl _⟩ (fun x64 M64 q64 => ?_)
    have hRt : R_text tp kc n rm = E_run tp n (nI ky) (n + 1) true (tk1 tp n rm ky) [] [] 0 [false] (nts []) := by
      rw [R_text, if_pos ⟨hwd.mpr hk3.1, by rw [hky0]; exact hk3.2⟩, hky0, ← hky]
      rfl
    rw [← hRt] at q64
    rcases q64 with ⟨rfl, hF⟩ | ⟨rfl, hT8⟩
    · refine R.c br_X2_understands_67 (And.intro (fun h67 => ?_) (fun h67 => absurd rfl h67))
      refine R.b bk_X2_understands_82 ?_
      refine R.ri rt_X2_understands_83 rfl ⟨_, rfl, ?_⟩
      obtain ⟨r1, d1, st1, e1, e2⟩ := hF
      exact ⟨r1, d1, st1, e1, Or.inl ⟨rfl, e2⟩⟩
    · obtain ⟨r1, d1, st1, tk2, s2, q2, C1, at1, f1, W2, C2, b2, rfl, hR1, hs2, hf1, hl1, hrun, hstl, -, hnx⟩ := hT8
      have gT2 := hR1.2.2.2.1
      have hs2n : s2 ≤ n := gT2.2.2.1
      obtain ⟨f1, rfl⟩ : ∃ f', f1 = f' + 1 := ⟨f1 - 1, by omega⟩
      have hend := T_end hn h8 gT2
      refine R.c br_X2_understands_67 (And.intro (fun h67 => absurd h67 (by decide)) (fun h67 => ?_))
      refine R.b bk_X2_understands_70 (And.intro (by rfl) ?_)
      show X 127 (S3 M r1 d1 st1) 75 [some (.ref 2), some (.ref 1), some (.int (nI n)), some (.ref 6), some (.int (nI ky))] [.int (-1), .int (r1 3)]
      refine R.c br_X2_understands_75 (And.intro (fun h75 => ?_) (fun h75 => ?_))
      · refine R.b bk_X2_understands_82 ?_
        refine R.ri rt_X2_understands_83 rfl ⟨_, rfl, ?_⟩
        first
        | (have q1 : ¬ r1 3 = -1 := h75
           refine ⟨r1, d1, st1, rfl, Or.inl ⟨rfl, ?_⟩⟩
           have he : ¬ tk2 11 = 0 := fun e => q1 (hend.1.mpr (hend.2.mp e))
           rw [hrun, gT2.1, ← gT2.2.1]
           refine run_stop he (fun e => absurd e.2.2 (show ¬ 1 < 1 by decide)) ?_
           rcases hnx with e | e | e
           · exact Or.inl e
           · rcases T_lev hn h8 gT2 with ⟨e2, -⟩ | ⟨k, k1, k2, k3, -⟩
             · exact Or.inl e2
             · rw [k3] at e
               have := (nI_leI (b := 0) (by omega) (by decide)).mp e
               omega
           · exact Or.inr ⟨e.1, e.2.1⟩)
        | (have q1 : r1 3 = -1 := h75
           refine ⟨r1, d1, st1, rfl, Or.inr ⟨rfl, by rw [hky0]; omega, C1, at1, tk2 10, ?_, by simp only [List.length_nil] at hl1; omega, ?_, hR1.2.2.2.2.2.1, hR1.2.2.2.2.2.2.1, hR1.2.2.2.2.2.2.2⟩⟩
           · rw [hrun, run_end (hend.2.mpr (hend.1.mp q1)), if_pos (show (b2 :: [false].tail).length = 1 from rfl), hstl 0 (by decide)]
             rfl
           · rw [hky0, ← hky]; exact hR1.2.2.2.2.1)
      · refine R.b bk_X2_understands_78 ?_
        refine R.j gt_X2_understands_79 ?_
        refine R.ri rt_X2_understands_83 rfl ⟨_, rfl, ?_⟩
        first
        | (have q1 : ¬ r1 3 = -1 := h75
           refine ⟨r1, d1, st1, rfl, Or.inl ⟨rfl, ?_⟩⟩
           have he : ¬ tk2 11 = 0 := fun e => q1 (hend.1.mpr (hend.2.mp e))
           rw [hrun, gT2.1, ← gT2.2.1]
           refine run_stop he (fun e => absurd e.2.2 (show ¬ 1 < 1 by decide)) ?_
           rcases hnx with e | e | e
           · exact Or.inl e
           · rcases T_lev hn h8 gT2 with ⟨e2, -⟩ | ⟨k, k1, k2, k3, -⟩
             · exact Or.inl e2
             · rw [k3] at e
               have := (nI_leI (b := 0) (by omega) (by decide)).mp e
               omega
           · exact Or.inr ⟨e.1, e.2.1⟩)
        | (have q1 : r1 3 = -1 := h75
           refine ⟨r1, d1, st1, rfl, Or.inr ⟨rfl, by rw [hky0]; omega, C1, at1, tk2 10, ?_, by simp only [List.length_nil] at hl1; omega, ?_, hR1.2.2.2.2.2.1, hR1.2.2.2.2.2.2.1, hR1.2.2.2.2.2.2.2⟩⟩
           · rw [hrun, run_end (hend.2.mpr (hend.1.mp q1)), if_pos (show (b2 :: [false].tail).length = 1 from rfl), hstl 0 (by decide)]
             rfl
           · rw [hky0, ← hky]; exact hR1.2.2.2.2.1)
  · refine R.b bk_X2_understands_45 ?_
    refine R.ri rt_X2_understands_46 rfl ⟨_, rfl, ?_⟩
    have hno : ¬ (ra 3 = -2 ∧ c_key tp s q < 3) := by
      intro e
      rw [q35a e] at h42
      exact absurd (nI_pos' (by omega)) h42
    refine ⟨ra, M 6, M 7, rfl, Or.inl ⟨rfl, ?_⟩⟩
    rw [R_text, if_neg (by rw [hwd, hky0]; exact hno), gT.1, gT.2.1]
