/-! text of the model -/
theorem E_run_len {tp : Rw} {n : Nat} {key : Int32} (hn : n ≤ 96) : ∀ (f : Nat) (wants : Bool) (tk : Rw) (W C : List Int32) (at_ : Nat) (T : List Bool) (k s q : Nat), TKV n tk s q → s ≤ n → W.length + C.length + 1 ≤ s → ∀ C' n', (E_run tp n key f wants tk W C at_ T k).2 = some (C', n') → C'.length ≤ n := by
  intro f
  induction f with
  | zero =>
    intro wants tk W C at_ T k s q hT hsn hb C' n' h
    rw [E_run] at h
    exact absurd h (by simp)
  | succ f ih =>
    intro wants tk W C at_ T k s q hT hsn hb C' n' h
    obtain ⟨s1, q1, g1, g2, g3⟩ := TKV_nxt (tp := tp) hn hT
    have hlt : ¬ tk 11 = 0 → s < q := fun h0 => hT.2.2.2.2.1 (Nat.lt_of_le_of_ne hsn (fun e => h0 (hT.2.2.2.2.2.mpr e)))
    cases wants with
    | true =>
      rw [E_run] at h
      split at h
      · rename_i hc
        have hq := hlt (fun e => absurd (hc.1.symm.trans e) (by decide))
        exact ih true _ _ _ _ _ _ s1 q1 g3 g2 (by simp only [List.length_cons]; omega) C' n' h
      · split at h
        · rename_i hc
          have hq := hlt (fun e => absurd (hc.1.symm.trans e) (by decide))
          exact ih true _ _ _ _ _ _ s1 q1 g3 g2 (by simp only [List.length_cons]; omega) C' n' h
        · split at h
          · rename_i hc
            have hq := hlt (fun e => by
              rcases hc with hc | hc
              · exact absurd (hc.symm.trans e) (by decide)
              · exact absurd (hc.1.symm.trans e) (by decide))
            have hl := stl_len 6 W (f_part key tk :: C)
            simp only [List.length_cons] at hl
            exact ih false _ _ _ _ _ _ s1 q1 g3 g2 (by omega) C' n' h
          · exact absurd h (by simp)
    | false =>
      rw [E_run] at h
      split at h
      · have hl := stl_len 0 W C
        split at h
        · obtain ⟨rfl, -⟩ := Prod.mk.inj (Option.some.inj h)
          omega
        · exact absurd h (by simp)
      · rename_i h0
        have hq := hlt h0
        split at h
        · have hl := stl_len 0 W C
          have hl6 := stl_len 6 (stl 0 W C).1.tail (stl 0 W C).2
          rw [List.length_tail] at hl6
          exact ih false _ _ _ _ _ _ s1 q1 g3 g2 (by omega) C' n' h
        · split at h
          · exact absurd h (by simp)
          · have hl := stl_len (f_rank (E_sg tk)) W C
            exact ih true _ _ _ _ _ _ s1 q1 g3 g2 (by simp only [List.length_cons]; omega) C' n' h
theorem TKV_go {tp : Rw} {n p : Nat} {tk : Rw} (hp : p ≤ n) (h9 : tk 9 = nI p) (hn : n ≤ 96) : nxt tp n tk = G_go tp n tk (t_s tp n p) ∧ TKV n (nxt tp n tk) (t_s tp n p) (t_q tp n (t_s tp n p)) ∧ p ≤ t_s tp n p ∧ t_s tp n p ≤ n := by
  have hw := whl_ge (isB tp n) (n - p) p
  have hs : p ≤ t_s tp n p ∧ t_s tp n p ≤ n := by
    unfold t_s
    omega
  obtain ⟨g1, g2, g3⟩ := t_q_ok tp hs.2
  have e : nxt tp n tk = G_go tp n tk (t_s tp n p) := by
    unfold nxt
    rw [h9, cN_nI (by omega)]
  refine ⟨e, ?_, hs⟩
  rw [e]
  exact ⟨rfl, rfl, g1, g2, g3, t_t_0 tp (tk 13)⟩
theorem G_go_8 (tp : Rw) (n : Nat) (r : Rw) (s : Nat) : G_go tp n r s 8 = r 8 := rfl
theorem G_go_14 (tp : Rw) (n : Nat) (r : Rw) (s : Nat) : G_go tp n r s 14 = r 14 := rfl
theorem sW_len {tp kc : Rw} {s q at0 ln : Nat} (h : sW tp kc s q at0 ln = true) : q - s = ln := of_decide_eq_true (sm_b ln h)
theorem f_key_q {tp kc : Rw} {s q : Nat} (h : f_key tp kc s q < 3) : 4 ≤ q := by
  unfold f_key at h
  split at h
  · have := sW_len ‹_›
    omega
  · split at h
    · have := sW_len ‹_›
      omega
    · split at h
      · have := sW_len ‹_›
        omega
      · exact absurd h (by decide)
/-- the tape read as a text: where the reading ends; the key, the code (its last step first), the atoms -/
def tk0 (tp : Rw) (n : Nat) (r : Rw) : Rw := nxt tp n (up (up r 9 0) 13 (-1))
def ky0 (tp kc : Rw) (n : Nat) : Nat := f_key tp kc (t_s tp n 0) (t_q tp n (t_s tp n 0))
def tk1 (tp : Rw) (n : Nat) (r : Rw) (ky : Nat) : Rw := nxt tp n (up (tk0 tp n r) 14 (nI ky))
def R_text (tp kc : Rw) (n : Nat) (r : Rw) : Int32 × Option (List Int32 × Nat) := if tk0 tp n r 11 = 1 ∧ ky0 tp kc n < 3 then E_run tp n (nI (ky0 tp kc n)) (n + 1) true (tk1 tp n r (ky0 tp kc n)) [] [] 0 [false] 0 else (tk0 tp n r 10, none)
def A_text (a : Rw) (T ky : Nat) (C : List Int32) (at_ : Nat) : Rw := fun j => if j = 6 then nI (T + 1) else if j = 55 + 2 * T then nI (1000 * ky + C.length) else if j = 56 + 2 * T then nI at_ else if 83 + 96 * T ≤ j ∧ j < 83 + 96 * T + C.length then C.getD (C.length - 1 - (j - (83 + 96 * T))) 0 else a j
def scr (M M1 : Mm) : Prop := M1 103 8 = 0 ∧ (∀ j, j ≠ 8 → ¬ (9 ≤ j ∧ j ≤ 14) → j ≠ 18 → j ≠ 19 → j ≠ 21 → M1 103 j = M 103 j) ∧ ∀ q, q ≠ 103 → q ≠ 104 → q ≠ 113 → q ≠ 114 → q ≠ 115 → M1 q = M q
def T_post (M : Mm) (T : Nat) (R : Int32 × Option (List Int32 × Nat)) (ky : Nat) (x : Int32) (M1 : Mm) : Prop := scr M M1 ∧ (R.2 = none → x = -100 - R.1 ∧ M1 104 = M 104) ∧ (∀ C at_, R.2 = some (C, at_) → (T = 14 → x = (-1000000003) ∧ M1 104 = M 104) ∧ (T < 14 → x = nI T ∧ M1 104 = A_text (M 104) T ky C at_))
theorem c_X8_text {l : Launch} {G : Gt} {M : Mm} {n T : Nat} (hn : n ≤ 96) (h8 : M 103 8 = nI n) (hT : T ≤ 14) (h6 : M 104 6 = nI T) (hk0 : M 112 0 = nI 0) (hk1 : M 112 1 = nI 5) (hk2 : M 112 2 = nI 9) (hk3 : M 112 3 = nI 13) : Runs l G true dm_X8_text 4 127 [.ref 103] M 127 (Pi (fun x M1 => T_post M T (R_text (M 110) (M 111) n (M 103)) (ky0 (M 110) (M 111) n) x M1)) := by
  refine mx_run ow_X8_text rfl rfl (fun dp X hdp R => ?_)
  have h33 : ∀ (M2 : Mm) (v : Int32), (∀ j, j ≠ 8 → ¬ (9 ≤ j ∧ j ≤ 14) → j ≠ 18 → j ≠ 19 → j ≠ 21 → M2 103 j = M 103 j) → (∀ q, q ≠ 103 → q ≠ 113 → q ≠ 114 → q ≠ 115 → M2 q = M q) → M2 103 10 = (R_text (M 110) (M 111) n (M 103)).1 → v = bI (R_text (M 110) (M 111) n (M 103)).2.isSome → (∀ C at_, (R_text (M 110) (M 111) n (M 103)).2 = some (C, at_) → M2 103 18 = nI C.length ∧ M2 103 19 = nI at_ ∧ M2 103 14 = nI (ky0 (M 110) (M 111) n) ∧ stR (M2 113) C ∧ C.length ≤ 96 ∧ (ky0 (M 110) (M 111) n) < 3) → X 127 M2 33 [some (.ref 103), none, none, none] [.int v] := by
    intro M2 v f1 f2 f3 f4 f5
    have hscr : ∀ r, scr M (mx_rw (mx_wr M2 103 8 0) 104 r) := by
      intro r
      refine ⟨by rw [mx_rw_ne (by decide)]; rfl, fun j h1 h2 h3 h4 h5 => ?_, fun q h1 h2 h3 h4 h5 => ?_⟩
      · rw [mx_rw_ne (by decide), mx_wr_up, mx_rw_at, up_ne h1]; exact f1 j h1 h2 h3 h4 h5
      · rw [mx_rw_ne h2, mx_wr_up, mx_rw_ne h1]; exact f2 q h1 h3 h4 h5
    have hid : mx_rw (mx_wr M2 103 8 0) 104 (M 104) = (mx_wr M2 103 8 0) := by
      have e : (mx_wr M2 103 8 0) 104 = M 104 := by rw [mx_wr_up, mx_rw_ne (by decide)]; exact f2 104 (by decide) (by decide) (by decide) (by decide)
      rw [← e, mx_rw_id]
    have h104 : M2 104 = M 104 := f2 104 (by decide) (by decide) (by decide) (by decide)
    refine R.b bk_X8_text_33 (And.intro (by first | rfl | assumption) (And.intro rfl (And.intro rfl ?_)))
    refine R.c br_X8_text_40 (And.intro (fun h40 => ?_) (fun h40 => ?_))
    · have hs : (R_text (M 110) (M 111) n (M 103)).2.isSome = true := bI_1 (by rw [← f4]; exact h40)
      obtain ⟨⟨C, at_⟩, hR⟩ := Option.isSome_iff_exists.mp hs
      obtain ⟨k1, k2, k3, k4, k5, k6⟩ := f5 C at_ hR
      refine R.b bk_X8_text_51 (And.intro (by first | rfl | assumption) (And.intro (by first | rfl | assumption) (And.intro (by exact vp_lit rfl) ?_)))
      refine R.c br_X8_text_60 (And.intro (fun h60 => ?_) (fun h60 => ?_))
      · have hM3 : (mx_wr M2 103 8 0) 104 = M 104 := by rw [mx_wr_up, mx_rw_ne (by decide)]; exact h104
        have ht : (mx_wr M2 103 8 0) 104 6 = nI T := by rw [hM3]; exact h6
        have hT14 : T < 14 := by
          rcases Nat.lt_or_ge T 14 with q | q
          · exact q
          · exact absurd (show M2 104 6 = 14 by rw [h104, h6, show T = 14 by omega]; rfl) h60
        have hA : ∀ (fu i : Nat), C.length - i = fu → i ≤ C.length → X 127 (mx_rw (mx_wr M2 103 8 0) 104 (f_cp (M2 113) (up (up (M 104) (55 + 2 * T) (nI (1000 * (ky0 (M 110) (M 111) n) + C.length))) (56 + 2 * T) (nI at_)) 0 (83 + 96 * T) i)) 117 [some (.ref 103), some (.int v), some (.int (nI T)), some (.int (nI i))] [] := by
          intro fu
          induction fu with
          | zero =>
            intro i hfu hi
            have hiN : i = C.length := by omega
            refine R.b bk_X8_text_117 (And.intro (by first | rfl | assumption) ?_)
            refine R.c br_X8_text_122 (And.intro (fun h122 => ?_) (fun h122 => absurd (show M2 103 18 ≤ nI i by rw [k1, hiN]; exact nI_le (Nat.le_refl _) (by omega)) h122))
            refine R.b bk_X8_text_151 (And.intro (by first | rfl | assumption) (And.intro (by first | rfl | assumption) (And.intro (by exact vp_lit rfl) (And.intro (by first | rfl | assumption) (And.intro (by exact vp_lit rfl) ?_)))))
            refine R.ri rt_X8_text_163 rfl ⟨_, rfl, ?_⟩
            have eF : mx_wr (mx_rw (mx_wr M2 103 8 0) 104 (f_cp (M2 113) (up (up (M 104) (55 + 2 * T) (nI (1000 * (ky0 (M 110) (M 111) n) + C.length))) (56 + 2 * T) (nI at_)) 0 (83 + 96 * T) i)) 104 6 ((mx_rw (mx_wr M2 103 8 0) 104 (f_cp (M2 113) (up (up (M 104) (55 + 2 * T) (nI (1000 * (ky0 (M 110) (M 111) n) + C.length))) (56 + 2 * T) (nI at_)) 0 (83 + 96 * T) i)) 104 6 + 1) = mx_rw (mx_wr M2 103 8 0) 104 (up (f_cp (M2 113) (up (up (M 104) (55 + 2 * T) (nI (1000 * (ky0 (M 110) (M 111) n) + C.length))) (56 + 2 * T) (nI at_)) 0 (83 + 96 * T) i) 6 (nI (T + 1))) := by
              rw [mx_wr_up, mx_rw_rw, mx_rw_at]
              rw [show f_cp (M2 113) (up (up (M 104) (55 + 2 * T) (nI (1000 * (ky0 (M 110) (M 111) n) + C.length))) (56 + 2 * T) (nI at_)) 0 (83 + 96 * T) i 6 = nI T by rw [f_cp, if_neg (by omega), up_ne (by omega), up_ne (by omega)]; exact h6, nI_1]
            refine Eq.mp (congrArg (fun m => T_post M T (R_text (M 110) (M 111) n (M 103)) (ky0 (M 110) (M 111) n) (nI T) m) eF.symm) ?_
            refine ⟨hscr _, fun h => absurd (h.symm.trans hR) (by simp), fun C1 at1 hR1 => ⟨fun h => absurd h (by omega), fun _ => ⟨rfl, ?_⟩⟩⟩
            obtain ⟨rfl, rfl⟩ := Prod.mk.inj (Option.some.inj (hR1.symm.trans hR))
            rw [mx_rw_at, hiN]
            funext j
            unfold A_text
            by_cases e6 : j = 6
            · subst e6; rw [up_at, if_pos rfl]
            · rw [up_ne e6, if_neg e6, f_cp]
              by_cases hj : 83 + 96 * T ≤ j ∧ j < 83 + 96 * T + C1.length
              · rw [if_pos hj, if_neg (by omega), if_neg (by omega), if_pos hj, Nat.zero_add]
                exact k4 _ (by omega)
              · rw [if_neg hj, if_neg hj]
                simp only [up]
                grind
          | succ fu ih =>
            intro i hfu hi
            have hlt : i < C.length := by omega
            refine R.b bk_X8_text_117 (And.intro (by first | rfl | assumption) ?_)
            refine R.c br_X8_text_122 (And.intro (fun h122 => absurd (show M2 103 18 ≤ nI i from h122) (by rw [k1]; exact nI_ge hlt (by omega))) (fun h122 => ?_))
            refine R.b bk_X8_text_125 (And.intro (by first | rfl | assumption) (And.intro (by first | rfl | assumption) (And.intro (by first | rfl | assumption) (And.intro (vp_in_nI (show i < 96 by omega) (by decide)) (And.intro (by first | rfl | assumption) (And.intro (vp_n (e_83 T i) (show 83 + 96 * T + i < 1427 by omega) (by decide)) ?_))))))
            refine R.j gt_X8_text_148 ?_
            rw [nI_inc]
            have hx := ih (i + 1) (by omega) (by omega)
            have e : mx_wr (mx_rw (mx_wr M2 103 8 0) 104 (f_cp (M2 113) (up (up (M 104) (55 + 2 * T) (nI (1000 * (ky0 (M 110) (M 111) n) + C.length))) (56 + 2 * T) (nI at_)) 0 (83 + 96 * T) i)) 104 ((83 : Int32) + 96 * nI T + nI i).toNatClampNeg (M2 113 (nI i).toNatClampNeg) = (mx_rw (mx_wr M2 103 8 0) 104 (f_cp (M2 113) (up (up (M 104) (55 + 2 * T) (nI (1000 * (ky0 (M 110) (M 111) n) + C.length))) (56 + 2 * T) (nI at_)) 0 (83 + 96 * T) (i + 1))) := by
              rw [mx_wr_up, mx_rw_rw, mx_rw_at, cl_n (e_83 T i) (by omega), nI_clamp (show i < 2 ^ 31 by omega), ← f_cp_up, Nat.zero_add]
            rw [← e] at hx
            exact hx
        have e : ∀ t1 k1 c1 a1, t1 = nI T → k1 = nI (ky0 (M 110) (M 111) n) → c1 = nI C.length → a1 = nI at_ → mx_wr (mx_wr (mx_wr M2 103 8 0) 104 ((55 : Int32) + 2 * t1).toNatClampNeg (1000 * k1 + c1)) 104 ((55 : Int32) + 2 * t1 + 1).toNatClampNeg a1 = (mx_rw (mx_wr M2 103 8 0) 104 (f_cp (M2 113) (up (up (M 104) (55 + 2 * T) (nI (1000 * (ky0 (M 110) (M 111) n) + C.length))) (56 + 2 * T) (nI at_)) 0 (83 + 96 * T) 0)) := by
          intro t1 k1 c1 a1 h1 h2 h3 h4
          subst h1
          subst h2
          subst h3
          subst h4
          rw [f_cp_0, mx_wr_up (mx_wr M2 103 8 0), mx_wr_up, mx_rw_rw, mx_rw_at, cl_n (e_55 T) (by omega), cl_n (e_56 T) (by omega), show (1000 : Int32) * nI (ky0 (M 110) (M 111) n) + nI C.length = nI (1000 * (ky0 (M 110) (M 111) n) + C.length) by rw [show (1000 : Int32) = nI 1000 from rfl, pk_mul, nI_add], hM3]
        refine R.b bk_X8_text_66 (And.intro (by first | rfl | assumption) (And.intro (by first | rfl | assumption) (And.intro (vp_lit rfl) (And.intro (by first | rfl | assumption) (And.intro (by first | rfl | assumption) (And.intro (by first | rfl | assumption) (And.intro (by first | rfl | assumption) (And.intro (vp_n (show (55 : Int32) + 2 * (mx_wr M2 103 8 0) 104 6 = nI (55 + 2 * T) by rw [ht]; exact e_55 T) (show 55 + 2 * T < 1427 by omega) (by decide)) (And.intro (by first | rfl | assumption) (And.intro (by first | rfl | assumption) (And.intro (by first | rfl | assumption) (And.intro (vp_n (show (55 : Int32) + 2 * (mx_wr M2 103 8 0) 104 6 + 1 = nI (56 + 2 * T) by rw [ht]; exact e_56 T) (show 56 + 2 * T < 1427 by omega) (by decide)) ?_))))))))))))
        have hx := hA C.length 0 rfl (Nat.zero_le _)
        rw [← e ((mx_wr M2 103 8 0) 104 6) ((mx_wr M2 103 8 0) 103 14) ((mx_wr M2 103 8 0) 103 18) ((mx_wr M2 103 8 0) 103 19) ht k3 k1 k2, ← ht] at hx
        exact hx
      · refine R.b bk_X8_text_63 ?_
        refine R.ri rt_X8_text_65 rfl ⟨_, rfl, ?_⟩
        refine Eq.mp (congrArg (fun m => T_post M T (R_text (M 110) (M 111) n (M 103)) (ky0 (M 110) (M 111) n) _ m) hid) ?_
        refine ⟨hscr _, fun h => absurd (h.symm.trans hR) (by simp), fun C1 at1 hR1 => ⟨fun _ => ⟨rfl, mx_rw_at _ _ _⟩, fun hlt => ?_⟩⟩
        exfalso
        have q1 : M2 104 6 = 14 := h60
        rw [h104, h6, show (14 : Int32) = nI 14 from rfl, nI_eq (by omega) (by decide)] at q1
        omega
    · refine R.b bk_X8_text_43 (And.intro (by first | rfl | assumption) ?_)
      refine R.ri rt_X8_text_50 rfl ⟨_, rfl, ?_⟩
      have hf : (R_text (M 110) (M 111) n (M 103)).2.isSome = false := bI_0 (by rw [← f4]; exact h40)
      have hn : (R_text (M 110) (M 111) n (M 103)).2 = none := Option.not_isSome_iff_eq_none.mp (by rw [hf]; decide)
      refine Eq.mp (congrArg (fun m => T_post M T (R_text (M 110) (M 111) n (M 103)) (ky0 (M 110) (M 111) n) _ m) hid) ?_
      refine ⟨hscr _, fun _ => ⟨?_, mx_rw_at _ _ _⟩, fun C at_ h => absurd (hn.symm.trans h) (by simp)⟩
      rw [← f3]
      rfl
  obtain ⟨t1, t2, t3, t4⟩ := TKV_go (tp := M 110) (tk := (up (up (M 103) 9 0) 13 (-1))) (Nat.zero_le n) rfl hn
  have h0e : nxt (M 110) n (up (up (M 103) 9 0) 13 (-1)) = (tk0 (M 110) n (M 103)) := rfl
  rw [h0e] at t1 t2
  have hn8 : (tk0 (M 110) n (M 103)) 8 = nI n := by rw [t1]; exact h8
  refine R.b bk_X8_text_0 (And.intro (by first | rfl | assumption) (And.intro rfl (And.intro rfl (And.intro (by first | rfl | assumption) (And.intro rfl (And.intro rfl ?_))))))
  refine Eq.mp (congrArg (fun m => X 127 m 11 [some (.ref 103), none, none, none] [.ref 103]) (show mx_wr (mx_wr M 103 9 0) 103 13 (-1) = (S4 M (up (up (M 103) 9 0) 13 (-1)) (M 113) (M 114) (M 115)) by rw [← S4_a, ← S4_a, S4_id]).symm) ?_
  refine R.V0v kc_X8_text_11 (by first | rfl | assumption) (c_X8_go (n := n) (p := 0) hn (Nat.zero_le n) h8 rfl) (by omega) rfl ⟨Nat.le_refl _, Nat.le_refl _⟩ (fun M11 q11 => ?_)
  have e11 : M11 = (S4 M (tk0 (M 110) n (M 103)) (M 113) (M 114) (M 115)) := by
    refine q11.trans ((S4_103 _ _ _ _ _ _).trans ?_)
    rw [t1]
    rfl
  clear q11
  subst e11
  refine R.b bk_X8_text_14 ?_
  refine R.V0i kc_X8_text_15 (by first | rfl | assumption) (c_X8_takesKey (a := (tk0 (M 110) n (M 103))) hn hn8 t2 hk0 hk1 hk2 hk3) (by omega) rfl ⟨Nat.le_refl _, Nat.le_refl _⟩ (fun x15 M15 q15 => ?_)
  have hky : f_key (M 110) (M 111) (t_s (M 110) n 0) (t_q (M 110) n (t_s (M 110) n 0)) = (ky0 (M 110) (M 111) n) := rfl
  rw [hky] at q15
  obtain ⟨u15, v15⟩ := q15
  refine R.c br_X8_text_18 (And.intro (fun h18 => ?_) (fun h18 => ?_))
  · refine R.b bk_X8_text_32 ?_
    first
    | (have hc : ¬ ((tk0 (M 110) n (M 103)) 11 = 1 ∧ (ky0 (M 110) (M 111) n) < 3) := fun hc => absurd h18 (by rw [(v15 hc).1]; decide)
       obtain ⟨-, e⟩ := u15 hc
       subst e
       have hRT : (R_text (M 110) (M 111) n (M 103)) = ((tk0 (M 110) n (M 103)) 10, none) := if_neg hc
       refine h33 _ _ (fun j h1 h2 h3 h4 h5 => ?_) (fun q h1 h2 h3 h4 => ?_) ?_ ?_ (fun C at_ h => ?_)
       · show (tk0 (M 110) n (M 103)) j = M 103 j
         rw [t1]
         simp only [G_go, up]
         rw [if_neg (by omega), if_neg (by omega), if_neg (by omega), if_neg (by omega), if_neg (by omega), if_neg (by omega), if_neg (by omega)]
       · simp only [S4, mx_rw, if_neg h1, if_neg h2, if_neg h3, if_neg h4]
       · rw [hRT]; rfl
       · rw [hRT]; rfl
       · rw [hRT] at h; exact absurd h (by simp))
    | (obtain ⟨tk, wl, cl, at1, c1, w1, t5, e, r1, r2, r3⟩ := q22
       subst e
       refine h33 _ _ (fun j h1 h2 h3 h4 h5 => ?_) (fun q h1 h2 h3 h4 => ?_) ?_ ?_ (fun C at_ h => ?_)
       · show rowP (tk1 (M 110) n (M 103) (ky0 (M 110) (M 111) n)) tk wl cl at1 j = M 103 j
         rw [rowP, if_neg (by omega), if_neg h3, if_neg h4, if_neg h5, u1, G_go]
         rw [if_neg (by omega), if_neg (by omega), if_neg (by omega), if_neg (by omega), if_neg (by omega), up_ne (by omega), t1]
         simp only [G_go, up]
         rw [if_neg (by omega), if_neg (by omega), if_neg (by omega), if_neg (by omega), if_neg (by omega), if_neg (by omega), if_neg (by omega)]
       · simp only [S4, mx_rw, if_neg h1, if_neg h2, if_neg h3, if_neg h4]
       · rw [hRT]; exact r1
       · rw [hRT, ← r2]
         first | exact h25.symm | (rcases (show x22 = 0 ∨ x22 = 1 by rw [r2]; unfold bI; split <;> simp) with q | q; exact absurd q h25; exact q.symm)
       · rw [hRT] at h
         obtain ⟨z1, z2, z3⟩ := r3 C at_ h
         subst z1
         subst z2
         refine ⟨rfl, rfl, ?_, z3, Nat.le_trans (E_run_len hn _ _ _ _ _ _ _ _ _ _ u2 u4 (by show 0 + 0 + 1 ≤ _; omega) C _ h) hn, hc.2⟩
         show (tk1 (M 110) n (M 103) (ky0 (M 110) (M 111) n)) 14 = nI (ky0 (M 110) (M 111) n)
         rw [u1, G_go_14, up_at])
  · have hc : ((tk0 (M 110) n (M 103)) 11 = 1 ∧ (ky0 (M 110) (M 111) n) < 3) := Classical.byContradiction (fun hc => h18 (u15 hc).1)
    obtain ⟨-, e⟩ := v15 hc
    replace e : M15 = (S4 M (tk1 (M 110) n (M 103) (ky0 (M 110) (M 111) n)) (M 113) (M 114) (M 115)) := e
    subst e
    have hRT : (R_text (M 110) (M 111) n (M 103)) = E_run (M 110) n (nI (ky0 (M 110) (M 111) n)) (n + 1) true (tk1 (M 110) n (M 103) (ky0 (M 110) (M 111) n)) [] [] 0 [false] 0 := if_pos hc
    obtain ⟨u1, u2, u3, u4⟩ := TKV_go (tp := M 110) (tk := up (tk0 (M 110) n (M 103)) 14 (nI (ky0 (M 110) (M 111) n))) t2.2.2.2.1 (by rw [up_ne (by decide)]; exact t2.2.1) hn
    have h1e : nxt (M 110) n (up (tk0 (M 110) n (M 103)) 14 (nI (ky0 (M 110) (M 111) n))) = (tk1 (M 110) n (M 103) (ky0 (M 110) (M 111) n)) := rfl
    rw [h1e] at u1 u2
    have hq4 : 4 ≤ t_q (M 110) n (t_s (M 110) n 0) := f_key_q (tp := M 110) (kc := M 111) (s := t_s (M 110) n 0) (by rw [hky]; exact hc.2)
    refine R.b bk_X8_text_21 ?_
    refine R.V0i kc_X8_text_22 (by first | rfl | assumption) (c_X8_takesE (a := (tk1 (M 110) n (M 103) (ky0 (M 110) (M 111) n))) hn (by rw [u1, G_go_8, up_ne (by decide)]; exact hn8) u2 (by omega) u4) (by omega) rfl ⟨Nat.le_refl _, Nat.le_refl _⟩ (fun x22 M22 q22 => ?_)
    replace q22 : E_post M (tk1 (M 110) n (M 103) (ky0 (M 110) (M 111) n)) (E_run (M 110) n ((tk1 (M 110) n (M 103) (ky0 (M 110) (M 111) n)) 14) (n + 1) true (tk1 (M 110) n (M 103) (ky0 (M 110) (M 111) n)) [] [] 0 [false] 0) x22 M22 := q22
    rw [show (tk1 (M 110) n (M 103) (ky0 (M 110) (M 111) n)) 14 = nI (ky0 (M 110) (M 111) n) by rw [u1, G_go_14, up_at]] at q22
    refine R.c br_X8_text_25 (And.intro (fun h25 => ?_) (fun h25 => ?_))
    · refine R.b bk_X8_text_32 ?_
      first
      | (have hc : ¬ ((tk0 (M 110) n (M 103)) 11 = 1 ∧ (ky0 (M 110) (M 111) n) < 3) := fun hc => absurd h18 (by rw [(v15 hc).1]; decide)
         obtain ⟨-, e⟩ := u15 hc
         subst e
         have hRT : (R_text (M 110) (M 111) n (M 103)) = ((tk0 (M 110) n (M 103)) 10, none) := if_neg hc
         refine h33 _ _ (fun j h1 h2 h3 h4 h5 => ?_) (fun q h1 h2 h3 h4 => ?_) ?_ ?_ (fun C at_ h => ?_)
         · show (tk0 (M 110) n (M 103)) j = M 103 j
           rw [t1]
           simp only [G_go, up]
           rw [if_neg (by omega), if_neg (by omega), if_neg (by omega), if_neg (by omega), if_neg (by omega), if_neg (by omega), if_neg (by omega)]
         · simp only [S4, mx_rw, if_neg h1, if_neg h2, if_neg h3, if_neg h4]
         · rw [hRT]; rfl
         · rw [hRT]; rfl
         · rw [hRT] at h; exact absurd h (by simp))
      | (obtain ⟨tk, wl, cl, at1, c1, w1, t5, e, r1, r2, r3⟩ := q22
         subst e
         refine h33 _ _ (fun j h1 h2 h3 h4 h5 => ?_) (fun q h1 h2 h3 h4 => ?_) ?_ ?_ (fun C at_ h => ?_)
         · show rowP (tk1 (M 110) n (M 103) (ky0 (M 110) (M 111) n)) tk wl cl at1 j = M 103 j
           rw [rowP, if_neg (by omega), if_neg h3, if_neg h4, if_neg h5, u1, G_go]
           rw [if_neg (by omega), if_neg (by omega), if_neg (by omega), if_neg (by omega), if_neg (by omega), up_ne (by omega), t1]
           simp only [G_go, up]
           rw [if_neg (by omega), if_neg (by omega), if_neg (by omega), if_neg (by omega), if_neg (by omega), if_neg (by omega), if_neg (by omega)]
         · simp only [S4, mx_rw, if_neg h1, if_neg h2, if_neg h3, if_neg h4]
         · rw [hRT]; exact r1
         · rw [hRT, ← r2]
           first | exact h25.symm | (rcases (show x22 = 0 ∨ x22 = 1 by rw [r2]; unfold bI; split <;> simp) with q | q; exact absurd q h25; exact q.symm)
         · rw [hRT] at h
           obtain ⟨z1, z2, z3⟩ := r3 C at_ h
           subst z1
           subst z2
           refine ⟨rfl, rfl, ?_, z3, Nat.le_trans (E_run_len hn _ _ _ _ _ _ _ _ _ _ u2 u4 (by show 0 + 0 + 1 ≤ _; omega) C _ h) hn, hc.2⟩
           show (tk1 (M 110) n (M 103) (ky0 (M 110) (M 111) n)) 14 = nI (ky0 (M 110) (M 111) n)
           rw [u1, G_go_14, up_at])
    · refine R.b bk_X8_text_28 ?_
      refine R.j gt_X8_text_29 ?_
      first
      | (have hc : ¬ ((tk0 (M 110) n (M 103)) 11 = 1 ∧ (ky0 (M 110) (M 111) n) < 3) := fun hc => absurd h18 (by rw [(v15 hc).1]; decide)
         obtain ⟨-, e⟩ := u15 hc
         subst e
         have hRT : (R_text (M 110) (M 111) n (M 103)) = ((tk0 (M 110) n (M 103)) 10, none) := if_neg hc
         refine h33 _ _ (fun j h1 h2 h3 h4 h5 => ?_) (fun q h1 h2 h3 h4 => ?_) ?_ ?_ (fun C at_ h => ?_)
         · show (tk0 (M 110) n (M 103)) j = M 103 j
           rw [t1]
           simp only [G_go, up]
           rw [if_neg (by omega), if_neg (by omega), if_neg (by omega), if_neg (by omega), if_neg (by omega), if_neg (by omega), if_neg (by omega)]
         · simp only [S4, mx_rw, if_neg h1, if_neg h2, if_neg h3, if_neg h4]
         · rw [hRT]; rfl
         · rw [hRT]; rfl
         · rw [hRT] at h; exact absurd h (by simp))
      | (obtain ⟨tk, wl, cl, at1, c1, w1, t5, e, r1, r2, r3⟩ := q22
         subst e
         refine h33 _ _ (fun j h1 h2 h3 h4 h5 => ?_) (fun q h1 h2 h3 h4 => ?_) ?_ ?_ (fun C at_ h => ?_)
         · show rowP (tk1 (M 110) n (M 103) (ky0 (M 110) (M 111) n)) tk wl cl at1 j = M 103 j
           rw [rowP, if_neg (by omega), if_neg h3, if_neg h4, if_neg h5, u1, G_go]
           rw [if_neg (by omega), if_neg (by omega), if_neg (by omega), if_neg (by omega), if_neg (by omega), up_ne (by omega), t1]
           simp only [G_go, up]
           rw [if_neg (by omega), if_neg (by omega), if_neg (by omega), if_neg (by omega), if_neg (by omega), if_neg (by omega), if_neg (by omega)]
         · simp only [S4, mx_rw, if_neg h1, if_neg h2, if_neg h3, if_neg h4]
         · rw [hRT]; exact r1
         · rw [hRT, ← r2]
           first | exact h25.symm | (rcases (show x22 = 0 ∨ x22 = 1 by rw [r2]; unfold bI; split <;> simp) with q | q; exact absurd q h25; exact q.symm)
         · rw [hRT] at h
           obtain ⟨z1, z2, z3⟩ := r3 C at_ h
           subst z1
           subst z2
           refine ⟨rfl, rfl, ?_, z3, Nat.le_trans (E_run_len hn _ _ _ _ _ _ _ _ _ _ u2 u4 (by show 0 + 0 + 1 ≤ _; omega) C _ h) hn, hc.2⟩
           show (tk1 (M 110) n (M 103) (ky0 (M 110) (M 111) n)) 14 = nI (ky0 (M 110) (M 111) n)
           rw [u1, G_go_14, up_at])
