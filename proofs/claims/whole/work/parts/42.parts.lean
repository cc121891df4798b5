/-! nots open; parts -/
def nts : List Int32 → Nat
  | [] => 0
  | x :: W => nts W + (if x = -10 then 1 else 0)
def ntR (w : Rw) : Nat → Nat
  | 0 => 0
  | k + 1 => ntR w k + (if w k = -10 then 1 else 0)
theorem ntR_eq {w : Rw} : ∀ W, stR w W → ntR w W.length = nts W
  | [], _ => rfl
  | x :: W, h => by
    rw [List.length_cons, ntR, nts, stR_top h, ntR_eq W (stR_tail h)]
/-- the model's own row, as a text is read -/
def rowP (a0 tk : Rw) (wl cl at_ : Nat) : Rw := fun j => if 9 ≤ j ∧ j ≤ 13 then tk j else if j = 18 then nI cl else if j = 19 then nI at_ else if j = 21 then nI wl else a0 j
def nxt (tp : Rw) (n : Nat) (tk : Rw) : Rw := G_go tp n tk (t_s tp n (cN (tk 9)))
theorem rowP_go (tp a0 tk : Rw) (n s wl cl at_ : Nat) : G_go tp n (rowP a0 tk wl cl at_) s = rowP a0 (G_go tp n tk s) wl cl at_ := by
  funext j
  by_cases h : 9 ≤ j ∧ j ≤ 13
  · rcases (show j = 9 ∨ j = 10 ∨ j = 11 ∨ j = 12 ∨ j = 13 by omega) with rfl | rfl | rfl | rfl | rfl <;> rfl
  · simp only [G_go, rowP, if_neg h]
    rw [if_neg (by omega), if_neg (by omega), if_neg (by omega), if_neg (by omega), if_neg (by omega)]
theorem rowP_set (a0 tk : Rw) (wl cl at_ wl' cl' : Nat) : up (up (rowP a0 tk wl cl at_) 21 (nI wl')) 18 (nI cl') = rowP a0 tk wl' cl' at_ := by
  funext j
  simp only [up, rowP]
  grind
theorem rowP_w (a0 tk : Rw) (wl cl at_ wl' : Nat) : up (rowP a0 tk wl cl at_) 21 (nI wl') = rowP a0 tk wl' cl at_ := by
  funext j
  simp only [up, rowP]
  grind
theorem rowP_ca (a0 tk : Rw) (wl cl at_ cl' at' : Nat) : up (up (rowP a0 tk wl cl at_) 18 (nI cl')) 19 (nI at') = rowP a0 tk wl cl' at' := by
  funext j
  simp only [up, rowP]
  grind
theorem c_X8_notsOpen {l : Launch} {G : Gt} {M : Mm} {a c w t : Rw} {W : List Int32} (hW : stR w W) (hh : a 21 = nI W.length) (hb : W.length ≤ 96) : Runs l G true dm_X8_notsOpen 0 127 [.ref 103] (S4 M a c w t) 127 (Pi (fun x M1 => x = nI (nts W) ∧ M1 = S4 M a c w t)) := by
  refine mx_run ow_X8_notsOpen rfl rfl (fun dp X hdp R => ?_)
  have hA : ∀ (fu i : Nat) , W.length - i = fu → i ≤ W.length → X 127 (S4 M a c w t) 4 [some (.ref 103), some (.int (nI (ntR w i))), some (.int (nI i))] [] := by
    intro fu
    induction fu with
    | zero =>
      intro i  hfu hi 
      have hiN : i = W.length := by omega
      refine R.b bk_X8_notsOpen_4 (And.intro (by first | rfl | assumption) ?_)
      refine R.c br_X8_notsOpen_9 (And.intro (fun h9 => ?_) (fun h9 => absurd (show a 21 ≤ nI i by rw [hh, hiN]; exact nI_le (Nat.le_refl _) (by omega)) h9))
      refine R.b bk_X8_notsOpen_37 ?_
      refine R.ri rt_X8_notsOpen_38 rfl ⟨_, rfl, ?_⟩
      exact ⟨by rw [hiN, ntR_eq W hW], rfl⟩
    | succ fu ih =>
      intro i  hfu hi 
      have hlt : i < W.length := by omega
      refine R.b bk_X8_notsOpen_4 (And.intro (by first | rfl | assumption) ?_)
      refine R.c br_X8_notsOpen_9 (And.intro (fun h9 => absurd (show a 21 ≤ nI i from h9) (by rw [hh]; exact nI_ge hlt (by omega))) (fun h9 => ?_))
      refine R.b bk_X8_notsOpen_12 (And.intro (by first | rfl | assumption) (And.intro (by first | rfl | assumption) (And.intro (by exact vp_in_nI (show i < 96 by omega) (by decide)) ?_)))
      refine R.c br_X8_notsOpen_21 (And.intro (fun h21 => ?_) (fun h21 => ?_))
      · refine R.b bk_X8_notsOpen_28 ?_
        refine R.b bk_X8_notsOpen_29 ?_
        refine R.j gt_X8_notsOpen_34 ?_
        rw [nI_inc]
        have hx := ih (i + 1) (by omega) (by omega)
        rw [ntR] at hx
        first
        | (replace h21 : ¬ w (nI i).toNatClampNeg = -10 := h21; rw [nI_clamp (show i < 2 ^ 31 by omega)] at h21; rw [if_neg h21, Nat.add_zero] at hx; rw [Int32.add_zero]; exact hx)
        | (replace h21 : w (nI i).toNatClampNeg = -10 := h21; rw [nI_clamp (show i < 2 ^ 31 by omega)] at h21; rw [if_pos h21, ← nI_1] at hx; exact hx)
      · refine R.b bk_X8_notsOpen_24 ?_
        refine R.j gt_X8_notsOpen_25 ?_
        refine R.b bk_X8_notsOpen_29 ?_
        refine R.j gt_X8_notsOpen_34 ?_
        rw [nI_inc]
        have hx := ih (i + 1) (by omega) (by omega)
        rw [ntR] at hx
        first
        | (replace h21 : ¬ w (nI i).toNatClampNeg = -10 := h21; rw [nI_clamp (show i < 2 ^ 31 by omega)] at h21; rw [if_neg h21, Nat.add_zero] at hx; rw [Int32.add_zero]; exact hx)
        | (replace h21 : w (nI i).toNatClampNeg = -10 := h21; rw [nI_clamp (show i < 2 ^ 31 by omega)] at h21; rw [if_pos h21, ← nI_1] at hx; exact hx)
  refine R.b bk_X8_notsOpen_0 ?_
  exact hA W.length 0 rfl (Nat.zero_le _)
abbrev isNm (key : Int32) (tk : Rw) : Prop := tk 11 = 1 ∧ tk 9 - tk 10 = 1 ∧ ¬ f_name key (tk 12) < 0
def f_part (key : Int32) (tk : Rw) : Int32 := if tk 11 = 2 then tk 12 else 10000 + f_name key (tk 12)
theorem c_X8_takesPart {l : Launch} {G : Gt} {M : Mm} {a0 tk c w t : Rw} {W C : List Int32} {at_ n p : Nat} (hW : stR w W) (hC : stR c C) (hb : W.length + C.length < 96) (hn : n ≤ 96) (hp : p ≤ n) (h8 : a0 8 = nI n) (h9 : tk 9 = nI p) : Runs l G true dm_X8_takesPart 2 127 [.ref 103] (S4 M (rowP a0 tk W.length C.length at_) c w t) 127 (Pi (fun x M1 => (¬ (tk 11 = 2 ∨ isNm (a0 14) tk) → x = 0 ∧ M1 = (S4 M (rowP a0 tk W.length C.length at_) c w t)) ∧ ((tk 11 = 2 ∨ isNm (a0 14) tk) → x = 1 ∧ ∃ c', stR c' (stl 6 W ((f_part (a0 14) tk) :: C)).2 ∧ M1 = S4 M (rowP a0 (nxt (M 110) n tk) (stl 6 W ((f_part (a0 14) tk) :: C)).1.length (stl 6 W ((f_part (a0 14) tk) :: C)).2.length (at_ + 1)) c' w t))) := by
  refine mx_run ow_X8_takesPart rfl rfl (fun dp X hdp R => ?_)
  have h52 : (tk 11 = 2 ∨ isNm (a0 14) tk) → ∀ c1, X 127 (S4 M (rowP a0 tk W.length C.length at_) c w t) 52 [some (.ref 103), some (.int c1)] [] := by
    intro hok c1
    have hst := stl_len 6 W ((f_part (a0 14) tk) :: C)
    simp only [List.length_cons] at hst
    have e : ∀ v, v = (f_part (a0 14) tk) → mx_wr (mx_wr (mx_wr (S4 M (rowP a0 tk W.length C.length at_) c w t) 113 (nI C.length).toNatClampNeg v) 103 18 (nI C.length + 1)) 103 19 (nI at_ + 1) = S4 M (rowP a0 tk W.length (C.length + 1) (at_ + 1)) (up c C.length (f_part (a0 14) tk)) w t := by
      intro v hv
      rw [hv, S4_c, S4_a, S4_a, nI_clamp (by omega), nI_1, nI_1, rowP_ca]
    refine R.b bk_X8_takesPart_52 (And.intro (by first | rfl | assumption) (And.intro (by first | rfl | assumption) (And.intro (by first | rfl | assumption) ?_)))
    refine R.c br_X8_takesPart_65 (And.intro (fun h65 => ?_) (fun h65 => ?_))
    · refine R.b bk_X8_takesPart_75 (And.intro (by first | rfl | assumption) ?_)
      refine R.V1i kc_X8_takesPart_83 (by first | rfl | assumption) (c_X8_nameOf) (by omega) rfl ⟨Nat.le_refl _, Nat.le_refl _⟩ (fun x83 M83 q83 => ?_)
      obtain ⟨e83, q83⟩ := q83
      replace e83 : x83 = f_name (a0 14) (tk 12) := e83
      replace q83 := q83.symm
      subst q83
      rw [e83]
      refine R.b bk_X8_takesPart_86 ?_
      refine R.b bk_X8_takesPart_87 (And.intro (by first | rfl | assumption) (And.intro (by exact vp_in_nI (show C.length < 96 by omega) (by decide)) (And.intro (by first | rfl | assumption) (And.intro (by first | rfl | assumption) (And.intro rfl (And.intro rfl (And.intro (by first | rfl | assumption) (And.intro (by first | rfl | assumption) (And.intro rfl (And.intro rfl ?_))))))))))
      first
      | (have h65b : tk 11 = 2 := h65
         have ee := e (tk 12) (by rw [f_part, if_pos h65b])
         refine Eq.mp (congrArg (fun m => X 127 m 111 [some (.ref 103), some (.int c1)] [.int 6, .ref 103]) ee.symm) ?_)
      | (have h65b : ¬ tk 11 = 2 := h65
         have ee := e (10000 + f_name (a0 14) (tk 12)) (by rw [f_part, if_neg h65b])
         refine Eq.mp (congrArg (fun m => X 127 m 111 [some (.ref 103), some (.int c1)] [.int 6, .ref 103]) ee.symm) ?_)
      refine R.V1v kc_X8_takesPart_111 (by first | rfl | assumption) (c_X8_settle (lv := 6) (W0 := W) (C0 := (f_part (a0 14) tk) :: C) (a := rowP a0 tk W.length (C.length + 1) (at_ + 1)) (c0 := up c C.length (f_part (a0 14) tk)) (w := w) (t := t) hW rfl (stR_push hC) rfl (by simp only [List.length_cons]; omega)) (by omega) rfl ⟨Nat.le_refl _, Nat.le_refl _⟩ (fun M111 q111 => ?_)
      obtain ⟨c', hc', e111⟩ := q111
      rw [rowP_set] at e111
      subst e111
      refine R.b bk_X8_takesPart_114 ?_
      refine R.V0v kc_X8_takesPart_115 (by first | rfl | assumption) (c_X8_go (n := n) (p := p) hn hp h8 h9) (by omega) rfl ⟨Nat.le_refl _, Nat.le_refl _⟩ (fun M115 q115 => ?_)
      have e115 : M115 = S4 M (rowP a0 (nxt (M 110) n tk) (stl 6 W ((f_part (a0 14) tk) :: C)).1.length (stl 6 W ((f_part (a0 14) tk) :: C)).2.length (at_ + 1)) c' w t := by
        refine q115.trans ?_
        refine (S4_103 _ _ _ _ _ _).trans ?_
        rw [nxt, h9, cN_nI (by omega)]
        exact congrArg (fun r => S4 M r c' w t) (rowP_go _ _ _ _ _ _ _ _)
      clear q115
      subst e115
      refine R.b bk_X8_takesPart_118 ?_
      refine R.ri rt_X8_takesPart_119 rfl ⟨_, rfl, ?_⟩
      refine ⟨fun h => absurd hok h, fun _ => ⟨rfl, c', hc', rfl⟩⟩
    · refine R.b bk_X8_takesPart_68 (And.intro (by first | rfl | assumption) ?_)
      refine R.j gt_X8_takesPart_72 ?_
      refine R.b bk_X8_takesPart_87 (And.intro (by first | rfl | assumption) (And.intro (by exact vp_in_nI (show C.length < 96 by omega) (by decide)) (And.intro (by first | rfl | assumption) (And.intro (by first | rfl | assumption) (And.intro rfl (And.intro rfl (And.intro (by first | rfl | assumption) (And.intro (by first | rfl | assumption) (And.intro rfl (And.intro rfl ?_))))))))))
      first
      | (have h65b : tk 11 = 2 := h65
         have ee := e (tk 12) (by rw [f_part, if_pos h65b])
         refine Eq.mp (congrArg (fun m => X 127 m 111 [some (.ref 103), some (.int c1)] [.int 6, .ref 103]) ee.symm) ?_)
      | (have h65b : ¬ tk 11 = 2 := h65
         have ee := e (10000 + f_name (a0 14) (tk 12)) (by rw [f_part, if_neg h65b])
         refine Eq.mp (congrArg (fun m => X 127 m 111 [some (.ref 103), some (.int c1)] [.int 6, .ref 103]) ee.symm) ?_)
      refine R.V1v kc_X8_takesPart_111 (by first | rfl | assumption) (c_X8_settle (lv := 6) (W0 := W) (C0 := (f_part (a0 14) tk) :: C) (a := rowP a0 tk W.length (C.length + 1) (at_ + 1)) (c0 := up c C.length (f_part (a0 14) tk)) (w := w) (t := t) hW rfl (stR_push hC) rfl (by simp only [List.length_cons]; omega)) (by omega) rfl ⟨Nat.le_refl _, Nat.le_refl _⟩ (fun M111 q111 => ?_)
      obtain ⟨c', hc', e111⟩ := q111
      rw [rowP_set] at e111
      subst e111
      refine R.b bk_X8_takesPart_114 ?_
      refine R.V0v kc_X8_takesPart_115 (by first | rfl | assumption) (c_X8_go (n := n) (p := p) hn hp h8 h9) (by omega) rfl ⟨Nat.le_refl _, Nat.le_refl _⟩ (fun M115 q115 => ?_)
      have e115 : M115 = S4 M (rowP a0 (nxt (M 110) n tk) (stl 6 W ((f_part (a0 14) tk) :: C)).1.length (stl 6 W ((f_part (a0 14) tk) :: C)).2.length (at_ + 1)) c' w t := by
        refine q115.trans ?_
        refine (S4_103 _ _ _ _ _ _).trans ?_
        rw [nxt, h9, cN_nI (by omega)]
        exact congrArg (fun r => S4 M r c' w t) (rowP_go _ _ _ _ _ _ _ _)
      clear q115
      subst e115
      refine R.b bk_X8_takesPart_118 ?_
      refine R.ri rt_X8_takesPart_119 rfl ⟨_, rfl, ?_⟩
      refine ⟨fun h => absurd hok h, fun _ => ⟨rfl, c', hc', rfl⟩⟩
  refine R.b bk_X8_takesPart_0 (And.intro (by first | rfl | assumption) ?_)
  refine R.c br_X8_takesPart_5 (And.intro (fun h5 => ?_) (fun h5 => ?_))
  · refine R.b bk_X8_takesPart_36 ?_
    refine R.b bk_X8_takesPart_37 (And.intro (by first | rfl | assumption) ?_)
    refine R.c br_X8_takesPart_43 (And.intro (fun h43 => ?_) (fun h43 => ?_))
    · first
      | (have h43b : tk 11 = 2 := h43; exact h52 (Or.inl h43b) _)
      | (have q29 := h29; exact h52 (Or.inr ⟨h5, h18, q29⟩) _)
      | exact absurd rfl h47
    · refine R.b bk_X8_takesPart_46 ?_
      refine R.c br_X8_takesPart_47 (And.intro (fun h47 => ?_) (fun h47 => ?_))
      · first
        | (have h43b : tk 11 = 2 := h43; exact h52 (Or.inl h43b) _)
        | (have q29 := h29; exact h52 (Or.inr ⟨h5, h18, q29⟩) _)
        | exact absurd rfl h47
      · refine R.b bk_X8_takesPart_50 ?_
        refine R.ri rt_X8_takesPart_51 rfl ⟨_, rfl, ?_⟩
        refine ⟨fun _ => ⟨rfl, rfl⟩, fun h => ?_⟩
        exfalso
        have h43b : ¬ tk 11 = 2 := h43
        first
        | exact absurd h47 (by decide)
        | (have q29 : f_name (a0 14) (tk 12) < 0 := h29; exact (h.resolve_left h43b).2.2 q29)
        | (have q18 : ¬ tk 9 - tk 10 = 1 := h18; exact q18 (h.resolve_left h43b).2.1)
        | (have q5 : ¬ tk 11 = 1 := h5; exact q5 (h.resolve_left h43b).1)
  · refine R.b bk_X8_takesPart_8 (And.intro (by first | rfl | assumption) (And.intro (by first | rfl | assumption) ?_))
    refine R.c br_X8_takesPart_18 (And.intro (fun h18 => ?_) (fun h18 => ?_))
    · refine R.b bk_X8_takesPart_36 ?_
      refine R.b bk_X8_takesPart_37 (And.intro (by first | rfl | assumption) ?_)
      refine R.c br_X8_takesPart_43 (And.intro (fun h43 => ?_) (fun h43 => ?_))
      · first
        | (have h43b : tk 11 = 2 := h43; exact h52 (Or.inl h43b) _)
        | (have q29 := h29; exact h52 (Or.inr ⟨h5, h18, q29⟩) _)
        | exact absurd rfl h47
      · refine R.b bk_X8_takesPart_46 ?_
        refine R.c br_X8_takesPart_47 (And.intro (fun h47 => ?_) (fun h47 => ?_))
        · first
          | (have h43b : tk 11 = 2 := h43; exact h52 (Or.inl h43b) _)
          | (have q29 := h29; exact h52 (Or.inr ⟨h5, h18, q29⟩) _)
          | exact absurd rfl h47
        · refine R.b bk_X8_takesPart_50 ?_
          refine R.ri rt_X8_takesPart_51 rfl ⟨_, rfl, ?_⟩
          refine ⟨fun _ => ⟨rfl, rfl⟩, fun h => ?_⟩
          exfalso
          have h43b : ¬ tk 11 = 2 := h43
          first
          | exact absurd h47 (by decide)
          | (have q29 : f_name (a0 14) (tk 12) < 0 := h29; exact (h.resolve_left h43b).2.2 q29)
          | (have q18 : ¬ tk 9 - tk 10 = 1 := h18; exact q18 (h.resolve_left h43b).2.1)
          | (have q5 : ¬ tk 11 = 1 := h5; exact q5 (h.resolve_left h43b).1)
    · refine R.b bk_X8_takesPart_21 (And.intro (by first | rfl | assumption) ?_)
      refine R.V1i kc_X8_takesPart_26 (by first | rfl | assumption) (c_X8_nameOf) (by omega) rfl ⟨Nat.le_refl _, Nat.le_refl _⟩ (fun x26 M26 q26 => ?_)
      obtain ⟨e26, q26⟩ := q26
      replace e26 : x26 = f_name (a0 14) (tk 12) := e26
      replace q26 := q26.symm
      subst q26
      rw [e26]
      refine R.c br_X8_takesPart_29 (And.intro (fun h29 => ?_) (fun h29 => ?_))
      · refine R.b bk_X8_takesPart_36 ?_
        refine R.b bk_X8_takesPart_37 (And.intro (by first | rfl | assumption) ?_)
        refine R.c br_X8_takesPart_43 (And.intro (fun h43 => ?_) (fun h43 => ?_))
        · first
          | (have h43b : tk 11 = 2 := h43; exact h52 (Or.inl h43b) _)
          | (have q29 := h29; exact h52 (Or.inr ⟨h5, h18, q29⟩) _)
          | exact absurd rfl h47
        · refine R.b bk_X8_takesPart_46 ?_
          refine R.c br_X8_takesPart_47 (And.intro (fun h47 => ?_) (fun h47 => ?_))
          · first
            | (have h43b : tk 11 = 2 := h43; exact h52 (Or.inl h43b) _)
            | (have q29 := h29; exact h52 (Or.inr ⟨h5, h18, q29⟩) _)
            | exact absurd rfl h47
          · refine R.b bk_X8_takesPart_50 ?_
            refine R.ri rt_X8_takesPart_51 rfl ⟨_, rfl, ?_⟩
            refine ⟨fun _ => ⟨rfl, rfl⟩, fun h => ?_⟩
            exfalso
            have h43b : ¬ tk 11 = 2 := h43
            first
            | exact absurd h47 (by decide)
            | (have q29 : f_name (a0 14) (tk 12) < 0 := h29; exact (h.resolve_left h43b).2.2 q29)
            | (have q18 : ¬ tk 9 - tk 10 = 1 := h18; exact q18 (h.resolve_left h43b).2.1)
            | (have q5 : ¬ tk 11 = 1 := h5; exact q5 (h.resolve_left h43b).1)
      · refine R.b bk_X8_takesPart_32 ?_
        refine R.j gt_X8_takesPart_33 ?_
        refine R.b bk_X8_takesPart_37 (And.intro (by first | rfl | assumption) ?_)
        refine R.c br_X8_takesPart_43 (And.intro (fun h43 => ?_) (fun h43 => ?_))
        · first
          | (have h43b : tk 11 = 2 := h43; exact h52 (Or.inl h43b) _)
          | (have q29 := h29; exact h52 (Or.inr ⟨h5, h18, q29⟩) _)
          | exact absurd rfl h47
        · refine R.b bk_X8_takesPart_46 ?_
          refine R.c br_X8_takesPart_47 (And.intro (fun h47 => ?_) (fun h47 => ?_))
          · first
            | (have h43b : tk 11 = 2 := h43; exact h52 (Or.inl h43b) _)
            | (have q29 := h29; exact h52 (Or.inr ⟨h5, h18, q29⟩) _)
            | exact absurd rfl h47
          · refine R.b bk_X8_takesPart_50 ?_
            refine R.ri rt_X8_takesPart_51 rfl ⟨_, rfl, ?_⟩
            refine ⟨fun _ => ⟨rfl, rfl⟩, fun h => ?_⟩
            exfalso
            have h43b : ¬ tk 11 = 2 := h43
            first
            | exact absurd h47 (by decide)
            | (have q29 : f_name (a0 14) (tk 12) < 0 := h29; exact (h.resolve_left h43b).2.2 q29)
            | (have q18 : ¬ tk 9 - tk 10 = 1 := h18; exact q18 (h.resolve_left h43b).2.1)
            | (have q5 : ¬ tk 11 = 1 := h5; exact q5 (h.resolve_left h43b).1)
