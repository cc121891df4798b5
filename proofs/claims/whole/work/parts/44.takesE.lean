/-! takesE of the model -/
theorem T_top {t : Rw} {T : List Bool} (h : stR t (T.map bI)) (h1 : 1 ≤ T.length) : t (T.length - 1) = bI (T.headD false) := by
  cases T with
  | nil => exact absurd h1 (by decide)
  | cons b T =>
    have := stR_top (show stR t (bI b :: T.map bI) from h)
    rw [List.length_map] at this
    exact this
theorem T_set {t : Rw} {T : List Bool} (b : Bool) (h : stR t (T.map bI)) (h1 : 1 ≤ T.length) : stR (up t (T.length - 1) (bI b)) ((b :: T.tail).map bI) := by
  cases T with
  | nil => exact absurd h1 (by decide)
  | cons x T =>
    have := stR_push (v := bI b) (stR_tail (show stR t (bI x :: T.map bI) from h))
    rw [List.length_map] at this
    exact this
theorem T_push {t : Rw} {T : List Bool} (h : stR t (T.map bI)) : stR (up t T.length 0) ((false :: T).map bI) := by
  have := stR_push (v := bI false) h
  rw [List.length_map] at this
  exact this
theorem T_tail {t : Rw} {T : List Bool} (h : stR t (T.map bI)) : stR t (T.tail.map bI) := by
  cases T with
  | nil => exact h
  | cons x T => exact stR_tail (show stR t (bI x :: T.map bI) from h)
theorem c_X8_goP {l : Launch} {G : Gt} {M : Mm} {a0 tk c w t : Rw} {wl cl at_ n s q : Nat} (hn : n ≤ 96) (h8 : a0 8 = nI n) (hT : TKV n tk s q) : Runs l G true dm_X8_go 1 127 [.ref 103] (S4 M (rowP a0 tk wl cl at_) c w t) 127 (Pv (fun M1 => M1 = S4 M (rowP a0 (nxt (M 110) n tk) wl cl at_) c w t)) := by
  have h := c_X8_go (l := l) (G := G) (M := S4 M (rowP a0 tk wl cl at_) c w t) (n := n) (p := q) hn hT.2.2.2.1 h8 hT.2.1
  have e : mx_rw (S4 M (rowP a0 tk wl cl at_) c w t) 103 (G_go ((S4 M (rowP a0 tk wl cl at_) c w t) 110) n ((S4 M (rowP a0 tk wl cl at_) c w t) 103) (t_s ((S4 M (rowP a0 tk wl cl at_) c w t) 110) n q)) = S4 M (rowP a0 (nxt (M 110) n tk) wl cl at_) c w t := by
    refine (S4_103 _ _ _ _ _ _).trans ?_
    have hq : cN (tk 9) = q := by rw [hT.2.1]; exact cN_nI (by have := hT.2.2.2.1; omega)
    rw [nxt, hq]
    exact congrArg (fun r => S4 M r c w t) (rowP_go _ _ _ _ _ _ _ _)
  rw [e] at h
  exact h
theorem bI_vp (b : Bool) : vp_nar .boolean (bI b) = bI b := by cases b <;> rfl
theorem stR_stl {w : Rw} (lv : Int32) : ∀ W C, stR w W → stR w (stl lv W C).1
  | [], _, h => h
  | x :: W, C, h => by
    unfold stl
    split
    · exact h
    · exact stR_stl lv W (x :: C) (stR_tail h)
theorem bI_true (b : Bool) (h : bI b = 1) : b = true := by
  cases b
  · exact absurd h (by decide)
  · rfl
theorem nts_le : ∀ W, nts W ≤ W.length
  | [] => Nat.le_refl 0
  | x :: W => by
    have := nts_le W
    rw [nts, List.length_cons]
    split <;> omega
theorem f_sign_ne (v : Int32) : ¬ f_sign v = -11 := by
  unfold f_sign
  repeat' split
  all_goals decide
theorem E_sg_ne (tk : Rw) : ¬ E_sg tk = -11 := by
  unfold E_sg
  split
  · exact f_sign_ne _
  · decide
theorem c_X8_takesE {l : Launch} {G : Gt} {M : Mm} {a c0 w0 t0 : Rw} {n s0 q0 : Nat} (hn : n ≤ 96) (h8 : a 8 = nI n) (hT0 : TKV n a s0 q0) (hs0 : 1 ≤ s0) (hs0n : s0 ≤ n) : Runs l G true dm_X8_takesE 3 127 [.ref 103] (S4 M a c0 w0 t0) 127 (Pi (fun x M1 => E_post M a (E_run (M 110) n (a 14) (n + 1) true a [] [] 0 [false] 0) x M1)) := by
  refine mx_run ow_X8_takesE rfl rfl (fun dp X hdp R => ?_)
  obtain ⟨res, hres0⟩ : ∃ res, E_run (M 110) n (a 14) (n + 1) true a [] [] 0 [false] 0 = res := ⟨_, rfl⟩
  rw [hres0] at R
  have hA : ∀ (f : Nat) (wants : Bool) (tk : Rw) (W C : List Int32) (at_ : Nat) (T : List Bool) (k : Nat) (c w t : Rw) (c4 : Option Value) (s q : Nat), n - s < f → k ≤ 96 → TKV n tk s q → s ≤ n → stR w W → stR c C → stR t (T.map bI) → W.length + C.length + 1 ≤ s → nOp W + 1 = T.length → T.length ≤ 9 → E_run (M 110) n (a 14) f wants tk W C at_ T k = res → X 127 (S4 M (rowP a tk W.length C.length at_) c w t) 28 [some (.ref 103), some (.int (nI (T.length - 1))), some (.int (nI k)), some (.int (bI wants)), c4] [] := by
    intro f
    induction f with
    | zero =>
      intro wants tk W C at_ T k c w t c4 s q hf
      exact absurd hf (Nat.not_lt_zero _)
    | succ f ih =>
      intro wants tk W C at_ T k c w t c4 s q hf hk hT hsn hW hC hTT hb hop h9 hres
      have hpar : nI (T.length - 1) + Int32.ofInt 1 = nI T.length := by rw [nI_inc, show T.length - 1 + 1 = T.length by omega]
      have hTt : t (nI (T.length - 1)).toNatClampNeg = bI (T.headD false) := by rw [nI_clamp (by omega)]; exact T_top hTT (by omega)
      have h172 : ∀ (wants : Bool) (tk : Rw) (W C : List Int32) (at_ : Nat) (T : List Bool) (c w t : Rw) (k : Int32) (c4 : Option Value) (s q : Nat), n - s < f → TKV n tk s q → s ≤ n → stR w W → stR c C → stR t (T.map bI) → W.length + C.length + 1 ≤ s → nOp W + 1 = T.length → T.length ≤ 9 → E_run (M 110) n (a 14) f wants tk W C at_ T (nts W) = res → X 127 (S4 M (rowP a tk W.length C.length at_) c w t) 172 [some (.ref 103), some (.int (nI (T.length - 1))), some (.int k), some (.int (bI wants)), c4] [] := by
        intro wants tk W C at_ T c w t k c4 s q hf hT hsn hW hC hTT hb hop h9 hres
        refine R.b bk_X8_takesE_172 ?_
        refine R.V0i kc_X8_takesE_173 (by first | rfl | assumption) (c_X8_notsOpen (W := W) hW rfl (by omega)) (by omega) rfl ⟨Nat.le_refl _, Nat.le_refl _⟩ (fun x173 M173 q173 => ?_)
        obtain ⟨rfl, q173⟩ := q173
        replace q173 := q173.symm
        subst q173
        refine R.b bk_X8_takesE_176 ?_
        refine R.j gt_X8_takesE_177 ?_
        exact ih wants tk W C at_ T (nts W) c w t c4 s q hf (by have := nts_le W; omega) hT hsn hW hC hTT hb hop h9 hres
      cases wants with
      | true =>
        rw [E_run] at hres
        have h158 : ¬ (tk 11 = 3 ∧ tk 12 = 33 ∧ k < 8) → ¬ (tk 11 = 3 ∧ tk 12 = 40 ∧ T.length < 9) → X 127 (S4 M (rowP a tk W.length C.length at_) c w t) 158 [some (.ref 103), some (.int (nI (T.length - 1))), some (.int (nI k)), some (.int (bI true)), c4] [] := by
          intro hnA hnB
          rw [if_neg hnA, if_neg hnB] at hres
          refine R.b bk_X8_takesE_158 ?_
          refine R.V0i kc_X8_takesE_159 (by first | rfl | assumption) (c_X8_takesPart (n := n) (p := q) hW hC (by omega) hn hT.2.2.2.1 h8 hT.2.1) (by omega) rfl ⟨Nat.le_refl _, Nat.le_refl _⟩ (fun x159 M159 q159 => ?_)
          obtain ⟨u159, v159⟩ := q159
          refine R.c br_X8_takesE_162 (And.intro (fun h162 => ?_) (fun h162 => ?_))
          · refine R.b bk_X8_takesE_170 ?_
            refine R.ri rt_X8_takesE_171 rfl ⟨_, rfl, ?_⟩
            by_cases hP : (tk 11 = 2 ∨ isNm (a 14) tk)
            · exact absurd h162 (by rw [(v159 hP).1]; decide)
            · obtain ⟨-, e⟩ := u159 hP
              subst e
              rw [if_neg hP] at hres
              exact ⟨tk, _, _, _, c, w, t, rfl, by rw [← hres], by rw [← hres]; rfl, fun C1 n1 h => by rw [← hres] at h; exact absurd h (by simp)⟩
          · refine R.b bk_X8_takesE_165 ?_
            refine R.j gt_X8_takesE_167 ?_
            by_cases hP : (tk 11 = 2 ∨ isNm (a 14) tk)
            · obtain ⟨-, c1, hc1, e⟩ := v159 hP
              subst e
              rw [if_pos hP] at hres
              have hsl : s < n := Nat.lt_of_le_of_ne hsn (fun e => by
                have h0 := hT.2.2.2.2.2.mpr e
                rcases hP with hP | hP
                · exact absurd (hP.symm.trans h0) (by decide)
                · exact absurd (hP.1.symm.trans h0) (by decide))
              have hsq : s < q := hT.2.2.2.2.1 hsl
              obtain ⟨s1, q1, g1, g2, g3⟩ := TKV_nxt (tp := M 110) hn hT
              have hl := stl_len 6 W ((f_part (a 14) tk) :: C)
              simp only [List.length_cons] at hl
              exact h172 false _ _ _ _ T c1 w t _ _ s1 q1 (by omega) g3 g2 (stR_stl 6 W _ hW) hc1 hTT (by omega) (by rw [nOp_stl]; exact hop) h9 hres
            · exact absurd (u159 hP).1 h162
        have h97 : ¬ (tk 11 = 3 ∧ tk 12 = 33 ∧ k < 8) → X 127 (S4 M (rowP a tk W.length C.length at_) c w t) 97 [some (.ref 103), some (.int (nI (T.length - 1))), some (.int (nI k)), some (.int (bI true)), c4] [] := by
          intro hnA
          refine R.b bk_X8_takesE_97 (And.intro (by first | rfl | assumption) ?_)
          refine R.c br_X8_takesE_102 (And.intro (fun h102 => ?_) (fun h102 => ?_))
          · refine h158 hnA (fun hc => ?_)
            first
            | (have q1 : ¬ tk 11 = 3 := h102; exact q1 hc.1)
            | (have q1 : ¬ tk 12 = 40 := h111; exact q1 hc.2.1)
            | (have q1 : (8 : Int32) ≤ nI (T.length - 1) := h117; exact absurd q1 (nI_ge (b := 8) (by omega) (by decide)))
          · refine R.b bk_X8_takesE_105 (And.intro (by first | rfl | assumption) ?_)
            refine R.c br_X8_takesE_111 (And.intro (fun h111 => ?_) (fun h111 => ?_))
            · refine h158 hnA (fun hc => ?_)
              first
              | (have q1 : ¬ tk 11 = 3 := h102; exact q1 hc.1)
              | (have q1 : ¬ tk 12 = 40 := h111; exact q1 hc.2.1)
              | (have q1 : (8 : Int32) ≤ nI (T.length - 1) := h117; exact absurd q1 (nI_ge (b := 8) (by omega) (by decide)))
            · refine R.b bk_X8_takesE_114 ?_
              refine R.c br_X8_takesE_117 (And.intro (fun h117 => ?_) (fun h117 => ?_))
              · refine h158 hnA (fun hc => ?_)
                first
                | (have q1 : ¬ tk 11 = 3 := h102; exact q1 hc.1)
                | (have q1 : ¬ tk 12 = 40 := h111; exact q1 hc.2.1)
                | (have q1 : (8 : Int32) ≤ nI (T.length - 1) := h117; exact absurd q1 (nI_ge (b := 8) (by omega) (by decide)))
              · have h102b : tk 11 = 3 := h102
                have hsl : s < n := Nat.lt_of_le_of_ne hsn (fun e => absurd ((h102b).symm.trans (hT.2.2.2.2.2.mpr e)) (by decide))
                refine R.b bk_X8_takesE_120 (And.intro (by first | rfl | assumption) (And.intro (by first | rfl | assumption) (And.intro (by first | rfl | assumption) (And.intro (vp_in_nI (show W.length < 96 by omega) (by decide)) (And.intro (by first | rfl | assumption) (And.intro (by first | rfl | assumption) (And.intro rfl (And.intro rfl (And.intro (by first | rfl | assumption) (And.intro (by first | rfl | assumption) (And.intro (by rw [hpar]; exact vp_in_nI (show T.length < 10 by omega) (by decide)) ?_)))))))))))
                refine Eq.mp (congrArg (fun m => X 127 m 152 [some (.ref 103), some (.int (nI (T.length - 1) + Int32.ofInt 1)), some (.int (nI k)), some (.int (bI true)), c4] [.ref 103]) (show mx_wr (mx_wr (mx_wr (S4 M (rowP a tk W.length C.length at_) c w t) 114 (nI W.length).toNatClampNeg (-11)) 103 21 (nI W.length + 1)) 115 (nI (T.length - 1) + Int32.ofInt 1).toNatClampNeg 0 = (S4 M (rowP a tk (W.length + 1) C.length at_) c (up w W.length (-11)) (up t T.length 0)) by rw [S4_w, S4_a, S4_t, nI_clamp (show W.length < 2 ^ 31 by omega), nI_1, rowP_w, hpar, nI_clamp (show T.length < 2 ^ 31 by omega)]).symm) ?_
                refine R.V0v kc_X8_takesE_152 (by first | rfl | assumption) (c_X8_goP (s := s) (q := q) hn h8 hT) (by omega) rfl ⟨Nat.le_refl _, Nat.le_refl _⟩ (fun M152 q152 => ?_)
                subst q152
                refine R.j gt_X8_takesE_155 ?_
                have hB : (tk 11 = 3 ∧ tk 12 = 40 ∧ T.length < 9) := ⟨h102b, h111, by have := nI_lt8 (w := T.length - 1) (n := 8) (by omega) (by decide) h117; omega⟩
                rw [if_neg hnA, if_pos hB] at hres
                have hsq : s < q := hT.2.2.2.2.1 hsl
                obtain ⟨s1, q1, g1, g2, g3⟩ := TKV_nxt (tp := M 110) hn hT
                rw [hpar]
                exact h172 true _ (-11 :: W) C at_ (false :: T) c _ _ _ _ s1 q1 (by omega) g3 g2 (stR_push hW) hC (T_push hTT) (by simp only [List.length_cons]; omega) (by rw [nOp, if_pos rfl, hop]; rfl) (by simp only [List.length_cons]; omega) hres
        refine R.b bk_X8_takesE_28 ?_
        refine R.c br_X8_takesE_29 (And.intro (fun h29 => ?_) (fun h29 => absurd h29 (by decide)))
        refine R.b bk_X8_takesE_39 ?_
        refine R.c br_X8_takesE_40 (And.intro (fun h40 => absurd h40 (by decide)) (fun h40 => ?_))
        refine R.b bk_X8_takesE_43 (And.intro (by first | rfl | assumption) ?_)
        refine R.c br_X8_takesE_48 (And.intro (fun h48 => ?_) (fun h48 => ?_))
        · refine h97 (fun hc => ?_)
          first
          | (have q1 : ¬ tk 11 = 3 := h48; exact q1 hc.1)
          | (have q1 : ¬ tk 12 = 33 := h57; exact q1 hc.2.1)
          | (have q1 : (8 : Int32) ≤ nI k := h63; exact absurd q1 (nI_ge (b := 8) hc.2.2 (by decide)))
        · refine R.b bk_X8_takesE_51 (And.intro (by first | rfl | assumption) ?_)
          refine R.c br_X8_takesE_57 (And.intro (fun h57 => ?_) (fun h57 => ?_))
          · refine h97 (fun hc => ?_)
            first
            | (have q1 : ¬ tk 11 = 3 := h48; exact q1 hc.1)
            | (have q1 : ¬ tk 12 = 33 := h57; exact q1 hc.2.1)
            | (have q1 : (8 : Int32) ≤ nI k := h63; exact absurd q1 (nI_ge (b := 8) hc.2.2 (by decide)))
          · refine R.b bk_X8_takesE_60 ?_
            refine R.c br_X8_takesE_63 (And.intro (fun h63 => ?_) (fun h63 => ?_))
            · refine h97 (fun hc => ?_)
              first
              | (have q1 : ¬ tk 11 = 3 := h48; exact q1 hc.1)
              | (have q1 : ¬ tk 12 = 33 := h57; exact q1 hc.2.1)
              | (have q1 : (8 : Int32) ≤ nI k := h63; exact absurd q1 (nI_ge (b := 8) hc.2.2 (by decide)))
            · have h48b : tk 11 = 3 := h48
              have hsl : s < n := Nat.lt_of_le_of_ne hsn (fun e => absurd ((h48b).symm.trans (hT.2.2.2.2.2.mpr e)) (by decide))
              refine R.b bk_X8_takesE_66 (And.intro (by first | rfl | assumption) (And.intro (by first | rfl | assumption) (And.intro (by first | rfl | assumption) (And.intro (vp_in_nI (show W.length < 96 by omega) (by decide)) (And.intro (by first | rfl | assumption) (And.intro (by first | rfl | assumption) (And.intro rfl (And.intro rfl ?_))))))))
              refine Eq.mp (congrArg (fun m => X 127 m 91 [some (.ref 103), some (.int (nI (T.length - 1))), some (.int (nI k + Int32.ofInt 1)), some (.int (bI true)), c4] [.ref 103]) (show mx_wr (mx_wr (S4 M (rowP a tk W.length C.length at_) c w t) 114 (nI W.length).toNatClampNeg (-10)) 103 21 (nI W.length + 1) = (S4 M (rowP a tk (W.length + 1) C.length at_) c (up w W.length (-10)) t) by rw [S4_w, S4_a, nI_clamp (by omega), nI_1, rowP_w]).symm) ?_
              refine R.V0v kc_X8_takesE_91 (by first | rfl | assumption) (c_X8_goP (s := s) (q := q) hn h8 hT) (by omega) rfl ⟨Nat.le_refl _, Nat.le_refl _⟩ (fun M91 q91 => ?_)
              subst q91
              refine R.j gt_X8_takesE_94 ?_
              have hA1 : (tk 11 = 3 ∧ tk 12 = 33 ∧ k < 8) := ⟨h48b, h57, nI_lt8 (w := k) (n := 8) (by omega) (by decide) h63⟩
              rw [if_pos hA1] at hres
              have hsq : s < q := hT.2.2.2.2.1 hsl
              obtain ⟨s1, q1, g1, g2, g3⟩ := TKV_nxt (tp := M 110) hn hT
              exact h172 true _ (-10 :: W) C at_ T c _ t _ _ s1 q1 (by omega) g3 g2 (stR_push hW) hC hTT (by simp only [List.length_cons]; omega) (by rw [nOp, if_neg (by decide), Nat.add_zero]; exact hop) h9 hres
      | false =>
        rw [E_run] at hres
        have h345 : tk 11 = 0 → X 127 (S4 M (rowP a tk W.length C.length at_) c w t) 345 [some (.ref 103), some (.int (nI (T.length - 1))), some (.int (nI k)), some (.int (bI false)), c4] [] := by
          intro h0
          rw [if_pos h0] at hres
          refine R.b bk_X8_takesE_345 ?_
          refine R.V1v kc_X8_takesE_347 (by first | rfl | assumption) (c_X8_settle (lv := 0) (W0 := W) (C0 := C) hW rfl hC rfl (by omega)) (by omega) rfl ⟨Nat.le_refl _, Nat.le_refl _⟩ (fun M347 q347 => ?_)
          obtain ⟨c1, hc1, e347⟩ := q347
          rw [rowP_set] at e347
          subst e347
          refine R.b bk_X8_takesE_350 ?_
          refine R.c br_X8_takesE_351 (And.intro (fun h351 => ?_) (fun h351 => ?_))
          · refine R.b bk_X8_takesE_358 ?_
            refine R.ri rt_X8_takesE_359 rfl ⟨_, rfl, ?_⟩
            first
            | (have hT1 : T.length = 1 := by
                 have q1 : nI (T.length - 1) = nI 0 := h351
                 rw [nI_eq (by omega) (by decide)] at q1
                 omega
               rw [if_pos hT1] at hres
               exact ⟨tk, _, _, _, c1, w, t, rfl, by rw [← hres], by rw [← hres]; rfl, fun C1 n1 h => by
                 rw [← hres] at h
                 obtain ⟨rfl, rfl⟩ := Prod.mk.inj (Option.some.inj h)
                 exact ⟨rfl, rfl, hc1⟩⟩)
            | (have hT1 : ¬ T.length = 1 := fun e => by
                 have q1 : ¬ nI (T.length - 1) = 0 := h351
                 rw [e] at q1
                 exact q1 rfl
               rw [if_neg hT1] at hres
               exact ⟨tk, _, _, _, c1, w, t, rfl, by rw [← hres], by rw [← hres]; rfl, fun C1 n1 h => by rw [← hres] at h; exact absurd h (by simp)⟩)
          · refine R.b bk_X8_takesE_354 ?_
            refine R.j gt_X8_takesE_355 ?_
            refine R.ri rt_X8_takesE_359 rfl ⟨_, rfl, ?_⟩
            first
            | (have hT1 : T.length = 1 := by
                 have q1 : nI (T.length - 1) = nI 0 := h351
                 rw [nI_eq (by omega) (by decide)] at q1
                 omega
               rw [if_pos hT1] at hres
               exact ⟨tk, _, _, _, c1, w, t, rfl, by rw [← hres], by rw [← hres]; rfl, fun C1 n1 h => by
                 rw [← hres] at h
                 obtain ⟨rfl, rfl⟩ := Prod.mk.inj (Option.some.inj h)
                 exact ⟨rfl, rfl, hc1⟩⟩)
            | (have hT1 : ¬ T.length = 1 := fun e => by
                 have q1 : ¬ nI (T.length - 1) = 0 := h351
                 rw [e] at q1
                 exact q1 rfl
               rw [if_neg hT1] at hres
               exact ⟨tk, _, _, _, c1, w, t, rfl, by rw [← hres], by rw [← hres]; rfl, fun C1 n1 h => by rw [← hres] at h; exact absurd h (by simp)⟩)
        have h201 : (tk 11 = 3 ∧ tk 12 = 41 ∧ 1 < T.length) → X 127 (S4 M (rowP a tk W.length C.length at_) c w t) 201 [some (.ref 103), some (.int (nI (T.length - 1))), some (.int (nI k)), some (.int (bI false)), c4] [] := by
          intro hcl
          have hsl : s < n := Nat.lt_of_le_of_ne hsn (fun e => absurd ((hcl.1).symm.trans (hT.2.2.2.2.2.mpr e)) (by decide))
          rw [if_neg (fun e => absurd (hcl.1.symm.trans e) (by decide)), if_pos hcl] at hres
          obtain ⟨V, hV1, hV2⟩ := stl_open W C (by omega)
          rw [hV1, List.tail_cons] at hres
          have hl0 := stl_len 0 W C
          have hl6 := stl_len 6 V (stl 0 W C).2
          have hWV : stR w V := stR_tail (x := -11) (by rw [← hV1]; exact stR_stl 0 W C hW)
          rw [hV1, List.length_cons] at hl0
          refine R.b bk_X8_takesE_201 ?_
          refine R.V1v kc_X8_takesE_203 (by first | rfl | assumption) (c_X8_settle (lv := 0) (W0 := W) (C0 := C) hW rfl hC rfl (by omega)) (by omega) rfl ⟨Nat.le_refl _, Nat.le_refl _⟩ (fun M203 q203 => ?_)
          obtain ⟨c1, hc1, e203⟩ := q203
          rw [rowP_set] at e203
          subst e203
          refine R.b bk_X8_takesE_206 (And.intro (by first | rfl | assumption) (And.intro (by first | rfl | assumption) (And.intro rfl (And.intro rfl ?_))))
          refine Eq.mp (congrArg (fun m => X 127 m 222 [some (.ref 103), some (.int (nI (T.length - 1) + Int32.ofInt (-1))), some (.int (nI k)), some (.int (bI false)), c4] [.int 6, .ref 103]) (show mx_wr (S4 M (rowP a tk (stl 0 W C).1.length (stl 0 W C).2.length at_) c1 w t) 103 21 (nI (stl 0 W C).1.length - 1) = (S4 M (rowP a tk V.length (stl 0 W C).2.length at_) c1 w t) by rw [S4_a, hV1, List.length_cons, nI_pm, rowP_w]).symm) ?_
          refine R.V1v kc_X8_takesE_222 (by first | rfl | assumption) (c_X8_settle (lv := 6) (W0 := V) (C0 := (stl 0 W C).2) hWV rfl hc1 rfl (by omega)) (by omega) rfl ⟨Nat.le_refl _, Nat.le_refl _⟩ (fun M222 q222 => ?_)
          obtain ⟨c2, hc2, e222⟩ := q222
          rw [rowP_set] at e222
          subst e222
          refine R.b bk_X8_takesE_225 ?_
          refine R.V0i kc_X8_takesE_226 (by first | rfl | assumption) (c_X8_notsOpen (W := (stl 6 V (stl 0 W C).2).1) (stR_stl 6 V _ hWV) rfl (by omega)) (by omega) rfl ⟨Nat.le_refl _, Nat.le_refl _⟩ (fun x226 M226 q226 => ?_)
          obtain ⟨rfl, q226⟩ := q226
          replace q226 := q226.symm
          subst q226
          refine R.b bk_X8_takesE_229 ?_
          refine R.V0v kc_X8_takesE_231 (by first | rfl | assumption) (c_X8_goP (s := s) (q := q) hn h8 hT) (by omega) rfl ⟨Nat.le_refl _, Nat.le_refl _⟩ (fun M231 q231 => ?_)
          subst q231
          refine R.j gt_X8_takesE_234 ?_
          have hsq : s < q := hT.2.2.2.2.1 hsl
          obtain ⟨s1, q1, g1, g2, g3⟩ := TKV_nxt (tp := M 110) hn hT
          rw [show nI (T.length - 1) + Int32.ofInt (-1) = nI (T.tail.length - 1) by rw [nI_m1', nI_dec _ (by omega), List.length_tail]]
          exact ih false _ (stl 6 V (stl 0 W C).2).1 (stl 6 V (stl 0 W C).2).2 at_ T.tail _ c2 w t _ s1 q1 (by omega) (by have := nts_le (stl 6 V (stl 0 W C).2).1; omega) g3 g2 (stR_stl 6 V _ hWV) hc2 (T_tail hTT) (by omega) (by rw [nOp_stl, List.length_tail]; omega) (by rw [List.length_tail]; omega) hres
        have h237 : ¬ tk 11 = 0 → ¬ (tk 11 = 3 ∧ tk 12 = 41 ∧ 1 < T.length) → X 127 (S4 M (rowP a tk W.length C.length at_) c w t) 237 [some (.ref 103), some (.int (nI (T.length - 1))), some (.int (nI k)), some (.int (bI false)), c4] [] := by
          intro h0 hncl
          have hsl : s < n := Nat.lt_of_le_of_ne hsn (fun e => h0 (hT.2.2.2.2.2.mpr e))
          rw [if_neg h0, if_neg hncl] at hres
          have h305 : ¬ ((E_sg tk) = 0 ∨ ((f_rank (E_sg tk)) = 3 ∧ T.headD false = true)) → s < n → ∀ v, v = bI (E_tf (E_sg tk) (T.headD false)) → X 127 (S4 M (rowP a tk W.length C.length at_) c w t) 305 [some (.ref 103), some (.int (nI (T.length - 1))), some (.int (nI k)), some (.int (bI false)), some (.int (E_sg tk))] [.int v, .int (nI (T.length - 1)), .ref 115] := by
            intro hnb hsl v hv
            rw [if_neg hnb] at hres
            subst hv
            have hl := stl_len (f_rank (E_sg tk)) W C
            refine R.b bk_X8_takesE_305 (And.intro (by first | rfl | assumption) (And.intro (vp_in_nI (show T.length - 1 < 10 by omega) (by decide)) ?_))
            refine Eq.mp (congrArg (fun m => X 127 m 309 [some (.ref 103), some (.int (nI (T.length - 1))), some (.int (nI k)), some (.int (bI false)), some (.int (E_sg tk))] [.int (E_sg tk), .ref 103]) (show mx_wr (S4 M (rowP a tk W.length C.length at_) c w t) 115 (nI (T.length - 1)).toNatClampNeg (vp_nar .boolean (bI (E_tf (E_sg tk) (T.headD false)))) = (S4 M (rowP a tk W.length C.length at_) c w (up t (T.length - 1) (bI (E_tf (E_sg tk) (T.headD false))))) by rw [bI_vp, S4_t, nI_clamp (by omega)]).symm) ?_
            refine R.S1i kc_X8_takesE_309 (c_X8_rank) (by omega) rfl ⟨Nat.le_refl _, Nat.le_refl _⟩ (fun x309 M309 q309 => ?_)
            obtain ⟨rfl, q309⟩ := q309
            replace q309 := q309.symm
            subst q309
            refine R.V1v kc_X8_takesE_312 (by first | rfl | assumption) (c_X8_settle (lv := (f_rank (E_sg tk))) (W0 := W) (C0 := C) hW rfl hC rfl (by omega)) (by omega) rfl ⟨Nat.le_refl _, Nat.le_refl _⟩ (fun M312 q312 => ?_)
            obtain ⟨c1, hc1, e312⟩ := q312
            rw [rowP_set] at e312
            subst e312
            refine R.b bk_X8_takesE_315 (And.intro (by first | rfl | assumption) (And.intro (by first | rfl | assumption) (And.intro (by first | rfl | assumption) (And.intro (vp_in_nI (show (stl (f_rank (E_sg tk)) W C).1.length < 96 by omega) (by decide)) (And.intro (by first | rfl | assumption) (And.intro (by first | rfl | assumption) (And.intro rfl (And.intro rfl ?_))))))))
            refine Eq.mp (congrArg (fun m => X 127 m 339 [some (.ref 103), some (.int (nI (T.length - 1))), some (.int (nI k)), some (.int (bI true)), some (.int (E_sg tk))] [.ref 103]) (show mx_wr (mx_wr (S4 M (rowP a tk (stl (f_rank (E_sg tk)) W C).1.length (stl (f_rank (E_sg tk)) W C).2.length at_) c1 w (up t (T.length - 1) (bI (E_tf (E_sg tk) (T.headD false))))) 114 (nI (stl (f_rank (E_sg tk)) W C).1.length).toNatClampNeg (E_sg tk)) 103 21 (nI (stl (f_rank (E_sg tk)) W C).1.length + 1) = (S4 M (rowP a tk ((stl (f_rank (E_sg tk)) W C).1.length + 1) (stl (f_rank (E_sg tk)) W C).2.length at_) c1 (up w (stl (f_rank (E_sg tk)) W C).1.length (E_sg tk)) (up t (T.length - 1) (bI (E_tf (E_sg tk) (T.headD false))))) by rw [S4_w, S4_a, nI_clamp (by omega), nI_1, rowP_w]).symm) ?_
            refine R.V0v kc_X8_takesE_339 (by first | rfl | assumption) (c_X8_goP (s := s) (q := q) hn h8 hT) (by omega) rfl ⟨Nat.le_refl _, Nat.le_refl _⟩ (fun M339 q339 => ?_)
            subst q339
            refine R.j gt_X8_takesE_342 ?_
            have hsq : s < q := hT.2.2.2.2.1 hsl
            obtain ⟨s1, q1, g1, g2, g3⟩ := TKV_nxt (tp := M 110) hn hT
            cases T with
            | nil => exact absurd hop (by simp)
            | cons b T1 => exact ih true _ ((E_sg tk) :: (stl (f_rank (E_sg tk)) W C).1) (stl (f_rank (E_sg tk)) W C).2 at_ (E_tf (E_sg tk) b :: T1) k c1 _ _ _ s1 q1 (by omega) hk g3 g2 (stR_push (stR_stl _ W C hW)) hc1 (T_set (E_tf (E_sg tk) b) hTT (by simp)) (by simp only [List.length_cons]; omega) (by rw [nOp, if_neg (E_sg_ne tk), nOp_stl, Nat.add_zero]; exact hop) h9 hres
          have h268 : ¬ ((E_sg tk) = 0 ∨ ((f_rank (E_sg tk)) = 3 ∧ T.headD false = true)) → s < n → X 127 (S4 M (rowP a tk W.length C.length at_) c w t) 268 [some (.ref 103), some (.int (nI (T.length - 1))), some (.int (nI k)), some (.int (bI false)), some (.int (E_sg tk))] [] := by
            intro hnb hsl
            refine R.b bk_X8_takesE_268 (And.intro (by first | rfl | assumption) ?_)
            refine R.S1i kc_X8_takesE_275 (c_X8_rank) (by omega) rfl ⟨Nat.le_refl _, Nat.le_refl _⟩ (fun x275 M275 q275 => ?_)
            obtain ⟨rfl, q275⟩ := q275
            replace q275 := q275.symm
            subst q275
            refine R.b bk_X8_takesE_278 ?_
            refine R.c br_X8_takesE_279 (And.intro (fun h279 => ?_) (fun h279 => ?_))
            · refine R.b bk_X8_takesE_300 ?_
              refine R.j gt_X8_takesE_301 ?_
              refine h305 hnb hsl _ ?_
              first
              | (rw [E_tf, decide_eq_true h279]; rfl)
              | (have q1 : t (nI (T.length - 1)).toNatClampNeg = 0 := h297; rw [hTt] at q1; rw [E_tf, decide_eq_false h279, decide_eq_true (Int32.not_le.mp h288), bI_0 q1]; rfl)
              | (have q1 : ¬ t (nI (T.length - 1)).toNatClampNeg = 0 := h297; rw [hTt] at q1; rw [E_tf, decide_eq_false h279, decide_eq_true (Int32.not_le.mp h288), bI_1 q1]; rfl)
              | (rw [E_tf, decide_eq_false h279, decide_eq_false (Int32.not_lt.mpr h288)]; rfl)
            · refine R.b bk_X8_takesE_282 ?_
              refine R.S1i kc_X8_takesE_284 (c_X8_rank) (by omega) rfl ⟨Nat.le_refl _, Nat.le_refl _⟩ (fun x284 M284 q284 => ?_)
              obtain ⟨rfl, q284⟩ := q284
              replace q284 := q284.symm
              subst q284
              refine R.b bk_X8_takesE_287 ?_
              refine R.c br_X8_takesE_288 (And.intro (fun h288 => ?_) (fun h288 => ?_))
              · refine R.b bk_X8_takesE_304 ?_
                refine h305 hnb hsl _ ?_
                first
                | (rw [E_tf, decide_eq_true h279]; rfl)
                | (have q1 : t (nI (T.length - 1)).toNatClampNeg = 0 := h297; rw [hTt] at q1; rw [E_tf, decide_eq_false h279, decide_eq_true (Int32.not_le.mp h288), bI_0 q1]; rfl)
                | (have q1 : ¬ t (nI (T.length - 1)).toNatClampNeg = 0 := h297; rw [hTt] at q1; rw [E_tf, decide_eq_false h279, decide_eq_true (Int32.not_le.mp h288), bI_1 q1]; rfl)
                | (rw [E_tf, decide_eq_false h279, decide_eq_false (Int32.not_lt.mpr h288)]; rfl)
              · refine R.b bk_X8_takesE_291 (And.intro (by first | rfl | assumption) (And.intro (by first | rfl | assumption) (And.intro (vp_in_nI (show T.length - 1 < 10 by omega) (by decide)) ?_)))
                refine R.c br_X8_takesE_297 (And.intro (fun h297 => ?_) (fun h297 => ?_))
                · refine R.b bk_X8_takesE_304 ?_
                  refine h305 hnb hsl _ ?_
                  first
                  | (rw [E_tf, decide_eq_true h279]; rfl)
                  | (have q1 : t (nI (T.length - 1)).toNatClampNeg = 0 := h297; rw [hTt] at q1; rw [E_tf, decide_eq_false h279, decide_eq_true (Int32.not_le.mp h288), bI_0 q1]; rfl)
                  | (have q1 : ¬ t (nI (T.length - 1)).toNatClampNeg = 0 := h297; rw [hTt] at q1; rw [E_tf, decide_eq_false h279, decide_eq_true (Int32.not_le.mp h288), bI_1 q1]; rfl)
                  | (rw [E_tf, decide_eq_false h279, decide_eq_false (Int32.not_lt.mpr h288)]; rfl)
                · refine R.b bk_X8_takesE_300 ?_
                  refine R.j gt_X8_takesE_301 ?_
                  refine h305 hnb hsl _ ?_
                  first
                  | (rw [E_tf, decide_eq_true h279]; rfl)
                  | (have q1 : t (nI (T.length - 1)).toNatClampNeg = 0 := h297; rw [hTt] at q1; rw [E_tf, decide_eq_false h279, decide_eq_true (Int32.not_le.mp h288), bI_0 q1]; rfl)
                  | (have q1 : ¬ t (nI (T.length - 1)).toNatClampNeg = 0 := h297; rw [hTt] at q1; rw [E_tf, decide_eq_false h279, decide_eq_true (Int32.not_le.mp h288), bI_1 q1]; rfl)
                  | (rw [E_tf, decide_eq_false h279, decide_eq_false (Int32.not_lt.mpr h288)]; rfl)
          refine R.b bk_X8_takesE_237 ?_
          refine R.V0i kc_X8_takesE_238 (by first | rfl | assumption) (c_X8_signHere) (by omega) rfl ⟨Nat.le_refl _, Nat.le_refl _⟩ (fun x238 M238 q238 => ?_)
          obtain ⟨e238, q238⟩ := q238
          replace e238 : x238 = E_sg tk := e238
          replace q238 := q238.symm
          subst q238
          subst e238
          refine R.b bk_X8_takesE_241 ?_
          refine R.c br_X8_takesE_245 (And.intro (fun h245 => ?_) (fun h245 => ?_))
          · refine R.b bk_X8_takesE_266 ?_
            refine R.ri rt_X8_takesE_267 rfl ⟨_, rfl, ?_⟩
            have hb2 : ((E_sg tk) = 0 ∨ ((f_rank (E_sg tk)) = 3 ∧ T.headD false = true)) := by
              first
              | exact Or.inl h245
              | (have q1 : ¬ t (nI (T.length - 1)).toNatClampNeg = 0 := h263; rw [hTt] at q1; exact Or.inr ⟨h254, bI_1 q1⟩)
            rw [if_pos hb2] at hres
            exact ⟨tk, _, _, _, c, w, t, rfl, by rw [← hres], by rw [← hres]; rfl, fun C1 n1 h => by rw [← hres] at h; exact absurd h (by simp)⟩
          · refine R.b bk_X8_takesE_248 ?_
            refine R.S1i kc_X8_takesE_250 (c_X8_rank) (by omega) rfl ⟨Nat.le_refl _, Nat.le_refl _⟩ (fun x250 M250 q250 => ?_)
            obtain ⟨rfl, q250⟩ := q250
            replace q250 := q250.symm
            subst q250
            refine R.b bk_X8_takesE_253 ?_
            refine R.c br_X8_takesE_254 (And.intro (fun h254 => ?_) (fun h254 => ?_))
            · first
              | exact h268 (not_or.mpr ⟨h245, fun q => h254 q.1⟩) hsl
              | (have q1 : t (nI (T.length - 1)).toNatClampNeg = 0 := h263; rw [hTt] at q1; exact h268 (not_or.mpr ⟨h245, fun q => absurd (q.2.symm.trans (bI_0 q1)) (by decide)⟩) hsl)
            · refine R.b bk_X8_takesE_257 (And.intro (by first | rfl | assumption) (And.intro (by first | rfl | assumption) (And.intro (vp_in_nI (show T.length - 1 < 10 by omega) (by decide)) ?_)))
              refine R.c br_X8_takesE_263 (And.intro (fun h263 => ?_) (fun h263 => ?_))
              · first
                | exact h268 (not_or.mpr ⟨h245, fun q => h254 q.1⟩) hsl
                | (have q1 : t (nI (T.length - 1)).toNatClampNeg = 0 := h263; rw [hTt] at q1; exact h268 (not_or.mpr ⟨h245, fun q => absurd (q.2.symm.trans (bI_0 q1)) (by decide)⟩) hsl)
              · refine R.b bk_X8_takesE_266 ?_
                refine R.ri rt_X8_takesE_267 rfl ⟨_, rfl, ?_⟩
                have hb2 : ((E_sg tk) = 0 ∨ ((f_rank (E_sg tk)) = 3 ∧ T.headD false = true)) := by
                  first
                  | exact Or.inl h245
                  | (have q1 : ¬ t (nI (T.length - 1)).toNatClampNeg = 0 := h263; rw [hTt] at q1; exact Or.inr ⟨h254, bI_1 q1⟩)
                rw [if_pos hb2] at hres
                exact ⟨tk, _, _, _, c, w, t, rfl, by rw [← hres], by rw [← hres]; rfl, fun C1 n1 h => by rw [← hres] at h; exact absurd h (by simp)⟩
        refine R.b bk_X8_takesE_28 ?_
        refine R.c br_X8_takesE_29 (And.intro (fun h29 => absurd rfl h29) (fun h29 => ?_))
        refine R.b bk_X8_takesE_32 (And.intro (by first | rfl | assumption) ?_)
        refine R.c br_X8_takesE_36 (And.intro (fun h36 => ?_) (fun h36 => ?_))
        · exact h345 h36
        · refine R.b bk_X8_takesE_39 ?_
          refine R.c br_X8_takesE_40 (And.intro (fun h40 => ?_) (fun h40 => absurd rfl h40))
          refine R.b bk_X8_takesE_180 (And.intro (by first | rfl | assumption) ?_)
          refine R.c br_X8_takesE_185 (And.intro (fun h185 => ?_) (fun h185 => ?_))
          · refine h237 h36 (fun hc => ?_)
            first
            | (have q1 : ¬ tk 11 = 3 := h185; exact q1 hc.1)
            | (have q1 : ¬ tk 12 = 41 := h194; exact q1 hc.2.1)
            | (have q1 : nI (T.length - 1) ≤ 0 := h198; exact nI_nle (by omega) (by omega) q1)
          · refine R.b bk_X8_takesE_188 (And.intro (by first | rfl | assumption) ?_)
            refine R.c br_X8_takesE_194 (And.intro (fun h194 => ?_) (fun h194 => ?_))
            · refine h237 h36 (fun hc => ?_)
              first
              | (have q1 : ¬ tk 11 = 3 := h185; exact q1 hc.1)
              | (have q1 : ¬ tk 12 = 41 := h194; exact q1 hc.2.1)
              | (have q1 : nI (T.length - 1) ≤ 0 := h198; exact nI_nle (by omega) (by omega) q1)
            · refine R.b bk_X8_takesE_197 ?_
              refine R.c br_X8_takesE_198 (And.intro (fun h198 => ?_) (fun h198 => ?_))
              · refine h237 h36 (fun hc => ?_)
                first
                | (have q1 : ¬ tk 11 = 3 := h185; exact q1 hc.1)
                | (have q1 : ¬ tk 12 = 41 := h194; exact q1 hc.2.1)
                | (have q1 : nI (T.length - 1) ≤ 0 := h198; exact nI_nle (by omega) (by omega) q1)
              · exact h201 ⟨h185, h194, by have q1 : ¬ nI (T.length - 1) ≤ 0 := h198; rcases Nat.lt_or_ge 1 T.length with q | q; exact q; exact absurd (by rw [show T.length - 1 = 0 by omega]; decide) q1⟩
  refine R.b bk_X8_takesE_0 (And.intro (by first | rfl | assumption) (And.intro rfl (And.intro rfl (And.intro (by first | rfl | assumption) (And.intro rfl (And.intro rfl (And.intro (by first | rfl | assumption) (And.intro rfl (And.intro rfl (And.intro (by first | rfl | assumption) (And.intro (by first | rfl | assumption) (And.intro (by exact vp_lit rfl) ?_))))))))))))
  have hx := hA (n + 1) true a [] [] 0 [false] 0 c0 w0 (up t0 0 0) none s0 q0 (by omega) (by decide) hT0 hs0n (fun j hj => absurd hj (Nat.not_lt_zero _)) (fun j hj => absurd hj (Nat.not_lt_zero _)) (T_push (T := []) (fun j hj => absurd hj (Nat.not_lt_zero _))) (by simp; exact hs0) rfl (by decide) hres0
  have e : mx_wr (mx_wr (mx_wr (mx_wr (S4 M a c0 w0 t0) 103 18 0) 103 19 0) 103 21 0) 115 0 0 = S4 M (rowP a a 0 0 0) c0 w0 (up t0 0 0) := by
    rw [S4_a, S4_a, S4_a, S4_t]
    congr 1
    funext j
    simp only [up, rowP, nI_0]
    grind
  rw [show ([] : List Int32).length = 0 from rfl, ← e] at hx
  exact hx
