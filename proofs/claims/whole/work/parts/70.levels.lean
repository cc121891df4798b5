/-! the reader's levels -/
theorem levelS_ok {l : Launch} {G : Gt} {M : Mm} {tp : Rw} {n ky : Nat} (ht : ∀ k, k < 96 → (M 1 k &&& 255) = tp k) (hn : n ≤ 96) (hky : ky ≤ 2) {m L : Nat} (hL5 : L < 5) (hLv : LevelOK l G M tp n ky m (L + 1)) : LevelOK l G M tp n ky m L := by
  intro p b r d st tk s q W C at_ T f hm hP htop hfl
  have hP0 := hP
  obtain ⟨hRd, hf, hlen, hb, hTl, hp8, hb8⟩ := hP
  have h8 := tb_nat ht
  have htop1 : topOK W (L + 1) := fun w V e => (htop w V e).elim Or.inl (fun e => Or.inr (Int32.lt_trans e (nI_lt (by omega) (by omega))))
  refine mx_run ow_X2_takesLevel rfl rfl (fun dp X hdp R => ?_)
  have hA : ∀ (fu j : Nat) (r1 d1 st1 tk1 : Rw) (s1 q1 : Nat) (C1 : List Int32) (at1 f1 : Nat) (W1 C' : List Int32) (b1 : Bool) (c5 : Option Value), n - s1 ≤ fu → RdS tp n ky r1 d1 st1 tk1 s1 q1 C1 at1 → s < s1 → n < f1 + s1 → W.length + C1.length + 1 ≤ s1 → (E_run tp n (nI ky) f true tk W C at_ T (nts W)) = E_run tp n (nI ky) f1 false tk1 W1 C' at1 (b1 :: T.tail) (nts W) → (∀ lv : Int32, lv ≤ nI (L + 1) → stl lv W1 C' = stl lv W C1) → (3 ≤ L → b1 = T.headD false) → (L = 2 → 0 < j → b1 = true) → (L = 2 → j = 0 → b1 = false) → (E_sg tk1 = 0 ∨ f_rank (E_sg tk1) ≤ nI (L + 1) ∨ (f_rank (E_sg tk1) = 3 ∧ b1 = true ∧ L + 1 ≤ 2)) → j < s1 → X 127 (S3 M r1 d1 st1) 29 [some (.ref 2), some (.int (nI L)), some (.int (nI p)), some (.int (nI b)), some (.int (nI j)), c5] [] := by
    intro fu
    induction fu with
    | zero =>
      intro j r1 d1 st1 tk1 s1 q1 C1 at1 f1 W1 C' b1 c5 hfu hR1 hs1 hf1 hl1 hrun hstl hb3 hb2 hb0 hnx hj
      have gT := hR1.2.2.2.1
      have hs1n : s1 ≤ n := gT.2.2.1
      have hlev := T_lev hn h8 gT
      have hdone : ¬ f_lev (r1 3) = nI L → (E_sg tk1 = 0 ∨ f_rank (E_sg tk1) ≤ nI L ∨ (f_rank (E_sg tk1) = 3 ∧ b1 = true ∧ L ≤ 2)) := fun hne => by
        rcases hlev with ⟨e, -⟩ | ⟨k, k1, k2, k3, k4, -⟩
        · exact Or.inl e
        · rcases hnx with e | e | e
          · exact Or.inl e
          · refine Or.inr (Or.inl ?_)
            rw [k3] at e ⊢
            have hk := (nI_leI (by omega) (by omega)).mp e
            have hkL : k ≠ L + 1 := fun e2 => hne (by rw [k4, e2]; rfl)
            exact nI_le (by omega) (by omega)
          · exact Or.inr (Or.inr ⟨e.1, e.2.1, by omega⟩)
      refine R.b bk_X2_takesLevel_29 ?_
      refine R.c br_X2_takesLevel_33 (And.intro (fun h33 => absurd h33 (nI_ge (b := 96) (by omega) (by decide))) (fun h33 => ?_))
      refine R.b bk_X2_takesLevel_36 (And.intro (by rfl) ?_)
      show X 127 (S3 M r1 d1 st1) 40 [some (.ref 2), some (.int (nI L)), some (.int (nI p)), some (.int (nI b)), some (.int (nI j)), c5] [.int (r1 3)]
      refine R.S1i kc_X2_takesLevel_40 (c_X2_levelOf) (by omega) rfl ⟨Nat.le_refl _, Nat.le_refl _⟩ (fun x40 M40 q40 => ?_)
      obtain ⟨rfl, q40⟩ := q40
      replace q40 := q40.symm
      subst q40
      refine R.b bk_X2_takesLevel_43 ?_
      refine R.c br_X2_takesLevel_44 (And.intro (fun h44 => ?_) (fun h44 => absurd (by rcases hlev with ⟨-, e⟩ | ⟨k, -, -, -, -, -, -, -, -, hlt⟩; exact fun e2 => absurd (e.symm.trans e2).symm (nI_not_m1 (by omega)); exact absurd hlt (by omega)) (show ¬ ¬ f_lev (r1 3) = nI L from fun q => q h44)))
      refine R.b bk_X2_takesLevel_98 ?_
      refine R.ri rt_X2_takesLevel_99 rfl ⟨_, rfl, ?_⟩
      exact Or.inr ⟨rfl, r1, d1, st1, tk1, s1, q1, C1, at1, f1, W1, C', b1, rfl, hR1, hs1, hf1, hl1, hrun, hstl, hb3, hdone h44⟩
    | succ fu ih =>
      intro j r1 d1 st1 tk1 s1 q1 C1 at1 f1 W1 C' b1 c5 hfu hR1 hs1 hf1 hl1 hrun hstl hb3 hb2 hb0 hnx hj
      have gT := hR1.2.2.2.1
      have hs1n : s1 ≤ n := gT.2.2.1
      have hlev := T_lev hn h8 gT
      have hdone : ¬ f_lev (r1 3) = nI L → (E_sg tk1 = 0 ∨ f_rank (E_sg tk1) ≤ nI L ∨ (f_rank (E_sg tk1) = 3 ∧ b1 = true ∧ L ≤ 2)) := fun hne => by
        rcases hlev with ⟨e, -⟩ | ⟨k, k1, k2, k3, k4, -⟩
        · exact Or.inl e
        · rcases hnx with e | e | e
          · exact Or.inl e
          · refine Or.inr (Or.inl ?_)
            rw [k3] at e ⊢
            have hk := (nI_leI (by omega) (by omega)).mp e
            have hkL : k ≠ L + 1 := fun e2 => hne (by rw [k4, e2]; rfl)
            exact nI_le (by omega) (by omega)
          · exact Or.inr (Or.inr ⟨e.1, e.2.1, by omega⟩)
      refine R.b bk_X2_takesLevel_29 ?_
      refine R.c br_X2_takesLevel_33 (And.intro (fun h33 => absurd h33 (nI_ge (b := 96) (by omega) (by decide))) (fun h33 => ?_))
      refine R.b bk_X2_takesLevel_36 (And.intro (by rfl) ?_)
      show X 127 (S3 M r1 d1 st1) 40 [some (.ref 2), some (.int (nI L)), some (.int (nI p)), some (.int (nI b)), some (.int (nI j)), c5] [.int (r1 3)]
      refine R.S1i kc_X2_takesLevel_40 (c_X2_levelOf) (by omega) rfl ⟨Nat.le_refl _, Nat.le_refl _⟩ (fun x40 M40 q40 => ?_)
      obtain ⟨rfl, q40⟩ := q40
      replace q40 := q40.symm
      subst q40
      refine R.b bk_X2_takesLevel_43 ?_
      refine R.c br_X2_takesLevel_44 (And.intro (fun h44 => ?_) (fun h44 => ?_))
      · refine R.b bk_X2_takesLevel_98 ?_
        refine R.ri rt_X2_takesLevel_99 rfl ⟨_, rfl, ?_⟩
        exact Or.inr ⟨rfl, r1, d1, st1, tk1, s1, q1, C1, at1, f1, W1, C', b1, rfl, hR1, hs1, hf1, hl1, hrun, hstl, hb3, hdone h44⟩
      · obtain ⟨k, k1, k2, k3, k4, k5, k6, k7, k8, hlt⟩ := hlev.resolve_left (fun e => absurd (e.2.symm.trans h44).symm (nI_not_m1 (by omega)))
        have hkL : k = L + 1 := by
          have := (nI_eq (by omega) (by omega)).mp (k4.symm.trans h44)
          omega
        subst hkL
        obtain ⟨-, -, -, -, n10, n11, nneg⟩ := sgn_rank k6
        refine R.b bk_X2_takesLevel_47 ?_
        refine R.c br_X2_takesLevel_49 (And.intro (fun h49 => ?_) (fun h49 => ?_))
        · have hj0 : L = 2 → j = 0 := by
            first
            | (exact fun e => absurd (by rw [e]; rfl) h49)
            | (have q1 := h54; exact fun _ => Nat.le_zero.mp ((nI_leI (b := 0) (by omega) (by decide)).mp q1))
          obtain ⟨f1, rfl⟩ : ∃ f', f1 = f' + 1 := ⟨f1 - 1, by omega⟩
          have hst1 : stl (f_rank (E_sg tk1)) W1 C' = (W, C1) := by
            rw [k3, hstl _ (Int32.le_refl _)]
            exact stl_topOK htop (Int32.le_refl _)
          have hnt : ¬ (f_rank (E_sg tk1) = 3 ∧ (b1 :: T.tail).headD false = true) := by
            intro e
            have hL2 : L = 2 := by
              rw [k3] at e
              have := (nI_eq (b := 3) (by omega) (by decide)).mp e.1
              omega
            have := hb0 hL2 (hj0 hL2)
            rw [this] at e
            exact absurd (show false = true from e.2) (by decide)
          have hop := run_op (tp := tp) (n := n) (key := nI ky) (f := f1) (W := W1) (C := C') (at_ := at1) (T := b1 :: T.tail) (k := nts W) k7 k8 (fun e => by rw [e] at nneg; exact absurd nneg (by decide)) hnt
          rw [hst1] at hop
          obtain ⟨hsq2, hqn2, s2, q2, hss2, hs2n, hRd2⟩ := RdS_go hn h8 hR1 hlt
          have hin : PIn tp n ky p b (rgo tp n r1 q1) d1 st1 (nxt tp n tk1) s2 q2 (E_sg tk1 :: W) C1 at1 (E_tf (E_sg tk1) b1 :: T.tail) f1 := ⟨hRd2, by omega, by simp only [List.length_cons]; omega, by rw [nts_cons n10]; exact hb, by simp only [List.length_cons, List.length_tail]; omega, hp8, hb8⟩
          have htop2 : topOK (E_sg tk1 :: W) (L + 1) := fun w V e => by
            rw [← (List.cons.inj e).1, k3]
            exact Or.inr (nI_lt (by omega) (by omega))
          have htf : E_tf (E_sg tk1) b1 = (decide (L = 2) || (decide (2 < L) && b1)) := by
            unfold E_tf
            rw [k3]
            have e1 : (nI (L + 1) = 3) ↔ L = 2 := by
              rw [show (3 : Int32) = nI 3 from rfl, nI_eq (by omega) (by decide)]
              omega
            have e2 : ((3 : Int32) < nI (L + 1)) ↔ 2 < L := by
              rw [show (3 : Int32) = nI 3 from rfl, nI_ltI (by decide) (by omega)]
              omega
            rw [decide_eq_decide.mpr e1, decide_eq_decide.mpr e2]
          have hfl2 : L + 1 ≤ 2 → (E_tf (E_sg tk1) b1 :: T.tail).headD false = false := fun e => by
            show E_tf (E_sg tk1) b1 = false
            rw [htf, decide_eq_false (by omega), decide_eq_false (by omega)]
            rfl
          refine R.b bk_X2_takesLevel_59 (And.intro (by rfl) ?_)
          show X 127 (S3 M r1 d1 st1) 66 [some (.ref 2), some (.int (nI L)), some (.int (nI p)), some (.int (nI b)), some (.int (nI j)), some (.int (r1 3))] [.ref 2]
          refine R.V0v kc_X2_takesLevel_66 (by rfl) (c_goOn3 (tp := tp) (n := n) ht hn hqn2 hR1.1 hR1.2.1 gT.2.2.2.2.2.1) (by omega) rfl ⟨Nat.le_refl _, Nat.le_refl _⟩ (fun M66 q66 => ?_)
          replace q66 := q66.symm
          subst q66
          refine R.b bk_X2_takesLevel_69 ?_
          show X 127 (S3 M (rgo tp n r1 q1) d1 st1) 75 [some (.ref 2), some (.int (nI L)), some (.int (nI p)), some (.int (nI b)), some (.int (nI j)), some (.int (r1 3))] [.int (nI b), .int (nI p), .int (nI L + 1), .ref 2]
          rw [nI_1]
          refine R.V3i kc_X2_takesLevel_75 (by rfl) (hLv p b _ _ _ _ _ _ _ _ _ _ f1 hm hin htop2 hfl2) (by omega) rfl ⟨Nat.le_refl _, Nat.le_refl _⟩ (fun x75 M75 q75 => ?_)
          rw [show (b1 :: T.tail).headD false = b1 from rfl, show (b1 :: T.tail).tail = T.tail from rfl] at hop
          rcases q75 with ⟨rfl, hF⟩ | ⟨rfl, hT7⟩
          · have hrn : (E_run tp n (nI ky) f true tk W C at_ T (nts W)) = E_run tp n (nI ky) f1 true (nxt tp n tk1) (E_sg tk1 :: W) C1 at1 (E_tf (E_sg tk1) b1 :: T.tail) (nts (E_sg tk1 :: W)) := by rw [hrun, nts_cons n10]; exact hop
            refine R.c br_X2_takesLevel_78 (And.intro (fun h78 => absurd rfl h78) (fun h78 => ?_))
            refine R.b bk_X2_takesLevel_81 ?_
            refine R.ri rt_X2_takesLevel_82 rfl ⟨_, rfl, ?_⟩
            rw [← hrn] at hF
            exact Or.inl ⟨rfl, hF⟩
          · have hrn : (E_run tp n (nI ky) f true tk W C at_ T (nts W)) = E_run tp n (nI ky) f1 true (nxt tp n tk1) (E_sg tk1 :: W) C1 at1 (E_tf (E_sg tk1) b1 :: T.tail) (nts (E_sg tk1 :: W)) := by rw [hrun, nts_cons n10]; exact hop
            obtain ⟨r3, d3, st3, tk3, s3, q3, C3, at3, f3, W3, C3', b3, rfl, hR3, hs3, hf3, hl3, hrun3, hstl3, hb33, hnx3⟩ := hT7
            have hs3n : s3 ≤ n := hR3.2.2.2.1.2.2.1
            simp only [List.length_cons] at hl3
            have hnx3' : E_sg tk3 = 0 ∨ f_rank (E_sg tk3) ≤ nI (L + 1) ∨ (f_rank (E_sg tk3) = 3 ∧ b3 = true ∧ L + 1 ≤ 2) := hnx3
            refine R.c br_X2_takesLevel_78 (And.intro (fun h78 => ?_) (fun h78 => absurd h78 (by decide)))
            refine R.b bk_X2_takesLevel_83 (And.intro rfl ?_)
            show X 127 (S3 M r3 d3 st3) 89 [some (.ref 2), some (.int (nI L)), some (.int (nI p)), some (.int (nI b)), some (.int (nI j)), some (.int (r1 3))] [.int (r1 3), .ref (S3 M r3 d3 st3 2 (130 % 64)).toNatClampNeg]
            rw [show (S3 M r3 d3 st3 2 (130 % 64)).toNatClampNeg = 6 by rw [S3_2, show r3 (130 % 64) = nI 6 from hR3.2.2.1]; rfl]
            refine R.V1v kc_X2_takesLevel_89 (by rfl) (c_addSign3 (k := C3.length) (by omega) hR3.2.2.2.2.2.2.1) (by omega) rfl ⟨Nat.le_refl _, Nat.le_refl _⟩ (fun M89 q89 => ?_)
            rw [← k5] at q89
            replace q89 := q89.symm
            subst q89
            refine R.b bk_X2_takesLevel_92 ?_
            refine R.j gt_X2_takesLevel_95 ?_
            rw [nI_inc]
            refine ih (j + 1) r3 _ _ tk3 s3 q3 (E_sg tk1 :: C3) at3 f3 W3 C3' b3 _ (by omega) (RdS_sign (v := E_sg tk1) hR3) (by omega) hf3 (by simp only [List.length_cons]; omega) ?_ ?_ ?_ ?_ ?_ hnx3' (by omega)
            · rw [hrn, hrun3, nts_cons n10]; rfl
            · intro lv hlv
              rw [hstl3 lv (Int32.le_trans hlv (nI_le (by omega) (by omega))), stl, if_neg (fun e => e.elim n11 (fun e => absurd (Int32.lt_of_lt_of_le e hlv) (by rw [k3]; exact nI_nlt (Nat.le_refl _) (by omega))))]
            · intro h3L
              rw [hb33 (by omega), List.headD_cons, htf, decide_eq_false (by omega), decide_eq_true (by omega), Bool.false_or, Bool.true_and]
              exact hb3 h3L
            · intro hL2 _
              rw [hb33 (by omega), List.headD_cons, htf, decide_eq_true hL2, Bool.true_or]
            · intro _ e
              exact absurd e (by omega)
        · refine R.b bk_X2_takesLevel_52 ?_
          refine R.c br_X2_takesLevel_54 (And.intro (fun h54 => ?_) (fun h54 => ?_))
          · have hj0 : L = 2 → j = 0 := by
              first
              | (exact fun e => absurd (by rw [e]; rfl) h49)
              | (have q1 := h54; exact fun _ => Nat.le_zero.mp ((nI_leI (b := 0) (by omega) (by decide)).mp q1))
            obtain ⟨f1, rfl⟩ : ∃ f', f1 = f' + 1 := ⟨f1 - 1, by omega⟩
            have hst1 : stl (f_rank (E_sg tk1)) W1 C' = (W, C1) := by
              rw [k3, hstl _ (Int32.le_refl _)]
              exact stl_topOK htop (Int32.le_refl _)
            have hnt : ¬ (f_rank (E_sg tk1) = 3 ∧ (b1 :: T.tail).headD false = true) := by
              intro e
              have hL2 : L = 2 := by
                rw [k3] at e
                have := (nI_eq (b := 3) (by omega) (by decide)).mp e.1
                omega
              have := hb0 hL2 (hj0 hL2)
              rw [this] at e
              exact absurd (show false = true from e.2) (by decide)
            have hop := run_op (tp := tp) (n := n) (key := nI ky) (f := f1) (W := W1) (C := C') (at_ := at1) (T := b1 :: T.tail) (k := nts W) k7 k8 (fun e => by rw [e] at nneg; exact absurd nneg (by decide)) hnt
            rw [hst1] at hop
            obtain ⟨hsq2, hqn2, s2, q2, hss2, hs2n, hRd2⟩ := RdS_go hn h8 hR1 hlt
            have hin : PIn tp n ky p b (rgo tp n r1 q1) d1 st1 (nxt tp n tk1) s2 q2 (E_sg tk1 :: W) C1 at1 (E_tf (E_sg tk1) b1 :: T.tail) f1 := ⟨hRd2, by omega, by simp only [List.length_cons]; omega, by rw [nts_cons n10]; exact hb, by simp only [List.length_cons, List.length_tail]; omega, hp8, hb8⟩
            have htop2 : topOK (E_sg tk1 :: W) (L + 1) := fun w V e => by
              rw [← (List.cons.inj e).1, k3]
              exact Or.inr (nI_lt (by omega) (by omega))
            have htf : E_tf (E_sg tk1) b1 = (decide (L = 2) || (decide (2 < L) && b1)) := by
              unfold E_tf
              rw [k3]
              have e1 : (nI (L + 1) = 3) ↔ L = 2 := by
                rw [show (3 : Int32) = nI 3 from rfl, nI_eq (by omega) (by decide)]
                omega
              have e2 : ((3 : Int32) < nI (L + 1)) ↔ 2 < L := by
                rw [show (3 : Int32) = nI 3 from rfl, nI_ltI (by decide) (by omega)]
                omega
              rw [decide_eq_decide.mpr e1, decide_eq_decide.mpr e2]
            have hfl2 : L + 1 ≤ 2 → (E_tf (E_sg tk1) b1 :: T.tail).headD false = false := fun e => by
              show E_tf (E_sg tk1) b1 = false
              rw [htf, decide_eq_false (by omega), decide_eq_false (by omega)]
              rfl
            refine R.b bk_X2_takesLevel_59 (And.intro (by rfl) ?_)
            show X 127 (S3 M r1 d1 st1) 66 [some (.ref 2), some (.int (nI L)), some (.int (nI p)), some (.int (nI b)), some (.int (nI j)), some (.int (r1 3))] [.ref 2]
            refine R.V0v kc_X2_takesLevel_66 (by rfl) (c_goOn3 (tp := tp) (n := n) ht hn hqn2 hR1.1 hR1.2.1 gT.2.2.2.2.2.1) (by omega) rfl ⟨Nat.le_refl _, Nat.le_refl _⟩ (fun M66 q66 => ?_)
            replace q66 := q66.symm
            subst q66
            refine R.b bk_X2_takesLevel_69 ?_
            show X 127 (S3 M (rgo tp n r1 q1) d1 st1) 75 [some (.ref 2), some (.int (nI L)), some (.int (nI p)), some (.int (nI b)), some (.int (nI j)), some (.int (r1 3))] [.int (nI b), .int (nI p), .int (nI L + 1), .ref 2]
            rw [nI_1]
            refine R.V3i kc_X2_takesLevel_75 (by rfl) (hLv p b _ _ _ _ _ _ _ _ _ _ f1 hm hin htop2 hfl2) (by omega) rfl ⟨Nat.le_refl _, Nat.le_refl _⟩ (fun x75 M75 q75 => ?_)
            rw [show (b1 :: T.tail).headD false = b1 from rfl, show (b1 :: T.tail).tail = T.tail from rfl] at hop
            rcases q75 with ⟨rfl, hF⟩ | ⟨rfl, hT7⟩
            · have hrn : (E_run tp n (nI ky) f true tk W C at_ T (nts W)) = E_run tp n (nI ky) f1 true (nxt tp n tk1) (E_sg tk1 :: W) C1 at1 (E_tf (E_sg tk1) b1 :: T.tail) (nts (E_sg tk1 :: W)) := by rw [hrun, nts_cons n10]; exact hop
              refine R.c br_X2_takesLevel_78 (And.intro (fun h78 => absurd rfl h78) (fun h78 => ?_))
              refine R.b bk_X2_takesLevel_81 ?_
              refine R.ri rt_X2_takesLevel_82 rfl ⟨_, rfl, ?_⟩
              rw [← hrn] at hF
              exact Or.inl ⟨rfl, hF⟩
            · have hrn : (E_run tp n (nI ky) f true tk W C at_ T (nts W)) = E_run tp n (nI ky) f1 true (nxt tp n tk1) (E_sg tk1 :: W) C1 at1 (E_tf (E_sg tk1) b1 :: T.tail) (nts (E_sg tk1 :: W)) := by rw [hrun, nts_cons n10]; exact hop
              obtain ⟨r3, d3, st3, tk3, s3, q3, C3, at3, f3, W3, C3', b3, rfl, hR3, hs3, hf3, hl3, hrun3, hstl3, hb33, hnx3⟩ := hT7
              have hs3n : s3 ≤ n := hR3.2.2.2.1.2.2.1
              simp only [List.length_cons] at hl3
              have hnx3' : E_sg tk3 = 0 ∨ f_rank (E_sg tk3) ≤ nI (L + 1) ∨ (f_rank (E_sg tk3) = 3 ∧ b3 = true ∧ L + 1 ≤ 2) := hnx3
              refine R.c br_X2_takesLevel_78 (And.intro (fun h78 => ?_) (fun h78 => absurd h78 (by decide)))
              refine R.b bk_X2_takesLevel_83 (And.intro rfl ?_)
              show X 127 (S3 M r3 d3 st3) 89 [some (.ref 2), some (.int (nI L)), some (.int (nI p)), some (.int (nI b)), some (.int (nI j)), some (.int (r1 3))] [.int (r1 3), .ref (S3 M r3 d3 st3 2 (130 % 64)).toNatClampNeg]
              rw [show (S3 M r3 d3 st3 2 (130 % 64)).toNatClampNeg = 6 by rw [S3_2, show r3 (130 % 64) = nI 6 from hR3.2.2.1]; rfl]
              refine R.V1v kc_X2_takesLevel_89 (by rfl) (c_addSign3 (k := C3.length) (by omega) hR3.2.2.2.2.2.2.1) (by omega) rfl ⟨Nat.le_refl _, Nat.le_refl _⟩ (fun M89 q89 => ?_)
              rw [← k5] at q89
              replace q89 := q89.symm
              subst q89
              refine R.b bk_X2_takesLevel_92 ?_
              refine R.j gt_X2_takesLevel_95 ?_
              rw [nI_inc]
              refine ih (j + 1) r3 _ _ tk3 s3 q3 (E_sg tk1 :: C3) at3 f3 W3 C3' b3 _ (by omega) (RdS_sign (v := E_sg tk1) hR3) (by omega) hf3 (by simp only [List.length_cons]; omega) ?_ ?_ ?_ ?_ ?_ hnx3' (by omega)
              · rw [hrn, hrun3, nts_cons n10]; rfl
              · intro lv hlv
                rw [hstl3 lv (Int32.le_trans hlv (nI_le (by omega) (by omega))), stl, if_neg (fun e => e.elim n11 (fun e => absurd (Int32.lt_of_lt_of_le e hlv) (by rw [k3]; exact nI_nlt (Nat.le_refl _) (by omega))))]
              · intro h3L
                rw [hb33 (by omega), List.headD_cons, htf, decide_eq_false (by omega), decide_eq_true (by omega), Bool.false_or, Bool.true_and]
                exact hb3 h3L
              · intro hL2 _
                rw [hb33 (by omega), List.headD_cons, htf, decide_eq_true hL2, Bool.true_or]
              · intro _ e
                exact absurd e (by omega)
          · refine R.b bk_X2_takesLevel_57 ?_
            refine R.ri rt_X2_takesLevel_58 rfl ⟨_, rfl, ?_⟩
            refine Or.inr ⟨rfl, r1, d1, st1, tk1, s1, q1, C1, at1, f1, W1, C', b1, rfl, hR1, hs1, hf1, hl1, hrun, hstl, hb3, Or.inr (Or.inr ?_)⟩
            have hL2 : L = 2 := (nI_eq (b := 2) (by omega) (by decide)).mp h49
            refine ⟨by rw [k3, hL2]; rfl, hb2 hL2 (Nat.pos_of_ne_zero (fun e => h54 (by rw [e]; decide))), by omega⟩
  refine R.b bk_X2_takesLevel_0 ?_
  refine R.c br_X2_takesLevel_2 (And.intro (fun h2 => ?_) (fun h2 => absurd (nI_lt (b := 5) hL5 (by decide)) h2))
  refine R.b bk_X2_takesLevel_12 ?_
  show X 127 (S3 M r d st) 18 (mx_L0 dm_X2_takesLevel [Value.ref 2, Value.int (nI L), Value.int (nI p), Value.int (nI b)]) [.int (nI b), .int (nI p), .int (nI L + 1), .ref 2]
  rw [nI_1]
  refine R.V3i kc_X2_takesLevel_18 (by rfl) (hLv p b r d st tk s q W C at_ T f hm hP0 htop1 (fun e => hfl (by omega))) (by omega) rfl ⟨Nat.le_refl _, Nat.le_refl _⟩ (fun x18 M18 q18 => ?_)
  rcases q18 with ⟨rfl, hF⟩ | ⟨rfl, hT8⟩
  · refine R.c br_X2_takesLevel_21 (And.intro (fun h21 => absurd rfl h21) (fun h21 => ?_))
    refine R.b bk_X2_takesLevel_24 ?_
    refine R.ri rt_X2_takesLevel_25 rfl ⟨_, rfl, ?_⟩
    exact Or.inl ⟨rfl, hF⟩
  · obtain ⟨r1, d1, st1, tk1, s1, q1, C1, at1, f1, W1, C', b1, rfl, hR1, hs1, hf1, hl1, hrun, hstl, hb3, hnx⟩ := hT8
    refine R.c br_X2_takesLevel_21 (And.intro (fun h21 => ?_) (fun h21 => absurd h21 (by decide)))
    refine R.b bk_X2_takesLevel_26 ?_
    refine hA (n - s1) 0 r1 d1 st1 tk1 s1 q1 C1 at1 f1 W1 C' b1 none (Nat.le_refl _) hR1 hs1 hf1 hl1 hrun (fun lv h => hstl lv (Int32.le_trans h (nI_le (by omega) (by omega)))) (fun e => hb3 (by omega)) (fun _ e => absurd e (by omega)) (fun e _ => by rw [hb3 (by omega)]; exact hfl (by omega)) hnx (by omega)
theorem read_ok {l : Launch} {G : Gt} {M : Mm} {tp : Rw} {n ky : Nat} (ht : ∀ k, k < 96 → (M 1 k &&& 255) = tp k) (hn : n ≤ 96) (hky : ky ≤ 2) : ∀ m, PieceOK l G M tp n ky m ∧ ∀ L, L ≤ 5 → LevelOK l G M tp n ky m L := by
  intro m
  induction m with
  | zero =>
    have h1 : PieceOK l G M tp n ky 0 := piece_ok ht hn hky (fun m' e => absurd e (by omega))
    refine ⟨h1, ?_⟩
    have h5 : LevelOK l G M tp n ky 0 5 := level5_ok h1
    have h4 := levelS_ok ht hn hky (L := 4) (by decide) h5
    have h3 := levelS_ok ht hn hky (L := 3) (by decide) h4
    have h2 := levelS_ok ht hn hky (L := 2) (by decide) h3
    have h1 := levelS_ok ht hn hky (L := 1) (by decide) h2
    have h0 := levelS_ok ht hn hky (L := 0) (by decide) h1
    intro L hL
    rcases (show L = 0 ∨ L = 1 ∨ L = 2 ∨ L = 3 ∨ L = 4 ∨ L = 5 by omega) with rfl | rfl | rfl | rfl | rfl | rfl <;> assumption
  | succ m ih =>
    have h1 : PieceOK l G M tp n ky (m + 1) := piece_ok ht hn hky (fun m' e => by
      have e2 : m' = m := by omega
      rw [e2]
      exact ⟨ih.1, ih.2 0 (by decide)⟩)
    refine ⟨h1, ?_⟩
    have h5 : LevelOK l G M tp n ky (m + 1) 5 := level5_ok h1
    have h4 := levelS_ok ht hn hky (L := 4) (by decide) h5
    have h3 := levelS_ok ht hn hky (L := 3) (by decide) h4
    have h2 := levelS_ok ht hn hky (L := 2) (by decide) h3
    have h1 := levelS_ok ht hn hky (L := 1) (by decide) h2
    have h0 := levelS_ok ht hn hky (L := 0) (by decide) h1
    intro L hL
    rcases (show L = 0 ∨ L = 1 ∨ L = 2 ∨ L = 3 ∨ L = 4 ∨ L = 5 by omega) with rfl | rfl | rfl | rfl | rfl | rfl <;> assumption
