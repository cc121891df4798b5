/-! the reader's recursion -/
def PieceOK (l : Launch) (G : Gt) (M : Mm) (tp : Rw) (n ky m : Nat) : Prop := ∀ (p b : Nat) (r d st tk : Rw) (s q : Nat) (W C : List Int32) (at_ : Nat) (T : List Bool) (f : Nat), (8 - p) + (8 - b) = m → PIn tp n ky p b r d st tk s q W C at_ T f → Runs l G true dm_X2_takesPiece (10 * m + 8) 127 [.ref 2, .int (nI p), .int (nI b)] (S3 M r d st) 127 (Pi (fun x M1 => (x = 0 ∧ PFl M (E_run tp n (nI ky) f true tk W C at_ T (nts W)) M1) ∨ (x = 1 ∧ PPt tp n ky M (E_run tp n (nI ky) f true tk W C at_ T (nts W)) W T s M1)))
def LevelOK (l : Launch) (G : Gt) (M : Mm) (tp : Rw) (n ky m L : Nat) : Prop := ∀ (p b : Nat) (r d st tk : Rw) (s q : Nat) (W C : List Int32) (at_ : Nat) (T : List Bool) (f : Nat), (8 - p) + (8 - b) = m → PIn tp n ky p b r d st tk s q W C at_ T f → topOK W L → (L ≤ 2 → T.headD false = false) → Runs l G true dm_X2_takesLevel (10 * m + 14 - L) 127 [.ref 2, .int (nI L), .int (nI p), .int (nI b)] (S3 M r d st) 127 (Pi (fun x M1 => (x = 0 ∧ PFl M (E_run tp n (nI ky) f true tk W C at_ T (nts W)) M1) ∨ (x = 1 ∧ PLt tp n ky M (E_run tp n (nI ky) f true tk W C at_ T (nts W)) W T L s M1)))
theorem tb_nat {M : Mm} {tp : Rw} (ht : ∀ k, k < 96 → (M 1 k &&& 255) = tp k) : ∀ k, k < 96 → ∃ b, b < 256 ∧ tp k = nI b := fun k hk => tp_nat (ht k hk)
theorem nts_cons {w : Int32} {W : List Int32} (h : ¬ w = -10) : nts (w :: W) = nts W := by rw [nts, if_neg h, Nat.add_zero]
theorem not_ok {l : Launch} {G : Gt} {M : Mm} {tp : Rw} {n ky : Nat} (ht : ∀ k, k < 96 → (M 1 k &&& 255) = tp k) (hn : n ≤ 96) (hky : ky ≤ 2) {m : Nat} (hPc : PieceOK l G M tp n ky m) (p b : Nat) (r d st tk : Rw) (s q : Nat) (W C : List Int32) (at_ : Nat) (T : List Bool) (f : Nat) (hm : (8 - p) + (8 - b) = m + 1) (hbl : b < 8) (hP : PIn tp n ky p b r d st tk s q W C at_ T f) (h33 : r 3 = 33) : Runs l G true dm_X2_takesNot (10 * m + 9) 127 [.ref 2, .int (nI p), .int (nI (b + 1))] (S3 M r d st) 127 (Pi (fun x M1 => (x = 0 ∧ PFl M (E_run tp n (nI ky) f true tk W C at_ T (nts W)) M1) ∨ (x = 1 ∧ PPt tp n ky M (E_run tp n (nI ky) f true tk W C at_ T (nts W)) W T s M1))) := by
  obtain ⟨hRd, hf, hlen, hb, hTl, hp8, hb8⟩ := hP
  have h8 := tb_nat ht
  obtain ⟨h0, h1, h2, hT, hd0, hd1, hd2, hst⟩ := id hRd
  obtain ⟨h4, h10, hsn, hq, h9, h5, h3, h6, h11, h12, hpre⟩ := id hT
  obtain ⟨f, rfl⟩ : ∃ f', f = f' + 1 := ⟨f - 1, by omega⟩
  have hsl : s < n := (T_sign hn h8 hT).elim (fun e => e.2.2.2) (fun e => absurd e.2 (by rw [h33]; decide))
  obtain ⟨k11, k12⟩ : tk 11 = 3 ∧ tk 12 = 33 := (T_sign hn h8 hT).elim (fun e => ⟨e.1, e.2.1.trans h33⟩) (fun e => absurd e.2 (by rw [h33]; decide))
  obtain ⟨hsq, hqn, s1, q1, hss, hs1n, hRd1⟩ := RdS_go hn h8 hRd hsl
  have hr : E_run tp n (nI ky) (f + 1) true tk W C at_ T (nts W) = E_run tp n (nI ky) f true (nxt tp n tk) (-10 :: W) C at_ T (nts (-10 :: W)) := run_not k11 k12 (by omega)
  have hin : PIn tp n ky p (b + 1) (rgo tp n r q) d st (nxt tp n tk) s1 q1 (-10 :: W) C at_ T f := ⟨hRd1, by omega, by simp only [List.length_cons]; omega, by rw [nts, if_pos rfl]; omega, hTl, hp8, by omega⟩
  have hstl : ∀ C1 : List Int32, stl 6 (-10 :: W) C1 = stl 6 W (-10 :: C1) := fun C1 => by
    rw [stl, if_neg (by decide)]
  rw [hr]
  refine mx_run ow_X2_takesNot rfl rfl (fun dp X hdp R => ?_)
  refine R.b bk_X2_takesNot_0 ?_
  refine R.V0v kc_X2_takesNot_1 (by rfl) (c_goOn3 (tp := tp) (n := n) ht hn hqn h0 h1 h5) (by omega) rfl ⟨Nat.le_refl _, Nat.le_refl _⟩ (fun M1 q1 => ?_)
  replace q1 := q1.symm
  subst q1
  refine R.b bk_X2_takesNot_4 ?_
  refine R.V2i kc_X2_takesNot_7 (by rfl) (hPc p (b + 1) _ _ _ _ _ _ _ _ _ _ f (by omega) hin) (by omega) rfl ⟨Nat.le_refl _, Nat.le_refl _⟩ (fun x7 M7 q7 => ?_)
  rcases q7 with ⟨rfl, hF⟩ | ⟨rfl, hT7⟩
  · refine R.c br_X2_takesNot_10 (And.intro (fun h10 => absurd rfl h10) (fun h10 => ?_))
    refine R.b bk_X2_takesNot_13 ?_
    refine R.ri rt_X2_takesNot_14 rfl ⟨_, rfl, ?_⟩
    exact Or.inl ⟨rfl, hF⟩
  · obtain ⟨r1, d1, st1, tk1, s2, q2, C1, at1, f1, rfl, hR1, hs2, hf1, hl1, hrun⟩ := hT7
    have hs2n : s2 ≤ n := hR1.2.2.2.1.2.2.1
    simp only [List.length_cons] at hl1
    refine R.c br_X2_takesNot_10 (And.intro (fun h10 => ?_) (fun h10 => absurd h10 (by decide)))
    refine R.b bk_X2_takesNot_15 (And.intro rfl ?_)
    show X 127 (S3 M r1 d1 st1) 21 [some (.ref 2), some (.int (nI p)), some (.int (nI (b + 1)))] [.int 33, .ref (S3 M r1 d1 st1 2 (130 % 64)).toNatClampNeg]
    rw [show (S3 M r1 d1 st1 2 (130 % 64)).toNatClampNeg = 6 by rw [S3_2, show r1 (130 % 64) = nI 6 from hR1.2.2.1]; rfl]
    refine R.V1v kc_X2_takesNot_21 (by rfl) (c_addSign3 (k := C1.length) (by omega) hR1.2.2.2.2.2.2.1) (by omega) rfl ⟨Nat.le_refl _, Nat.le_refl _⟩ (fun M21 q21 => ?_)
    replace q21 := q21.symm
    subst q21
    refine R.b bk_X2_takesNot_24 ?_
    refine R.ri rt_X2_takesNot_25 rfl ⟨_, rfl, ?_⟩
    refine Or.inr ⟨rfl, r1, _, _, tk1, s2, q2, -10 :: C1, at1, f1, rfl, RdS_sign (v := -10) hR1, by omega, hf1, by simp only [List.length_cons]; omega, ?_⟩
    rw [hrun, hstl]
theorem inner_ok {l : Launch} {G : Gt} {M : Mm} {tp : Rw} {n ky : Nat} (ht : ∀ k, k < 96 → (M 1 k &&& 255) = tp k) (hn : n ≤ 96) (hky : ky ≤ 2) {m : Nat} (hLv : LevelOK l G M tp n ky m 0) (p b : Nat) (r d st tk : Rw) (s q : Nat) (W C : List Int32) (at_ : Nat) (T : List Bool) (f : Nat) (hm : (8 - p) + (8 - b) = m + 1) (hpl : p < 8) (hP : PIn tp n ky p b r d st tk s q W C at_ T f) (h40 : r 3 = 40) : Runs l G true dm_X2_takesInner (10 * m + 15) 127 [.ref 2, .int (nI (p + 1)), .int (nI b)] (S3 M r d st) 127 (Pi (fun x M1 => (x = 0 ∧ PFl M (E_run tp n (nI ky) f true tk W C at_ T (nts W)) M1) ∨ (x = 1 ∧ PPt tp n ky M (E_run tp n (nI ky) f true tk W C at_ T (nts W)) W T s M1))) := by
  obtain ⟨hRd, hf, hlen, hb, hTl, hp8, hb8⟩ := hP
  have h8 := tb_nat ht
  obtain ⟨h0, h1, h2, hT, hd0, hd1, hd2, hst⟩ := id hRd
  obtain ⟨h4, h10, hsn, hq, h9, h5, h3, h6, h11, h12, hpre⟩ := id hT
  obtain ⟨f, rfl⟩ : ∃ f', f = f' + 1 := ⟨f - 1, by omega⟩
  have hsl : s < n := (T_sign hn h8 hT).elim (fun e => e.2.2.2) (fun e => absurd e.2 (by rw [h40]; decide))
  obtain ⟨k11, k12⟩ : tk 11 = 3 ∧ tk 12 = 40 := (T_sign hn h8 hT).elim (fun e => ⟨e.1, e.2.1.trans h40⟩) (fun e => absurd e.2 (by rw [h40]; decide))
  obtain ⟨hsq, hqn, s1, q1, hss, hs1n, hRd1⟩ := RdS_go hn h8 hRd hsl
  have hr : E_run tp n (nI ky) (f + 1) true tk W C at_ T (nts W) = E_run tp n (nI ky) f true (nxt tp n tk) (-11 :: W) C at_ (false :: T) (nts (-11 :: W)) := run_open k11 k12 (by omega)
  have hin : PIn tp n ky (p + 1) b (rgo tp n r q) d st (nxt tp n tk) s1 q1 (-11 :: W) C at_ (false :: T) f := ⟨hRd1, by omega, by simp only [List.length_cons]; omega, by rw [nts_cons (by decide)]; exact hb, by simp only [List.length_cons]; omega, by omega, hb8⟩
  have htop : topOK (-11 :: W) 0 := fun w V e => Or.inl (List.cons.inj e).1.symm
  rw [hr]
  refine mx_run ow_X2_takesInner rfl rfl (fun dp X hdp R => ?_)
  refine R.b bk_X2_takesInner_0 ?_
  refine R.V0v kc_X2_takesInner_1 (by rfl) (c_goOn3 (tp := tp) (n := n) ht hn hqn h0 h1 h5) (by omega) rfl ⟨Nat.le_refl _, Nat.le_refl _⟩ (fun M1 q1 => ?_)
  replace q1 := q1.symm
  subst q1
  refine R.b bk_X2_takesInner_4 ?_
  refine R.V3i kc_X2_takesInner_8 (by rfl) (hLv (p + 1) b _ _ _ _ _ _ _ _ _ _ f (by omega) hin htop (fun _ => rfl)) (by omega) rfl ⟨Nat.le_refl _, Nat.le_refl _⟩ (fun x8 M8 q8 => ?_)
  rcases q8 with ⟨rfl, hF⟩ | ⟨rfl, hT8⟩
  · refine R.c br_X2_takesInner_11 (And.intro (fun h11 => ?_) (fun h11 => absurd rfl h11))
    refine R.b bk_X2_takesInner_23 ?_
    refine R.ri rt_X2_takesInner_24 rfl ⟨_, rfl, ?_⟩
    exact Or.inl ⟨rfl, hF⟩
  · obtain ⟨r1, d1, st1, tk1, s2, q2, C1, at1, f1, W2, C2, b2, rfl, hR1, hs2, hf1, hl1, hrun, hstl, -, hnx⟩ := hT8
    obtain ⟨g0, g1, g2, gT, gd0, gd1, gd2, gst⟩ := id hR1
    have hs2n : s2 ≤ n := gT.2.2.1
    simp only [List.length_cons] at hl1
    rw [List.tail_cons, nts_cons (by decide)] at hrun
    obtain ⟨f1, rfl⟩ : ∃ f', f1 = f' + 1 := ⟨f1 - 1, by omega⟩
    have hst0 : stl 0 W2 C2 = (-11 :: W, C1) := by
      rw [hstl 0 (by decide), stl, if_pos (Or.inl rfl)]
    refine R.c br_X2_takesInner_11 (And.intro (fun h11 => absurd h11 (by decide)) (fun h11 => ?_))
    refine R.b bk_X2_takesInner_14 (And.intro (by rfl) ?_)
    refine R.c br_X2_takesInner_20 (And.intro (fun h20 => ?_) (fun h20 => ?_))
    · obtain ⟨m1, m2, m3, m4⟩ : tk1 11 = 3 ∧ tk1 12 = r1 3 ∧ ¬ r1 3 < 0 ∧ s2 < n := (T_sign hn h8 gT).elim id (fun e => absurd e.2 (by rw [show r1 3 = 41 from h20]; decide))
      obtain ⟨hsq2, hqn2, s3, q3, hss3, hs3n, hRd3⟩ := RdS_go hn h8 hR1 m4
      have hr3 := run_close (tp := tp) (n := n) (key := nI ky) (f := f1) (W := W2) (C := C2) (at_ := at1) (T := b2 :: T) (k := nts W) m1 (m2.trans h20) (by simp only [List.length_cons]; omega)
      refine R.b bk_X2_takesInner_25 ?_
      refine R.V0v kc_X2_takesInner_26 (by rfl) (c_goOn3 (tp := tp) (n := n) ht hn hqn2 g0 g1 gT.2.2.2.2.2.1) (by omega) rfl ⟨Nat.le_refl _, Nat.le_refl _⟩ (fun M26 q26 => ?_)
      replace q26 := q26.symm
      subst q26
      refine R.b bk_X2_takesInner_29 ?_
      refine R.ri rt_X2_takesInner_30 rfl ⟨_, rfl, ?_⟩
      refine Or.inr ⟨rfl, _, d1, st1, nxt tp n tk1, s3, q3, C1, at1, f1, rfl, hRd3, by omega, by omega, by omega, ?_⟩
      rw [nts_cons (show ¬ (-11 : Int32) = -10 by decide), hrun, hr3, hst0]
      rfl
    · refine R.b bk_X2_takesInner_23 ?_
      refine R.ri rt_X2_takesInner_24 rfl ⟨_, rfl, ?_⟩
      refine Or.inl ⟨rfl, r1, d1, st1, rfl, ?_⟩
      rw [nts_cons (show ¬ (-11 : Int32) = -10 by decide), hrun, gT.1, ← gT.2.1]
      by_cases he : tk1 11 = 0
      · rw [run_end he, if_neg (by simp only [List.length_cons]; omega)]
      · refine run_stop he (fun e => ?_) ?_
        · rcases T_sign hn h8 gT with e2 | e2
          · exact h20 (e2.2.1.symm.trans e.2.1)
          · exact e2.1 e.1
        · rcases hnx with e | e | e
          · exact Or.inl e
          · rcases T_lev hn h8 gT with ⟨e2, -⟩ | ⟨k, k1, k2, k3, -⟩
            · exact Or.inl e2
            · rw [k3] at e
              have := (nI_leI (b := 0) (by omega) (by decide)).mp e
              omega
          · exact Or.inr ⟨e.1, e.2.1⟩
theorem tk_other {tp r tk : Rw} {n s q : Nat} (hn : n ≤ 96) (h8 : ∀ k, k < 96 → ∃ b, b < 256 ∧ tp k = nI b) (h : TCur tp n r tk s q) (h0 : ¬ r 3 = -3) (h1 : ¬ r 3 = -2) (h2 : r 3 < 0) : tk 11 = 0 := by
  obtain ⟨h4, h10, hsn, hq, h9, h5, e3, h6, h11, h12, hpre⟩ := h
  by_cases c1 : s = n
  · rw [h11, k_t, if_pos c1]
  · exfalso
    obtain ⟨b, hb, hb2⟩ := h8 s (by omega)
    rw [e3, c_tok, if_neg c1] at h0 h1 h2
    unfold c_sort at h0 h1 h2
    split at h1
    · exact h1 rfl
    · rename_i c2
      rw [if_neg c2] at h0 h2
      split at h0
      · exact h0 rfl
      · rename_i c3
        rw [if_neg c3, hb2] at h2
        exact nI_pos (by omega) h2
theorem piece_ok {l : Launch} {G : Gt} {M : Mm} {tp : Rw} {n ky : Nat} (ht : ∀ k, k < 96 → (M 1 k &&& 255) = tp k) (hn : n ≤ 96) (hky : ky ≤ 2) {m : Nat} (hrec : ∀ m', m' + 1 = m → PieceOK l G M tp n ky m' ∧ LevelOK l G M tp n ky m' 0) : PieceOK l G M tp n ky m := by
  intro p b r d st tk s q W C at_ T f hm hP
  have hP0 := hP
  obtain ⟨hRd, hf, hlen, hb, hTl, hp8, hb8⟩ := hP
  have h8 := tb_nat ht
  obtain ⟨h0, h1, h2, hT, hd0, hd1, hd2, hst⟩ := id hRd
  obtain ⟨h4, h10, hsn, hq, h9, h5, h3, h6, h11, h12, hpre⟩ := id hT
  obtain ⟨f, rfl⟩ : ∃ f', f = f' + 1 := ⟨f - 1, by omega⟩
  refine mx_run ow_X2_takesPiece rfl rfl (fun dp X hdp R => ?_)
  refine R.b bk_X2_takesPiece_0 (And.intro (by rfl) ?_)
  refine R.s sw_X2_takesPiece_4 (And.intro (fun h4_0 => ?_) (fun h4_0 => And.intro (fun h4_1 => ?_) (fun h4_1 => And.intro (fun h4_2 => ?_) (fun h4_2 => And.intro (fun h4_3 => ?_) (fun h4_3 => ?_)))))
  · replace h4_0 : r 3 = -3 := h4_0
    obtain ⟨hsl, t3, tA, tB⟩ := tk_num hn h8 hT h4_0
    obtain ⟨hsq, hqn, s1, q1, hss, hs1n, hRd1⟩ := RdS_go hn h8 hRd hsl
    refine R.b bk_X2_takesPiece_48 ?_
    refine R.V0i kc_X2_takesPiece_49 (by rfl) (c_X2_takesNumber ht hn h0 h1 h2 h4 h5 (Nat.le_of_lt hsq) hqn (by omega) hd2 hd1) (by omega) rfl ⟨Nat.le_refl _, Nat.le_refl _⟩ (fun x49 M49 q49 => ?_)
    by_cases hA : ¬ r 6 = 0 ∨ 4 < q - s
    · obtain ⟨rfl, rfl⟩ := q49.1 hA
      refine R.ri rt_X2_takesPiece_52 rfl ⟨_, rfl, ?_⟩
      refine Or.inl ⟨rfl, r, d, st, rfl, ?_⟩
      rw [h4, ← h10]
      exact run_fail (fun e => t3 e.1) (fun e => t3 e.1) (fun e => e.elim (tA hA).1 ((tA hA).2 _))
    · obtain ⟨rfl, rfl⟩ := q49.2 hA
      obtain ⟨u1, u2, v, hv, ev⟩ := tB hA
      refine R.ri rt_X2_takesPiece_52 rfl ⟨_, rfl, ?_⟩
      have hpart : f_part (nI ky) tk = vN tp s (q - s) := by rw [f_part, if_pos u1]; exact u2
      have hat := RdS_atom (v := vN tp s (q - s)) hRd1
      rw [show f_st (vN tp s (q - s)) = vN tp s (q - s) by rw [ev]; exact st_num hv] at hat
      refine Or.inr ⟨rfl, _, _, _, nxt tp n tk, s1, q1, vN tp s (q - s) :: C, at_ + 1, f, rfl, hat, hss, by omega, by simp only [List.length_cons]; omega, ?_⟩
      rw [run_part t3 (Or.inl u1), hpart]
  · replace h4_1 : r 3 = -2 := h4_1
    obtain ⟨hsl, t3, t2, tI, tv⟩ := tk_nam hn h8 hT h4_1 (nI ky)
    obtain ⟨hsq, hqn, s1, q1, hss, hs1n, hRd1⟩ := RdS_go hn h8 hRd hsl
    refine R.b bk_X2_takesPiece_53 ?_
    refine R.V0i kc_X2_takesPiece_54 (by rfl) (c_X2_takesName ht hn h0 h1 h2 h4 h5 (Nat.le_of_lt hsq) hqn (by omega) hd2 hd1 hky hd0 (by omega)) (by omega) rfl ⟨Nat.le_refl _, Nat.le_refl _⟩ (fun x54 M54 q54 => ?_)
    by_cases hA : ¬ r 6 = 0 ∨ ¬ q - s = 1 ∨ f_name (nI ky) (tp s) < 0
    · obtain ⟨rfl, rfl⟩ := q54.1 hA
      refine R.ri rt_X2_takesPiece_57 rfl ⟨_, rfl, ?_⟩
      refine Or.inl ⟨rfl, r, d, st, rfl, ?_⟩
      rw [h4, ← h10]
      exact run_fail (fun e => t3 e.1) (fun e => t3 e.1) (fun e => e.elim t2 (tI.mp hA))
    · obtain ⟨rfl, rfl⟩ := q54.2 hA
      have hNm : isNm (nI ky) tk := Classical.byContradiction (fun e => hA (tI.mpr e))
      obtain ⟨i, hi, ei⟩ : ∃ i, i < 3 ∧ f_name (nI ky) (tp s) = nI i := by
        rcases f_name_val hky (tp s) with e | ⟨i, hi, e⟩
        · exact absurd (Or.inr (Or.inr (by rw [e]; decide))) hA
        · exact ⟨i, by unfold nnK at hi; split at hi <;> omega, e⟩
      refine R.ri rt_X2_takesPiece_57 rfl ⟨_, rfl, ?_⟩
      have hpart : f_part (nI ky) tk = 10000 + nI i := by rw [f_part, if_neg t2, tv, ei]
      have hat := RdS_atom (v := 10000 + nI i) hRd1
      rw [st_nm hi, ← ei] at hat
      refine Or.inr ⟨rfl, _, _, _, nxt tp n tk, s1, q1, (10000 + nI i) :: C, at_ + 1, f, rfl, by rw [← ei]; exact hat, hss, by omega, by simp only [List.length_cons]; omega, ?_⟩
      rw [run_part t3 (Or.inr hNm), hpart]
  · replace h4_2 : r 3 = 33 := h4_2
    obtain ⟨m1, m2, m3, hsl⟩ : tk 11 = 3 ∧ tk 12 = r 3 ∧ ¬ r 3 < 0 ∧ s < n := (T_sign hn h8 hT).elim id (fun e => absurd e.2 (by rw [show r 3 = 33 from h4_2]; decide))
    refine R.b bk_X2_takesPiece_58 ?_
    refine R.c br_X2_takesPiece_61 (And.intro (fun h61 => ?_) (fun h61 => ?_))
    · refine R.b bk_X2_takesPiece_79 ?_
      refine R.ri rt_X2_takesPiece_80 rfl ⟨_, rfl, ?_⟩
      refine Or.inl ⟨rfl, r, d, st, rfl, ?_⟩
      rw [h4, ← h10]
      exact run_fail (fun e => absurd h61 (nI_ge (b := 8) (by omega) (by decide))) (fun e => absurd (h4_2.symm.trans (m2.symm.trans e.2.1)) (by decide)) (fun e => e.elim (fun e => absurd (m1.symm.trans e) (by decide)) (fun e => absurd (m1.symm.trans e.1) (by decide)))
    · have hbl : b < 8 := nI_lt8 (by omega) (by decide) h61
      refine R.b bk_X2_takesPiece_64 ?_
      show X 127 (S3 M r d st) 69 (mx_L0 dm_X2_takesPiece [Value.ref 2, Value.int (nI p), Value.int (nI b)]) [.int (nI b + 1), .int (nI p), .ref 2]
      rw [nI_1]
      refine R.V2i kc_X2_takesPiece_69 (by rfl) (not_ok ht hn hky (hrec (m - 1) (by omega)).1 p b r d st tk s q W C at_ T (f + 1) (by omega) hbl hP0 h4_2) (by omega) rfl ⟨Nat.le_refl _, Nat.le_refl _⟩ (fun x69 M69 q69 => ?_)
      rcases q69 with ⟨rfl, hF⟩ | ⟨rfl, hT9⟩
      · refine R.c br_X2_takesPiece_72 (And.intro (fun h72 => ?_) (fun h72 => absurd rfl h72))
        refine R.b bk_X2_takesPiece_79 ?_
        refine R.ri rt_X2_takesPiece_80 rfl ⟨_, rfl, ?_⟩
        exact Or.inl ⟨rfl, hF⟩
      · refine R.c br_X2_takesPiece_72 (And.intro (fun h72 => absurd h72 (by decide)) (fun h72 => ?_))
        refine R.b bk_X2_takesPiece_75 ?_
        refine R.j gt_X2_takesPiece_76 ?_
        refine R.ri rt_X2_takesPiece_80 rfl ⟨_, rfl, ?_⟩
        exact Or.inr ⟨rfl, hT9⟩
  · replace h4_3 : r 3 = 40 := h4_3
    obtain ⟨m1, m2, m3, hsl⟩ : tk 11 = 3 ∧ tk 12 = r 3 ∧ ¬ r 3 < 0 ∧ s < n := (T_sign hn h8 hT).elim id (fun e => absurd e.2 (by rw [show r 3 = 40 from h4_3]; decide))
    refine R.b bk_X2_takesPiece_81 ?_
    refine R.c br_X2_takesPiece_84 (And.intro (fun h84 => ?_) (fun h84 => ?_))
    · refine R.b bk_X2_takesPiece_102 ?_
      refine R.ri rt_X2_takesPiece_103 rfl ⟨_, rfl, ?_⟩
      refine Or.inl ⟨rfl, r, d, st, rfl, ?_⟩
      rw [h4, ← h10]
      exact run_fail (fun e => absurd (h4_3.symm.trans (m2.symm.trans e.2.1)) (by decide)) (fun e => absurd h84 (nI_ge (b := 8) (by omega) (by decide))) (fun e => e.elim (fun e => absurd (m1.symm.trans e) (by decide)) (fun e => absurd (m1.symm.trans e.1) (by decide)))
    · have hpl : p < 8 := nI_lt8 (by omega) (by decide) h84
      refine R.b bk_X2_takesPiece_87 ?_
      show X 127 (S3 M r d st) 92 (mx_L0 dm_X2_takesPiece [Value.ref 2, Value.int (nI p), Value.int (nI b)]) [.int (nI b), .int (nI p + 1), .ref 2]
      rw [nI_1]
      refine R.V2i kc_X2_takesPiece_92 (by rfl) (inner_ok ht hn hky (hrec (m - 1) (by omega)).2 p b r d st tk s q W C at_ T (f + 1) (by omega) hpl hP0 h4_3) (by omega) rfl ⟨Nat.le_refl _, Nat.le_refl _⟩ (fun x92 M92 q92 => ?_)
      rcases q92 with ⟨rfl, hF⟩ | ⟨rfl, hT9⟩
      · refine R.c br_X2_takesPiece_95 (And.intro (fun h95 => ?_) (fun h95 => absurd rfl h95))
        refine R.b bk_X2_takesPiece_102 ?_
        refine R.ri rt_X2_takesPiece_103 rfl ⟨_, rfl, ?_⟩
        exact Or.inl ⟨rfl, hF⟩
      · refine R.c br_X2_takesPiece_95 (And.intro (fun h95 => absurd h95 (by decide)) (fun h95 => ?_))
        refine R.b bk_X2_takesPiece_98 ?_
        refine R.j gt_X2_takesPiece_99 ?_
        refine R.ri rt_X2_takesPiece_103 rfl ⟨_, rfl, ?_⟩
        exact Or.inr ⟨rfl, hT9⟩
  · refine R.b bk_X2_takesPiece_104 ?_
    refine R.ri rt_X2_takesPiece_105 rfl ⟨_, rfl, ?_⟩
    refine Or.inl ⟨rfl, r, d, st, rfl, ?_⟩
    rw [h4, ← h10]
    replace h4_0 : ¬ r 3 = -3 := h4_0
    replace h4_1 : ¬ r 3 = -2 := h4_1
    replace h4_2 : ¬ r 3 = 33 := h4_2
    replace h4_3 : ¬ r 3 = 40 := h4_3
    rcases T_sign hn h8 hT with ⟨m1, m2, m3, hsl⟩ | ⟨m1, m2⟩
    · exact run_fail (fun e => h4_2 (m2.symm.trans e.2.1)) (fun e => h4_3 (m2.symm.trans e.2.1)) (fun e => e.elim (fun e => absurd (m1.symm.trans e) (by decide)) (fun e => absurd (m1.symm.trans e.1) (by decide)))
    · have hk := tk_other hn h8 hT h4_0 h4_1 m2
      exact run_fail (fun e => m1 e.1) (fun e => m1 e.1) (fun e => e.elim (fun e => absurd (hk.symm.trans e) (by decide)) (fun e => absurd (hk.symm.trans e.1) (by decide)))
theorem level5_ok {l : Launch} {G : Gt} {M : Mm} {tp : Rw} {n ky : Nat} {m : Nat} (hPc : PieceOK l G M tp n ky m) : LevelOK l G M tp n ky m 5 := by
  intro p b r d st tk s q W C at_ T f hm hP htop hfl
  refine mx_run ow_X2_takesLevel rfl rfl (fun dp X hdp R => ?_)
  refine R.b bk_X2_takesLevel_0 ?_
  refine R.c br_X2_takesLevel_2 (And.intro (fun h2 => absurd h2 (by decide)) (fun h2 => ?_))
  refine R.b bk_X2_takesLevel_5 ?_
  refine R.V2i kc_X2_takesLevel_8 (by rfl) (hPc p b r d st tk s q W C at_ T f hm hP) (by omega) rfl ⟨Nat.le_refl _, Nat.le_refl _⟩ (fun x8 M8 q8 => ?_)
  rcases q8 with ⟨rfl, hF⟩ | ⟨rfl, hT8⟩
  · refine R.ri rt_X2_takesLevel_11 rfl ⟨_, rfl, ?_⟩
    exact Or.inl ⟨rfl, hF⟩
  · obtain ⟨r1, d1, st1, tk1, s2, q2, C1, at1, f1, rfl, hR1, hs2, hf1, hl1, hrun⟩ := hT8
    refine R.ri rt_X2_takesLevel_11 rfl ⟨_, rfl, ?_⟩
    have hTn : T = T.headD false :: T.tail := by
      have := hP.2.2.2.2.1
      cases T with
      | nil => simp at this
      | cons a t => rfl
    have h6 : stl 6 W C1 = (W, C1) := stl_topOK htop (by decide)
    rw [h6] at hrun
    refine Or.inr ⟨rfl, r1, d1, st1, tk1, s2, q2, C1, at1, f1, W, C1, T.headD false, rfl, hR1, hs2, hf1, hl1, by rw [← hTn]; exact hrun, fun _ _ => rfl, fun _ => rfl, ?_⟩
    by_cases he : E_sg tk1 = 0
    · exact Or.inl he
    · refine Or.inr (Or.inl ?_)
      rw [E_sg] at he ⊢
      split at he
      · rename_i h3
        rw [if_pos h3]
        obtain ⟨k, k1, k2, k3, -⟩ := sgn_rank ((lev_sign (tk1 12)).2 he).2.1
        rw [k3]
        exact nI_le (by omega) (by decide)
      · exact absurd rfl he
