/-! the reader's leaves -/
def S3 (M : Mm) (r d st : Rw) : Mm := mx_rw (mx_rw (mx_rw M 2 r) 6 d) 7 st
theorem S3_2 (M : Mm) (r d st : Rw) : S3 M r d st 2 = r := rfl
theorem S3_6 (M : Mm) (r d st : Rw) : S3 M r d st 6 = d := rfl
theorem S3_7 (M : Mm) (r d st : Rw) : S3 M r d st 7 = st := rfl
theorem S3_1 (M : Mm) (r d st : Rw) : S3 M r d st 1 = M 1 := rfl
theorem S3_ne {M : Mm} {r d st : Rw} {q : Nat} (h2 : q ≠ 2) (h6 : q ≠ 6) (h7 : q ≠ 7) : S3 M r d st q = M q := by
  unfold S3
  rw [mx_rw_ne h7, mx_rw_ne h6, mx_rw_ne h2]
theorem S3_r (M : Mm) (r r' d st : Rw) : mx_rw (S3 M r d st) 2 r' = S3 M r' d st := by
  funext q
  unfold S3 mx_rw
  grind
theorem S3_d (M : Mm) (r d d' st : Rw) : mx_rw (S3 M r d st) 6 d' = S3 M r d' st := by
  funext q
  unfold S3 mx_rw
  grind
theorem S3_s (M : Mm) (r d st st' : Rw) : mx_rw (S3 M r d st) 7 st' = S3 M r d st' := by
  funext q
  unfold S3 mx_rw
  grind
theorem S3_id (M : Mm) : S3 M (M 2) (M 6) (M 7) = M := by
  unfold S3
  funext q
  unfold mx_rw
  grind
theorem c_X1_addStep {l : Launch} {G : Gt} {M : Mm} {q k : Nat} {v : Int32} (kq : (kd q).1 = 1) (k1 : (kd (q + 1)).1 = 11) (z1 : (kd (q + 1)).2 = 96) (hk : k < 96) (h2 : M q 2 = nI k) : Runs l G true dm_X1_addStep 0 127 [.ref q, .int v] M 127 (Pv (fun M1 => M1 = mx_wr (mx_wr M (q + 1) k v) q 2 (nI (k + 1)))) := by
  refine mx_run ow_X1_addStep rfl rfl (fun dp X hdp R => ?_)
  refine R.b bk_X1_addStep_0 (And.intro (by first | rfl | assumption) (And.intro (by first | rfl | assumption) (And.intro ⟨11, by decide, by decide, k1⟩ ?_)))
  refine R.c br_X1_addStep_9 (And.intro (fun h9 => absurd h9 (by rw [z1, show M q (66 % 64) = nI k from h2]; exact nI_ge (b := 96) hk (by decide))) (fun h9 => ?_))
  refine R.b bk_X1_addStep_12 (And.intro (by first | rfl | assumption) (And.intro (by first | rfl | assumption) (And.intro (by first | rfl | assumption) (And.intro (by rw [z1]; exact vp_n (show M q 2 = nI k from h2) hk (by decide)) (And.intro (by first | rfl | assumption) (And.intro (by first | rfl | assumption) (And.intro rfl (And.intro rfl ?_))))))))
  refine R.rv rt_X1_addStep_32 ⟨rfl, ?_⟩
  have ec : (M q 2).toNatClampNeg = k := by rw [h2]; exact nI_clamp (by omega)
  show mx_wr (mx_wr M (q + 1) (M q 2).toNatClampNeg v) q 2 (mx_wr M (q + 1) (M q 2).toNatClampNeg v q 2 + 1) = _
  rw [ec, mx_wr_ne (show q ≠ q + 1 by omega), h2, nI_1]
theorem c_X1_addSign {l : Launch} {G : Gt} {M : Mm} {q k : Nat} {v : Int32} (kq : (kd q).1 = 1) (k1 : (kd (q + 1)).1 = 11) (z1 : (kd (q + 1)).2 = 96) (hk : k < 96) (h2 : M q 2 = nI k) : Runs l G true dm_X1_addSign 1 127 [.ref q, .int v] M 127 (Pv (fun M1 => M1 = mx_wr (mx_wr M (q + 1) k (-v)) q 2 (nI (k + 1)))) := by
  refine mx_run ow_X1_addSign rfl rfl (fun dp X hdp R => ?_)
  refine R.b bk_X1_addSign_0 ?_
  refine R.V1v kc_X1_addSign_3 (by first | rfl | assumption) (c_X1_addStep kq k1 z1 hk h2) (by omega) rfl ⟨Nat.le_refl _, Nat.le_refl _⟩ (fun M3 q3 => ?_)
  replace q3 := q3.symm
  subst q3
  refine R.rv rt_X1_addSign_6 ⟨rfl, ?_⟩
  exact rfl
theorem c_X1_addAtom {l : Launch} {G : Gt} {M : Mm} {q k a : Nat} {v : Int32} (kq : (kd q).1 = 1) (k1 : (kd (q + 1)).1 = 11) (z1 : (kd (q + 1)).2 = 96) (hk : k < 96) (h2 : M q 2 = nI k) (h1 : M q 1 = nI a) : Runs l G true dm_X1_addAtom 1 127 [.ref q, .int v] M 127 (Pv (fun M1 => M1 = mx_wr (mx_wr (mx_wr M q 1 (nI (a + 1))) (q + 1) k v) q 2 (nI (k + 1)))) := by
  refine mx_run ow_X1_addAtom rfl rfl (fun dp X hdp R => ?_)
  refine R.b bk_X1_addAtom_0 (And.intro (by first | rfl | assumption) (And.intro (by first | rfl | assumption) (And.intro rfl (And.intro rfl ?_))))
  refine R.V1v kc_X1_addAtom_12 (by first | rfl | assumption) (c_X1_addStep kq k1 z1 hk (by rw [mx_wr_up, mx_rw_at, up_ne (by decide)]; exact h2)) (by omega) rfl ⟨Nat.le_refl _, Nat.le_refl _⟩ (fun M12 q12 => ?_)
  replace q12 := q12.symm
  subst q12
  refine R.rv rt_X1_addAtom_15 ⟨rfl, ?_⟩
  show mx_wr (mx_wr (mx_wr M q 1 (M q 1 + 1)) (q + 1) k v) q 2 (nI (k + 1)) = _
  rw [h1, nI_1]
/-- a law's row behind one more atom, one more sign -/
def dA (d : Rw) (k a : Nat) : Rw := up (up d 1 (nI (a + 1))) 2 (nI (k + 1))
def dS (d : Rw) (k : Nat) : Rw := up d 2 (nI (k + 1))
theorem c_addAtom3 {l : Launch} {G : Gt} {M : Mm} {r d st : Rw} {k a : Nat} {v : Int32} (hk : k < 96) (h2 : d 2 = nI k) (h1 : d 1 = nI a) : Runs l G true dm_X1_addAtom 1 127 [.ref 6, .int v] (S3 M r d st) 127 (Pv (fun M1 => M1 = S3 M r (dA d k a) (up st k v))) := by
  have h := c_X1_addAtom (l := l) (G := G) (M := S3 M r d st) (q := 6) (v := v) rfl rfl rfl hk h2 h1
  have e : mx_wr (mx_wr (mx_wr (S3 M r d st) 6 1 (nI (a + 1))) (6 + 1) k v) 6 2 (nI (k + 1)) = S3 M r (dA d k a) (up st k v) := by
    rw [mx_wr_up (S3 M r d st), S3_6, S3_d, mx_wr_up _ 7, S3_7, S3_s, mx_wr_up, S3_6, S3_d]
    rfl
  rw [e] at h
  exact h
theorem c_addSign3 {l : Launch} {G : Gt} {M : Mm} {r d st : Rw} {k : Nat} {v : Int32} (hk : k < 96) (h2 : d 2 = nI k) : Runs l G true dm_X1_addSign 1 127 [.ref 6, .int v] (S3 M r d st) 127 (Pv (fun M1 => M1 = S3 M r (dS d k) (up st k (-v)))) := by
  have h := c_X1_addSign (l := l) (G := G) (M := S3 M r d st) (q := 6) (v := v) rfl rfl rfl hk h2
  have e : mx_wr (mx_wr (S3 M r d st) (6 + 1) k (-v)) 6 2 (nI (k + 1)) = S3 M r (dS d k) (up st k (-v)) := by
    rw [mx_wr_up _ 7, S3_7, S3_s, mx_wr_up, S3_6, S3_d]
    rfl
  rw [e] at h
  exact h
theorem c_goOn3 {l : Launch} {G : Gt} {M : Mm} {r d st tp : Rw} {p n : Nat} (ht : ∀ k, k < 96 → (M 1 k &&& 255) = tp k) (hn : n ≤ 96) (hp : p ≤ n) (hb : r 0 = nI 1) (h1 : r 1 = nI n) (h5 : r 5 = nI p) : Runs l G true dm_X2_goOn 1 127 [.ref 2] (S3 M r d st) 127 (Pv (fun M1 => M1 = S3 M (rgo tp n r p) d st)) := by
  have h := c_X2_goOn (l := l) (G := G) (M := S3 M r d st) (tp := tp) (p := p) (n := n) ht hn hp hb h1 h5
  rw [S3_2, S3_r] at h
  exact h
theorem c_byte3 {l : Launch} {G : Gt} {M : Mm} {r d st tp : Rw} {p : Nat} (ht : ∀ k, k < 96 → (M 1 k &&& 255) = tp k) (hb : r 0 = nI 1) (hp : p < 96) : Runs l G true dm_X2_byteAt 0 127 [.ref 2, .int (nI p)] (S3 M r d st) 127 (Pi (fun x M1 => x = tp p ∧ M1 = S3 M r d st)) :=
  c_X2_byteAt (M := S3 M r d st) ht hb hp
theorem c_X2_takesNumber {l : Launch} {G : Gt} {M : Mm} {r d st tp : Rw} {n s q : Nat} (ht : ∀ k, k < 96 → (M 1 k &&& 255) = tp k) (hn : n ≤ 96) (hb : r 0 = nI 1) (hr1 : r 1 = nI n) (hr2 : r 2 = nI 6) (hr4 : r 4 = nI s) (hr5 : r 5 = nI q) (hsq : s ≤ q) (hqn : q ≤ n) {k a : Nat} (hk : k < 96) (hd2 : d 2 = nI k) (hd1 : d 1 = nI a) : Runs l G true dm_X2_takesNumber 2 127 [.ref 2] (S3 M r d st) 127 (Pi (fun x M1 => (¬ r 6 = 0 ∨ 4 < q - s → x = 0 ∧ M1 = S3 M r d st) ∧ (¬ (¬ r 6 = 0 ∨ 4 < q - s) → x = 1 ∧ M1 = S3 M (rgo tp n r q) (dA d k a) (up st k (vN tp s (q - s)))))) := by
  refine mx_run ow_X2_takesNumber rfl rfl (fun dp X hdp R => ?_)
  have e130 : (S3 M r d st 2 (130 % 64)).toNatClampNeg = 6 := by rw [S3_2, show r (130 % 64) = nI 6 from hr2]; rfl
  refine R.b bk_X2_takesNumber_0 (And.intro (by first | rfl | (rw [e130]; rfl)) ?_)
  refine R.c br_X2_takesNumber_4 (And.intro (fun h4 => ?_) (fun h4 => ?_))
  · refine R.b bk_X2_takesNumber_20 ?_
    refine R.ri rt_X2_takesNumber_21 rfl ⟨_, rfl, ?_⟩
    refine ⟨fun _ => ⟨rfl, rfl⟩, fun h => absurd ?_ h⟩
    first
    | exact Or.inl h4
    | (have q1 := h17; exact Or.inr (Nat.lt_of_not_le (fun hh => q1 (nI_le (b := 4) hh (by decide)))))
  · refine R.b bk_X2_takesNumber_7 (And.intro (by first | rfl | (rw [e130]; rfl)) (And.intro (by first | rfl | (rw [e130]; rfl)) ?_))
    have e17 : S3 M r d st 2 (133 % 64) - S3 M r d st 2 (132 % 64) = nI (q - s) := by
      rw [S3_2]
      show r 5 - r 4 = _
      rw [hr5, hr4, pk_sub hsq]
    show X 127 (S3 M r d st) 17 (mx_L0 dm_X2_takesNumber [Value.ref 2]) [.int 4, .int (S3 M r d st 2 (133 % 64) - S3 M r d st 2 (132 % 64))]
    rw [e17]
    refine R.c br_X2_takesNumber_17 (And.intro (fun h17 => ?_) (fun h17 => ?_))
    · refine R.b bk_X2_takesNumber_22 (And.intro (by first | rfl | (rw [e130]; rfl)) ?_)
      have hno : ¬ (¬ r 6 = 0 ∨ 4 < q - s) := fun h => h.elim (fun h => h h4) (fun h => absurd (show nI (q - s) ≤ 4 from h17) (nI_ge (a := 4) h (by omega)))
      have hA : ∀ (fu i : Nat), q - i = fu → s ≤ i → i ≤ q → X 127 (S3 M r d st) 29 [some (.ref 2), some (.int (vN tp s (i - s))), some (.int (nI i))] [] := by
        intro fu
        induction fu with
        | zero =>
          intro i hfu hsi hi
          have hiN : i = q := by omega
          refine R.b bk_X2_takesNumber_29 (And.intro (by first | rfl | (rw [e130]; rfl)) ?_)
          refine R.c br_X2_takesNumber_34 (And.intro (fun h34 => ?_) (fun h34 => absurd (by rw [S3_2]; show r 5 ≤ nI i; rw [hr5, hiN]; exact nI_le (Nat.le_refl q) (by omega)) h34))
          refine R.b bk_X2_takesNumber_57 (And.intro (by first | rfl | (rw [e130]; rfl)) ?_)
          show X 127 (S3 M r d st) 62 [some (.ref 2), some (.int (vN tp s (i - s))), some (.int (nI i))] [.int (vN tp s (i - s)), .ref (S3 M r d st 2 (130 % 64)).toNatClampNeg]
          rw [e130]
          refine R.V1v kc_X2_takesNumber_62 (by first | rfl | (rw [e130]; rfl)) (c_addAtom3 hk hd2 hd1) (by omega) rfl ⟨Nat.le_refl _, Nat.le_refl _⟩ (fun M62 q62 => ?_)
          replace q62 := q62.symm
          subst q62
          refine R.b bk_X2_takesNumber_65 ?_
          refine R.V0v kc_X2_takesNumber_66 (by first | rfl | (rw [e130]; rfl)) (c_goOn3 (tp := tp) (n := n) ht hn hqn hb hr1 hr5) (by omega) rfl ⟨Nat.le_refl _, Nat.le_refl _⟩ (fun M66 q66 => ?_)
          replace q66 := q66.symm
          subst q66
          refine R.b bk_X2_takesNumber_69 ?_
          refine R.ri rt_X2_takesNumber_70 rfl ⟨_, rfl, ?_⟩
          exact ⟨fun h => absurd h hno, fun _ => ⟨rfl, by rw [hiN]⟩⟩
        | succ fu ih =>
          intro i hfu hsi hi
          have hlt : i < q := by omega
          refine R.b bk_X2_takesNumber_29 (And.intro (by first | rfl | (rw [e130]; rfl)) ?_)
          refine R.c br_X2_takesNumber_34 (And.intro (fun h34 => absurd h34 (by rw [S3_2]; show ¬ r 5 ≤ nI i; rw [hr5]; exact nI_ge hlt (by omega))) (fun h34 => ?_))
          refine R.b bk_X2_takesNumber_37 ?_
          refine R.V1i kc_X2_takesNumber_43 (by first | rfl | (rw [e130]; rfl)) (c_byte3 (tp := tp) ht hb (p := i) (by omega)) (by omega) rfl ⟨Nat.le_refl _, Nat.le_refl _⟩ (fun x43 M43 q43 => ?_)
          obtain ⟨rfl, q43⟩ := q43
          replace q43 := q43.symm
          subst q43
          refine R.b bk_X2_takesNumber_46 ?_
          refine R.j gt_X2_takesNumber_54 ?_
          rw [nI_inc]
          have hx := ih (i + 1) (by omega) (by omega) (by omega)
          have ev : vN tp s (i + 1 - s) = vN tp s (i - s) * 10 + tp i - 48 := by
            rw [show i + 1 - s = (i - s) + 1 by omega, vN, if_pos (by omega), Int32.mul_comm, show s + (i - s) = i by omega]
          rw [ev] at hx
          exact hx
      have hx := hA (q - s) s rfl (Nat.le_refl s) hsq
      rw [Nat.sub_self] at hx
      rw [S3_2, show r (132 % 64) = nI s from hr4]
      exact hx
    · refine R.b bk_X2_takesNumber_20 ?_
      refine R.ri rt_X2_takesNumber_21 rfl ⟨_, rfl, ?_⟩
      refine ⟨fun _ => ⟨rfl, rfl⟩, fun h => absurd ?_ h⟩
      first
      | exact Or.inl h4
      | (have q1 := h17; exact Or.inr (Nat.lt_of_not_le (fun hh => q1 (nI_le (b := 4) hh (by decide)))))
def nmJ (ky : Nat) : Nat := if ky = 0 then 3 else if ky = 1 then 4 else 5
theorem c_X2_namesOf {l : Launch} {G : Gt} {M : Mm} {ky : Nat} (hky : ky ≤ 2) : Runs l G true dm_X2_namesOf 1 127 [.int (nI ky)] M 127 (Pa (fun v M1 => v = .ref (1001 + nmJ ky) ∧ M1 = M)) := by
  refine mx_run ow_X2_namesOf rfl rfl (fun dp X hdp R => ?_)
  refine R.b bk_X2_namesOf_0 ?_
  refine R.s sw_X2_namesOf_1 (And.intro (fun h1_0 => ?_) (fun h1_0 => And.intro (fun h1_1 => ?_) (fun h1_1 => ?_)))
  · refine R.o dd_X2_namesOf_28 (Or.inr (Or.inr (Or.inr (Or.inr (Or.inr (Or.inr (Or.inl ⟨3, rfl, rfl, rfl, by decide, rfl⟩))))))) (by omega) (Nat.le_refl _) ?_
    refine R.ra rt_X2_namesOf_30 ⟨_, rfl, ?_⟩
    have e : ky = 0 := (nI_eq (b := 0) (by omega) (by decide)).mp h1_0
    subst e
    exact ⟨rfl, rfl⟩
  · refine R.o dd_X2_namesOf_31 (Or.inr (Or.inr (Or.inr (Or.inr (Or.inr (Or.inr (Or.inl ⟨4, rfl, rfl, rfl, by decide, rfl⟩))))))) (by omega) (Nat.le_refl _) ?_
    refine R.ra rt_X2_namesOf_33 ⟨_, rfl, ?_⟩
    have e : ky = 1 := (nI_eq (b := 1) (by omega) (by decide)).mp h1_1
    subst e
    exact ⟨rfl, rfl⟩
  · refine R.o dd_X2_namesOf_34 (Or.inr (Or.inr (Or.inr (Or.inr (Or.inr (Or.inr (Or.inl ⟨5, rfl, rfl, rfl, by decide, rfl⟩))))))) (by omega) (Nat.le_refl _) ?_
    refine R.ra rt_X2_namesOf_36 ⟨_, rfl, ?_⟩
    have e : ky = 2 := by
      have q0 : ky ≠ 0 := fun q => h1_0 (by rw [q]; rfl)
      have q1 : ky ≠ 1 := fun q => h1_1 (by rw [q]; rfl)
      omega
    subst e
    exact ⟨rfl, rfl⟩
theorem s_ix_name {ky : Nat} (hky : ky ≤ 2) (c : Int32) : s_ix (nmJ ky) c (s_len (nmJ ky)) 0 = f_name (nI ky) c := by
  have sw : ∀ a : Int32, (a = c) = (c = a) := fun a => propext ⟨Eq.symm, Eq.symm⟩
  rcases (show ky = 0 ∨ ky = 1 ∨ ky = 2 by omega) with rfl | rfl | rfl
  · show (if (120 : Int32) = c then (0 : Int32) else if (108 : Int32) = c then 1 else if (112 : Int32) = c then 2 else -1) = (if c = 120 then 0 else if c = 108 then 1 else if c = 112 then 2 else -1)
    simp only [sw]
  · show (if (108 : Int32) = c then (0 : Int32) else if (119 : Int32) = c then 1 else -1) = (if c = 108 then 0 else if c = 119 then 1 else -1)
    simp only [sw]
  · show (if (100 : Int32) = c then (0 : Int32) else if (98 : Int32) = c then 1 else -1) = (if c = 100 then 0 else if c = 98 then 1 else -1)
    simp only [sw]
theorem nmJ_lt (ky : Nat) : nmJ ky < 6 := by
  unfold nmJ
  split
  · decide
  · split <;> decide
theorem c_X2_takesName {l : Launch} {G : Gt} {M : Mm} {r d st tp : Rw} {n s q : Nat} (ht : ∀ k, k < 96 → (M 1 k &&& 255) = tp k) (hn : n ≤ 96) (hb : r 0 = nI 1) (hr1 : r 1 = nI n) (hr2 : r 2 = nI 6) (hr4 : r 4 = nI s) (hr5 : r 5 = nI q) (hsq : s ≤ q) (hqn : q ≤ n) {k a ky : Nat} (hk : k < 96) (hd2 : d 2 = nI k) (hd1 : d 1 = nI a) (hky : ky ≤ 2) (hd0 : d 0 = nI ky) (hs96 : s < 96) : Runs l G true dm_X2_takesName 5 127 [.ref 2] (S3 M r d st) 127 (Pi (fun x M1 => (¬ r 6 = 0 ∨ ¬ q - s = 1 ∨ f_name (nI ky) (tp s) < 0 → x = 0 ∧ M1 = S3 M r d st) ∧ (¬ (¬ r 6 = 0 ∨ ¬ q - s = 1 ∨ f_name (nI ky) (tp s) < 0) → x = 1 ∧ M1 = S3 M (rgo tp n r q) (dA d k a) (up st k (-1 - f_name (nI ky) (tp s)))))) := by
  refine mx_run ow_X2_takesName rfl rfl (fun dp X hdp R => ?_)
  have e130 : (S3 M r d st 2 (130 % 64)).toNatClampNeg = 6 := by rw [S3_2, show r (130 % 64) = nI 6 from hr2]; rfl
  obtain ⟨tb, htb, htb2⟩ := tp_nat (ht s hs96)
  refine R.b bk_X2_takesName_0 (And.intro (by first | rfl | (rw [e130]; rfl)) ?_)
  refine R.c br_X2_takesName_4 (And.intro (fun h4 => ?_) (fun h4 => ?_))
  · refine R.b bk_X2_takesName_20 ?_
    refine R.ri rt_X2_takesName_21 rfl ⟨_, rfl, ?_⟩
    refine ⟨fun _ => ⟨rfl, rfl⟩, fun h => absurd ?_ h⟩
    first
    | exact Or.inl h4
    | (have q1 := h17; exact Or.inr (Or.inl (fun hh => q1 (by rw [hh]; rfl))))
  · refine R.b bk_X2_takesName_7 (And.intro (by first | rfl | (rw [e130]; rfl)) (And.intro (by first | rfl | (rw [e130]; rfl)) ?_))
    have e17 : S3 M r d st 2 (133 % 64) - S3 M r d st 2 (132 % 64) = nI (q - s) := by
      rw [S3_2]
      show r 5 - r 4 = _
      rw [hr5, hr4, pk_sub hsq]
    show X 127 (S3 M r d st) 17 (mx_L0 dm_X2_takesName [Value.ref 2]) [.int 1, .int (S3 M r d st 2 (133 % 64) - S3 M r d st 2 (132 % 64))]
    rw [e17]
    refine R.c br_X2_takesName_17 (And.intro (fun h17 => ?_) (fun h17 => ?_))
    · refine R.b bk_X2_takesName_22 (And.intro (by first | rfl | (rw [e130]; rfl)) (And.intro (by first | rfl | (rw [e130]; rfl)) ?_))
      rw [e130, S3_6, show d (64 % 64) = nI ky from hd0]
      refine R.S1a kc_X2_takesName_29 (c_X2_namesOf hky) (by omega) rfl ⟨Nat.le_refl _, Nat.le_refl _⟩ (fun x29 M29 q29 => ?_)
      obtain ⟨rfl, q29⟩ := q29
      replace q29 := q29.symm
      subst q29
      refine R.b bk_X2_takesName_32 (And.intro (by first | rfl | (rw [e130]; rfl)) ?_)
      rw [S3_2, show r (132 % 64) = nI s from hr4]
      refine R.V1i kc_X2_takesName_37 (by first | rfl | (rw [e130]; rfl)) (c_byte3 (tp := tp) ht hb (p := s) hs96) (by omega) rfl ⟨Nat.le_refl _, Nat.le_refl _⟩ (fun x37 M37 q37 => ?_)
      obtain ⟨rfl, q37⟩ := q37
      replace q37 := q37.symm
      subst q37
      refine R.b bk_X2_takesName_40 ?_
      show X 127 (S3 M r d st) 41 (mx_L0 dm_X2_takesName [Value.ref 2]) [.int ((tp s).toUInt32 % 65536).toInt32, .ref (1001 + nmJ ky)]
      rw [htb2, pk_char, pk_tn (by omega), show tb % 65536 = tb by omega]
      refine R.T1i kc_X2_takesName_41 (nmJ_lt ky) (c_J0_indexOf_0f7a4 (nmJ_lt ky) htb) (by omega) rfl (Nat.le_refl _) (fun x41 M41 q41 => ?_)
      obtain ⟨rfl, q41⟩ := q41
      replace q41 := q41.symm
      subst q41
      rw [s_ix_name hky, ← htb2]
      refine R.b bk_X2_takesName_44 ?_
      refine R.c br_X2_takesName_46 (And.intro (fun h46 => ?_) (fun h46 => ?_))
      · refine R.b bk_X2_takesName_51 (And.intro (by first | rfl | (rw [e130]; rfl)) ?_)
        show X 127 (S3 M r d st) 58 [some (.ref 2), some (.int (f_name (nI ky) (tp s)))] [.int (-1 - f_name (nI ky) (tp s)), .ref (S3 M r d st 2 (130 % 64)).toNatClampNeg]
        rw [e130]
        refine R.V1v kc_X2_takesName_58 (by first | rfl | (rw [e130]; rfl)) (c_addAtom3 hk hd2 hd1) (by omega) rfl ⟨Nat.le_refl _, Nat.le_refl _⟩ (fun M58 q58 => ?_)
        replace q58 := q58.symm
        subst q58
        refine R.b bk_X2_takesName_61 ?_
        refine R.V0v kc_X2_takesName_62 (by first | rfl | (rw [e130]; rfl)) (c_goOn3 (tp := tp) (n := n) ht hn hqn hb hr1 hr5) (by omega) rfl ⟨Nat.le_refl _, Nat.le_refl _⟩ (fun M62 q62 => ?_)
        replace q62 := q62.symm
        subst q62
        refine R.b bk_X2_takesName_65 ?_
        refine R.ri rt_X2_takesName_66 rfl ⟨_, rfl, ?_⟩
        refine ⟨fun h => absurd h ?_, fun _ => ⟨rfl, rfl⟩⟩
        intro h
        rcases h with h | h | h
        · exact h h4
        · exact h ((nI_eq (b := 1) (by omega) (by decide)).mp h17)
        · exact absurd h (Int32.not_lt.mpr h46)
      · refine R.b bk_X2_takesName_49 ?_
        refine R.ri rt_X2_takesName_50 rfl ⟨_, rfl, ?_⟩
        exact ⟨fun _ => ⟨rfl, rfl⟩, fun h => absurd (Or.inr (Or.inr (Int32.not_le.mp h46))) h⟩
    · refine R.b bk_X2_takesName_20 ?_
      refine R.ri rt_X2_takesName_21 rfl ⟨_, rfl, ?_⟩
      refine ⟨fun _ => ⟨rfl, rfl⟩, fun h => absurd ?_ h⟩
      first
      | exact Or.inl h4
      | (have q1 := h17; exact Or.inr (Or.inl (fun hh => q1 (by rw [hh]; rfl))))
theorem c_X2_spells {l : Launch} {G : Gt} {M : Mm} {r d st tp : Rw} {n s q : Nat} (ht : ∀ k, k < 96 → (M 1 k &&& 255) = tp k) (hn : n ≤ 96) (hb : r 0 = nI 1) (hr1 : r 1 = nI n) (hr2 : r 2 = nI 6) (hr4 : r 4 = nI s) (hr5 : r 5 = nI q) (hsq : s ≤ q) (hqn : q ≤ n) {j : Nat} (hj : j < 6) : Runs l G true dm_X2_spells 4 127 [.ref 2, .ref (1001 + j)] (S3 M r d st) 127 (Pi (fun x M1 => x = bI (sm tp (s_at j) s 0 (decide (q - s = s_len j)) (s_len j)) ∧ M1 = S3 M r d st)) := by
  refine mx_run ow_X2_spells rfl rfl (fun dp X hdp R => ?_)
  have hl5 := s_len_le j
  refine R.b bk_X2_spells_0 (And.intro (by rfl) (And.intro (by rfl) ?_))
  refine R.T0i kc_X2_spells_10 hj (c_J0_length_8abf5 hj) (by omega) rfl (Nat.le_refl _) (fun x10 M10 q10 => ?_)
  obtain ⟨rfl, q10⟩ := q10
  replace q10 := q10.symm
  subst q10
  have e17 : S3 M r d st 2 (133 % 64) - S3 M r d st 2 (132 % 64) = nI (q - s) := by
    rw [S3_2]
    show r 5 - r 4 = _
    rw [hr5, hr4, pk_sub hsq]
  rw [e17]
  refine R.c br_X2_spells_13 (And.intro (fun h13 => ?_) (fun h13 => ?_))
  · have hql : q - s = s_len j := (nI_eq (by omega) (by omega)).mp h13
    have hA : ∀ (fu i : Nat) , (s_len j) - i = fu → i ≤ (s_len j) → (sm tp (s_at j) s 0 (decide (q - s = s_len j)) i = true) → X 127 (S3 M r d st) 20 [some (.ref 2), some (.ref (1001 + j)), some (.int (nI i))] [] := by
      intro fu
      induction fu with
      | zero =>
        intro i  hfu hi hI1
        have hiN : i = (s_len j) := by omega
        refine R.b bk_X2_spells_20 ?_
        refine R.T0i kc_X2_spells_22 hj (c_J0_length_8abf5 hj) (by omega) rfl (Nat.le_refl _) (fun x22 M22 q22 => ?_)
        obtain ⟨rfl, q22⟩ := q22
        replace q22 := q22.symm
        subst q22
        refine R.c br_X2_spells_25 (And.intro (fun h25 => ?_) (fun h25 => absurd (by rw [hiN]; exact nI_le (Nat.le_refl _) (by omega)) h25))
        refine R.b bk_X2_spells_54 ?_
        refine R.ri rt_X2_spells_55 rfl ⟨_, rfl, ?_⟩
        refine ⟨?_, rfl⟩
        rw [hiN] at hI1
        rw [hI1]
        rfl
      | succ fu ih =>
        intro i  hfu hi hI1
        have hlt : i < (s_len j) := by omega
        refine R.b bk_X2_spells_20 ?_
        refine R.T0i kc_X2_spells_22 hj (c_J0_length_8abf5 hj) (by omega) rfl (Nat.le_refl _) (fun x22 M22 q22 => ?_)
        obtain ⟨rfl, q22⟩ := q22
        replace q22 := q22.symm
        subst q22
        refine R.c br_X2_spells_25 (And.intro (fun h25 => absurd h25 (nI_ge hlt (by omega))) (fun h25 => ?_))
        refine R.b bk_X2_spells_28 (And.intro (by rfl) ?_)
        show X 127 (S3 M r d st) 35 [some (.ref 2), some (.ref (1001 + j)), some (.int (nI i))] [.int (S3 M r d st 2 (132 % 64) + nI i), .ref 2]
        rw [S3_2, show r (132 % 64) = nI s from hr4, nI_add]
        refine R.V1i kc_X2_spells_35 (by rfl) (c_byte3 (tp := tp) ht hb (p := s + i) (by omega)) (by omega) rfl ⟨Nat.le_refl _, Nat.le_refl _⟩ (fun x35 M35 q35 => ?_)
        obtain ⟨rfl, q35⟩ := q35
        replace q35 := q35.symm
        subst q35
        refine R.b bk_X2_spells_38 ?_
        refine R.T1i kc_X2_spells_40 hj (c_J0_charAt_5068e hj hlt) (by omega) rfl (Nat.le_refl _) (fun x40 M40 q40 => ?_)
        obtain ⟨rfl, q40⟩ := q40
        replace q40 := q40.symm
        subst q40
        refine R.c br_X2_spells_43 (And.intro (fun h43 => ?_) (fun h43 => ?_))
        · refine R.b bk_X2_spells_48 ?_
          refine R.j gt_X2_spells_51 ?_
          rw [nI_inc]
          refine ih (i + 1) (by omega) (by omega) ?_
          rw [sm, hI1, Nat.zero_add, decide_eq_true h43]
          rfl
        · refine R.b bk_X2_spells_46 ?_
          refine R.ri rt_X2_spells_47 rfl ⟨_, rfl, ?_⟩
          refine ⟨?_, rfl⟩
          have hf : sm tp (s_at j) s 0 (decide (q - s = s_len j)) (i + 1) = false := by
            rw [sm, hI1, Nat.zero_add, decide_eq_false h43]
            rfl
          have h2 := sm_f hf (s_len j - (i + 1))
          rw [show i + 1 + (s_len j - (i + 1)) = s_len j by omega] at h2
          rw [h2]
          rfl
    refine R.b bk_X2_spells_18 ?_
    exact hA (s_len j) 0 rfl (Nat.zero_le _) (by rw [sm]; exact decide_eq_true hql)
  · refine R.b bk_X2_spells_16 ?_
    refine R.ri rt_X2_spells_17 rfl ⟨_, rfl, ?_⟩
    refine ⟨?_, rfl⟩
    have hql : ¬ q - s = s_len j := fun e => h13 (by rw [e])
    have hf : sm tp (s_at j) s 0 (decide (q - s = s_len j)) 0 = false := by rw [sm]; exact decide_eq_false hql
    have h2 := sm_f hf (s_len j)
    rw [Nat.zero_add] at h2
    rw [h2]
    rfl
def c_key (tp : Rw) (s q : Nat) : Nat := if sm tp (s_at 0) s 0 (decide (q - s = 5)) 5 = true then 0 else if sm tp (s_at 1) s 0 (decide (q - s = 4)) 4 = true then 1 else if sm tp (s_at 2) s 0 (decide (q - s = 4)) 4 = true then 2 else 3
theorem c_X2_keyHere {l : Launch} {G : Gt} {M : Mm} {r d st tp : Rw} {n s q : Nat} (ht : ∀ k, k < 96 → (M 1 k &&& 255) = tp k) (hn : n ≤ 96) (hb : r 0 = nI 1) (hr1 : r 1 = nI n) (hr2 : r 2 = nI 6) (hr4 : r 4 = nI s) (hr5 : r 5 = nI q) (hsq : s ≤ q) (hqn : q ≤ n) : Runs l G true dm_X2_keyHere 5 127 [.ref 2] (S3 M r d st) 127 (Pi (fun x M1 => (r 3 = -2 ∧ c_key tp s q < 3 → x = nI (c_key tp s q)) ∧ (¬ (r 3 = -2 ∧ c_key tp s q < 3) → x = -1) ∧ M1 = S3 M r d st)) := by
  refine mx_run ow_X2_keyHere rfl rfl (fun dp X hdp R => ?_)
  refine R.b bk_X2_keyHere_0 (And.intro (by rfl) ?_)
  refine R.c br_X2_keyHere_6 (And.intro (fun h6 => ?_) (fun h6 => ?_))
  · refine R.b bk_X2_keyHere_11 ?_
    refine R.o dd_X2_keyHere_12 (Or.inr (Or.inr (Or.inr (Or.inr (Or.inr (Or.inr (Or.inl ⟨0, rfl, rfl, rfl, by decide, rfl⟩))))))) (by omega) (Nat.le_refl _) ?_
    refine R.V1i kc_X2_keyHere_14 (by rfl) (c_X2_spells (j := 0) ht hn hb hr1 hr2 hr4 hr5 hsq hqn (by decide)) (by omega) rfl ⟨Nat.le_refl _, Nat.le_refl _⟩ (fun x14 M14 q14 => ?_)
    obtain ⟨e14, q14⟩ := q14
    replace q14 := q14.symm
    subst q14
    subst e14
    refine R.c br_X2_keyHere_17 (And.intro (fun h17 => ?_) (fun h17 => ?_))
    · refine R.b bk_X2_keyHere_22 ?_
      refine R.o dd_X2_keyHere_23 (Or.inr (Or.inr (Or.inr (Or.inr (Or.inr (Or.inr (Or.inl ⟨1, rfl, rfl, rfl, by decide, rfl⟩))))))) (by omega) (Nat.le_refl _) ?_
      refine R.V1i kc_X2_keyHere_25 (by rfl) (c_X2_spells (j := 1) ht hn hb hr1 hr2 hr4 hr5 hsq hqn (by decide)) (by omega) rfl ⟨Nat.le_refl _, Nat.le_refl _⟩ (fun x25 M25 q25 => ?_)
      obtain ⟨e25, q25⟩ := q25
      replace q25 := q25.symm
      subst q25
      subst e25
      refine R.c br_X2_keyHere_28 (And.intro (fun h28 => ?_) (fun h28 => ?_))
      · refine R.b bk_X2_keyHere_33 ?_
        refine R.o dd_X2_keyHere_34 (Or.inr (Or.inr (Or.inr (Or.inr (Or.inr (Or.inr (Or.inl ⟨2, rfl, rfl, rfl, by decide, rfl⟩))))))) (by omega) (Nat.le_refl _) ?_
        refine R.V1i kc_X2_keyHere_36 (by rfl) (c_X2_spells (j := 2) ht hn hb hr1 hr2 hr4 hr5 hsq hqn (by decide)) (by omega) rfl ⟨Nat.le_refl _, Nat.le_refl _⟩ (fun x36 M36 q36 => ?_)
        obtain ⟨e36, q36⟩ := q36
        replace q36 := q36.symm
        subst q36
        subst e36
        refine R.c br_X2_keyHere_39 (And.intro (fun h39 => ?_) (fun h39 => ?_))
        · refine R.b bk_X2_keyHere_46 ?_
          refine R.ri rt_X2_keyHere_47 rfl ⟨_, rfl, ?_⟩
          by_cases hq : bI (sm tp (s_at 2) s 0 (decide (q - s = s_len 2)) (s_len 2)) = 0
          · have hc : c_key tp s q = 3 := by
              unfold c_key
              rw [show sm tp (s_at 0) s 0 (decide (q - s = 5)) 5 = false from bI_0 h17, if_neg (by decide), show sm tp (s_at 1) s 0 (decide (q - s = 4)) 4 = false from bI_0 h28, if_neg (by decide), show sm tp (s_at 2) s 0 (decide (q - s = 4)) 4 = false from bI_0 hq, if_neg (by decide)]
            first | exact absurd hq h39 | exact ⟨fun h => absurd h.2 (by rw [hc]; decide), fun _ => rfl, rfl⟩
          · have hc : c_key tp s q = 2 := by
              unfold c_key
              rw [show sm tp (s_at 0) s 0 (decide (q - s = 5)) 5 = false from bI_0 h17, if_neg (by decide), show sm tp (s_at 1) s 0 (decide (q - s = 4)) 4 = false from bI_0 h28, if_neg (by decide), if_pos (show sm tp (s_at 2) s 0 (decide (q - s = 4)) 4 = true from bI_1 hq)]
            first | exact absurd h39 hq | exact ⟨fun _ => by rw [hc]; rfl, fun h => absurd ⟨h6, by rw [hc]; decide⟩ h, rfl⟩
        · refine R.b bk_X2_keyHere_42 ?_
          refine R.j gt_X2_keyHere_43 ?_
          refine R.ri rt_X2_keyHere_47 rfl ⟨_, rfl, ?_⟩
          by_cases hq : bI (sm tp (s_at 2) s 0 (decide (q - s = s_len 2)) (s_len 2)) = 0
          · have hc : c_key tp s q = 3 := by
              unfold c_key
              rw [show sm tp (s_at 0) s 0 (decide (q - s = 5)) 5 = false from bI_0 h17, if_neg (by decide), show sm tp (s_at 1) s 0 (decide (q - s = 4)) 4 = false from bI_0 h28, if_neg (by decide), show sm tp (s_at 2) s 0 (decide (q - s = 4)) 4 = false from bI_0 hq, if_neg (by decide)]
            first | exact absurd hq h39 | exact ⟨fun h => absurd h.2 (by rw [hc]; decide), fun _ => rfl, rfl⟩
          · have hc : c_key tp s q = 2 := by
              unfold c_key
              rw [show sm tp (s_at 0) s 0 (decide (q - s = 5)) 5 = false from bI_0 h17, if_neg (by decide), show sm tp (s_at 1) s 0 (decide (q - s = 4)) 4 = false from bI_0 h28, if_neg (by decide), if_pos (show sm tp (s_at 2) s 0 (decide (q - s = 4)) 4 = true from bI_1 hq)]
            first | exact absurd h39 hq | exact ⟨fun _ => by rw [hc]; rfl, fun h => absurd ⟨h6, by rw [hc]; decide⟩ h, rfl⟩
      · refine R.b bk_X2_keyHere_31 ?_
        refine R.ri rt_X2_keyHere_32 rfl ⟨_, rfl, ?_⟩
        have hc : c_key tp s q = 1 := by
          unfold c_key
          rw [show sm tp (s_at 0) s 0 (decide (q - s = 5)) 5 = false from bI_0 h17, if_neg (by decide), if_pos (show sm tp (s_at 1) s 0 (decide (q - s = 4)) 4 = true from bI_1 h28)]
        exact ⟨fun _ => by rw [hc]; rfl, fun h => absurd ⟨h6, by rw [hc]; decide⟩ h, rfl⟩
    · refine R.b bk_X2_keyHere_20 ?_
      refine R.ri rt_X2_keyHere_21 rfl ⟨_, rfl, ?_⟩
      have hc : c_key tp s q = 0 := by rw [c_key, if_pos (show sm tp (s_at 0) s 0 (decide (q - s = 5)) 5 = true from bI_1 h17)]
      exact ⟨fun _ => by rw [hc]; rfl, fun h => absurd ⟨h6, by rw [hc]; decide⟩ h, rfl⟩
  · refine R.b bk_X2_keyHere_9 ?_
    refine R.ri rt_X2_keyHere_10 rfl ⟨_, rfl, ?_⟩
    exact ⟨fun h => absurd h.1 h6, fun _ => rfl, rfl⟩
def f_lev (c : Int32) : Int32 := if c = 38 then 1 else if c = 42 then 4 else if c = 43 then 3 else if c = 45 then 3 else if c = 47 then 4 else if c = 60 then 2 else if c = 61 then 2 else if c = 62 then 2 else if c = 124 then 0 else -1
theorem c_X2_levelOf {l : Launch} {G : Gt} {M : Mm} {c : Int32} : Runs l G true dm_X2_levelOf 0 127 [.int c] M 127 (Pi (fun x M1 => x = f_lev c ∧ M1 = M)) := by
  refine mx_run ow_X2_levelOf rfl rfl (fun dp X hdp R => ?_)
  refine R.b bk_X2_levelOf_0 ?_
  refine R.s sw_X2_levelOf_1 (And.intro (fun h1_0 => ?_) (fun h1_0 => And.intro (fun h1_1 => ?_) (fun h1_1 => And.intro (fun h1_2 => ?_) (fun h1_2 => And.intro (fun h1_3 => ?_) (fun h1_3 => And.intro (fun h1_4 => ?_) (fun h1_4 => And.intro (fun h1_5 => ?_) (fun h1_5 => And.intro (fun h1_6 => ?_) (fun h1_6 => And.intro (fun h1_7 => ?_) (fun h1_7 => And.intro (fun h1_8 => ?_) (fun h1_8 => ?_))))))))))
  · refine R.b bk_X2_levelOf_86 ?_
    refine R.ri rt_X2_levelOf_87 rfl ⟨_, rfl, ?_⟩
    refine ⟨?_, rfl⟩
    unfold f_lev
    simp_all
  · refine R.b bk_X2_levelOf_92 ?_
    refine R.ri rt_X2_levelOf_93 rfl ⟨_, rfl, ?_⟩
    refine ⟨?_, rfl⟩
    unfold f_lev
    simp_all
  · refine R.b bk_X2_levelOf_90 ?_
    refine R.ri rt_X2_levelOf_91 rfl ⟨_, rfl, ?_⟩
    refine ⟨?_, rfl⟩
    unfold f_lev
    simp_all
  · refine R.b bk_X2_levelOf_90 ?_
    refine R.ri rt_X2_levelOf_91 rfl ⟨_, rfl, ?_⟩
    refine ⟨?_, rfl⟩
    unfold f_lev
    simp_all
  · refine R.b bk_X2_levelOf_92 ?_
    refine R.ri rt_X2_levelOf_93 rfl ⟨_, rfl, ?_⟩
    refine ⟨?_, rfl⟩
    unfold f_lev
    simp_all
  · refine R.b bk_X2_levelOf_88 ?_
    refine R.ri rt_X2_levelOf_89 rfl ⟨_, rfl, ?_⟩
    refine ⟨?_, rfl⟩
    unfold f_lev
    simp_all
  · refine R.b bk_X2_levelOf_88 ?_
    refine R.ri rt_X2_levelOf_89 rfl ⟨_, rfl, ?_⟩
    refine ⟨?_, rfl⟩
    unfold f_lev
    simp_all
  · refine R.b bk_X2_levelOf_88 ?_
    refine R.ri rt_X2_levelOf_89 rfl ⟨_, rfl, ?_⟩
    refine ⟨?_, rfl⟩
    unfold f_lev
    simp_all
  · refine R.b bk_X2_levelOf_84 ?_
    refine R.ri rt_X2_levelOf_85 rfl ⟨_, rfl, ?_⟩
    refine ⟨?_, rfl⟩
    unfold f_lev
    simp_all
  · refine R.b bk_X2_levelOf_94 ?_
    refine R.ri rt_X2_levelOf_95 rfl ⟨_, rfl, ?_⟩
    refine ⟨?_, rfl⟩
    unfold f_lev
    simp_all
