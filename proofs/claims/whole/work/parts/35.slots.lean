/-! more of sheets and slots -/
def k_pour (so : Rw) (s : Int32) : Int32 := if f_in s 0 3 = 0 then (-1000000001) else if so (cN s) < 0 then (-1000000011) else 0
def f_pr (r v : Int32) : Int32 := if v = (-1000000005) then r else f_held v 0 9
def A_pour (a c : Rw) : Nat → Rw
  | 0 => a
  | d + 1 => up (A_pour a c d) (7 + 8 * d + 1) (f_pr (a (7 + 8 * d + 1)) (c d))
def n_pour (a c : Rw) : Nat → Int32
  | 0 => 0
  | d + 1 => n_pour a c d + (if a (7 + 8 * d + 1) = f_pr (a (7 + 8 * d + 1)) (c d) then 0 else 1)
theorem A_pour_keep (a c : Rw) (j : Nat) : ∀ n, (∀ d, d < n → j ≠ 7 + 8 * d + 1) → A_pour a c n j = a j
  | 0, _ => rfl
  | n + 1, h => by
    rw [A_pour, up_ne (h n (Nat.lt_succ_self n)), A_pour_keep a c j n (fun d hd => h d (by omega))]
theorem c_X8_pour {l : Launch} {G : Gt} {M : Mm} {s : Int32} {mm : Nat} (hV : VR (M 104) mm) (hsz : ∀ s, s < 4 → ∃ sz, sz ≤ 24 ∧ M 119 s = nI sz) : Runs l G true dm_X8_pour 2 127 [.ref 103, .int s] M 127 (Pi (fun x M1 => (k_pour (M 118) s ≠ 0 → x = k_pour (M 118) s ∧ M1 = M) ∧ (k_pour (M 118) s = 0 → x = n_pour (M 104) (fun k => M 120 (24 * cN s + k)) (min (cN (M 119 (cN s))) (cN (M 104 1))) ∧ M1 = mx_rw M 104 (A_pour (M 104) (fun k => M 120 (24 * cN s + k)) (min (cN (M 119 (cN s))) (cN (M 104 1))))))) := by
  refine mx_run ow_X8_pour rfl rfl (fun dp X hdp R => ?_)
  refine R.b bk_X8_pour_0 ?_
  refine R.S1i kc_X8_pour_1 (c_X8_isSheet) (by omega) rfl ⟨Nat.le_refl _, Nat.le_refl _⟩ (fun x1 M1 q1 => ?_)
  obtain ⟨rfl, q1⟩ := q1
  replace q1 := q1.symm
  subst q1
  refine R.c br_X8_pour_4 (And.intro (fun h4 => ?_) (fun h4 => ?_))
  · obtain ⟨sn, hsn, rfl⟩ := f_in_nat (n := 3) (by decide) h4
    have hcs : cN (nI sn) = sn := cN_nI (by omega)
    have hcl : (nI sn).toNatClampNeg = sn := nI_clamp (by omega)
    refine R.b bk_X8_pour_10 (And.intro (by first | rfl | assumption) (And.intro (by first | rfl | assumption) (And.intro (by exact vp_in_nI (show sn < 4 by omega) (by decide)) ?_)))
    refine R.c br_X8_pour_16 (And.intro (fun h16 => ?_) (fun h16 => ?_))
    · refine R.b bk_X8_pour_22 ?_
      have hmm := hV.1
      obtain ⟨sz, hsz24, hsz2⟩ := hsz sn (by omega)
      rw [hcl] at h16
      have hk : k_pour (M 118) (nI sn) = 0 := by rw [k_pour, if_neg h4, hcs, if_neg (Int32.not_lt.mpr h16)]
      have hA : ∀ (fu i : Nat) (M1 : Mm) (c4 : Option Value) (c5 : Option Value), (min sz mm) - i = fu → i ≤ (min sz mm) → (M1 = mx_rw M 104 (A_pour (M 104) (fun k => M 120 (24 * sn + k)) i)) → X 127 M1 26 [some (.ref 103), some (.int (nI sn)), some (.int (n_pour (M 104) (fun k => M 120 (24 * sn + k)) i)), some (.int (nI i)), c4, c5] [] := by
        intro fu
        induction fu with
        | zero =>
          intro i M1 c4 c5 hfu hi hI1
          have hiN : i = (min sz mm) := by omega
          have esz : M1 119 (nI sn).toNatClampNeg = nI sz := by rw [hcl, hI1, mx_rw_ne (by decide)]; exact hsz2
          have e1 : M1 104 (Int32.toNatClampNeg 1) = nI mm := by rw [hI1, mx_rw_at]; exact (A_pour_keep _ _ 1 i (fun d _ => by omega)).trans hV.2.1
          refine R.b bk_X8_pour_26 (And.intro (by first | rfl | assumption) (And.intro (by first | rfl | assumption) (And.intro (vp_in_nI (show sn < 4 by omega) (by decide)) ?_)))
          refine R.c br_X8_pour_33 (And.intro (fun h33 => ?_) (fun h33 => ?_))
          · refine R.b bk_X8_pour_119 ?_
            refine R.ri rt_X8_pour_120 rfl ⟨_, rfl, ?_⟩
            refine ⟨fun h => absurd hk h, fun _ => ?_⟩
            rw [hcs, hsz2, hV.2.1, cN_nI (by omega), cN_nI (by omega), ← hiN]
            exact ⟨rfl, hI1⟩
          · refine R.b bk_X8_pour_36 (And.intro (by first | rfl | assumption) (And.intro (by first | rfl | assumption) (And.intro (vp_lit rfl) ?_)))
            refine R.c br_X8_pour_43 (And.intro (fun h43 => ?_) (fun h43 => absurd (by rw [e1]; exact nI_le (by have := nI_lt8 (by omega) (by omega) (show ¬ nI sz ≤ nI i by rw [← esz]; exact h33); omega) (by omega)) h43))
            refine R.b bk_X8_pour_119 ?_
            refine R.ri rt_X8_pour_120 rfl ⟨_, rfl, ?_⟩
            refine ⟨fun h => absurd hk h, fun _ => ?_⟩
            rw [hcs, hsz2, hV.2.1, cN_nI (by omega), cN_nI (by omega), ← hiN]
            exact ⟨rfl, hI1⟩
        | succ fu ih =>
          intro i M1 c4 c5 hfu hi hI1
          have hlt : i < (min sz mm) := by omega
          have esz : M1 119 (nI sn).toNatClampNeg = nI sz := by rw [hcl, hI1, mx_rw_ne (by decide)]; exact hsz2
          have e1 : M1 104 (Int32.toNatClampNeg 1) = nI mm := by rw [hI1, mx_rw_at]; exact (A_pour_keep _ _ 1 i (fun d _ => by omega)).trans hV.2.1
          refine R.b bk_X8_pour_26 (And.intro (by first | rfl | assumption) (And.intro (by first | rfl | assumption) (And.intro (vp_in_nI (show sn < 4 by omega) (by decide)) ?_)))
          refine R.c br_X8_pour_33 (And.intro (fun h33 => absurd h33 (by rw [esz]; exact nI_ge (by omega) (by omega))) (fun h33 => ?_))
          refine R.b bk_X8_pour_36 (And.intro (by first | rfl | assumption) (And.intro (by first | rfl | assumption) (And.intro (vp_lit rfl) ?_)))
          refine R.c br_X8_pour_43 (And.intro (fun h43 => absurd h43 (by rw [e1]; exact nI_ge (by omega) (by omega))) (fun h43 => ?_))
          refine R.b bk_X8_pour_46 (And.intro (by first | rfl | assumption) (And.intro (by first | rfl | assumption) (And.intro (vp_n (e_24 sn i) (show 24 * sn + i < 96 by omega) (by decide)) ?_)))
          refine R.c br_X8_pour_63 (And.intro (fun h63 => ?_) (fun h63 => ?_))
          · refine R.b bk_X8_pour_75 ?_
            refine R.S3i kc_X8_pour_80 (c_X8_within) (by omega) rfl ⟨Nat.le_refl _, Nat.le_refl _⟩ (fun x80 M80 q80 => ?_)
            obtain ⟨rfl, q80⟩ := q80
            replace q80 := q80.symm
            subst q80
            refine R.b bk_X8_pour_83 ?_
            refine R.V2i kc_X8_pour_98 (by first | rfl | assumption) (c_X8_becomes (i := 7 + 8 * i + 1) (e_ix i 1) (by omega)) (by omega) rfl ⟨Nat.le_refl _, Nat.le_refl _⟩ (fun x98 M98 q98 => ?_)
            obtain ⟨rfl, q98⟩ := q98
            replace q98 := q98.symm
            subst q98
            refine R.b bk_X8_pour_101 ?_
            refine R.c br_X8_pour_103 (And.intro (fun h103 => ?_) (fun h103 => ?_))
            · refine R.b bk_X8_pour_110 ?_
              refine R.b bk_X8_pour_111 ?_
              refine R.j gt_X8_pour_116 ?_
              rw [nI_inc]
              have hcx : ((24 : Int32) * nI sn + nI i).toNatClampNeg = 24 * sn + i := cl_n (e_24 sn i) (by omega)
              have w1 : M1 120 = M 120 := by rw [hI1, mx_rw_ne (by decide)]
              have w2 : M1 104 (7 + 8 * i + 1) = M 104 (7 + 8 * i + 1) := by rw [hI1, mx_rw_at]; exact A_pour_keep _ _ _ i (fun d _ => by omega)
              rw [hcx, w1] at h63
              rw [w2] at h103
              have hx := fun q => ih (i + 1) (mx_wr M1 104 (7 + 8 * i + 1) (f_pr (M 104 (7 + 8 * i + 1)) (M 120 (24 * sn + i)))) (some (.int (M 120 (24 * sn + i)))) (some (.int (f_pr (M 104 (7 + 8 * i + 1)) (M 120 (24 * sn + i))))) (by omega) (by omega) q
              replace hx := hx (by rw [mx_wr_up, hI1, mx_rw_rw, mx_rw_at]; rfl)
              rw [n_pour] at hx
              simp only [hcx, w1, w2] at h103 ⊢ hx
              first
              | (rw [f_pr, if_pos h63] at hx)
              | (rw [f_pr, if_neg h63] at hx)
              first
              | (rw [if_pos h103] at hx; exact hx)
              | (rw [if_neg h103] at hx; exact hx)
              | exact absurd trivial h103
              | (rw [if_pos rfl] at hx; exact hx)
            · refine R.b bk_X8_pour_106 ?_
              refine R.j gt_X8_pour_107 ?_
              refine R.b bk_X8_pour_111 ?_
              refine R.j gt_X8_pour_116 ?_
              rw [nI_inc]
              have hcx : ((24 : Int32) * nI sn + nI i).toNatClampNeg = 24 * sn + i := cl_n (e_24 sn i) (by omega)
              have w1 : M1 120 = M 120 := by rw [hI1, mx_rw_ne (by decide)]
              have w2 : M1 104 (7 + 8 * i + 1) = M 104 (7 + 8 * i + 1) := by rw [hI1, mx_rw_at]; exact A_pour_keep _ _ _ i (fun d _ => by omega)
              rw [hcx, w1] at h63
              rw [w2] at h103
              have hx := fun q => ih (i + 1) (mx_wr M1 104 (7 + 8 * i + 1) (f_pr (M 104 (7 + 8 * i + 1)) (M 120 (24 * sn + i)))) (some (.int (M 120 (24 * sn + i)))) (some (.int (f_pr (M 104 (7 + 8 * i + 1)) (M 120 (24 * sn + i))))) (by omega) (by omega) q
              replace hx := hx (by rw [mx_wr_up, hI1, mx_rw_rw, mx_rw_at]; rfl)
              rw [n_pour] at hx
              simp only [hcx, w1, w2] at h103 ⊢ hx
              first
              | (rw [f_pr, if_pos h63] at hx)
              | (rw [f_pr, if_neg h63] at hx)
              first
              | (rw [if_pos h103] at hx; exact hx)
              | (rw [if_neg h103] at hx; exact hx)
              | exact absurd trivial h103
              | (rw [if_pos rfl] at hx; exact hx)
          · refine R.b bk_X8_pour_66 ?_
            refine R.V2i kc_X8_pour_69 (by first | rfl | assumption) (c_X8_of (d := i) (w := 1) (by omega)) (by omega) rfl ⟨Nat.le_refl _, Nat.le_refl _⟩ (fun x69 M69 q69 => ?_)
            obtain ⟨rfl, q69⟩ := q69
            replace q69 := q69.symm
            subst q69
            refine R.j gt_X8_pour_72 ?_
            refine R.b bk_X8_pour_83 ?_
            refine R.V2i kc_X8_pour_98 (by first | rfl | assumption) (c_X8_becomes (i := 7 + 8 * i + 1) (e_ix i 1) (by omega)) (by omega) rfl ⟨Nat.le_refl _, Nat.le_refl _⟩ (fun x98 M98 q98 => ?_)
            obtain ⟨rfl, q98⟩ := q98
            replace q98 := q98.symm
            subst q98
            refine R.b bk_X8_pour_101 ?_
            refine R.c br_X8_pour_103 (And.intro (fun h103 => ?_) (fun h103 => ?_))
            · refine R.b bk_X8_pour_110 ?_
              refine R.b bk_X8_pour_111 ?_
              refine R.j gt_X8_pour_116 ?_
              rw [nI_inc]
              have hcx : ((24 : Int32) * nI sn + nI i).toNatClampNeg = 24 * sn + i := cl_n (e_24 sn i) (by omega)
              have w1 : M1 120 = M 120 := by rw [hI1, mx_rw_ne (by decide)]
              have w2 : M1 104 (7 + 8 * i + 1) = M 104 (7 + 8 * i + 1) := by rw [hI1, mx_rw_at]; exact A_pour_keep _ _ _ i (fun d _ => by omega)
              rw [hcx, w1] at h63
              rw [w2] at h103
              have hx := fun q => ih (i + 1) (mx_wr M1 104 (7 + 8 * i + 1) (f_pr (M 104 (7 + 8 * i + 1)) (M 120 (24 * sn + i)))) (some (.int (M 120 (24 * sn + i)))) (some (.int (f_pr (M 104 (7 + 8 * i + 1)) (M 120 (24 * sn + i))))) (by omega) (by omega) q
              replace hx := hx (by rw [mx_wr_up, hI1, mx_rw_rw, mx_rw_at]; rfl)
              rw [n_pour] at hx
              simp only [hcx, w1, w2] at h103 ⊢ hx
              first
              | (rw [f_pr, if_pos h63] at hx)
              | (rw [f_pr, if_neg h63] at hx)
              first
              | (rw [if_pos h103] at hx; exact hx)
              | (rw [if_neg h103] at hx; exact hx)
              | exact absurd trivial h103
              | (rw [if_pos rfl] at hx; exact hx)
            · refine R.b bk_X8_pour_106 ?_
              refine R.j gt_X8_pour_107 ?_
              refine R.b bk_X8_pour_111 ?_
              refine R.j gt_X8_pour_116 ?_
              rw [nI_inc]
              have hcx : ((24 : Int32) * nI sn + nI i).toNatClampNeg = 24 * sn + i := cl_n (e_24 sn i) (by omega)
              have w1 : M1 120 = M 120 := by rw [hI1, mx_rw_ne (by decide)]
              have w2 : M1 104 (7 + 8 * i + 1) = M 104 (7 + 8 * i + 1) := by rw [hI1, mx_rw_at]; exact A_pour_keep _ _ _ i (fun d _ => by omega)
              rw [hcx, w1] at h63
              rw [w2] at h103
              have hx := fun q => ih (i + 1) (mx_wr M1 104 (7 + 8 * i + 1) (f_pr (M 104 (7 + 8 * i + 1)) (M 120 (24 * sn + i)))) (some (.int (M 120 (24 * sn + i)))) (some (.int (f_pr (M 104 (7 + 8 * i + 1)) (M 120 (24 * sn + i))))) (by omega) (by omega) q
              replace hx := hx (by rw [mx_wr_up, hI1, mx_rw_rw, mx_rw_at]; rfl)
              rw [n_pour] at hx
              simp only [hcx, w1, w2] at h103 ⊢ hx
              first
              | (rw [f_pr, if_pos h63] at hx)
              | (rw [f_pr, if_neg h63] at hx)
              first
              | (rw [if_pos h103] at hx; exact hx)
              | (rw [if_neg h103] at hx; exact hx)
              | exact absurd trivial h103
              | (rw [if_pos rfl] at hx; exact hx)
      exact hA (min sz mm) 0 M _ _ rfl (Nat.zero_le _) (mx_rw_id _ _).symm
    · refine R.b bk_X8_pour_19 ?_
      refine R.ri rt_X8_pour_21 rfl ⟨_, rfl, ?_⟩
      rw [hcl] at h16
      have hk : k_pour (M 118) (nI sn) = (-1000000011) := by rw [k_pour, if_neg h4, hcs, if_pos (Int32.not_le.mp h16)]
      exact ⟨fun _ => ⟨hk.symm, rfl⟩, fun h => absurd (hk.symm.trans h) (by decide)⟩
  · refine R.b bk_X8_pour_7 ?_
    refine R.ri rt_X8_pour_9 rfl ⟨_, rfl, ?_⟩
    have hk : k_pour (M 118) s = (-1000000001) := if_pos h4
    exact ⟨fun _ => ⟨hk.symm, rfl⟩, fun h => absurd (hk.symm.trans h) (by decide)⟩
def F_ask (ho hA hB : Rw) (s k : Int32) : Int32 := if f_in s 0 4 = 0 ∨ f_in k 0 5 = 0 then (-1000000001) else if ho (cN s) = 0 then (-1000000011) else if ¬ ho (cN s) = 1 ∨ f_under (hA (cN s)) k = 0 then (-1000000012) else hB (cN s)
def F_item (ho hA hC : Rw) (s p : Int32) : Int32 := if f_in s 0 4 = 0 then (-1000000001) else if ho (cN s) = 0 then (-1000000011) else if ¬ ho (cN s) = 2 then (-1000000012) else if f_in p 0 (hA (cN s) - 1) = 0 then (-1000000013) else if hC (24 * cN s + cN p) = (-1000000005) then (-1000000012) else hC (24 * cN s + cN p)
def F_rest (ho hA : Rw) (s n : Int32) : Int32 := if f_in s 0 4 = 0 then (-1000000001) else if ho (cN s) = 0 then (-1000000011) else if ¬ ho (cN s) = 3 then (-1000000012) else if n = 0 then (-1000000002) else if n = -1 then 0 else f_rem (hA (cN s)) n
theorem c_X8_ask {l : Launch} {G : Gt} {M : Mm} {s k : Int32} : Runs l G true dm_X8_ask 2 127 [.ref 103, .int s, .int k] M 127 (Pi (fun x M1 => x = F_ask (M 121) (M 122) (M 123) s k ∧ M1 = M)) := by
  refine mx_run ow_X8_ask rfl rfl (fun dp X hdp R => ?_)
  refine R.b bk_X8_ask_0 ?_
  refine R.S1i kc_X8_ask_1 (c_X8_isSlot) (by omega) rfl ⟨Nat.le_refl _, Nat.le_refl _⟩ (fun x1 M1 q1 => ?_)
  obtain ⟨rfl, q1⟩ := q1
  replace q1 := q1.symm
  subst q1
  refine R.c br_X8_ask_4 (And.intro (fun h4 => ?_) (fun h4 => ?_))
  · refine R.b bk_X8_ask_16 ?_
    refine R.ri rt_X8_ask_18 rfl ⟨_, rfl, ?_⟩
    exact ⟨by simp_all [F_ask], rfl⟩
  · refine R.b bk_X8_ask_7 ?_
    refine R.S3i kc_X8_ask_10 (c_X8_in) (by omega) rfl ⟨Nat.le_refl _, Nat.le_refl _⟩ (fun x10 M10 q10 => ?_)
    obtain ⟨rfl, q10⟩ := q10
    replace q10 := q10.symm
    subst q10
    refine R.c br_X8_ask_13 (And.intro (fun h13 => ?_) (fun h13 => ?_))
    · obtain ⟨sn, hsn, rfl⟩ := f_in_nat (n := 4) (by decide) h4
      have hcs : cN (nI sn) = sn := cN_nI (by omega)
      have hcl : (nI sn).toNatClampNeg = sn := nI_clamp (by omega)
      refine R.b bk_X8_ask_19 (And.intro (by first | rfl | assumption) (And.intro (by first | rfl | assumption) (And.intro (by exact vp_in_nI (show sn < 5 by omega) (by decide)) ?_)))
      refine R.c br_X8_ask_25 (And.intro (fun h25 => ?_) (fun h25 => ?_))
      · refine R.b bk_X8_ask_31 (And.intro (by first | rfl | assumption) (And.intro (by first | rfl | assumption) (And.intro (by exact vp_in_nI (show sn < 5 by omega) (by decide)) ?_)))
        refine R.c br_X8_ask_38 (And.intro (fun h38 => ?_) (fun h38 => ?_))
        · refine R.b bk_X8_ask_63 ?_
          refine R.ri rt_X8_ask_65 rfl ⟨_, rfl, ?_⟩
          refine ⟨?_, rfl⟩
          simp only [hcl] at *
          rw [F_ask, if_neg (not_or.mpr ⟨h4, h13⟩), hcs]
          first
          | exact (if_pos h25).symm
          | (rw [if_neg h25, if_pos (Or.inl h38)]; done)
          | (rw [if_neg h25, if_pos (Or.inr h51)]; done)
          | (rw [if_neg h25, if_neg (not_or.mpr ⟨fun q => q h38, h51⟩)]; done)
        · refine R.b bk_X8_ask_41 (And.intro (by first | rfl | assumption) (And.intro (by first | rfl | assumption) (And.intro (by exact vp_in_nI (show sn < 5 by omega) (by decide)) ?_)))
          refine R.S2i kc_X8_ask_48 (c_X8_isUnder) (by omega) rfl ⟨Nat.le_refl _, Nat.le_refl _⟩ (fun x48 M48 q48 => ?_)
          obtain ⟨rfl, q48⟩ := q48
          replace q48 := q48.symm
          subst q48
          refine R.c br_X8_ask_51 (And.intro (fun h51 => ?_) (fun h51 => ?_))
          · refine R.b bk_X8_ask_63 ?_
            refine R.ri rt_X8_ask_65 rfl ⟨_, rfl, ?_⟩
            refine ⟨?_, rfl⟩
            simp only [hcl] at *
            rw [F_ask, if_neg (not_or.mpr ⟨h4, h13⟩), hcs]
            first
            | exact (if_pos h25).symm
            | (rw [if_neg h25, if_pos (Or.inl h38)]; done)
            | (rw [if_neg h25, if_pos (Or.inr h51)]; done)
            | (rw [if_neg h25, if_neg (not_or.mpr ⟨fun q => q h38, h51⟩)]; done)
          · refine R.b bk_X8_ask_54 (And.intro (by first | rfl | assumption) (And.intro (by first | rfl | assumption) (And.intro (by exact vp_in_nI (show sn < 5 by omega) (by decide)) ?_)))
            refine R.j gt_X8_ask_60 ?_
            refine R.ri rt_X8_ask_65 rfl ⟨_, rfl, ?_⟩
            refine ⟨?_, rfl⟩
            simp only [hcl] at *
            rw [F_ask, if_neg (not_or.mpr ⟨h4, h13⟩), hcs]
            first
            | exact (if_pos h25).symm
            | (rw [if_neg h25, if_pos (Or.inl h38)]; done)
            | (rw [if_neg h25, if_pos (Or.inr h51)]; done)
            | (rw [if_neg h25, if_neg (not_or.mpr ⟨fun q => q h38, h51⟩)]; done)
      · refine R.b bk_X8_ask_28 ?_
        refine R.ri rt_X8_ask_30 rfl ⟨_, rfl, ?_⟩
        refine ⟨?_, rfl⟩
        simp only [hcl] at *
        rw [F_ask, if_neg (not_or.mpr ⟨h4, h13⟩), hcs]
        first
        | exact (if_pos h25).symm
        | (rw [if_neg h25, if_pos (Or.inl h38)]; done)
        | (rw [if_neg h25, if_pos (Or.inr h51)]; done)
        | (rw [if_neg h25, if_neg (not_or.mpr ⟨fun q => q h38, h51⟩)]; done)
    · refine R.b bk_X8_ask_16 ?_
      refine R.ri rt_X8_ask_18 rfl ⟨_, rfl, ?_⟩
      exact ⟨by simp_all [F_ask], rfl⟩
theorem c_X8_item {l : Launch} {G : Gt} {M : Mm} {s p : Int32} (hI : ∀ s, s < 5 → M 121 s = 2 → ∃ n, n ≤ 24 ∧ M 122 s = nI n) : Runs l G true dm_X8_item 2 127 [.ref 103, .int s, .int p] M 127 (Pi (fun x M1 => x = F_item (M 121) (M 122) (M 124) s p ∧ M1 = M)) := by
  refine mx_run ow_X8_item rfl rfl (fun dp X hdp R => ?_)
  refine R.b bk_X8_item_0 ?_
  refine R.S1i kc_X8_item_1 (c_X8_isSlot) (by omega) rfl ⟨Nat.le_refl _, Nat.le_refl _⟩ (fun x1 M1 q1 => ?_)
  obtain ⟨rfl, q1⟩ := q1
  replace q1 := q1.symm
  subst q1
  refine R.c br_X8_item_4 (And.intro (fun h4 => ?_) (fun h4 => ?_))
  · obtain ⟨sn, hsn, rfl⟩ := f_in_nat (n := 4) (by decide) h4
    have hcs : cN (nI sn) = sn := cN_nI (by omega)
    have hcl : (nI sn).toNatClampNeg = sn := nI_clamp (by omega)
    refine R.b bk_X8_item_10 (And.intro (by first | rfl | assumption) (And.intro (by first | rfl | assumption) (And.intro (by exact vp_in_nI (show sn < 5 by omega) (by decide)) ?_)))
    refine R.c br_X8_item_16 (And.intro (fun h16 => ?_) (fun h16 => ?_))
    · refine R.b bk_X8_item_22 (And.intro (by first | rfl | assumption) (And.intro (by first | rfl | assumption) (And.intro (by exact vp_in_nI (show sn < 5 by omega) (by decide)) ?_)))
      refine R.c br_X8_item_29 (And.intro (fun h29 => ?_) (fun h29 => ?_))
      · refine R.b bk_X8_item_35 (And.intro (by first | rfl | assumption) (And.intro (by first | rfl | assumption) (And.intro (by exact vp_in_nI (show sn < 5 by omega) (by decide)) ?_)))
        refine R.S3i kc_X8_item_45 (c_X8_in) (by omega) rfl ⟨Nat.le_refl _, Nat.le_refl _⟩ (fun x45 M45 q45 => ?_)
        obtain ⟨rfl, q45⟩ := q45
        replace q45 := q45.symm
        subst q45
        refine R.c br_X8_item_48 (And.intro (fun h48 => ?_) (fun h48 => ?_))
        · obtain ⟨zn, hzn, ezn⟩ := hI sn (by omega) (by rw [← hcl]; exact h29)
          obtain ⟨pn, hpn, rfl⟩ := f_in_dist (m := zn) (by omega) (by rw [hcl]; exact ezn) h48
          have hcp : cN (nI pn) = pn := cN_nI (by omega)
          have hcx : ((24 : Int32) * nI sn + nI pn).toNatClampNeg = 24 * sn + pn := cl_n (e_24 sn pn) (by omega)
          refine R.b bk_X8_item_54 (And.intro (by first | rfl | assumption) (And.intro (by first | rfl | assumption) (And.intro (vp_n (e_24 sn pn) (show 24 * sn + pn < 120 by omega) (by decide)) ?_)))
          refine R.c br_X8_item_69 (And.intro (fun h69 => ?_) (fun h69 => ?_))
          · refine R.b bk_X8_item_77 ?_
            refine R.ri rt_X8_item_78 rfl ⟨_, rfl, ?_⟩
            refine ⟨?_, rfl⟩
            simp only [hcl] at *
            rw [F_item, if_neg h4, hcs]
            first
            | exact (if_pos h16).symm
            | (rw [if_neg h16, if_pos h29]; done)
            | (rw [if_neg h16, if_neg (fun q => q h29), if_pos h48]; done)
            | (rw [hcx] at h69; rw [if_neg h16, if_neg (fun q => q h29), if_neg h48, hcp, if_pos h69]; done)
            | (rw [hcx] at h69; rw [if_neg h16, if_neg (fun q => q h29), if_neg h48, hcp, if_neg h69, hcx]; done)
          · refine R.b bk_X8_item_72 ?_
            refine R.j gt_X8_item_74 ?_
            refine R.ri rt_X8_item_78 rfl ⟨_, rfl, ?_⟩
            refine ⟨?_, rfl⟩
            simp only [hcl] at *
            rw [F_item, if_neg h4, hcs]
            first
            | exact (if_pos h16).symm
            | (rw [if_neg h16, if_pos h29]; done)
            | (rw [if_neg h16, if_neg (fun q => q h29), if_pos h48]; done)
            | (rw [hcx] at h69; rw [if_neg h16, if_neg (fun q => q h29), if_neg h48, hcp, if_pos h69]; done)
            | (rw [hcx] at h69; rw [if_neg h16, if_neg (fun q => q h29), if_neg h48, hcp, if_neg h69, hcx]; done)
        · refine R.b bk_X8_item_51 ?_
          refine R.ri rt_X8_item_53 rfl ⟨_, rfl, ?_⟩
          refine ⟨?_, rfl⟩
          simp only [hcl] at *
          rw [F_item, if_neg h4, hcs]
          first
          | exact (if_pos h16).symm
          | (rw [if_neg h16, if_pos h29]; done)
          | (rw [if_neg h16, if_neg (fun q => q h29), if_pos h48]; done)
          | (rw [hcx] at h69; rw [if_neg h16, if_neg (fun q => q h29), if_neg h48, hcp, if_pos h69]; done)
          | (rw [hcx] at h69; rw [if_neg h16, if_neg (fun q => q h29), if_neg h48, hcp, if_neg h69, hcx]; done)
      · refine R.b bk_X8_item_32 ?_
        refine R.ri rt_X8_item_34 rfl ⟨_, rfl, ?_⟩
        refine ⟨?_, rfl⟩
        simp only [hcl] at *
        rw [F_item, if_neg h4, hcs]
        first
        | exact (if_pos h16).symm
        | (rw [if_neg h16, if_pos h29]; done)
        | (rw [if_neg h16, if_neg (fun q => q h29), if_pos h48]; done)
        | (rw [hcx] at h69; rw [if_neg h16, if_neg (fun q => q h29), if_neg h48, hcp, if_pos h69]; done)
        | (rw [hcx] at h69; rw [if_neg h16, if_neg (fun q => q h29), if_neg h48, hcp, if_neg h69, hcx]; done)
    · refine R.b bk_X8_item_19 ?_
      refine R.ri rt_X8_item_21 rfl ⟨_, rfl, ?_⟩
      refine ⟨?_, rfl⟩
      simp only [hcl] at *
      rw [F_item, if_neg h4, hcs]
      first
      | exact (if_pos h16).symm
      | (rw [if_neg h16, if_pos h29]; done)
      | (rw [if_neg h16, if_neg (fun q => q h29), if_pos h48]; done)
      | (rw [hcx] at h69; rw [if_neg h16, if_neg (fun q => q h29), if_neg h48, hcp, if_pos h69]; done)
      | (rw [hcx] at h69; rw [if_neg h16, if_neg (fun q => q h29), if_neg h48, hcp, if_neg h69, hcx]; done)
  · refine R.b bk_X8_item_7 ?_
    refine R.ri rt_X8_item_9 rfl ⟨_, rfl, ?_⟩
    exact ⟨by simp_all [F_item], rfl⟩
theorem c_X8_rest {l : Launch} {G : Gt} {M : Mm} {s n : Int32} : Runs l G true dm_X8_rest 2 127 [.ref 103, .int s, .int n] M 127 (Pi (fun x M1 => x = F_rest (M 121) (M 122) s n ∧ M1 = M)) := by
  refine mx_run ow_X8_rest rfl rfl (fun dp X hdp R => ?_)
  refine R.b bk_X8_rest_0 ?_
  refine R.S1i kc_X8_rest_1 (c_X8_isSlot) (by omega) rfl ⟨Nat.le_refl _, Nat.le_refl _⟩ (fun x1 M1 q1 => ?_)
  obtain ⟨rfl, q1⟩ := q1
  replace q1 := q1.symm
  subst q1
  refine R.c br_X8_rest_4 (And.intro (fun h4 => ?_) (fun h4 => ?_))
  · obtain ⟨sn, hsn, rfl⟩ := f_in_nat (n := 4) (by decide) h4
    have hcs : cN (nI sn) = sn := cN_nI (by omega)
    have hcl : (nI sn).toNatClampNeg = sn := nI_clamp (by omega)
    refine R.b bk_X8_rest_10 (And.intro (by first | rfl | assumption) (And.intro (by first | rfl | assumption) (And.intro (by exact vp_in_nI (show sn < 5 by omega) (by decide)) ?_)))
    refine R.c br_X8_rest_16 (And.intro (fun h16 => ?_) (fun h16 => ?_))
    · refine R.b bk_X8_rest_22 (And.intro (by first | rfl | assumption) (And.intro (by first | rfl | assumption) (And.intro (by exact vp_in_nI (show sn < 5 by omega) (by decide)) ?_)))
      refine R.c br_X8_rest_29 (And.intro (fun h29 => ?_) (fun h29 => ?_))
      · refine R.b bk_X8_rest_35 ?_
        refine R.c br_X8_rest_36 (And.intro (fun h36 => ?_) (fun h36 => ?_))
        · refine R.b bk_X8_rest_44 ?_
          refine R.c br_X8_rest_46 (And.intro (fun h46 => ?_) (fun h46 => ?_))
          · refine R.b bk_X8_rest_53 (And.intro (by first | rfl | assumption) (And.intro (by first | rfl | assumption) (And.intro (by exact vp_in_nI (show sn < 5 by omega) (by decide)) (And.intro h36 ?_))))
            refine R.ri rt_X8_rest_61 rfl ⟨_, rfl, ?_⟩
            refine ⟨?_, rfl⟩
            simp only [hcl] at *
            rw [F_rest, if_neg h4, hcs]
            first
            | exact (if_pos h16).symm
            | (rw [if_neg h16, if_pos h29]; done)
            | (rw [if_neg h16, if_neg (fun q => q h29), if_pos h36]; done)
            | (rw [if_neg h16, if_neg (fun q => q h29), if_neg h36, if_pos h46]; done)
            | (rw [if_neg h16, if_neg (fun q => q h29), if_neg h36, if_neg h46]; rfl)
          · refine R.b bk_X8_rest_49 ?_
            refine R.j gt_X8_rest_50 ?_
            refine R.ri rt_X8_rest_61 rfl ⟨_, rfl, ?_⟩
            refine ⟨?_, rfl⟩
            simp only [hcl] at *
            rw [F_rest, if_neg h4, hcs]
            first
            | exact (if_pos h16).symm
            | (rw [if_neg h16, if_pos h29]; done)
            | (rw [if_neg h16, if_neg (fun q => q h29), if_pos h36]; done)
            | (rw [if_neg h16, if_neg (fun q => q h29), if_neg h36, if_pos h46]; done)
            | (rw [if_neg h16, if_neg (fun q => q h29), if_neg h36, if_neg h46]; rfl)
        · refine R.b bk_X8_rest_39 ?_
          refine R.j gt_X8_rest_41 ?_
          refine R.ri rt_X8_rest_61 rfl ⟨_, rfl, ?_⟩
          refine ⟨?_, rfl⟩
          simp only [hcl] at *
          rw [F_rest, if_neg h4, hcs]
          first
          | exact (if_pos h16).symm
          | (rw [if_neg h16, if_pos h29]; done)
          | (rw [if_neg h16, if_neg (fun q => q h29), if_pos h36]; done)
          | (rw [if_neg h16, if_neg (fun q => q h29), if_neg h36, if_pos h46]; done)
          | (rw [if_neg h16, if_neg (fun q => q h29), if_neg h36, if_neg h46]; rfl)
      · refine R.b bk_X8_rest_32 ?_
        refine R.ri rt_X8_rest_34 rfl ⟨_, rfl, ?_⟩
        refine ⟨?_, rfl⟩
        simp only [hcl] at *
        rw [F_rest, if_neg h4, hcs]
        first
        | exact (if_pos h16).symm
        | (rw [if_neg h16, if_pos h29]; done)
        | (rw [if_neg h16, if_neg (fun q => q h29), if_pos h36]; done)
        | (rw [if_neg h16, if_neg (fun q => q h29), if_neg h36, if_pos h46]; done)
        | (rw [if_neg h16, if_neg (fun q => q h29), if_neg h36, if_neg h46]; rfl)
    · refine R.b bk_X8_rest_19 ?_
      refine R.ri rt_X8_rest_21 rfl ⟨_, rfl, ?_⟩
      refine ⟨?_, rfl⟩
      simp only [hcl] at *
      rw [F_rest, if_neg h4, hcs]
      first
      | exact (if_pos h16).symm
      | (rw [if_neg h16, if_pos h29]; done)
      | (rw [if_neg h16, if_neg (fun q => q h29), if_pos h36]; done)
      | (rw [if_neg h16, if_neg (fun q => q h29), if_neg h36, if_pos h46]; done)
      | (rw [if_neg h16, if_neg (fun q => q h29), if_neg h36, if_neg h46]; rfl)
  · refine R.b bk_X8_rest_7 ?_
    refine R.ri rt_X8_rest_9 rfl ⟨_, rfl, ?_⟩
    exact ⟨by simp_all [F_rest], rfl⟩
