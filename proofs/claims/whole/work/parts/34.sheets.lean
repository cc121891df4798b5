/-! sheets and slots of the model -/
def k_sheet (s so n : Int32) : Int32 := if f_in s 0 3 = 0 ∨ f_in so (-1) 1 = 0 ∨ (¬ so < 0 ∧ 24 < n) then (-1000000001) else if ¬ so < 0 ∧ n < 0 then (-1000000014) else 0
def f_size (so n : Int32) : Int32 := if so < 0 then 0 else n
def f_zero (c : Rw) (s i : Nat) : Rw := fun j => if 24 * s ≤ j ∧ j < 24 * s + i then 0 else c j
theorem f_zero_0 (c : Rw) (s : Nat) : f_zero c s 0 = c := by
  funext j
  simp only [f_zero]
  rw [if_neg (by omega)]
theorem f_zero_up (c : Rw) (s i : Nat) : up (f_zero c s i) (24 * s + i) 0 = f_zero c s (i + 1) := by
  funext j
  simp only [up, f_zero]
  grind
theorem c_X8_sheet {l : Launch} {G : Gt} {M : Mm} {s so n : Int32} : Runs l G true dm_X8_sheet 2 127 [.ref 103, .int s, .int so, .int n] M 127 (Pi (fun x M1 => (k_sheet s so n ≠ 0 → x = k_sheet s so n ∧ M1 = M) ∧ (k_sheet s so n = 0 → x = f_size so n ∧ M1 = mx_rw (mx_wr (mx_wr M 118 (cN s) so) 119 (cN s) (f_size so n)) 120 (f_zero (M 120) (cN s) 24)))) := by
  refine mx_run ow_X8_sheet rfl rfl (fun dp X hdp R => ?_)
  have hL : ∀ (sn : Nat) (v : Int32), sn < 4 → s = nI sn → k_sheet s so n = 0 → v = f_size so n → X 127 (mx_wr (mx_wr M 118 sn so) 119 sn v) 65 [some (.ref 103), some (.int s), some (.int so), some (.int n), some (.int 0)] [] := by
    intro sn v hsn hs hk0 hv
    subst hs
    have hcs : cN (nI sn) = sn := cN_nI (by omega)
    have hcl : (nI sn).toNatClampNeg = sn := nI_clamp (by omega)
    obtain ⟨M0, hM0⟩ : ∃ M0, M0 = mx_wr (mx_wr M 118 sn so) 119 sn v := ⟨_, rfl⟩
    have hA : ∀ (fu i : Nat) (M1 : Mm), 24 - i = fu → i ≤ 24 → (M1 = mx_rw M0 120 (f_zero (M0 120) sn i)) → X 127 M1 65 [some (.ref 103), some (.int (nI sn)), some (.int so), some (.int n), some (.int (nI i))] [] := by
      intro fu
      induction fu with
      | zero =>
        intro i M1 hfu hi hI1
        have hiN : i = 24 := by omega
        refine R.b bk_X8_sheet_65 ?_
        refine R.c br_X8_sheet_69 (And.intro (fun h69 => ?_) (fun h69 => absurd (by rw [hiN]; decide) h69))
        refine R.b bk_X8_sheet_91 (And.intro (by first | rfl | assumption) (And.intro (by first | rfl | assumption) (And.intro (by exact vp_in_nI (show sn < 4 by omega) (by decide)) ?_)))
        refine R.ri rt_X8_sheet_97 rfl ⟨_, rfl, ?_⟩
        refine ⟨fun h => absurd hk0 h, fun _ => ⟨?_, ?_⟩⟩
        · rw [hI1, mx_rw_ne (by decide), hM0, hcl, ← hv]; simp [mx_wr]
        · rw [hI1, hiN, hM0, hcs, ← hv]; rfl
      | succ fu ih =>
        intro i M1 hfu hi hI1
        have hlt : i < 24 := by omega
        refine R.b bk_X8_sheet_65 ?_
        refine R.c br_X8_sheet_69 (And.intro (fun h69 => absurd h69 (nI_ge (b := 24) hlt (by decide))) (fun h69 => ?_))
        refine R.b bk_X8_sheet_72 (And.intro (by first | rfl | assumption) (And.intro (by first | rfl | assumption) (And.intro (by exact vp_n (e_24 sn i) (show 24 * sn + i < 96 by omega) (by decide)) ?_)))
        refine R.j gt_X8_sheet_88 ?_
        rw [nI_inc]
        refine ih (i + 1) _ (by omega) (by omega) ?_
        rw [cl_n (e_24 sn i) (by omega), mx_wr_up, hI1, mx_rw_rw, mx_rw_at, f_zero_up]
    rw [← hM0]
    exact hA 24 0 M0 rfl (by decide) (by rw [f_zero_0, mx_rw_id])
  refine R.b bk_X8_sheet_0 ?_
  refine R.S1i kc_X8_sheet_1 (c_X8_isSheet) (by omega) rfl ⟨Nat.le_refl _, Nat.le_refl _⟩ (fun x1 M1 q1 => ?_)
  obtain ⟨rfl, q1⟩ := q1
  replace q1 := q1.symm
  subst q1
  refine R.c br_X8_sheet_4 (And.intro (fun h4 => ?_) (fun h4 => ?_))
  · refine R.b bk_X8_sheet_26 ?_
    refine R.ri rt_X8_sheet_28 rfl ⟨_, rfl, ?_⟩
    have hk : k_sheet s so n = (-1000000001) := by
      unfold k_sheet
      first | exact if_pos (Or.inl h4) | exact if_pos (Or.inr (Or.inl h13)) | exact if_pos (Or.inr (Or.inr ⟨h17, Int32.not_le.mp h23⟩))
    exact ⟨fun _ => ⟨hk.symm, rfl⟩, fun h => absurd (hk.symm.trans h) (by decide)⟩
  · refine R.b bk_X8_sheet_7 ?_
    refine R.S3i kc_X8_sheet_10 (c_X8_in) (by omega) rfl ⟨Nat.le_refl _, Nat.le_refl _⟩ (fun x10 M10 q10 => ?_)
    obtain ⟨rfl, q10⟩ := q10
    replace q10 := q10.symm
    subst q10
    refine R.c br_X8_sheet_13 (And.intro (fun h13 => ?_) (fun h13 => ?_))
    · refine R.b bk_X8_sheet_26 ?_
      refine R.ri rt_X8_sheet_28 rfl ⟨_, rfl, ?_⟩
      have hk : k_sheet s so n = (-1000000001) := by
        unfold k_sheet
        first | exact if_pos (Or.inl h4) | exact if_pos (Or.inr (Or.inl h13)) | exact if_pos (Or.inr (Or.inr ⟨h17, Int32.not_le.mp h23⟩))
      exact ⟨fun _ => ⟨hk.symm, rfl⟩, fun h => absurd (hk.symm.trans h) (by decide)⟩
    · refine R.b bk_X8_sheet_16 ?_
      refine R.c br_X8_sheet_17 (And.intro (fun h17 => ?_) (fun h17 => ?_))
      · obtain ⟨sn, hsn, rfl⟩ := f_in_nat (n := 3) (by decide) h4
        have hcs : cN (nI sn) = sn := cN_nI (by omega)
        have hcl : (nI sn).toNatClampNeg = sn := nI_clamp (by omega)
        refine R.b bk_X8_sheet_29 ?_
        refine R.c br_X8_sheet_30 (And.intro (fun h30 => ?_) (fun h30 => ?_))
        · refine R.b bk_X8_sheet_40 (And.intro (by first | rfl | assumption) (And.intro (by first | rfl | assumption) (And.intro (by exact vp_in_nI (show sn < 4 by omega) (by decide)) (And.intro (by first | rfl | assumption) ?_))))
          refine R.c br_X8_sheet_53 (And.intro (fun h53 => ?_) (fun h53 => ?_))
          · refine R.b bk_X8_sheet_60 ?_
            refine R.b bk_X8_sheet_61 (And.intro (by first | rfl | assumption) (And.intro (by exact vp_in_nI (show sn < 4 by omega) (by decide)) ?_))
            rw [hcl]
            first
            | exact absurd h17 h30
            | exact absurd h30 h17
            | exact absurd (Int32.not_le.mpr h17) (fun q => q h53)
            | exact absurd (Int32.not_lt.mp h17) h53
            | (refine hL sn _ (by omega) rfl ?_ ?_
               · rw [k_sheet, if_neg (not_or.mpr ⟨h4, not_or.mpr ⟨h13, fun q => absurd h17 q.1⟩⟩), if_neg (fun q => absurd h17 q.1)]
               · rw [f_size, if_pos h17])
            | (refine hL sn _ (by omega) rfl ?_ ?_
               · rw [k_sheet, if_neg (not_or.mpr ⟨h4, not_or.mpr ⟨h13, fun q => absurd q.2 (Int32.not_lt.mpr h23)⟩⟩), if_neg (fun q => absurd q.2 (Int32.not_lt.mpr h34))]
               · rw [f_size, if_neg h17])
          · refine R.b bk_X8_sheet_56 ?_
            refine R.j gt_X8_sheet_57 ?_
            refine R.b bk_X8_sheet_61 (And.intro (by first | rfl | assumption) (And.intro (by exact vp_in_nI (show sn < 4 by omega) (by decide)) ?_))
            rw [hcl]
            first
            | exact absurd h17 h30
            | exact absurd h30 h17
            | exact absurd (Int32.not_le.mpr h17) (fun q => q h53)
            | exact absurd (Int32.not_lt.mp h17) h53
            | (refine hL sn _ (by omega) rfl ?_ ?_
               · rw [k_sheet, if_neg (not_or.mpr ⟨h4, not_or.mpr ⟨h13, fun q => absurd h17 q.1⟩⟩), if_neg (fun q => absurd h17 q.1)]
               · rw [f_size, if_pos h17])
            | (refine hL sn _ (by omega) rfl ?_ ?_
               · rw [k_sheet, if_neg (not_or.mpr ⟨h4, not_or.mpr ⟨h13, fun q => absurd q.2 (Int32.not_lt.mpr h23)⟩⟩), if_neg (fun q => absurd q.2 (Int32.not_lt.mpr h34))]
               · rw [f_size, if_neg h17])
        · refine R.b bk_X8_sheet_33 ?_
          refine R.c br_X8_sheet_34 (And.intro (fun h34 => ?_) (fun h34 => ?_))
          · refine R.b bk_X8_sheet_40 (And.intro (by first | rfl | assumption) (And.intro (by first | rfl | assumption) (And.intro (by exact vp_in_nI (show sn < 4 by omega) (by decide)) (And.intro (by first | rfl | assumption) ?_))))
            refine R.c br_X8_sheet_53 (And.intro (fun h53 => ?_) (fun h53 => ?_))
            · refine R.b bk_X8_sheet_60 ?_
              refine R.b bk_X8_sheet_61 (And.intro (by first | rfl | assumption) (And.intro (by exact vp_in_nI (show sn < 4 by omega) (by decide)) ?_))
              rw [hcl]
              first
              | exact absurd h17 h30
              | exact absurd h30 h17
              | exact absurd (Int32.not_le.mpr h17) (fun q => q h53)
              | exact absurd (Int32.not_lt.mp h17) h53
              | (refine hL sn _ (by omega) rfl ?_ ?_
                 · rw [k_sheet, if_neg (not_or.mpr ⟨h4, not_or.mpr ⟨h13, fun q => absurd h17 q.1⟩⟩), if_neg (fun q => absurd h17 q.1)]
                 · rw [f_size, if_pos h17])
              | (refine hL sn _ (by omega) rfl ?_ ?_
                 · rw [k_sheet, if_neg (not_or.mpr ⟨h4, not_or.mpr ⟨h13, fun q => absurd q.2 (Int32.not_lt.mpr h23)⟩⟩), if_neg (fun q => absurd q.2 (Int32.not_lt.mpr h34))]
                 · rw [f_size, if_neg h17])
            · refine R.b bk_X8_sheet_56 ?_
              refine R.j gt_X8_sheet_57 ?_
              refine R.b bk_X8_sheet_61 (And.intro (by first | rfl | assumption) (And.intro (by exact vp_in_nI (show sn < 4 by omega) (by decide)) ?_))
              rw [hcl]
              first
              | exact absurd h17 h30
              | exact absurd h30 h17
              | exact absurd (Int32.not_le.mpr h17) (fun q => q h53)
              | exact absurd (Int32.not_lt.mp h17) h53
              | (refine hL sn _ (by omega) rfl ?_ ?_
                 · rw [k_sheet, if_neg (not_or.mpr ⟨h4, not_or.mpr ⟨h13, fun q => absurd h17 q.1⟩⟩), if_neg (fun q => absurd h17 q.1)]
                 · rw [f_size, if_pos h17])
              | (refine hL sn _ (by omega) rfl ?_ ?_
                 · rw [k_sheet, if_neg (not_or.mpr ⟨h4, not_or.mpr ⟨h13, fun q => absurd q.2 (Int32.not_lt.mpr h23)⟩⟩), if_neg (fun q => absurd q.2 (Int32.not_lt.mpr h34))]
                 · rw [f_size, if_neg h17])
          · refine R.b bk_X8_sheet_37 ?_
            refine R.ri rt_X8_sheet_39 rfl ⟨_, rfl, ?_⟩
            first
            | (have hk : k_sheet (nI sn) so n = (-1000000014) := by
                 rw [k_sheet, if_neg (not_or.mpr ⟨h4, not_or.mpr ⟨h13, fun q => absurd q.2 (Int32.not_lt.mpr h23)⟩⟩), if_pos ⟨h17, Int32.not_le.mp h34⟩]
               exact ⟨fun _ => ⟨hk.symm, rfl⟩, fun h => absurd (hk.symm.trans h) (by decide)⟩)
            | exact absurd h17 h30
            | exact absurd h30 h17
      · refine R.b bk_X8_sheet_20 ?_
        refine R.c br_X8_sheet_23 (And.intro (fun h23 => ?_) (fun h23 => ?_))
        · obtain ⟨sn, hsn, rfl⟩ := f_in_nat (n := 3) (by decide) h4
          have hcs : cN (nI sn) = sn := cN_nI (by omega)
          have hcl : (nI sn).toNatClampNeg = sn := nI_clamp (by omega)
          refine R.b bk_X8_sheet_29 ?_
          refine R.c br_X8_sheet_30 (And.intro (fun h30 => ?_) (fun h30 => ?_))
          · refine R.b bk_X8_sheet_40 (And.intro (by first | rfl | assumption) (And.intro (by first | rfl | assumption) (And.intro (by exact vp_in_nI (show sn < 4 by omega) (by decide)) (And.intro (by first | rfl | assumption) ?_))))
            refine R.c br_X8_sheet_53 (And.intro (fun h53 => ?_) (fun h53 => ?_))
            · refine R.b bk_X8_sheet_60 ?_
              refine R.b bk_X8_sheet_61 (And.intro (by first | rfl | assumption) (And.intro (by exact vp_in_nI (show sn < 4 by omega) (by decide)) ?_))
              rw [hcl]
              first
              | exact absurd h17 h30
              | exact absurd h30 h17
              | exact absurd (Int32.not_le.mpr h17) (fun q => q h53)
              | exact absurd (Int32.not_lt.mp h17) h53
              | (refine hL sn _ (by omega) rfl ?_ ?_
                 · rw [k_sheet, if_neg (not_or.mpr ⟨h4, not_or.mpr ⟨h13, fun q => absurd h17 q.1⟩⟩), if_neg (fun q => absurd h17 q.1)]
                 · rw [f_size, if_pos h17])
              | (refine hL sn _ (by omega) rfl ?_ ?_
                 · rw [k_sheet, if_neg (not_or.mpr ⟨h4, not_or.mpr ⟨h13, fun q => absurd q.2 (Int32.not_lt.mpr h23)⟩⟩), if_neg (fun q => absurd q.2 (Int32.not_lt.mpr h34))]
                 · rw [f_size, if_neg h17])
            · refine R.b bk_X8_sheet_56 ?_
              refine R.j gt_X8_sheet_57 ?_
              refine R.b bk_X8_sheet_61 (And.intro (by first | rfl | assumption) (And.intro (by exact vp_in_nI (show sn < 4 by omega) (by decide)) ?_))
              rw [hcl]
              first
              | exact absurd h17 h30
              | exact absurd h30 h17
              | exact absurd (Int32.not_le.mpr h17) (fun q => q h53)
              | exact absurd (Int32.not_lt.mp h17) h53
              | (refine hL sn _ (by omega) rfl ?_ ?_
                 · rw [k_sheet, if_neg (not_or.mpr ⟨h4, not_or.mpr ⟨h13, fun q => absurd h17 q.1⟩⟩), if_neg (fun q => absurd h17 q.1)]
                 · rw [f_size, if_pos h17])
              | (refine hL sn _ (by omega) rfl ?_ ?_
                 · rw [k_sheet, if_neg (not_or.mpr ⟨h4, not_or.mpr ⟨h13, fun q => absurd q.2 (Int32.not_lt.mpr h23)⟩⟩), if_neg (fun q => absurd q.2 (Int32.not_lt.mpr h34))]
                 · rw [f_size, if_neg h17])
          · refine R.b bk_X8_sheet_33 ?_
            refine R.c br_X8_sheet_34 (And.intro (fun h34 => ?_) (fun h34 => ?_))
            · refine R.b bk_X8_sheet_40 (And.intro (by first | rfl | assumption) (And.intro (by first | rfl | assumption) (And.intro (by exact vp_in_nI (show sn < 4 by omega) (by decide)) (And.intro (by first | rfl | assumption) ?_))))
              refine R.c br_X8_sheet_53 (And.intro (fun h53 => ?_) (fun h53 => ?_))
              · refine R.b bk_X8_sheet_60 ?_
                refine R.b bk_X8_sheet_61 (And.intro (by first | rfl | assumption) (And.intro (by exact vp_in_nI (show sn < 4 by omega) (by decide)) ?_))
                rw [hcl]
                first
                | exact absurd h17 h30
                | exact absurd h30 h17
                | exact absurd (Int32.not_le.mpr h17) (fun q => q h53)
                | exact absurd (Int32.not_lt.mp h17) h53
                | (refine hL sn _ (by omega) rfl ?_ ?_
                   · rw [k_sheet, if_neg (not_or.mpr ⟨h4, not_or.mpr ⟨h13, fun q => absurd h17 q.1⟩⟩), if_neg (fun q => absurd h17 q.1)]
                   · rw [f_size, if_pos h17])
                | (refine hL sn _ (by omega) rfl ?_ ?_
                   · rw [k_sheet, if_neg (not_or.mpr ⟨h4, not_or.mpr ⟨h13, fun q => absurd q.2 (Int32.not_lt.mpr h23)⟩⟩), if_neg (fun q => absurd q.2 (Int32.not_lt.mpr h34))]
                   · rw [f_size, if_neg h17])
              · refine R.b bk_X8_sheet_56 ?_
                refine R.j gt_X8_sheet_57 ?_
                refine R.b bk_X8_sheet_61 (And.intro (by first | rfl | assumption) (And.intro (by exact vp_in_nI (show sn < 4 by omega) (by decide)) ?_))
                rw [hcl]
                first
                | exact absurd h17 h30
                | exact absurd h30 h17
                | exact absurd (Int32.not_le.mpr h17) (fun q => q h53)
                | exact absurd (Int32.not_lt.mp h17) h53
                | (refine hL sn _ (by omega) rfl ?_ ?_
                   · rw [k_sheet, if_neg (not_or.mpr ⟨h4, not_or.mpr ⟨h13, fun q => absurd h17 q.1⟩⟩), if_neg (fun q => absurd h17 q.1)]
                   · rw [f_size, if_pos h17])
                | (refine hL sn _ (by omega) rfl ?_ ?_
                   · rw [k_sheet, if_neg (not_or.mpr ⟨h4, not_or.mpr ⟨h13, fun q => absurd q.2 (Int32.not_lt.mpr h23)⟩⟩), if_neg (fun q => absurd q.2 (Int32.not_lt.mpr h34))]
                   · rw [f_size, if_neg h17])
            · refine R.b bk_X8_sheet_37 ?_
              refine R.ri rt_X8_sheet_39 rfl ⟨_, rfl, ?_⟩
              first
              | (have hk : k_sheet (nI sn) so n = (-1000000014) := by
                   rw [k_sheet, if_neg (not_or.mpr ⟨h4, not_or.mpr ⟨h13, fun q => absurd q.2 (Int32.not_lt.mpr h23)⟩⟩), if_pos ⟨h17, Int32.not_le.mp h34⟩]
                 exact ⟨fun _ => ⟨hk.symm, rfl⟩, fun h => absurd (hk.symm.trans h) (by decide)⟩)
              | exact absurd h17 h30
              | exact absurd h30 h17
        · refine R.b bk_X8_sheet_26 ?_
          refine R.ri rt_X8_sheet_28 rfl ⟨_, rfl, ?_⟩
          have hk : k_sheet s so n = (-1000000001) := by
            unfold k_sheet
            first | exact if_pos (Or.inl h4) | exact if_pos (Or.inr (Or.inl h13)) | exact if_pos (Or.inr (Or.inr ⟨h17, Int32.not_le.mp h23⟩))
          exact ⟨fun _ => ⟨hk.symm, rfl⟩, fun h => absurd (hk.symm.trans h) (by decide)⟩
def k_mark (so sz : Rw) (s p v : Int32) : Int32 := if f_in s 0 3 = 0 then (-1000000001) else if so (cN s) < 0 then (-1000000011) else if f_in p 0 (sz (cN s) - 1) = 0 then (-1000000013) else if so (cN s) = 0 ∧ v = (-1000000005) then (-1000000012) else if so (cN s) = 1 ∧ ¬ v = (-1000000005) ∧ f_in v (-99999) 99999 = 0 then (-1000000001) else 0
def f_mark (so v : Int32) : Int32 := if so = 0 then v.toInt16.toInt32 else v
theorem c_X8_mark {l : Launch} {G : Gt} {M : Mm} {s p v : Int32} (hsz : ∀ s, s < 4 → ∃ sz, sz ≤ 24 ∧ M 119 s = nI sz) : Runs l G true dm_X8_mark 2 127 [.ref 103, .int s, .int p, .int v] M 127 (Pi (fun x M1 => (k_mark (M 118) (M 119) s p v ≠ 0 → x = k_mark (M 118) (M 119) s p v ∧ M1 = M) ∧ (k_mark (M 118) (M 119) s p v = 0 → x = 1 ∧ M1 = mx_wr M 120 (24 * cN s + cN p) (f_mark (M 118 (cN s)) v)))) := by
  refine mx_run ow_X8_mark rfl rfl (fun dp X hdp R => ?_)
  refine R.b bk_X8_mark_0 ?_
  refine R.S1i kc_X8_mark_1 (c_X8_isSheet) (by omega) rfl ⟨Nat.le_refl _, Nat.le_refl _⟩ (fun x1 M1 q1 => ?_)
  obtain ⟨rfl, q1⟩ := q1
  replace q1 := q1.symm
  subst q1
  refine R.c br_X8_mark_4 (And.intro (fun h4 => ?_) (fun h4 => ?_))
  · obtain ⟨sn, hsn, rfl⟩ := f_in_nat (n := 3) (by decide) h4
    have hcs : cN (nI sn) = sn := cN_nI (by omega)
    have hcl : (nI sn).toNatClampNeg = sn := nI_clamp (by omega)
    refine R.b bk_X8_mark_10 (And.intro (by first | rfl | assumption) (And.intro (by first | rfl | assumption) (And.intro (by exact vp_in_nI (show sn < 4 by omega) (by decide)) ?_)))
    refine R.c br_X8_mark_16 (And.intro (fun h16 => ?_) (fun h16 => ?_))
    · refine R.b bk_X8_mark_22 (And.intro (by first | rfl | assumption) (And.intro (by first | rfl | assumption) (And.intro (by exact vp_in_nI (show sn < 4 by omega) (by decide)) ?_)))
      refine R.S3i kc_X8_mark_32 (c_X8_in) (by omega) rfl ⟨Nat.le_refl _, Nat.le_refl _⟩ (fun x32 M32 q32 => ?_)
      obtain ⟨rfl, q32⟩ := q32
      replace q32 := q32.symm
      subst q32
      refine R.c br_X8_mark_35 (And.intro (fun h35 => ?_) (fun h35 => ?_))
      · obtain ⟨sz, hsz24, hsz2⟩ := hsz sn (by omega)
        obtain ⟨pn, hpn, rfl⟩ := f_in_dist (m := sz) (by omega) (by rw [hcl]; exact hsz2) h35
        have hcp : cN (nI pn) = pn := cN_nI (by omega)
        refine R.b bk_X8_mark_41 (And.intro (by first | rfl | assumption) (And.intro (by first | rfl | assumption) (And.intro (by exact vp_in_nI (show sn < 4 by omega) (by decide)) ?_)))
        refine R.c br_X8_mark_47 (And.intro (fun h47 => ?_) (fun h47 => ?_))
        · refine R.b bk_X8_mark_59 (And.intro (by first | rfl | assumption) (And.intro (by first | rfl | assumption) (And.intro (by exact vp_in_nI (show sn < 4 by omega) (by decide)) ?_)))
          refine R.c br_X8_mark_66 (And.intro (fun h66 => ?_) (fun h66 => ?_))
          · refine R.b bk_X8_mark_89 (And.intro (by first | rfl | assumption) (And.intro (by first | rfl | assumption) (And.intro (by first | rfl | assumption) (And.intro (by exact vp_in_nI (show sn < 4 by omega) (by decide)) ?_))))
            refine R.c br_X8_mark_105 (And.intro (fun h105 => ?_) (fun h105 => ?_))
            · refine R.b bk_X8_mark_113 ?_
              refine R.b bk_X8_mark_114 (And.intro (by first | rfl | assumption) (And.intro (vp_n (e_24 sn pn) (show 24 * sn + pn < 96 by omega) (by decide)) ?_))
              refine R.ri rt_X8_mark_116 rfl ⟨_, rfl, ?_⟩
              have hcx : ((24 : Int32) * nI sn + nI pn).toNatClampNeg = 24 * sn + pn := cl_n (e_24 sn pn) (by omega)
              rw [hcl] at h16 h35 h47 h66 h105
              have hk : k_mark (M 118) (M 119) (nI sn) (nI pn) v = 0 := by
                rw [k_mark, if_neg h4, hcs, if_neg (Int32.not_lt.mpr h16), if_neg h35, if_neg (fun q => by simp_all), if_neg (fun q => by simp_all)]
              refine ⟨fun h => absurd hk h, fun _ => ⟨rfl, ?_⟩⟩
              rw [hcs, hcp, ← hcx, f_mark]
              first | (rw [if_pos h105]; done) | (rw [if_neg h105]; done) | (rw [if_pos h105]; rfl) | (rw [if_neg h105]; rfl)
            · refine R.b bk_X8_mark_108 ?_
              refine R.j gt_X8_mark_110 ?_
              refine R.b bk_X8_mark_114 (And.intro (by first | rfl | assumption) (And.intro (vp_n (e_24 sn pn) (show 24 * sn + pn < 96 by omega) (by decide)) ?_))
              refine R.ri rt_X8_mark_116 rfl ⟨_, rfl, ?_⟩
              have hcx : ((24 : Int32) * nI sn + nI pn).toNatClampNeg = 24 * sn + pn := cl_n (e_24 sn pn) (by omega)
              rw [hcl] at h16 h35 h47 h66 h105
              have hk : k_mark (M 118) (M 119) (nI sn) (nI pn) v = 0 := by
                rw [k_mark, if_neg h4, hcs, if_neg (Int32.not_lt.mpr h16), if_neg h35, if_neg (fun q => by simp_all), if_neg (fun q => by simp_all)]
              refine ⟨fun h => absurd hk h, fun _ => ⟨rfl, ?_⟩⟩
              rw [hcs, hcp, ← hcx, f_mark]
              first | (rw [if_pos h105]; done) | (rw [if_neg h105]; done) | (rw [if_pos h105]; rfl) | (rw [if_neg h105]; rfl)
          · refine R.b bk_X8_mark_69 ?_
            refine R.c br_X8_mark_72 (And.intro (fun h72 => ?_) (fun h72 => ?_))
            · refine R.b bk_X8_mark_89 (And.intro (by first | rfl | assumption) (And.intro (by first | rfl | assumption) (And.intro (by first | rfl | assumption) (And.intro (by exact vp_in_nI (show sn < 4 by omega) (by decide)) ?_))))
              refine R.c br_X8_mark_105 (And.intro (fun h105 => ?_) (fun h105 => ?_))
              · refine R.b bk_X8_mark_113 ?_
                refine R.b bk_X8_mark_114 (And.intro (by first | rfl | assumption) (And.intro (vp_n (e_24 sn pn) (show 24 * sn + pn < 96 by omega) (by decide)) ?_))
                refine R.ri rt_X8_mark_116 rfl ⟨_, rfl, ?_⟩
                have hcx : ((24 : Int32) * nI sn + nI pn).toNatClampNeg = 24 * sn + pn := cl_n (e_24 sn pn) (by omega)
                rw [hcl] at h16 h35 h47 h66 h105
                have hk : k_mark (M 118) (M 119) (nI sn) (nI pn) v = 0 := by
                  rw [k_mark, if_neg h4, hcs, if_neg (Int32.not_lt.mpr h16), if_neg h35, if_neg (fun q => by simp_all), if_neg (fun q => by simp_all)]
                refine ⟨fun h => absurd hk h, fun _ => ⟨rfl, ?_⟩⟩
                rw [hcs, hcp, ← hcx, f_mark]
                first | (rw [if_pos h105]; done) | (rw [if_neg h105]; done) | (rw [if_pos h105]; rfl) | (rw [if_neg h105]; rfl)
              · refine R.b bk_X8_mark_108 ?_
                refine R.j gt_X8_mark_110 ?_
                refine R.b bk_X8_mark_114 (And.intro (by first | rfl | assumption) (And.intro (vp_n (e_24 sn pn) (show 24 * sn + pn < 96 by omega) (by decide)) ?_))
                refine R.ri rt_X8_mark_116 rfl ⟨_, rfl, ?_⟩
                have hcx : ((24 : Int32) * nI sn + nI pn).toNatClampNeg = 24 * sn + pn := cl_n (e_24 sn pn) (by omega)
                rw [hcl] at h16 h35 h47 h66 h105
                have hk : k_mark (M 118) (M 119) (nI sn) (nI pn) v = 0 := by
                  rw [k_mark, if_neg h4, hcs, if_neg (Int32.not_lt.mpr h16), if_neg h35, if_neg (fun q => by simp_all), if_neg (fun q => by simp_all)]
                refine ⟨fun h => absurd hk h, fun _ => ⟨rfl, ?_⟩⟩
                rw [hcs, hcp, ← hcx, f_mark]
                first | (rw [if_pos h105]; done) | (rw [if_neg h105]; done) | (rw [if_pos h105]; rfl) | (rw [if_neg h105]; rfl)
            · refine R.b bk_X8_mark_75 ?_
              refine R.S3i kc_X8_mark_80 (c_X8_in) (by omega) rfl ⟨Nat.le_refl _, Nat.le_refl _⟩ (fun x80 M80 q80 => ?_)
              obtain ⟨rfl, q80⟩ := q80
              replace q80 := q80.symm
              subst q80
              refine R.c br_X8_mark_83 (And.intro (fun h83 => ?_) (fun h83 => ?_))
              · refine R.b bk_X8_mark_89 (And.intro (by first | rfl | assumption) (And.intro (by first | rfl | assumption) (And.intro (by first | rfl | assumption) (And.intro (by exact vp_in_nI (show sn < 4 by omega) (by decide)) ?_))))
                refine R.c br_X8_mark_105 (And.intro (fun h105 => ?_) (fun h105 => ?_))
                · refine R.b bk_X8_mark_113 ?_
                  refine R.b bk_X8_mark_114 (And.intro (by first | rfl | assumption) (And.intro (vp_n (e_24 sn pn) (show 24 * sn + pn < 96 by omega) (by decide)) ?_))
                  refine R.ri rt_X8_mark_116 rfl ⟨_, rfl, ?_⟩
                  have hcx : ((24 : Int32) * nI sn + nI pn).toNatClampNeg = 24 * sn + pn := cl_n (e_24 sn pn) (by omega)
                  rw [hcl] at h16 h35 h47 h66 h105
                  have hk : k_mark (M 118) (M 119) (nI sn) (nI pn) v = 0 := by
                    rw [k_mark, if_neg h4, hcs, if_neg (Int32.not_lt.mpr h16), if_neg h35, if_neg (fun q => by simp_all), if_neg (fun q => by simp_all)]
                  refine ⟨fun h => absurd hk h, fun _ => ⟨rfl, ?_⟩⟩
                  rw [hcs, hcp, ← hcx, f_mark]
                  first | (rw [if_pos h105]; done) | (rw [if_neg h105]; done) | (rw [if_pos h105]; rfl) | (rw [if_neg h105]; rfl)
                · refine R.b bk_X8_mark_108 ?_
                  refine R.j gt_X8_mark_110 ?_
                  refine R.b bk_X8_mark_114 (And.intro (by first | rfl | assumption) (And.intro (vp_n (e_24 sn pn) (show 24 * sn + pn < 96 by omega) (by decide)) ?_))
                  refine R.ri rt_X8_mark_116 rfl ⟨_, rfl, ?_⟩
                  have hcx : ((24 : Int32) * nI sn + nI pn).toNatClampNeg = 24 * sn + pn := cl_n (e_24 sn pn) (by omega)
                  rw [hcl] at h16 h35 h47 h66 h105
                  have hk : k_mark (M 118) (M 119) (nI sn) (nI pn) v = 0 := by
                    rw [k_mark, if_neg h4, hcs, if_neg (Int32.not_lt.mpr h16), if_neg h35, if_neg (fun q => by simp_all), if_neg (fun q => by simp_all)]
                  refine ⟨fun h => absurd hk h, fun _ => ⟨rfl, ?_⟩⟩
                  rw [hcs, hcp, ← hcx, f_mark]
                  first | (rw [if_pos h105]; done) | (rw [if_neg h105]; done) | (rw [if_pos h105]; rfl) | (rw [if_neg h105]; rfl)
              · refine R.b bk_X8_mark_86 ?_
                refine R.ri rt_X8_mark_88 rfl ⟨_, rfl, ?_⟩
                rw [hcl] at h16 h35 h47 h66
                have hk : k_mark (M 118) (M 119) (nI sn) (nI pn) v = (-1000000001) := by
                  rw [k_mark, if_neg h4, hcs, if_neg (Int32.not_lt.mpr h16), if_neg h35, if_neg, if_pos ⟨h66, h72, h83⟩]
                  intro q
                  exact absurd (h66.symm.trans q.1) (by decide)
                exact ⟨fun _ => ⟨hk.symm, rfl⟩, fun h => absurd (hk.symm.trans h) (by decide)⟩
        · refine R.b bk_X8_mark_50 ?_
          refine R.c br_X8_mark_53 (And.intro (fun h53 => ?_) (fun h53 => ?_))
          · refine R.b bk_X8_mark_59 (And.intro (by first | rfl | assumption) (And.intro (by first | rfl | assumption) (And.intro (by exact vp_in_nI (show sn < 4 by omega) (by decide)) ?_)))
            refine R.c br_X8_mark_66 (And.intro (fun h66 => ?_) (fun h66 => ?_))
            · refine R.b bk_X8_mark_89 (And.intro (by first | rfl | assumption) (And.intro (by first | rfl | assumption) (And.intro (by first | rfl | assumption) (And.intro (by exact vp_in_nI (show sn < 4 by omega) (by decide)) ?_))))
              refine R.c br_X8_mark_105 (And.intro (fun h105 => ?_) (fun h105 => ?_))
              · refine R.b bk_X8_mark_113 ?_
                refine R.b bk_X8_mark_114 (And.intro (by first | rfl | assumption) (And.intro (vp_n (e_24 sn pn) (show 24 * sn + pn < 96 by omega) (by decide)) ?_))
                refine R.ri rt_X8_mark_116 rfl ⟨_, rfl, ?_⟩
                have hcx : ((24 : Int32) * nI sn + nI pn).toNatClampNeg = 24 * sn + pn := cl_n (e_24 sn pn) (by omega)
                rw [hcl] at h16 h35 h47 h66 h105
                have hk : k_mark (M 118) (M 119) (nI sn) (nI pn) v = 0 := by
                  rw [k_mark, if_neg h4, hcs, if_neg (Int32.not_lt.mpr h16), if_neg h35, if_neg (fun q => by simp_all), if_neg (fun q => by simp_all)]
                refine ⟨fun h => absurd hk h, fun _ => ⟨rfl, ?_⟩⟩
                rw [hcs, hcp, ← hcx, f_mark]
                first | (rw [if_pos h105]; done) | (rw [if_neg h105]; done) | (rw [if_pos h105]; rfl) | (rw [if_neg h105]; rfl)
              · refine R.b bk_X8_mark_108 ?_
                refine R.j gt_X8_mark_110 ?_
                refine R.b bk_X8_mark_114 (And.intro (by first | rfl | assumption) (And.intro (vp_n (e_24 sn pn) (show 24 * sn + pn < 96 by omega) (by decide)) ?_))
                refine R.ri rt_X8_mark_116 rfl ⟨_, rfl, ?_⟩
                have hcx : ((24 : Int32) * nI sn + nI pn).toNatClampNeg = 24 * sn + pn := cl_n (e_24 sn pn) (by omega)
                rw [hcl] at h16 h35 h47 h66 h105
                have hk : k_mark (M 118) (M 119) (nI sn) (nI pn) v = 0 := by
                  rw [k_mark, if_neg h4, hcs, if_neg (Int32.not_lt.mpr h16), if_neg h35, if_neg (fun q => by simp_all), if_neg (fun q => by simp_all)]
                refine ⟨fun h => absurd hk h, fun _ => ⟨rfl, ?_⟩⟩
                rw [hcs, hcp, ← hcx, f_mark]
                first | (rw [if_pos h105]; done) | (rw [if_neg h105]; done) | (rw [if_pos h105]; rfl) | (rw [if_neg h105]; rfl)
            · refine R.b bk_X8_mark_69 ?_
              refine R.c br_X8_mark_72 (And.intro (fun h72 => absurd h72 h53) (fun h72 => ?_))
              refine R.b bk_X8_mark_75 ?_
              refine R.S3i kc_X8_mark_80 (c_X8_in) (by omega) rfl ⟨Nat.le_refl _, Nat.le_refl _⟩ (fun x80 M80 q80 => ?_)
              obtain ⟨rfl, q80⟩ := q80
              replace q80 := q80.symm
              subst q80
              refine R.c br_X8_mark_83 (And.intro (fun h83 => ?_) (fun h83 => ?_))
              · refine R.b bk_X8_mark_89 (And.intro (by first | rfl | assumption) (And.intro (by first | rfl | assumption) (And.intro (by first | rfl | assumption) (And.intro (by exact vp_in_nI (show sn < 4 by omega) (by decide)) ?_))))
                refine R.c br_X8_mark_105 (And.intro (fun h105 => ?_) (fun h105 => ?_))
                · refine R.b bk_X8_mark_113 ?_
                  refine R.b bk_X8_mark_114 (And.intro (by first | rfl | assumption) (And.intro (vp_n (e_24 sn pn) (show 24 * sn + pn < 96 by omega) (by decide)) ?_))
                  refine R.ri rt_X8_mark_116 rfl ⟨_, rfl, ?_⟩
                  have hcx : ((24 : Int32) * nI sn + nI pn).toNatClampNeg = 24 * sn + pn := cl_n (e_24 sn pn) (by omega)
                  rw [hcl] at h16 h35 h47 h66 h105
                  have hk : k_mark (M 118) (M 119) (nI sn) (nI pn) v = 0 := by
                    rw [k_mark, if_neg h4, hcs, if_neg (Int32.not_lt.mpr h16), if_neg h35, if_neg (fun q => by simp_all), if_neg (fun q => by simp_all)]
                  refine ⟨fun h => absurd hk h, fun _ => ⟨rfl, ?_⟩⟩
                  rw [hcs, hcp, ← hcx, f_mark]
                  first | (rw [if_pos h105]; done) | (rw [if_neg h105]; done) | (rw [if_pos h105]; rfl) | (rw [if_neg h105]; rfl)
                · refine R.b bk_X8_mark_108 ?_
                  refine R.j gt_X8_mark_110 ?_
                  refine R.b bk_X8_mark_114 (And.intro (by first | rfl | assumption) (And.intro (vp_n (e_24 sn pn) (show 24 * sn + pn < 96 by omega) (by decide)) ?_))
                  refine R.ri rt_X8_mark_116 rfl ⟨_, rfl, ?_⟩
                  have hcx : ((24 : Int32) * nI sn + nI pn).toNatClampNeg = 24 * sn + pn := cl_n (e_24 sn pn) (by omega)
                  rw [hcl] at h16 h35 h47 h66 h105
                  have hk : k_mark (M 118) (M 119) (nI sn) (nI pn) v = 0 := by
                    rw [k_mark, if_neg h4, hcs, if_neg (Int32.not_lt.mpr h16), if_neg h35, if_neg (fun q => by simp_all), if_neg (fun q => by simp_all)]
                  refine ⟨fun h => absurd hk h, fun _ => ⟨rfl, ?_⟩⟩
                  rw [hcs, hcp, ← hcx, f_mark]
                  first | (rw [if_pos h105]; done) | (rw [if_neg h105]; done) | (rw [if_pos h105]; rfl) | (rw [if_neg h105]; rfl)
              · refine R.b bk_X8_mark_86 ?_
                refine R.ri rt_X8_mark_88 rfl ⟨_, rfl, ?_⟩
                rw [hcl] at h16 h35 h47 h66
                have hk : k_mark (M 118) (M 119) (nI sn) (nI pn) v = (-1000000001) := by
                  rw [k_mark, if_neg h4, hcs, if_neg (Int32.not_lt.mpr h16), if_neg h35, if_neg, if_pos ⟨h66, h72, h83⟩]
                  intro q
                  exact absurd (h66.symm.trans q.1) (by decide)
                exact ⟨fun _ => ⟨hk.symm, rfl⟩, fun h => absurd (hk.symm.trans h) (by decide)⟩
          · refine R.b bk_X8_mark_56 ?_
            refine R.ri rt_X8_mark_58 rfl ⟨_, rfl, ?_⟩
            rw [hcl] at h16 h35 h47
            have hk : k_mark (M 118) (M 119) (nI sn) (nI pn) v = (-1000000012) := by rw [k_mark, if_neg h4, hcs, if_neg (Int32.not_lt.mpr h16), if_neg h35, if_pos ⟨h47, h53⟩]
            exact ⟨fun _ => ⟨hk.symm, rfl⟩, fun h => absurd (hk.symm.trans h) (by decide)⟩
      · refine R.b bk_X8_mark_38 ?_
        refine R.ri rt_X8_mark_40 rfl ⟨_, rfl, ?_⟩
        rw [hcl] at h16 h35
        have hk : k_mark (M 118) (M 119) (nI sn) p v = (-1000000013) := by rw [k_mark, if_neg h4, hcs, if_neg (Int32.not_lt.mpr h16), if_pos h35]
        exact ⟨fun _ => ⟨hk.symm, rfl⟩, fun h => absurd (hk.symm.trans h) (by decide)⟩
    · refine R.b bk_X8_mark_19 ?_
      refine R.ri rt_X8_mark_21 rfl ⟨_, rfl, ?_⟩
      rw [hcl] at h16
      have hk : k_mark (M 118) (M 119) (nI sn) p v = (-1000000011) := by rw [k_mark, if_neg h4, hcs, if_pos (Int32.not_le.mp h16)]
      exact ⟨fun _ => ⟨hk.symm, rfl⟩, fun h => absurd (hk.symm.trans h) (by decide)⟩
  · refine R.b bk_X8_mark_7 ?_
    refine R.ri rt_X8_mark_9 rfl ⟨_, rfl, ?_⟩
    have hk : k_mark (M 118) (M 119) s p v = (-1000000001) := if_pos h4
    exact ⟨fun _ => ⟨hk.symm, rfl⟩, fun h => absurd (hk.symm.trans h) (by decide)⟩
