/-! laying; the tape; texts told -/
def k_lay (a so : Rw) (s th k : Int32) : Int32 := if f_in s 0 4 = 0 ∨ f_in th 0 3 = 0 ∨ (th = 1 ∧ isD a k = 0) ∨ (th = 2 ∧ f_in k 0 3 = 0) then (-1000000001) else if th = 2 ∧ so (cN k) < 0 then (-1000000011) else 0
def f_layA (a sz : Rw) (th k : Int32) : Int32 := if th = 1 then a (7 + 8 * cN k) else if th = 2 then sz (cN k) else k
def f_layB (a : Rw) (th k : Int32) : Int32 := if th = 1 then f_worth (a (7 + 8 * cN k)) (a (7 + 8 * cN k + 1)) else 0
def f_layC (ce hc : Rw) (s : Nat) (th k : Int32) : Rw := if th = 2 then f_cp ce hc (24 * cN k) (24 * s) 24 else hc
theorem c_X8_lay {l : Launch} {G : Gt} {M : Mm} {s th k : Int32} {mm : Nat} (hV : VR (M 104) mm) : Runs l G true dm_X8_lay 2 127 [.ref 103, .int s, .int th, .int k] M 127 (Pi (fun x M1 => (k_lay (M 104) (M 118) s th k ≠ 0 → x = k_lay (M 104) (M 118) s th k ∧ M1 = M) ∧ (k_lay (M 104) (M 118) s th k = 0 → x = M 121 (cN s) ∧ M1 = mx_rw (mx_wr (mx_wr (mx_wr M 121 (cN s) th) 122 (cN s) (f_layA (M 104) (M 119) th k)) 123 (cN s) (f_layB (M 104) th k)) 124 (f_layC (M 120) (M 124) (cN s) th k)))) := by
  refine mx_run ow_X8_lay rfl rfl (fun dp X hdp R => ?_)
  have hmm := hV.1
  have hL : ∀ (sn kn : Nat) (was : Int32) (M0 : Mm), s = nI sn → th = 2 → k = nI kn → sn < 5 → kn < 4 → M0 120 = M 120 → M0 124 = M 124 → (∀ M1, M1 = mx_rw M0 124 (f_cp (M 120) (M 124) (24 * kn) (24 * sn) 24) → (fun x M1 => (k_lay (M 104) (M 118) s th k ≠ 0 → x = k_lay (M 104) (M 118) s th k ∧ M1 = M) ∧ (k_lay (M 104) (M 118) s th k = 0 → x = M 121 (cN s) ∧ M1 = mx_rw (mx_wr (mx_wr (mx_wr M 121 (cN s) th) 122 (cN s) (f_layA (M 104) (M 119) th k)) 123 (cN s) (f_layB (M 104) th k)) 124 (f_layC (M 120) (M 124) (cN s) th k))) was M1) → X 127 M0 134 [some (.ref 103), some (.int s), some (.int th), some (.int k), some (.int was), some (.int 0)] [] := by
    intro sn kn was M0 hs ht hk hsn hkn hM120 hM124 hp
    subst hs
    subst ht
    subst hk
    have hA : ∀ (fu i : Nat) (M1 : Mm), 24 - i = fu → i ≤ 24 → (M1 = mx_rw M0 124 (f_cp (M 120) (M 124) (24 * kn) (24 * sn) i)) → X 127 M1 134 [some (.ref 103), some (.int (nI sn)), some (.int 2), some (.int (nI kn)), some (.int was), some (.int (nI i))] [] := by
      intro fu
      induction fu with
      | zero =>
        intro i M1 hfu hi hI1
        have hiN : i = 24 := by omega
        refine R.b bk_X8_lay_134 ?_
        refine R.c br_X8_lay_138 (And.intro (fun h138 => ?_) (fun h138 => absurd (by rw [hiN]; decide) h138))
        refine R.b bk_X8_lay_176 ?_
        refine R.ri rt_X8_lay_178 rfl ⟨_, rfl, ?_⟩
        rw [hiN] at hI1
        exact hp M1 hI1
      | succ fu ih =>
        intro i M1 hfu hi hI1
        have hlt : i < 24 := by omega
        refine R.b bk_X8_lay_134 ?_
        refine R.c br_X8_lay_138 (And.intro (fun h138 => absurd h138 (nI_ge (b := 24) hlt (by decide))) (fun h138 => ?_))
        refine R.b bk_X8_lay_141 ?_
        refine R.c br_X8_lay_143 (And.intro (fun h143 => absurd rfl h143) (fun h143 => ?_))
        refine R.b bk_X8_lay_146 (And.intro (by first | rfl | assumption) (And.intro (by first | rfl | assumption) (And.intro (by first | rfl | assumption) (And.intro (vp_n (e_24 kn i) (show 24 * kn + i < 96 by omega) (by decide)) (And.intro (by first | rfl | assumption) (And.intro (vp_n (e_24 sn i) (show 24 * sn + i < 120 by omega) (by decide)) ?_))))))
        refine R.j gt_X8_lay_173 ?_
        rw [nI_inc]
        refine ih (i + 1) _ (by omega) (by omega) ?_
        rw [cl_n (e_24 sn i) (by omega), cl_n (e_24 kn i) (by omega), mx_wr_up, hI1, mx_rw_rw, mx_rw_at, mx_rw_ne (by decide), hM120, ← f_cp_up]
    exact hA 24 0 M0 rfl (by decide) (by rw [f_cp_0, ← hM124, mx_rw_id])
  have hN : ∀ (was : Int32) (M0 : Mm), ¬ th = 2 → (fun x M1 => (k_lay (M 104) (M 118) s th k ≠ 0 → x = k_lay (M 104) (M 118) s th k ∧ M1 = M) ∧ (k_lay (M 104) (M 118) s th k = 0 → x = M 121 (cN s) ∧ M1 = mx_rw (mx_wr (mx_wr (mx_wr M 121 (cN s) th) 122 (cN s) (f_layA (M 104) (M 119) th k)) 123 (cN s) (f_layB (M 104) th k)) 124 (f_layC (M 120) (M 124) (cN s) th k))) was M0 → X 127 M0 134 [some (.ref 103), some (.int s), some (.int th), some (.int k), some (.int was), some (.int 0)] [] := by
    intro was M0 ht hp
    refine R.b bk_X8_lay_134 ?_
    refine R.c br_X8_lay_138 (And.intro (fun h138 => absurd h138 (by decide)) (fun h138 => ?_))
    refine R.b bk_X8_lay_141 ?_
    refine R.c br_X8_lay_143 (And.intro (fun h143 => ?_) (fun h143 => absurd h143 ht))
    refine R.b bk_X8_lay_176 ?_
    refine R.ri rt_X8_lay_178 rfl ⟨_, rfl, ?_⟩
    exact hp
  refine R.b bk_X8_lay_0 ?_
  refine R.S1i kc_X8_lay_1 (c_X8_isSlot) (by omega) rfl ⟨Nat.le_refl _, Nat.le_refl _⟩ (fun x1 M1 q1 => ?_)
  obtain ⟨rfl, q1⟩ := q1
  replace q1 := q1.symm
  subst q1
  refine R.c br_X8_lay_4 (And.intro (fun h4 => ?_) (fun h4 => ?_))
  · refine R.b bk_X8_lay_41 ?_
    refine R.ri rt_X8_lay_43 rfl ⟨_, rfl, ?_⟩
    have hk : k_lay (M 104) (M 118) s th k = (-1000000001) := by
      unfold k_lay isD
      first | exact if_pos (Or.inl h4) | exact if_pos (Or.inr (Or.inl h13)) | (have q1 := h26; exact if_pos (Or.inr (Or.inr (Or.inl ⟨h18, q1⟩)))) | (have q2 := h38; exact if_pos (Or.inr (Or.inr (Or.inr ⟨h31, q2⟩))))
    exact ⟨fun _ => ⟨hk.symm, rfl⟩, fun h => absurd (hk.symm.trans h) (by decide)⟩
  · refine R.b bk_X8_lay_7 ?_
    refine R.S3i kc_X8_lay_10 (c_X8_in) (by omega) rfl ⟨Nat.le_refl _, Nat.le_refl _⟩ (fun x10 M10 q10 => ?_)
    obtain ⟨rfl, q10⟩ := q10
    replace q10 := q10.symm
    subst q10
    refine R.c br_X8_lay_13 (And.intro (fun h13 => ?_) (fun h13 => ?_))
    · refine R.b bk_X8_lay_41 ?_
      refine R.ri rt_X8_lay_43 rfl ⟨_, rfl, ?_⟩
      have hk : k_lay (M 104) (M 118) s th k = (-1000000001) := by
        unfold k_lay isD
        first | exact if_pos (Or.inl h4) | exact if_pos (Or.inr (Or.inl h13)) | (have q1 := h26; exact if_pos (Or.inr (Or.inr (Or.inl ⟨h18, q1⟩)))) | (have q2 := h38; exact if_pos (Or.inr (Or.inr (Or.inr ⟨h31, q2⟩))))
      exact ⟨fun _ => ⟨hk.symm, rfl⟩, fun h => absurd (hk.symm.trans h) (by decide)⟩
    · refine R.b bk_X8_lay_16 ?_
      refine R.c br_X8_lay_18 (And.intro (fun h18 => ?_) (fun h18 => ?_))
      · refine R.b bk_X8_lay_29 ?_
        refine R.c br_X8_lay_31 (And.intro (fun h31 => ?_) (fun h31 => ?_))
        · refine R.b bk_X8_lay_44 ?_
          refine R.c br_X8_lay_46 (And.intro (fun h46 => ?_) (fun h46 => absurd h46 h31))
          obtain ⟨sn, hsn, hs⟩ := f_in_nat (n := 4) (by decide) h4
          have hcs : cN s = sn := by rw [hs]; exact cN_nI (by omega)
          have hcl : s.toNatClampNeg = sn := hcs
          refine R.b bk_X8_lay_61 (And.intro (by first | rfl | assumption) (And.intro (by first | rfl | assumption) (And.intro (by first | exact vp_n hs (show sn < 5 by omega) (by decide) | exact vp_n hks (show kn < 4 by omega) (by decide)) (And.intro (by first | rfl | assumption) (And.intro (by first | rfl | assumption) (And.intro (by first | exact vp_n hs (show sn < 5 by omega) (by decide) | exact vp_n hks (show kn < 4 by omega) (by decide)) (And.intro (by first | rfl | assumption) ?_)))))))
          refine R.c br_X8_lay_83 (And.intro (fun h83 => ?_) (fun h83 => absurd h83 h18))
          refine R.b bk_X8_lay_95 ?_
          refine R.c br_X8_lay_97 (And.intro (fun h97 => ?_) (fun h97 => absurd h97 h31))
          refine R.b bk_X8_lay_109 ?_
          refine R.b bk_X8_lay_110 (And.intro (by first | rfl | assumption) (And.intro (by first | exact vp_n hs (show sn < 5 by omega) (by decide) | exact vp_n hks (show kn < 4 by omega) (by decide)) (And.intro (by first | rfl | assumption) ?_)))
          refine R.c br_X8_lay_118 (And.intro (fun h118 => ?_) (fun h118 => absurd h118 h18))
          refine R.b bk_X8_lay_129 ?_
          refine R.b bk_X8_lay_130 (And.intro (by first | rfl | assumption) (And.intro (by first | exact vp_n hs (show sn < 5 by omega) (by decide) | exact vp_n hks (show kn < 4 by omega) (by decide)) ?_))
          first
          | (have hk0 : k_lay (M 104) (M 118) s th (nI kn) = 0 := by
               unfold k_lay isD
               rw [if_neg (not_or.mpr ⟨h4, not_or.mpr ⟨h13, not_or.mpr ⟨fun q => h26 q.2, fun q => absurd (h18.symm.trans q.1) (by decide)⟩⟩⟩), if_neg (fun q => absurd (h18.symm.trans q.1) (by decide))]
             refine hN _ _ (fun q => absurd (h18.symm.trans q) (by decide)) ⟨fun h => absurd hk0 h, fun _ => ⟨?_, ?_⟩⟩
             · rw [hcs, hcl]
             · rw [hcs, hcl, f_layA, if_pos h18, f_layB, if_pos h18, f_layC, if_neg (fun q => absurd (h18.symm.trans q) (by decide)), hck]
               exact (mx_rw_id (mx_wr (mx_wr (mx_wr M 121 sn th) 122 sn _) 123 sn _) 124).symm)
          | (have hk0 : k_lay (M 104) (M 118) s th k = 0 := by
               unfold k_lay isD
               rw [if_neg (not_or.mpr ⟨h4, not_or.mpr ⟨h13, not_or.mpr ⟨fun q => absurd (h31.symm.trans q.1) (by decide), fun q => h38 q.2⟩⟩⟩), if_neg (fun q => absurd q.2 (by rw [hck]; rw [hckl] at h55; exact Int32.not_lt.mpr h55))]
             refine hL sn kn _ _ hs h31 hks (by omega) (by omega) rfl rfl (fun M1 hM1 => ⟨fun h => absurd hk0 h, fun _ => ⟨?_, ?_⟩⟩)
             · rw [hcs, hcl]
             · rw [hM1, hcs, hcl, hckl, f_layA, if_neg (fun q => absurd (h31.symm.trans q) (by decide)), if_pos h31, f_layB, if_neg (fun q => absurd (h31.symm.trans q) (by decide)), f_layC, if_pos h31, hck]
               rfl)
          | (have hk0 : k_lay (M 104) (M 118) s th k = 0 := by
               unfold k_lay isD
               rw [if_neg (not_or.mpr ⟨h4, not_or.mpr ⟨h13, not_or.mpr ⟨fun q => h18 q.1, fun q => h31 q.1⟩⟩⟩), if_neg (fun q => h31 q.1)]
             refine hN _ _ h31 ⟨fun h => absurd hk0 h, fun _ => ⟨?_, ?_⟩⟩
             · rw [hcs, hcl]
             · rw [hcs, hcl, f_layA, if_neg h18, if_neg h31, f_layB, if_neg h18, f_layC, if_neg h31]
               exact (mx_rw_id (mx_wr (mx_wr (mx_wr M 121 sn th) 122 sn _) 123 sn _) 124).symm)
        · refine R.b bk_X8_lay_34 ?_
          refine R.S1i kc_X8_lay_35 (c_X8_isSheet) (by omega) rfl ⟨Nat.le_refl _, Nat.le_refl _⟩ (fun x35 M35 q35 => ?_)
          obtain ⟨rfl, q35⟩ := q35
          replace q35 := q35.symm
          subst q35
          refine R.c br_X8_lay_38 (And.intro (fun h38 => ?_) (fun h38 => ?_))
          · refine R.b bk_X8_lay_44 ?_
            refine R.c br_X8_lay_46 (And.intro (fun h46 => absurd h31 h46) (fun h46 => ?_))
            obtain ⟨kn, hkn, hks⟩ := f_in_nat (n := 3) (by decide) h38
            have hck : cN k = kn := by rw [hks]; exact cN_nI (by omega)
            have hckl : k.toNatClampNeg = kn := hck
            refine R.b bk_X8_lay_49 (And.intro (by first | rfl | assumption) (And.intro (by first | rfl | assumption) (And.intro (by first | exact vp_n hs (show sn < 5 by omega) (by decide) | exact vp_n hks (show kn < 4 by omega) (by decide)) ?_)))
            refine R.c br_X8_lay_55 (And.intro (fun h55 => ?_) (fun h55 => ?_))
            · obtain ⟨sn, hsn, hs⟩ := f_in_nat (n := 4) (by decide) h4
              have hcs : cN s = sn := by rw [hs]; exact cN_nI (by omega)
              have hcl : s.toNatClampNeg = sn := hcs
              refine R.b bk_X8_lay_61 (And.intro (by first | rfl | assumption) (And.intro (by first | rfl | assumption) (And.intro (by first | exact vp_n hs (show sn < 5 by omega) (by decide) | exact vp_n hks (show kn < 4 by omega) (by decide)) (And.intro (by first | rfl | assumption) (And.intro (by first | rfl | assumption) (And.intro (by first | exact vp_n hs (show sn < 5 by omega) (by decide) | exact vp_n hks (show kn < 4 by omega) (by decide)) (And.intro (by first | rfl | assumption) ?_)))))))
              refine R.c br_X8_lay_83 (And.intro (fun h83 => ?_) (fun h83 => absurd (h31.symm.trans h83) (by decide)))
              refine R.b bk_X8_lay_95 ?_
              refine R.c br_X8_lay_97 (And.intro (fun h97 => absurd h31 h97) (fun h97 => ?_))
              refine R.b bk_X8_lay_100 (And.intro (by first | rfl | assumption) (And.intro (by first | rfl | assumption) (And.intro (by first | exact vp_n hs (show sn < 5 by omega) (by decide) | exact vp_n hks (show kn < 4 by omega) (by decide)) ?_)))
              refine R.j gt_X8_lay_106 ?_
              refine R.b bk_X8_lay_110 (And.intro (by first | rfl | assumption) (And.intro (by first | exact vp_n hs (show sn < 5 by omega) (by decide) | exact vp_n hks (show kn < 4 by omega) (by decide)) (And.intro (by first | rfl | assumption) ?_)))
              refine R.c br_X8_lay_118 (And.intro (fun h118 => ?_) (fun h118 => absurd (h31.symm.trans h118) (by decide)))
              refine R.b bk_X8_lay_129 ?_
              refine R.b bk_X8_lay_130 (And.intro (by first | rfl | assumption) (And.intro (by first | exact vp_n hs (show sn < 5 by omega) (by decide) | exact vp_n hks (show kn < 4 by omega) (by decide)) ?_))
              first
              | (have hk0 : k_lay (M 104) (M 118) s th (nI kn) = 0 := by
                   unfold k_lay isD
                   rw [if_neg (not_or.mpr ⟨h4, not_or.mpr ⟨h13, not_or.mpr ⟨fun q => h26 q.2, fun q => absurd (h18.symm.trans q.1) (by decide)⟩⟩⟩), if_neg (fun q => absurd (h18.symm.trans q.1) (by decide))]
                 refine hN _ _ (fun q => absurd (h18.symm.trans q) (by decide)) ⟨fun h => absurd hk0 h, fun _ => ⟨?_, ?_⟩⟩
                 · rw [hcs, hcl]
                 · rw [hcs, hcl, f_layA, if_pos h18, f_layB, if_pos h18, f_layC, if_neg (fun q => absurd (h18.symm.trans q) (by decide)), hck]
                   exact (mx_rw_id (mx_wr (mx_wr (mx_wr M 121 sn th) 122 sn _) 123 sn _) 124).symm)
              | (have hk0 : k_lay (M 104) (M 118) s th k = 0 := by
                   unfold k_lay isD
                   rw [if_neg (not_or.mpr ⟨h4, not_or.mpr ⟨h13, not_or.mpr ⟨fun q => absurd (h31.symm.trans q.1) (by decide), fun q => h38 q.2⟩⟩⟩), if_neg (fun q => absurd q.2 (by rw [hck]; rw [hckl] at h55; exact Int32.not_lt.mpr h55))]
                 refine hL sn kn _ _ hs h31 hks (by omega) (by omega) rfl rfl (fun M1 hM1 => ⟨fun h => absurd hk0 h, fun _ => ⟨?_, ?_⟩⟩)
                 · rw [hcs, hcl]
                 · rw [hM1, hcs, hcl, hckl, f_layA, if_neg (fun q => absurd (h31.symm.trans q) (by decide)), if_pos h31, f_layB, if_neg (fun q => absurd (h31.symm.trans q) (by decide)), f_layC, if_pos h31, hck]
                   rfl)
              | (have hk0 : k_lay (M 104) (M 118) s th k = 0 := by
                   unfold k_lay isD
                   rw [if_neg (not_or.mpr ⟨h4, not_or.mpr ⟨h13, not_or.mpr ⟨fun q => h18 q.1, fun q => h31 q.1⟩⟩⟩), if_neg (fun q => h31 q.1)]
                 refine hN _ _ h31 ⟨fun h => absurd hk0 h, fun _ => ⟨?_, ?_⟩⟩
                 · rw [hcs, hcl]
                 · rw [hcs, hcl, f_layA, if_neg h18, if_neg h31, f_layB, if_neg h18, f_layC, if_neg h31]
                   exact (mx_rw_id (mx_wr (mx_wr (mx_wr M 121 sn th) 122 sn _) 123 sn _) 124).symm)
            · refine R.b bk_X8_lay_58 ?_
              refine R.ri rt_X8_lay_60 rfl ⟨_, rfl, ?_⟩
              have hk : k_lay (M 104) (M 118) s th k = (-1000000011) := by
                unfold k_lay isD
                rw [hckl] at h55
                rw [if_neg (not_or.mpr ⟨h4, not_or.mpr ⟨h13, not_or.mpr ⟨fun q => absurd (q.1.symm.trans h31) (by decide), fun q => h38 q.2⟩⟩⟩), if_pos ⟨h31, by rw [hck]; exact Int32.not_le.mp h55⟩]
              exact ⟨fun _ => ⟨hk.symm, rfl⟩, fun h => absurd (hk.symm.trans h) (by decide)⟩
          · refine R.b bk_X8_lay_41 ?_
            refine R.ri rt_X8_lay_43 rfl ⟨_, rfl, ?_⟩
            have hk : k_lay (M 104) (M 118) s th k = (-1000000001) := by
              unfold k_lay isD
              first | exact if_pos (Or.inl h4) | exact if_pos (Or.inr (Or.inl h13)) | (have q1 := h26; exact if_pos (Or.inr (Or.inr (Or.inl ⟨h18, q1⟩)))) | (have q2 := h38; exact if_pos (Or.inr (Or.inr (Or.inr ⟨h31, q2⟩))))
            exact ⟨fun _ => ⟨hk.symm, rfl⟩, fun h => absurd (hk.symm.trans h) (by decide)⟩
      · refine R.b bk_X8_lay_21 ?_
        refine R.V1i kc_X8_lay_23 (by first | rfl | assumption) (c_X8_isDistrict) (by omega) rfl ⟨Nat.le_refl _, Nat.le_refl _⟩ (fun x23 M23 q23 => ?_)
        obtain ⟨rfl, q23⟩ := q23
        replace q23 := q23.symm
        subst q23
        refine R.c br_X8_lay_26 (And.intro (fun h26 => ?_) (fun h26 => ?_))
        · refine R.b bk_X8_lay_41 ?_
          refine R.ri rt_X8_lay_43 rfl ⟨_, rfl, ?_⟩
          have hk : k_lay (M 104) (M 118) s th k = (-1000000001) := by
            unfold k_lay isD
            first | exact if_pos (Or.inl h4) | exact if_pos (Or.inr (Or.inl h13)) | (have q1 := h26; exact if_pos (Or.inr (Or.inr (Or.inl ⟨h18, q1⟩)))) | (have q2 := h38; exact if_pos (Or.inr (Or.inr (Or.inr ⟨h31, q2⟩))))
          exact ⟨fun _ => ⟨hk.symm, rfl⟩, fun h => absurd (hk.symm.trans h) (by decide)⟩
        · refine R.b bk_X8_lay_29 ?_
          refine R.c br_X8_lay_31 (And.intro (fun h31 => ?_) (fun h31 => absurd (h18.symm.trans h31) (by decide)))
          refine R.b bk_X8_lay_44 ?_
          refine R.c br_X8_lay_46 (And.intro (fun h46 => ?_) (fun h46 => absurd (h18.symm.trans h46) (by decide)))
          obtain ⟨sn, hsn, hs⟩ := f_in_nat (n := 4) (by decide) h4
          have hcs : cN s = sn := by rw [hs]; exact cN_nI (by omega)
          have hcl : s.toNatClampNeg = sn := hcs
          refine R.b bk_X8_lay_61 (And.intro (by first | rfl | assumption) (And.intro (by first | rfl | assumption) (And.intro (by first | exact vp_n hs (show sn < 5 by omega) (by decide) | exact vp_n hks (show kn < 4 by omega) (by decide)) (And.intro (by first | rfl | assumption) (And.intro (by first | rfl | assumption) (And.intro (by first | exact vp_n hs (show sn < 5 by omega) (by decide) | exact vp_n hks (show kn < 4 by omega) (by decide)) (And.intro (by first | rfl | assumption) ?_)))))))
          refine R.c br_X8_lay_83 (And.intro (fun h83 => absurd h18 h83) (fun h83 => ?_))
          obtain ⟨kn, hkn, hkd⟩ := f_in_dist (by omega) hV.2.1 h26
          have hck : cN k = kn := by rw [hkd]; exact cN_nI (by omega)
          have hck2 : cN (nI kn) = kn := cN_nI (by omega)
          subst hkd
          refine R.b bk_X8_lay_86 ?_
          refine R.V2i kc_X8_lay_89 (by first | rfl | assumption) (c_X8_of (d := kn) (w := 0) (by omega)) (by omega) rfl ⟨Nat.le_refl _, Nat.le_refl _⟩ (fun x89 M89 q89 => ?_)
          obtain ⟨rfl, q89⟩ := q89
          replace q89 := q89.symm
          subst q89
          refine R.j gt_X8_lay_92 ?_
          refine R.b bk_X8_lay_110 (And.intro (by first | rfl | assumption) (And.intro (by first | exact vp_n hs (show sn < 5 by omega) (by decide) | exact vp_n hks (show kn < 4 by omega) (by decide)) (And.intro (by first | rfl | assumption) ?_)))
          refine R.c br_X8_lay_118 (And.intro (fun h118 => absurd h18 h118) (fun h118 => ?_))
          refine R.b bk_X8_lay_121 ?_
          refine R.V1i kc_X8_lay_123 (by first | rfl | assumption) (c_X8_worthOf (d := kn) (by omega)) (by omega) rfl ⟨Nat.le_refl _, Nat.le_refl _⟩ (fun x123 M123 q123 => ?_)
          obtain ⟨rfl, q123⟩ := q123
          replace q123 := q123.symm
          subst q123
          refine R.j gt_X8_lay_126 ?_
          refine R.b bk_X8_lay_130 (And.intro (by first | rfl | assumption) (And.intro (by first | exact vp_n hs (show sn < 5 by omega) (by decide) | exact vp_n hks (show kn < 4 by omega) (by decide)) ?_))
          first
          | (have hk0 : k_lay (M 104) (M 118) s th (nI kn) = 0 := by
               unfold k_lay isD
               rw [if_neg (not_or.mpr ⟨h4, not_or.mpr ⟨h13, not_or.mpr ⟨fun q => h26 q.2, fun q => absurd (h18.symm.trans q.1) (by decide)⟩⟩⟩), if_neg (fun q => absurd (h18.symm.trans q.1) (by decide))]
             refine hN _ _ (fun q => absurd (h18.symm.trans q) (by decide)) ⟨fun h => absurd hk0 h, fun _ => ⟨?_, ?_⟩⟩
             · rw [hcs, hcl]
             · rw [hcs, hcl, f_layA, if_pos h18, f_layB, if_pos h18, f_layC, if_neg (fun q => absurd (h18.symm.trans q) (by decide)), hck]
               exact (mx_rw_id (mx_wr (mx_wr (mx_wr M 121 sn th) 122 sn _) 123 sn _) 124).symm)
          | (have hk0 : k_lay (M 104) (M 118) s th k = 0 := by
               unfold k_lay isD
               rw [if_neg (not_or.mpr ⟨h4, not_or.mpr ⟨h13, not_or.mpr ⟨fun q => absurd (h31.symm.trans q.1) (by decide), fun q => h38 q.2⟩⟩⟩), if_neg (fun q => absurd q.2 (by rw [hck]; rw [hckl] at h55; exact Int32.not_lt.mpr h55))]
             refine hL sn kn _ _ hs h31 hks (by omega) (by omega) rfl rfl (fun M1 hM1 => ⟨fun h => absurd hk0 h, fun _ => ⟨?_, ?_⟩⟩)
             · rw [hcs, hcl]
             · rw [hM1, hcs, hcl, hckl, f_layA, if_neg (fun q => absurd (h31.symm.trans q) (by decide)), if_pos h31, f_layB, if_neg (fun q => absurd (h31.symm.trans q) (by decide)), f_layC, if_pos h31, hck]
               rfl)
          | (have hk0 : k_lay (M 104) (M 118) s th k = 0 := by
               unfold k_lay isD
               rw [if_neg (not_or.mpr ⟨h4, not_or.mpr ⟨h13, not_or.mpr ⟨fun q => h18 q.1, fun q => h31 q.1⟩⟩⟩), if_neg (fun q => h31 q.1)]
             refine hN _ _ h31 ⟨fun h => absurd hk0 h, fun _ => ⟨?_, ?_⟩⟩
             · rw [hcs, hcl]
             · rw [hcs, hcl, f_layA, if_neg h18, if_neg h31, f_layB, if_neg h18, f_layC, if_neg h31]
               exact (mx_rw_id (mx_wr (mx_wr (mx_wr M 121 sn th) 122 sn _) 123 sn _) 124).symm)
theorem c_X8_trim {l : Launch} {G : Gt} {M : Mm} {n : Int32} : Runs l G true dm_X8_trim 1 127 [.ref 103, .int n] M 127 (Pi (fun x M1 => (f_in n 0 (M 103 8) = 0 → x = (-1000000001) ∧ M1 = M) ∧ (¬ f_in n 0 (M 103 8) = 0 → x = n ∧ M1 = mx_wr M 103 8 n))) := by
  refine mx_run ow_X8_trim rfl rfl (fun dp X hdp R => ?_)
  refine R.b bk_X8_trim_0 (And.intro (by first | rfl | assumption) ?_)
  refine R.S3i kc_X8_trim_6 (c_X8_in) (by omega) rfl ⟨Nat.le_refl _, Nat.le_refl _⟩ (fun x6 M6 q6 => ?_)
  obtain ⟨rfl, q6⟩ := q6
  replace q6 := q6.symm
  subst q6
  refine R.c br_X8_trim_9 (And.intro (fun h9 => ?_) (fun h9 => ?_))
  · refine R.b bk_X8_trim_15 (And.intro (by first | rfl | assumption) (And.intro rfl (And.intro rfl ?_)))
    refine R.ri rt_X8_trim_21 rfl ⟨_, rfl, ?_⟩
    exact ⟨fun h => absurd h h9, fun _ => ⟨rfl, rfl⟩⟩
  · refine R.b bk_X8_trim_12 ?_
    refine R.ri rt_X8_trim_14 rfl ⟨_, rfl, ?_⟩
    exact ⟨fun _ => ⟨rfl, rfl⟩, fun h => absurd h9 h⟩
def F_textTold (a : Rw) (t w : Int32) : Int32 := if f_in t 0 (a 6 - 1) = 0 ∨ f_in w 0 1 = 0 then (-1000000001) else if w = 0 then a (55 + 2 * cN t) / 1000 else a (56 + 2 * cN t)
def F_why (a : Rw) (k : Int32) : Int32 := if f_in k 0 2 = 0 then (-1000000001) else if A_cnt a k < 0 then (-1000000005) else A_cnt a k
theorem e_56 (t : Nat) : (55 : Int32) + 2 * nI t + 1 = nI (56 + 2 * t) := by rw [e_55, nI_1, show 55 + 2 * t + 1 = 56 + 2 * t by omega]
theorem c_X8_textTold {l : Launch} {G : Gt} {M : Mm} {t w : Int32} {T : Nat} (hT : T ≤ 14) (h6 : M 104 6 = nI T) : Runs l G true dm_X8_textTold 1 127 [.ref 103, .int t, .int w] M 127 (Pi (fun x M1 => x = F_textTold (M 104) t w ∧ M1 = M)) := by
  refine mx_run ow_X8_textTold rfl rfl (fun dp X hdp R => ?_)
  refine R.b bk_X8_textTold_0 (And.intro (by first | rfl | assumption) (And.intro (by first | rfl | assumption) (And.intro (vp_lit rfl) ?_)))
  refine R.S3i kc_X8_textTold_11 (c_X8_in) (by omega) rfl ⟨Nat.le_refl _, Nat.le_refl _⟩ (fun x11 M11 q11 => ?_)
  obtain ⟨rfl, q11⟩ := q11
  replace q11 := q11.symm
  subst q11
  refine R.c br_X8_textTold_14 (And.intro (fun h14 => ?_) (fun h14 => ?_))
  · refine R.b bk_X8_textTold_26 ?_
    refine R.ri rt_X8_textTold_28 rfl ⟨_, rfl, ?_⟩
    refine ⟨?_, rfl⟩
    unfold F_textTold
    first | exact (if_pos (Or.inl h14)).symm | exact (if_pos (Or.inr h23)).symm
  · refine R.b bk_X8_textTold_17 ?_
    refine R.S3i kc_X8_textTold_20 (c_X8_in) (by omega) rfl ⟨Nat.le_refl _, Nat.le_refl _⟩ (fun x20 M20 q20 => ?_)
    obtain ⟨rfl, q20⟩ := q20
    replace q20 := q20.symm
    subst q20
    refine R.c br_X8_textTold_23 (And.intro (fun h23 => ?_) (fun h23 => ?_))
    · obtain ⟨tn, htn, rfl⟩ := f_in_dist (m := T) (by omega) h6 h14
      have hct : cN (nI tn) = tn := cN_nI (by omega)
      refine R.b bk_X8_textTold_29 ?_
      refine R.c br_X8_textTold_30 (And.intro (fun h30 => ?_) (fun h30 => ?_))
      · refine R.b bk_X8_textTold_51 (And.intro (by first | rfl | assumption) (And.intro (by first | rfl | assumption) (And.intro (vp_n (e_56 tn) (show 56 + 2 * tn < 1427 by omega) (by decide)) ?_)))
        refine R.ri rt_X8_textTold_64 rfl ⟨_, rfl, ?_⟩
        refine ⟨?_, rfl⟩
        replace h14 : ¬ f_in (nI tn) 0 (M 104 6 - 1) = 0 := h14
        rw [F_textTold, if_neg (not_or.mpr ⟨h14, h23⟩), hct]
        first | (rw [if_pos h30, cl_n (e_55 tn) (by omega)]; done) | (rw [if_neg h30, cl_n (e_56 tn) (by omega)]; done)
      · refine R.b bk_X8_textTold_33 (And.intro (by first | rfl | assumption) (And.intro (by first | rfl | assumption) (And.intro (vp_n (e_55 tn) (show 55 + 2 * tn < 1427 by omega) (by decide)) (And.intro (by decide) ?_))))
        refine R.j gt_X8_textTold_48 ?_
        refine R.ri rt_X8_textTold_64 rfl ⟨_, rfl, ?_⟩
        refine ⟨?_, rfl⟩
        replace h14 : ¬ f_in (nI tn) 0 (M 104 6 - 1) = 0 := h14
        rw [F_textTold, if_neg (not_or.mpr ⟨h14, h23⟩), hct]
        first | (rw [if_pos h30, cl_n (e_55 tn) (by omega)]; done) | (rw [if_neg h30, cl_n (e_56 tn) (by omega)]; done)
    · refine R.b bk_X8_textTold_26 ?_
      refine R.ri rt_X8_textTold_28 rfl ⟨_, rfl, ?_⟩
      refine ⟨?_, rfl⟩
      unfold F_textTold
      first | exact (if_pos (Or.inl h14)).symm | exact (if_pos (Or.inr h23)).symm
theorem c_X8_why {l : Launch} {G : Gt} {M : Mm} {k : Int32} {T : Nat} (hT : T ≤ 14) (hT6 : M 104 6 = nI T) : Runs l G true dm_X8_why 1 127 [.ref 103, .int k] M 127 (Pi (fun x M1 => x = F_why (M 104) k ∧ M1 = M)) := by
  refine mx_run ow_X8_why rfl rfl (fun dp X hdp R => ?_)
  refine R.b bk_X8_why_0 ?_
  refine R.S3i kc_X8_why_3 (c_X8_in) (by omega) rfl ⟨Nat.le_refl _, Nat.le_refl _⟩ (fun x3 M3 q3 => ?_)
  obtain ⟨rfl, q3⟩ := q3
  replace q3 := q3.symm
  subst q3
  refine R.c br_X8_why_6 (And.intro (fun h6 => ?_) (fun h6 => ?_))
  · refine R.b bk_X8_why_12 ?_
    refine R.V1i kc_X8_why_14 (by first | rfl | assumption) (c_X8_counts hT hT6) (by omega) rfl ⟨Nat.le_refl _, Nat.le_refl _⟩ (fun x14 M14 q14 => ?_)
    obtain ⟨rfl, q14⟩ := q14
    replace q14 := q14.symm
    subst q14
    refine R.b bk_X8_why_17 ?_
    refine R.c br_X8_why_19 (And.intro (fun h19 => ?_) (fun h19 => ?_))
    · refine R.b bk_X8_why_27 ?_
      refine R.ri rt_X8_why_28 rfl ⟨_, rfl, ?_⟩
      refine ⟨?_, rfl⟩
      unfold F_why
      first | (rw [if_pos h6]; done) | (rw [if_neg ‹¬ f_in k 0 2 = 0›, if_neg (Int32.not_lt.mpr h19)]; done) | (rw [if_neg ‹¬ f_in k 0 2 = 0›, if_pos (Int32.not_le.mp h19)]; done)
    · refine R.b bk_X8_why_22 ?_
      refine R.j gt_X8_why_24 ?_
      refine R.ri rt_X8_why_28 rfl ⟨_, rfl, ?_⟩
      refine ⟨?_, rfl⟩
      unfold F_why
      first | (rw [if_pos h6]; done) | (rw [if_neg ‹¬ f_in k 0 2 = 0›, if_neg (Int32.not_lt.mpr h19)]; done) | (rw [if_neg ‹¬ f_in k 0 2 = 0›, if_pos (Int32.not_le.mp h19)]; done)
  · refine R.b bk_X8_why_9 ?_
    refine R.ri rt_X8_why_11 rfl ⟨_, rfl, ?_⟩
    refine ⟨?_, rfl⟩
    unfold F_why
    first | (rw [if_pos h6]; done) | (rw [if_neg ‹¬ f_in k 0 2 = 0›, if_neg (Int32.not_lt.mpr h19)]; done) | (rw [if_neg ‹¬ f_in k 0 2 = 0›, if_pos (Int32.not_le.mp h19)]; done)
