/-! reading, copying, laying -/
def A_rd (a c : Rw) (d : Nat) : Nat → Nat → Int32
  | 0, _ => (-1000000005)
  | f + 1, k => if ¬ c k = (-1000000005) ∧ ¬ c k = A_go a k (7 + 8 * d + 4) then nI k else A_rd a c d f (k + 1)
def F_reads (a so sz ce : Rw) (s d : Int32) : Int32 := if f_in s 0 3 = 0 ∨ isD a d = 0 then (-1000000001) else if so (cN s) < 0 then (-1000000011) else A_rd a (fun k => ce (24 * cN s + k)) (cN d) (cN (sz (cN s))) 0
theorem nI_not_none {n : Nat} (h : n < 2 ^ 31) : ¬ nI n = (-1000000005) := by
  intro e
  have h1 := nI_pos h
  rw [e] at h1
  exact h1 (by decide)
theorem c_X8_reads {l : Launch} {G : Gt} {M : Mm} {s d : Int32} {mm : Nat} (hV : VR (M 104) mm) (hsz : ∀ s, s < 4 → ∃ sz, sz ≤ 24 ∧ M 119 s = nI sz) : Runs l G true dm_X8_reads 5 127 [.ref 103, .int s, .int d] M 127 (Pi (fun x M1 => x = F_reads (M 104) (M 118) (M 119) (M 120) s d ∧ ∀ q, q ≠ 107 → q ≠ 116 → q ≠ 117 → M1 q = M q)) := by
  refine mx_run ow_X8_reads rfl rfl (fun dp X hdp R => ?_)
  refine R.b bk_X8_reads_0 ?_
  refine R.S1i kc_X8_reads_1 (c_X8_isSheet) (by omega) rfl ⟨Nat.le_refl _, Nat.le_refl _⟩ (fun x1 M1 q1 => ?_)
  obtain ⟨rfl, q1⟩ := q1
  replace q1 := q1.symm
  subst q1
  refine R.c br_X8_reads_4 (And.intro (fun h4 => ?_) (fun h4 => ?_))
  · refine R.b bk_X8_reads_15 ?_
    refine R.ri rt_X8_reads_17 rfl ⟨_, rfl, ?_⟩
    exact ⟨by simp_all [F_reads, isD], fun q _ _ _ => rfl⟩
  · refine R.b bk_X8_reads_7 ?_
    refine R.V1i kc_X8_reads_9 (by first | rfl | assumption) (c_X8_isDistrict) (by omega) rfl ⟨Nat.le_refl _, Nat.le_refl _⟩ (fun x9 M9 q9 => ?_)
    obtain ⟨rfl, q9⟩ := q9
    replace q9 := q9.symm
    subst q9
    refine R.c br_X8_reads_12 (And.intro (fun h12 => ?_) (fun h12 => ?_))
    · have hmm := hV.1
      obtain ⟨sn, hsn, rfl⟩ := f_in_nat (n := 3) (by decide) h4
      have hcsn : cN (nI sn) = sn := cN_nI (by omega)
      have hlsn : (nI sn).toNatClampNeg = sn := nI_clamp (by omega)
      obtain ⟨dn, hdn, rfl⟩ := f_in_dist (by omega) hV.2.1 h12
      have hcdn : cN (nI dn) = dn := cN_nI (by omega)
      refine R.b bk_X8_reads_18 (And.intro (by first | rfl | assumption) (And.intro (by first | rfl | assumption) (And.intro (by exact vp_in_nI (show sn < 4 by omega) (by decide)) ?_)))
      refine R.c br_X8_reads_24 (And.intro (fun h24 => ?_) (fun h24 => ?_))
      · refine R.b bk_X8_reads_30 ?_
        refine R.V0v kc_X8_reads_31 (by first | rfl | assumption) (c_X8_thinks) (by omega) rfl ⟨Nat.le_refl _, Nat.le_refl _⟩ (fun M31 q31 => ?_)
        replace q31 := q31.symm
        subst q31
        refine R.b bk_X8_reads_34 ?_
        obtain ⟨sz, hsz24, hsz2⟩ := hsz sn (by omega)
        rw [hlsn] at h24
        have hso := Int32.not_lt.mpr h24
        have esz : ∀ M2 : Mm, (∀ q, q ≠ 104 → q ≠ 116 → q ≠ 117 → M2 q = (mx_rw M 107 (cut 55 (M 104) (M 107))) q) → M2 119 (nI sn).toNatClampNeg = nI sz := fun M2 f2 => by rw [hlsn, f2 119 (by decide) (by decide) (by decide), mx_rw_ne (by decide)]; exact hsz2
        have hX : ∀ (M2 : Mm) (n : Nat) (f k : Int32) (c5 c6 : Option Value), M2 104 = A_go (M 104) n → (∀ q, q ≠ 104 → q ≠ 116 → q ≠ 117 → M2 q = (mx_rw M 107 (cut 55 (M 104) (M 107))) q) → f = A_rd (M 104) (fun k => M 120 (24 * sn + k)) dn sz 0 → X 127 M2 109 [some (.ref 103), some (.int (nI sn)), some (.int (nI dn)), some (.int f), some (.int k), c5, c6] [] := by
          intro M2 n f k c5 c6 e2 f2 hf
          refine R.b bk_X8_reads_109 ?_
          refine R.V0v kc_X8_reads_110 (by first | rfl | assumption) (c_X8_putsBack) (by omega) rfl ⟨Nat.le_refl _, Nat.le_refl _⟩ (fun M110 q110 => ?_)
          replace q110 := q110.symm
          subst q110
          refine R.b bk_X8_reads_113 ?_
          refine R.ri rt_X8_reads_114 rfl ⟨_, rfl, ?_⟩
          refine ⟨?_, put_back e2 (fun j hj => A_go_keep hV hj n) f2⟩
          unfold F_reads isD
          rw [if_neg (not_or.mpr ⟨h4, h12⟩), hcsn, hcdn, if_neg hso, hf, hsz2, cN_nI (by omega)]
        have hA : ∀ (fu i : Nat) (M1 : Mm) (c5 : Option Value) (c6 : Option Value), sz - i = fu → i ≤ sz → (M1 104 = A_go (M 104) i) → (∀ q, q ≠ 104 → q ≠ 116 → q ≠ 117 → M1 q = (mx_rw M 107 (cut 55 (M 104) (M 107))) q) → (A_rd (M 104) (fun k => M 120 (24 * sn + k)) dn (sz - i) i = A_rd (M 104) (fun k => M 120 (24 * sn + k)) dn sz 0) → X 127 M1 40 [some (.ref 103), some (.int (nI sn)), some (.int (nI dn)), some (.int (-1000000005)), some (.int (nI i)), c5, c6] [] := by
          intro fu
          induction fu with
          | zero =>
            intro i M1 c5 c6 hfu hi hI1 hI2 hI3
            have hiN : i = sz := by omega
            refine R.b bk_X8_reads_40 (And.intro (by first | rfl | assumption) (And.intro (by first | rfl | assumption) (And.intro (by exact vp_in_nI (show sn < 4 by omega) (by decide)) ?_)))
            refine R.c br_X8_reads_48 (And.intro (fun h48 => ?_) (fun h48 => absurd (by rw [esz M1 hI2, hiN]; exact nI_le (Nat.le_refl _) (by omega)) h48))
            rw [hiN, Nat.sub_self] at hI3
            exact hX M1 i _ _ _ _ hI1 hI2 hI3
          | succ fu ih =>
            intro i M1 c5 c6 hfu hi hI1 hI2 hI3
            have hlt : i < sz := by omega
            have hH : nI i = A_rd (M 104) (fun k => M 120 (24 * sn + k)) dn sz 0 → ∀ (M2 : Mm) (c5 c6 : Option Value), M2 104 = A_go (M 104) (i + 1) → (∀ q, q ≠ 104 → q ≠ 116 → q ≠ 117 → M2 q = (mx_rw M 107 (cut 55 (M 104) (M 107))) q) → X 127 M2 40 [some (.ref 103), some (.int (nI sn)), some (.int (nI dn)), some (.int (nI i)), some (.int (nI (i + 1))), c5, c6] [] := by
              intro hr M2 c5 c6 e2 f2
              refine R.b bk_X8_reads_40 (And.intro (by first | rfl | assumption) (And.intro (by first | rfl | assumption) (And.intro (by exact vp_in_nI (show sn < 4 by omega) (by decide)) ?_)))
              refine R.c br_X8_reads_48 (And.intro (fun h48 => ?_) (fun h48 => ?_))
              · exact hX M2 (i + 1) _ _ _ _ e2 f2 hr
              · refine R.b bk_X8_reads_51 ?_
                refine R.c br_X8_reads_54 (And.intro (fun h54 => ?_) (fun h54 => absurd h54 (nI_not_none (by omega))))
                exact hX M2 (i + 1) _ _ _ _ e2 f2 hr
            have hN : ∀ c5, A_rd (M 104) (fun k => M 120 (24 * sn + k)) dn (sz - (i + 1)) (i + 1) = A_rd (M 104) (fun k => M 120 (24 * sn + k)) dn sz 0 → X 127 M1 96 [some (.ref 103), some (.int (nI sn)), some (.int (nI dn)), some (.int (-1000000005)), some (.int (nI i)), some (.int c5), c6] [.int (-1000000005)] := by
              intro c5 hr
              refine R.b bk_X8_reads_96 ?_
              refine R.V0i kc_X8_reads_98 (by first | rfl | assumption) (c_X8_day (mm := mm) (by rw [hI1]; exact VR_go hV i)) (by omega) rfl ⟨Nat.le_refl _, Nat.le_refl _⟩ (fun x98 M98 q98 => ?_)
              obtain ⟨-, e98, f98⟩ := q98
              rw [hI1] at e98
              replace e98 : M98 104 = A_go (M 104) (i + 1) := e98
              have k98 : ∀ q, q ≠ 104 → q ≠ 116 → q ≠ 117 → M98 q = (mx_rw M 107 (cut 55 (M 104) (M 107))) q := fun q g1 g2 g3 => by rw [f98 q g1 g2 g3]; exact hI2 q g1 g2 g3
              refine R.b bk_X8_reads_101 ?_
              refine R.j gt_X8_reads_106 ?_
              rw [nI_inc]
              exact ih (i + 1) M98 _ _ (by omega) (by omega) e98 k98 hr
            have hY : ∀ c5, nI i = A_rd (M 104) (fun k => M 120 (24 * sn + k)) dn sz 0 → X 127 M1 96 [some (.ref 103), some (.int (nI sn)), some (.int (nI dn)), some (.int (-1000000005)), some (.int (nI i)), some (.int c5), c6] [.int (nI i)] := by
              intro c5 hr
              refine R.b bk_X8_reads_96 ?_
              refine R.V0i kc_X8_reads_98 (by first | rfl | assumption) (c_X8_day (mm := mm) (by rw [hI1]; exact VR_go hV i)) (by omega) rfl ⟨Nat.le_refl _, Nat.le_refl _⟩ (fun x98 M98 q98 => ?_)
              obtain ⟨-, e98, f98⟩ := q98
              rw [hI1] at e98
              replace e98 : M98 104 = A_go (M 104) (i + 1) := e98
              have k98 : ∀ q, q ≠ 104 → q ≠ 116 → q ≠ 117 → M98 q = (mx_rw M 107 (cut 55 (M 104) (M 107))) q := fun q g1 g2 g3 => by rw [f98 q g1 g2 g3]; exact hI2 q g1 g2 g3
              refine R.b bk_X8_reads_101 ?_
              refine R.j gt_X8_reads_106 ?_
              rw [nI_inc]
              exact hH hr M98 _ _ e98 k98
            refine R.b bk_X8_reads_40 (And.intro (by first | rfl | assumption) (And.intro (by first | rfl | assumption) (And.intro (by exact vp_in_nI (show sn < 4 by omega) (by decide)) ?_)))
            refine R.c br_X8_reads_48 (And.intro (fun h48 => absurd h48 (by rw [esz M1 hI2]; exact nI_ge hlt (by omega))) (fun h48 => ?_))
            refine R.b bk_X8_reads_51 ?_
            refine R.c br_X8_reads_54 (And.intro (fun h54 => absurd rfl h54) (fun h54 => ?_))
            refine R.b bk_X8_reads_57 (And.intro (by first | rfl | assumption) (And.intro (by first | rfl | assumption) (And.intro (by exact vp_n (e_24 sn i) (show 24 * sn + i < 96 by omega) (by decide)) ?_)))
            refine R.c br_X8_reads_75 (And.intro (fun h75 => ?_) (fun h75 => ?_))
            · refine R.b bk_X8_reads_94 ?_
              rw [show sz - i = (sz - (i + 1)) + 1 by omega, A_rd] at hI3
              have hcx : ((24 : Int32) * nI sn + nI i).toNatClampNeg = 24 * sn + i := cl_n (e_24 sn i) (by omega)
              have w1 : M1 120 = M 120 := by rw [hI2 120 (by decide) (by decide) (by decide), mx_rw_ne (by decide)]
              rw [hcx, w1] at h75
              first
              | (rw [hcx, w1, hI1] at h86; exact hN _ (by rw [← hI3]; exact (if_neg (fun q => q.2 h86)).symm))
              | (rw [hcx, w1, hI1] at h86; rw [if_pos ⟨h75, h86⟩] at hI3; exact hY _ hI3)
              | exact hN _ (by rw [← hI3]; exact (if_neg (fun q => q.1 h75)).symm)
            · refine R.b bk_X8_reads_78 ?_
              refine R.V2i kc_X8_reads_83 (by first | rfl | assumption) (c_X8_of (d := dn) (w := 4) (by omega)) (by omega) rfl ⟨Nat.le_refl _, Nat.le_refl _⟩ (fun x83 M83 q83 => ?_)
              obtain ⟨rfl, q83⟩ := q83
              replace q83 := q83.symm
              subst q83
              refine R.c br_X8_reads_86 (And.intro (fun h86 => ?_) (fun h86 => ?_))
              · refine R.b bk_X8_reads_94 ?_
                rw [show sz - i = (sz - (i + 1)) + 1 by omega, A_rd] at hI3
                have hcx : ((24 : Int32) * nI sn + nI i).toNatClampNeg = 24 * sn + i := cl_n (e_24 sn i) (by omega)
                have w1 : M1 120 = M 120 := by rw [hI2 120 (by decide) (by decide) (by decide), mx_rw_ne (by decide)]
                rw [hcx, w1] at h75
                first
                | (rw [hcx, w1, hI1] at h86; exact hN _ (by rw [← hI3]; exact (if_neg (fun q => q.2 h86)).symm))
                | (rw [hcx, w1, hI1] at h86; rw [if_pos ⟨h75, h86⟩] at hI3; exact hY _ hI3)
                | exact hN _ (by rw [← hI3]; exact (if_neg (fun q => q.1 h75)).symm)
              · refine R.b bk_X8_reads_89 ?_
                refine R.j gt_X8_reads_91 ?_
                rw [show sz - i = (sz - (i + 1)) + 1 by omega, A_rd] at hI3
                have hcx : ((24 : Int32) * nI sn + nI i).toNatClampNeg = 24 * sn + i := cl_n (e_24 sn i) (by omega)
                have w1 : M1 120 = M 120 := by rw [hI2 120 (by decide) (by decide) (by decide), mx_rw_ne (by decide)]
                rw [hcx, w1] at h75
                first
                | (rw [hcx, w1, hI1] at h86; exact hN _ (by rw [← hI3]; exact (if_neg (fun q => q.2 h86)).symm))
                | (rw [hcx, w1, hI1] at h86; rw [if_pos ⟨h75, h86⟩] at hI3; exact hY _ hI3)
                | exact hN _ (by rw [← hI3]; exact (if_neg (fun q => q.1 h75)).symm)
        exact hA sz 0 _ _ _ rfl (Nat.zero_le _) (by rw [mx_rw_ne (by decide)]; rfl) (fun q _ _ _ => rfl) rfl
      · refine R.b bk_X8_reads_27 ?_
        refine R.ri rt_X8_reads_29 rfl ⟨_, rfl, ?_⟩
        refine ⟨?_, fun q _ _ _ => rfl⟩
        rw [hlsn] at h24
        unfold F_reads isD
        rw [if_neg (not_or.mpr ⟨h4, h12⟩), hcsn, if_pos (Int32.not_le.mp h24)]
    · refine R.b bk_X8_reads_15 ?_
      refine R.ri rt_X8_reads_17 rfl ⟨_, rfl, ?_⟩
      exact ⟨by simp_all [F_reads, isD], fun q _ _ _ => rfl⟩
theorem i_sub_nn {x y : Int32} (hx : ¬ x < 0) (hy : ¬ y < 0) : (x - y).toInt = x.toInt - y.toInt := by
  rw [Int32.lt_iff_toInt_lt] at hx hy
  have e0 : (0 : Int32).toInt = 0 := by decide
  have b1 := Int32.toInt_lt x
  have b3 := Int32.toInt_lt y
  rw [Int32.toInt_sub]
  exact Int.bmod_eq_of_le_mul_two (by omega) (by omega)
def k_copy (so sz : Rw) (f p t a n : Int32) : Int32 := if f_in f 0 3 = 0 ∨ f_in t 0 3 = 0 then (-1000000001) else if so (cN f) < 0 ∨ so (cN t) < 0 then (-1000000011) else if ¬ so (cN f) = so (cN t) then (-1000000012) else if p < 0 ∨ a < 0 ∨ n < 0 ∨ sz (cN f) - n < p ∨ sz (cN t) - n < a then (-1000000013) else 0
def f_cp (c c' : Rw) (src dst n : Nat) : Rw := fun j => if dst ≤ j ∧ j < dst + n then c (src + (j - dst)) else c' j
theorem f_cp_0 (c c' : Rw) (src dst : Nat) : f_cp c c' src dst 0 = c' := by
  funext j
  simp only [f_cp]
  rw [if_neg (by omega)]
theorem f_cp_up (c c' : Rw) (src dst i : Nat) : up (f_cp c c' src dst i) (dst + i) (c (src + i)) = f_cp c c' src dst (i + 1) := by
  funext j
  simp only [up, f_cp]
  by_cases h : j = dst + i
  · subst h
    rw [if_pos rfl, if_pos (by omega), Nat.add_sub_cancel_left]
  · rw [if_neg h]
    by_cases h2 : dst ≤ j ∧ j < dst + i
    · rw [if_pos h2, if_pos (by omega)]
    · rw [if_neg h2, if_neg (by omega)]
theorem e_24a (s p k : Nat) : (24 : Int32) * nI s + nI p + nI k = nI (24 * s + p + k) := by rw [e_24, nI_add]
/-- what a run of a row needs -/
theorem run_ok {z p n : Int32} {sz : Nat} (hz : z = nI sz) (h24 : sz ≤ 24) (hp : ¬ p < 0) (hn : ¬ n < 0) (h : ¬ z - n < p) : ∃ pn mn, p = nI pn ∧ n = nI mn ∧ pn + mn ≤ sz := by
  obtain ⟨pn, hpn, rfl⟩ := nI_of hp
  obtain ⟨mn, hmn, rfl⟩ := nI_of hn
  subst hz
  refine ⟨pn, mn, rfl, rfl, ?_⟩
  rw [Int32.lt_iff_toInt_lt, i_sub_nn (nI_pos (by omega)) (nI_pos hmn), nI_toInt (by omega), nI_toInt hmn, nI_toInt hpn] at h
  omega
theorem c_X8_copy {l : Launch} {G : Gt} {M : Mm} {f p t a n : Int32} (hsz : ∀ s, s < 4 → ∃ sz, sz ≤ 24 ∧ M 119 s = nI sz) : Runs l G true dm_X8_copy 2 127 [.ref 103, .int f, .int p, .int t, .int a, .int n] M 127 (Pi (fun x M1 => (k_copy (M 118) (M 119) f p t a n ≠ 0 → x = k_copy (M 118) (M 119) f p t a n ∧ M1 = M) ∧ (k_copy (M 118) (M 119) f p t a n = 0 → x = n ∧ M1 120 = f_cp (M 120) (M 120) (24 * cN f + cN p) (24 * cN t + cN a) (cN n) ∧ ∀ q, q ≠ 120 → q ≠ 125 → M1 q = M q))) := by
  refine mx_run ow_X8_copy rfl rfl (fun dp X hdp R => ?_)
  refine R.b bk_X8_copy_0 ?_
  refine R.S1i kc_X8_copy_1 (c_X8_isSheet) (by omega) rfl ⟨Nat.le_refl _, Nat.le_refl _⟩ (fun x1 M1 q1 => ?_)
  obtain ⟨rfl, q1⟩ := q1
  replace q1 := q1.symm
  subst q1
  refine R.c br_X8_copy_4 (And.intro (fun h4 => ?_) (fun h4 => ?_))
  · refine R.b bk_X8_copy_14 ?_
    refine R.ri rt_X8_copy_16 rfl ⟨_, rfl, ?_⟩
    have hk : k_copy (M 118) (M 119) f p t a n = (-1000000001) := by
      first | exact if_pos (Or.inl h4) | exact if_pos (Or.inr h11)
    exact ⟨fun _ => ⟨hk.symm, rfl⟩, fun h => absurd (hk.symm.trans h) (by decide)⟩
  · refine R.b bk_X8_copy_7 ?_
    refine R.S1i kc_X8_copy_8 (c_X8_isSheet) (by omega) rfl ⟨Nat.le_refl _, Nat.le_refl _⟩ (fun x8 M8 q8 => ?_)
    obtain ⟨rfl, q8⟩ := q8
    replace q8 := q8.symm
    subst q8
    refine R.c br_X8_copy_11 (And.intro (fun h11 => ?_) (fun h11 => ?_))
    · obtain ⟨fn, hfn, rfl⟩ := f_in_nat (n := 3) (by decide) h4
      have hcfn : cN (nI fn) = fn := cN_nI (by omega)
      have hlfn : (nI fn).toNatClampNeg = fn := nI_clamp (by omega)
      obtain ⟨tn, htn, rfl⟩ := f_in_nat (n := 3) (by decide) h11
      have hctn : cN (nI tn) = tn := cN_nI (by omega)
      have hltn : (nI tn).toNatClampNeg = tn := nI_clamp (by omega)
      refine R.b bk_X8_copy_17 (And.intro (by first | rfl | assumption) (And.intro (by first | rfl | assumption) (And.intro (vp_in_nI (show fn < 4 by omega) (by decide)) ?_)))
      refine R.c br_X8_copy_23 (And.intro (fun h23 => ?_) (fun h23 => ?_))
      · refine R.b bk_X8_copy_35 ?_
        refine R.ri rt_X8_copy_37 rfl ⟨_, rfl, ?_⟩
        have hk : k_copy (M 118) (M 119) (nI fn) p (nI tn) a n = (-1000000011) := by
          rw [hlfn] at h23
          rw [k_copy, if_neg (not_or.mpr ⟨h4, h11⟩), hcfn, hctn]
          first | exact if_pos (Or.inl h23) | (rw [hltn] at h32; exact if_pos (Or.inr (Int32.not_le.mp h32)))
        exact ⟨fun _ => ⟨hk.symm, rfl⟩, fun h => absurd (hk.symm.trans h) (by decide)⟩
      · refine R.b bk_X8_copy_26 (And.intro (by first | rfl | assumption) (And.intro (by first | rfl | assumption) (And.intro (vp_in_nI (show tn < 4 by omega) (by decide)) ?_)))
        refine R.c br_X8_copy_32 (And.intro (fun h32 => ?_) (fun h32 => ?_))
        · refine R.b bk_X8_copy_38 (And.intro (by first | rfl | assumption) (And.intro (by first | rfl | assumption) (And.intro (vp_in_nI (show fn < 4 by omega) (by decide)) (And.intro (by first | rfl | assumption) (And.intro (by first | rfl | assumption) (And.intro (vp_in_nI (show tn < 4 by omega) (by decide)) ?_))))))
          refine R.c br_X8_copy_50 (And.intro (fun h50 => ?_) (fun h50 => ?_))
          · refine R.b bk_X8_copy_56 ?_
            refine R.c br_X8_copy_57 (And.intro (fun h57 => ?_) (fun h57 => ?_))
            · refine R.b bk_X8_copy_97 ?_
              refine R.ri rt_X8_copy_99 rfl ⟨_, rfl, ?_⟩
              have hk : k_copy (M 118) (M 119) (nI fn) p (nI tn) a n = (-1000000013) := by
                rw [hlfn] at h23 h50
                rw [hltn] at h32 h50
                rw [k_copy, if_neg (not_or.mpr ⟨h4, h11⟩), hcfn, hctn, if_neg (not_or.mpr ⟨h23, Int32.not_lt.mpr h32⟩), if_neg (fun q => q h50)]
                first | exact if_pos (Or.inl h57) | exact if_pos (Or.inr (Or.inl h62)) | exact if_pos (Or.inr (Or.inr (Or.inl h67))) | (rw [hlfn] at h80; exact if_pos (Or.inr (Or.inr (Or.inr (Or.inl h80))))) | (rw [hltn] at h94; exact if_pos (Or.inr (Or.inr (Or.inr (Or.inr (Int32.not_le.mp h94))))))
              exact ⟨fun _ => ⟨hk.symm, rfl⟩, fun h => absurd (hk.symm.trans h) (by decide)⟩
            · refine R.b bk_X8_copy_60 ?_
              refine R.c br_X8_copy_62 (And.intro (fun h62 => ?_) (fun h62 => ?_))
              · refine R.b bk_X8_copy_97 ?_
                refine R.ri rt_X8_copy_99 rfl ⟨_, rfl, ?_⟩
                have hk : k_copy (M 118) (M 119) (nI fn) p (nI tn) a n = (-1000000013) := by
                  rw [hlfn] at h23 h50
                  rw [hltn] at h32 h50
                  rw [k_copy, if_neg (not_or.mpr ⟨h4, h11⟩), hcfn, hctn, if_neg (not_or.mpr ⟨h23, Int32.not_lt.mpr h32⟩), if_neg (fun q => q h50)]
                  first | exact if_pos (Or.inl h57) | exact if_pos (Or.inr (Or.inl h62)) | exact if_pos (Or.inr (Or.inr (Or.inl h67))) | (rw [hlfn] at h80; exact if_pos (Or.inr (Or.inr (Or.inr (Or.inl h80))))) | (rw [hltn] at h94; exact if_pos (Or.inr (Or.inr (Or.inr (Or.inr (Int32.not_le.mp h94))))))
                exact ⟨fun _ => ⟨hk.symm, rfl⟩, fun h => absurd (hk.symm.trans h) (by decide)⟩
              · refine R.b bk_X8_copy_65 ?_
                refine R.c br_X8_copy_67 (And.intro (fun h67 => ?_) (fun h67 => ?_))
                · refine R.b bk_X8_copy_97 ?_
                  refine R.ri rt_X8_copy_99 rfl ⟨_, rfl, ?_⟩
                  have hk : k_copy (M 118) (M 119) (nI fn) p (nI tn) a n = (-1000000013) := by
                    rw [hlfn] at h23 h50
                    rw [hltn] at h32 h50
                    rw [k_copy, if_neg (not_or.mpr ⟨h4, h11⟩), hcfn, hctn, if_neg (not_or.mpr ⟨h23, Int32.not_lt.mpr h32⟩), if_neg (fun q => q h50)]
                    first | exact if_pos (Or.inl h57) | exact if_pos (Or.inr (Or.inl h62)) | exact if_pos (Or.inr (Or.inr (Or.inl h67))) | (rw [hlfn] at h80; exact if_pos (Or.inr (Or.inr (Or.inr (Or.inl h80))))) | (rw [hltn] at h94; exact if_pos (Or.inr (Or.inr (Or.inr (Or.inr (Int32.not_le.mp h94))))))
                  exact ⟨fun _ => ⟨hk.symm, rfl⟩, fun h => absurd (hk.symm.trans h) (by decide)⟩
                · refine R.b bk_X8_copy_70 (And.intro (by first | rfl | assumption) (And.intro (by first | rfl | assumption) (And.intro (vp_in_nI (show fn < 4 by omega) (by decide)) ?_)))
                  refine R.c br_X8_copy_80 (And.intro (fun h80 => ?_) (fun h80 => ?_))
                  · refine R.b bk_X8_copy_97 ?_
                    refine R.ri rt_X8_copy_99 rfl ⟨_, rfl, ?_⟩
                    have hk : k_copy (M 118) (M 119) (nI fn) p (nI tn) a n = (-1000000013) := by
                      rw [hlfn] at h23 h50
                      rw [hltn] at h32 h50
                      rw [k_copy, if_neg (not_or.mpr ⟨h4, h11⟩), hcfn, hctn, if_neg (not_or.mpr ⟨h23, Int32.not_lt.mpr h32⟩), if_neg (fun q => q h50)]
                      first | exact if_pos (Or.inl h57) | exact if_pos (Or.inr (Or.inl h62)) | exact if_pos (Or.inr (Or.inr (Or.inl h67))) | (rw [hlfn] at h80; exact if_pos (Or.inr (Or.inr (Or.inr (Or.inl h80))))) | (rw [hltn] at h94; exact if_pos (Or.inr (Or.inr (Or.inr (Or.inr (Int32.not_le.mp h94))))))
                    exact ⟨fun _ => ⟨hk.symm, rfl⟩, fun h => absurd (hk.symm.trans h) (by decide)⟩
                  · refine R.b bk_X8_copy_83 (And.intro (by first | rfl | assumption) (And.intro (by first | rfl | assumption) (And.intro (vp_in_nI (show tn < 4 by omega) (by decide)) ?_)))
                    refine R.c br_X8_copy_94 (And.intro (fun h94 => ?_) (fun h94 => ?_))
                    · refine R.b bk_X8_copy_100 ?_
                      rw [hlfn] at h23 h50 h80
                      rw [hltn] at h32 h50 h94
                      obtain ⟨szf, hszf24, hszf⟩ := hsz fn (by omega)
                      obtain ⟨szt, hszt24, hszt⟩ := hsz tn (by omega)
                      have hk : k_copy (M 118) (M 119) (nI fn) p (nI tn) a n = 0 := by
                        rw [k_copy, if_neg (not_or.mpr ⟨h4, h11⟩), hcfn, hctn, if_neg (not_or.mpr ⟨h23, Int32.not_lt.mpr h32⟩), if_neg (fun q => q h50), if_neg (not_or.mpr ⟨h57, not_or.mpr ⟨h62, not_or.mpr ⟨h67, not_or.mpr ⟨h80, Int32.not_lt.mpr h94⟩⟩⟩⟩)]
                      obtain ⟨pn, mn, rfl, rfl, hpm⟩ := run_ok hszf hszf24 h57 h67 h80
                      obtain ⟨an, mn2, rfl, e2, ham⟩ := run_ok hszt hszt24 h62 h67 (Int32.not_lt.mpr h94)
                      have hm2 : mn2 < 2 ^ 31 := by omega
                      rw [nI_eq (by omega) (by omega)] at e2
                      subst e2
                      have hE : ∀ (fu i : Nat) (M1 : Mm), mn - i = fu → i ≤ mn → (∀ k, k < mn → M1 125 k = M 120 (24 * fn + pn + k)) → (M1 120 = f_cp (M 120) (M 120) (24 * fn + pn) (24 * tn + an) i) → (∀ q, q ≠ 120 → q ≠ 125 → M1 q = M q) → X 127 M1 140 [some (.ref 103), some (.int (nI fn)), some (.int (nI pn)), some (.int (nI tn)), some (.int (nI an)), some (.int (nI mn)), some (.int (nI i))] [] := by
                        intro fu
                        induction fu with
                        | zero =>
                          intro i M1 hfu hi hI1 hI2 hI3
                          have hiN : i = mn := by omega
                          refine R.b bk_X8_copy_140 ?_
                          refine R.c br_X8_copy_144 (And.intro (fun h144 => ?_) (fun h144 => absurd (by rw [hiN]; exact nI_le (Nat.le_refl _) (by omega)) h144))
                          refine R.b bk_X8_copy_175 ?_
                          refine R.ri rt_X8_copy_177 rfl ⟨_, rfl, ?_⟩
                          refine ⟨fun h => absurd hk h, fun _ => ⟨rfl, ?_, hI3⟩⟩
                          rw [hI2, hiN, hcfn, hctn, cN_nI (by omega), cN_nI (by omega), cN_nI (by omega)]
                        | succ fu ih =>
                          intro i M1 hfu hi hI1 hI2 hI3
                          have hlt : i < mn := by omega
                          refine R.b bk_X8_copy_140 ?_
                          refine R.c br_X8_copy_144 (And.intro (fun h144 => absurd h144 (nI_ge hlt (by omega))) (fun h144 => ?_))
                          refine R.b bk_X8_copy_147 (And.intro (by first | rfl | assumption) (And.intro (by first | rfl | assumption) (And.intro (by first | rfl | assumption) (And.intro (vp_in_nI (show i < 24 by omega) (by decide)) (And.intro (by first | rfl | assumption) (And.intro (vp_n (e_24a tn an i) (show 24 * tn + an + i < 96 by omega) (by decide)) ?_))))))
                          refine R.j gt_X8_copy_172 ?_
                          rw [nI_inc, nI_clamp (show i < 2 ^ 31 by omega), cl_n (e_24a tn an i) (by omega), mx_wr_up, hI1 i hlt, hI2]
                          refine ih (i + 1) _ (by omega) (by omega) (fun k hk => by rw [mx_rw_ne (by decide)]; exact hI1 k hk) (by rw [mx_rw_at, ← f_cp_up]) (fun q g1 g2 => by rw [mx_rw_ne g1]; exact hI3 q g1 g2)
                      have hA : ∀ (fu i : Nat) (M1 : Mm), mn - i = fu → i ≤ mn → (M1 = mx_rw M 125 (cut i (fun k => M 120 (24 * fn + pn + k)) (M 125))) → X 127 M1 103 [some (.ref 103), some (.int (nI fn)), some (.int (nI pn)), some (.int (nI tn)), some (.int (nI an)), some (.int (nI mn)), some (.int (nI i))] [] := by
                        intro fu
                        induction fu with
                        | zero =>
                          intro i M1 hfu hi hI1
                          have hiN : i = mn := by omega
                          refine R.b bk_X8_copy_103 ?_
                          refine R.c br_X8_copy_107 (And.intro (fun h107 => ?_) (fun h107 => absurd (by rw [hiN]; exact nI_le (Nat.le_refl _) (by omega)) h107))
                          refine R.b bk_X8_copy_137 ?_
                          exact hE mn 0 M1 rfl (Nat.zero_le _) (fun k hk => by rw [hI1, mx_rw_at, hiN, cut, if_pos hk]) (by rw [f_cp_0, hI1, mx_rw_ne (by decide)]) (fun q g1 g2 => by rw [hI1, mx_rw_ne g2])
                        | succ fu ih =>
                          intro i M1 hfu hi hI1
                          have hlt : i < mn := by omega
                          refine R.b bk_X8_copy_103 ?_
                          refine R.c br_X8_copy_107 (And.intro (fun h107 => absurd h107 (nI_ge hlt (by omega))) (fun h107 => ?_))
                          refine R.b bk_X8_copy_110 (And.intro (by first | rfl | assumption) (And.intro (by first | rfl | assumption) (And.intro (by first | rfl | assumption) (And.intro (vp_n (e_24a fn pn i) (show 24 * fn + pn + i < 96 by omega) (by decide)) (And.intro (by first | rfl | assumption) (And.intro (vp_in_nI (show i < 24 by omega) (by decide)) ?_))))))
                          refine R.j gt_X8_copy_134 ?_
                          rw [nI_inc]
                          refine ih (i + 1) _ (by omega) (by omega) ?_
                          rw [nI_clamp (show i < 2 ^ 31 by omega), cl_n (e_24a fn pn i) (by omega), mx_wr_up, hI1, mx_rw_rw, mx_rw_at, mx_rw_ne (by decide), ← cut_up i (fun k => M 120 (24 * fn + pn + k))]
                      exact hA mn 0 M rfl (Nat.zero_le _) (by rw [cut_0, mx_rw_id])
                    · refine R.b bk_X8_copy_97 ?_
                      refine R.ri rt_X8_copy_99 rfl ⟨_, rfl, ?_⟩
                      have hk : k_copy (M 118) (M 119) (nI fn) p (nI tn) a n = (-1000000013) := by
                        rw [hlfn] at h23 h50
                        rw [hltn] at h32 h50
                        rw [k_copy, if_neg (not_or.mpr ⟨h4, h11⟩), hcfn, hctn, if_neg (not_or.mpr ⟨h23, Int32.not_lt.mpr h32⟩), if_neg (fun q => q h50)]
                        first | exact if_pos (Or.inl h57) | exact if_pos (Or.inr (Or.inl h62)) | exact if_pos (Or.inr (Or.inr (Or.inl h67))) | (rw [hlfn] at h80; exact if_pos (Or.inr (Or.inr (Or.inr (Or.inl h80))))) | (rw [hltn] at h94; exact if_pos (Or.inr (Or.inr (Or.inr (Or.inr (Int32.not_le.mp h94))))))
                      exact ⟨fun _ => ⟨hk.symm, rfl⟩, fun h => absurd (hk.symm.trans h) (by decide)⟩
          · refine R.b bk_X8_copy_53 ?_
            refine R.ri rt_X8_copy_55 rfl ⟨_, rfl, ?_⟩
            have hk : k_copy (M 118) (M 119) (nI fn) p (nI tn) a n = (-1000000012) := by
              rw [hlfn] at h23 h50
              rw [hltn] at h32 h50
              rw [k_copy, if_neg (not_or.mpr ⟨h4, h11⟩), hcfn, hctn, if_neg (not_or.mpr ⟨h23, Int32.not_lt.mpr h32⟩), if_pos h50]
            exact ⟨fun _ => ⟨hk.symm, rfl⟩, fun h => absurd (hk.symm.trans h) (by decide)⟩
        · refine R.b bk_X8_copy_35 ?_
          refine R.ri rt_X8_copy_37 rfl ⟨_, rfl, ?_⟩
          have hk : k_copy (M 118) (M 119) (nI fn) p (nI tn) a n = (-1000000011) := by
            rw [hlfn] at h23
            rw [k_copy, if_neg (not_or.mpr ⟨h4, h11⟩), hcfn, hctn]
            first | exact if_pos (Or.inl h23) | (rw [hltn] at h32; exact if_pos (Or.inr (Int32.not_le.mp h32)))
          exact ⟨fun _ => ⟨hk.symm, rfl⟩, fun h => absurd (hk.symm.trans h) (by decide)⟩
    · refine R.b bk_X8_copy_14 ?_
      refine R.ri rt_X8_copy_16 rfl ⟨_, rfl, ?_⟩
      have hk : k_copy (M 118) (M 119) f p t a n = (-1000000001) := by
        first | exact if_pos (Or.inl h4) | exact if_pos (Or.inr h11)
      exact ⟨fun _ => ⟨hk.symm, rfl⟩, fun h => absurd (hk.symm.trans h) (by decide)⟩
