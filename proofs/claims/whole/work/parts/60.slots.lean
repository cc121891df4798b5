/-! readings, copies, slots -/
theorem kd_el16 {s : Nat} (h : s < 5) : (kd (mx_el 16 9 (nI s).toNatClampNeg)).1 = 5 := by
  rw [el16 h]
  exact (kd_sl h).1
theorem c_X7_reads {l : Launch} {G : Gt} {M : Mm} {s d : Int32} {a : Rw} {mm : Nat} (hV : VP a mm) (hR : RW M 70 a Sall mm) (hL : RLw M a) {so sz ce : Rw} (hS : RS M so sz ce) (hVS : VS so sz ce) : Runs l G true dm_X7_reads 6 127 [.ref 0, .int s, .int d] M 127 (Pi (fun r M1 => r = F_reads a so sz ce s d ∧ ∀ q, ¬ (92 ≤ q ∧ q < 103) → M1 q = M q)) := by
  refine mx_run ow_X7_reads rfl rfl (fun dp X hdp R => ?_)
  have hm6 := hV.1.1
  have h4m : M 70 4 = nI mm := hR.2.1.trans hR.1
  have hDD : ∀ d, d < mm → ∀ f, f < 8 → M (70 + 5 + d) f = a (7 + 8 * d + f) := fun d hd f hf => hR.2.2.2.2.2.2.2.2.2 d hd rfl f hf
  have hisD : ∀ v, isD a v = f_in v 0 (nI mm - 1) := fun v => by rw [isD, hR.1]
  refine R.b bk_X7_reads_0 ?_
  refine R.V1i kc_X7_reads_2 (by first | rfl | assumption | exact (kd_sh (by omega)).1 | exact (kd_sh (by omega)).2.1 | exact kdE KW_70 (by omega) | exact KW_70.2.2.2.2.2.2.2.2.1 _ (by omega) | exact kdE KW_92 (by omega) | exact KW_92.2.2.2.2.2.2.2.2.1 _ (by omega)) (c_X7_isSheet) (by omega) rfl ⟨Nat.le_refl _, Nat.le_refl _⟩ (fun x2 M2 q2 => ?_)
  obtain ⟨rfl, q2⟩ := q2
  replace q2 := q2.symm
  subst q2
  refine R.c br_X7_reads_5 (And.intro (fun h5 => ?_) (fun h5 => ?_))
  · refine R.b bk_X7_reads_19 ?_
    refine R.ri rt_X7_reads_21 rfl ⟨_, rfl, ?_⟩
    exact ⟨by rw [F_reads, hisD, if_pos (by simp_all)], fun q _ => rfl⟩
  · refine R.b bk_X7_reads_8 (And.intro (by first | rfl | assumption | exact (kd_sh (by omega)).1 | exact (kd_sh (by omega)).2.1 | exact kdE KW_70 (by omega) | exact KW_70.2.2.2.2.2.2.2.2.1 _ (by omega) | exact kdE KW_92 (by omega) | exact KW_92.2.2.2.2.2.2.2.2.1 _ (by omega)) ?_)
    refine R.V1i kc_X7_reads_13 (by first | rfl | assumption | exact (kd_sh (by omega)).1 | exact (kd_sh (by omega)).2.1 | exact kdE KW_70 (by omega) | exact KW_70.2.2.2.2.2.2.2.2.1 _ (by omega) | exact kdE KW_92 (by omega) | exact KW_92.2.2.2.2.2.2.2.2.1 _ (by omega)) (c_X6_has KW_70 hm6 h4m) (by omega) rfl ⟨Nat.le_refl _, Nat.le_refl _⟩ (fun x13 M13 q13 => ?_)
    obtain ⟨rfl, q13⟩ := q13
    replace q13 := q13.symm
    subst q13
    refine R.c br_X7_reads_16 (And.intro (fun h16 => ?_) (fun h16 => ?_))
    · obtain ⟨sn, hsn, rfl⟩ := f_in_nat (n := 3) (by decide) h5
      have hcsn : cN (nI sn) = sn := cN_nI (by omega)
      obtain ⟨g0, g1, g2⟩ := hS sn (by omega)
      obtain ⟨v0, ⟨zn, hzn, ez⟩, v2⟩ := hVS sn (by omega)
      have h1n : M (42 + 2 * sn) 1 = nI zn := g1.trans ez
      obtain ⟨dn, hdn, rfl⟩ := f_in_dist (by omega) rfl h16
      have hcdn : cN (nI dn) = dn := cN_nI (by omega)
      refine R.b bk_X7_reads_22 (And.intro (by first | rfl | assumption | exact (kd_sh (by omega)).1 | exact (kd_sh (by omega)).2.1 | exact kdE KW_70 (by omega) | exact KW_70.2.2.2.2.2.2.2.2.1 _ (by omega) | exact kdE KW_92 (by omega) | exact KW_92.2.2.2.2.2.2.2.2.1 _ (by omega)) (And.intro ⟨by decide, by decide, rfl⟩ (And.intro (by first | rfl | assumption | exact (kd_sh (by omega)).1 | exact (kd_sh (by omega)).2.1 | exact kdE KW_70 (by omega) | exact KW_70.2.2.2.2.2.2.2.2.1 _ (by omega) | exact kdE KW_92 (by omega) | exact KW_92.2.2.2.2.2.2.2.2.1 _ (by omega)) (And.intro (by exact vp_in_nI (show sn < 4 by omega) (by decide)) ?_))))
      rw [el15 (show sn < 4 by omega)]
      refine R.V0i kc_X7_reads_30 (by first | rfl | assumption | exact (kd_sh (by omega)).1 | exact (kd_sh (by omega)).2.1 | exact kdE KW_70 (by omega) | exact KW_70.2.2.2.2.2.2.2.2.1 _ (by omega) | exact kdE KW_92 (by omega) | exact KW_92.2.2.2.2.2.2.2.2.1 _ (by omega)) (c_X4_isMissing (q := 42 + 2 * sn) (kd_sh (by omega)).1) (by omega) rfl ⟨Nat.le_refl _, Nat.le_refl _⟩ (fun x30 M30 q30 => ?_)
      obtain ⟨e30, q30⟩ := q30
      replace q30 := q30.symm
      subst q30
      rw [g0] at e30
      subst e30
      refine R.c br_X7_reads_33 (And.intro (fun h33 => ?_) (fun h33 => ?_))
      · have hn0 : ¬ so sn < 0 := miss_0 v0 h33
        have hnb : ¬ (f_in (nI sn) 0 3 = 0 ∨ isD a (nI dn) = 0) := by rw [hisD]; exact fun q => q.elim h5 h16
        obtain ⟨c, hc⟩ : ∃ c : Rw, c = (fun k => ce (24 * sn + k)) := ⟨_, rfl⟩
        have hA : ∀ (fu i : Nat) (M1 : Mm), zn - i = fu → i ≤ zn → (RW M1 92 (A_go a i) (Sone dn) mm) → (∀ q, ¬ (92 ≤ q ∧ q < 103) → M1 q = M q) → (A_rd a c dn zn 0 = A_rd a c dn (zn - i) i) → X 127 M1 46 [some (.ref 0), some (.int (nI sn)), some (.int (nI dn)), some (.ref (42 + 2 * sn)), some (.int (nI i))] [] := by
          intro fu
          induction fu with
          | zero =>
            intro i M1 hfu hi hI1 hI2 hI3
            have hiN : i = zn := by omega
            have e1 : M1 (42 + 2 * sn) 1 = nI zn := by rw [hI2 _ (by omega)]; exact h1n
            refine R.b bk_X7_reads_46 (And.intro (by first | rfl | assumption | exact (kd_sh (by omega)).1 | exact (kd_sh (by omega)).2.1 | exact kdE KW_70 (by omega) | exact KW_70.2.2.2.2.2.2.2.2.1 _ (by omega) | exact kdE KW_92 (by omega) | exact KW_92.2.2.2.2.2.2.2.2.1 _ (by omega)) ?_)
            refine R.c br_X7_reads_52 (And.intro (fun h52 => ?_) (fun h52 => absurd (by rw [show M1 (42 + 2 * sn) (257 % 64) = nI zn from e1, hiN]; exact nI_le (Nat.le_refl _) (by omega)) h52))
            refine R.b bk_X7_reads_107 ?_
            refine R.ri rt_X7_reads_109 rfl ⟨_, rfl, ?_⟩
            refine ⟨?_, hI2⟩
            rw [F_reads, if_neg hnb, hcsn, if_neg hn0, hcdn, ez, cN_nI (by omega), ← hc, hI3, hiN, Nat.sub_self, A_rd]
          | succ fu ih =>
            intro i M1 hfu hi hI1 hI2 hI3
            have hlt : i < zn := by omega
            have e1 : M1 (42 + 2 * sn) 1 = nI zn := by rw [hI2 _ (by omega)]; exact h1n
            have ec : ∀ k, k < 24 → M1 (42 + 2 * sn + 1) k = c k := fun k hk => by rw [hI2 _ (by omega), hc]; exact g2 k hk
            refine R.b bk_X7_reads_46 (And.intro (by first | rfl | assumption | exact (kd_sh (by omega)).1 | exact (kd_sh (by omega)).2.1 | exact kdE KW_70 (by omega) | exact KW_70.2.2.2.2.2.2.2.2.1 _ (by omega) | exact kdE KW_92 (by omega) | exact KW_92.2.2.2.2.2.2.2.2.1 _ (by omega)) ?_)
            refine R.c br_X7_reads_52 (And.intro (fun h52 => absurd h52 (by rw [show M1 (42 + 2 * sn) (257 % 64) = nI zn from e1]; exact nI_ge hlt (by omega))) (fun h52 => ?_))
            refine R.b bk_X7_reads_55 ?_
            refine R.V1i kc_X7_reads_58 (by first | rfl | assumption | exact (kd_sh (by omega)).1 | exact (kd_sh (by omega)).2.1 | exact kdE KW_70 (by omega) | exact KW_70.2.2.2.2.2.2.2.2.1 _ (by omega) | exact kdE KW_92 (by omega) | exact KW_92.2.2.2.2.2.2.2.2.1 _ (by omega)) (c_X4_isNumberAt (q := 42 + 2 * sn) (kd_sh (by omega)).1 (kd_sh (by omega)).2.1 (kd_sh (by omega)).2.2 hzn e1) (by omega) rfl ⟨Nat.le_refl _, Nat.le_refl _⟩ (fun x58 M58 q58 => ?_)
            obtain ⟨rfl, q58⟩ := q58
            replace q58 := q58.symm
            subst q58
            rw [f_num_in hlt (by omega), ec i (by omega)]
            refine R.c br_X7_reads_61 (And.intro (fun h61 => ?_) (fun h61 => ?_))
            · refine R.b bk_X7_reads_89 (And.intro (by first | rfl | assumption | exact (kd_sh (by omega)).1 | exact (kd_sh (by omega)).2.1 | exact kdE KW_70 (by omega) | exact KW_70.2.2.2.2.2.2.2.2.1 _ (by omega) | exact kdE KW_92 (by omega) | exact KW_92.2.2.2.2.2.2.2.2.1 _ (by omega)) ?_)
              refine R.S1i kc_X7_reads_94 (c_X7_only) (by omega) rfl ⟨Nat.le_refl _, Nat.le_refl _⟩ (fun x94 M94 q94 => ?_)
              obtain ⟨rfl, q94⟩ := q94
              replace q94 := q94.symm
              subst q94
              refine R.V1i kc_X7_reads_97 (by first | rfl | assumption | exact (kd_sh (by omega)).1 | exact (kd_sh (by omega)).2.1 | exact kdE KW_70 (by omega) | exact KW_70.2.2.2.2.2.2.2.2.1 _ (by omega) | exact kdE KW_92 (by omega) | exact KW_92.2.2.2.2.2.2.2.2.1 _ (by omega)) (c_X6_liveDay KW_92 (VP_go hV i) hI1 (RLw_go hV.1 (fun q q1 q2 => hI2 q (by omega)) hL i) (fun j hj => bit1 dn j (by omega) (by omega))) (by omega) rfl ⟨Nat.le_refl _, Nat.le_refl _⟩ (fun x97 M97 q97 => ?_)
              obtain ⟨-, r97, f97⟩ := q97
              refine R.b bk_X7_reads_100 ?_
              refine R.j gt_X7_reads_104 ?_
              rw [nI_inc]
              refine ih (i + 1) M97 (by omega) (by omega) r97 (fun q hq => by rw [f97 q (by omega)]; exact hI2 q hq) ?_
              rw [hI3, show zn - i = (zn - (i + 1)) + 1 by omega, A_rd]
              refine if_neg (fun hq => ?_)
              first
              | (have q1 := h83; exact hq.2 q1)
              | (rw [if_neg hq.1] at h61; exact absurd h61 (by decide))
            · have hcn : ¬ c i = (-1000000005) := by
                intro q
                rw [if_pos q] at h61
                exact h61 rfl
              refine R.b bk_X7_reads_64 (And.intro (by first | rfl | assumption | exact (kd_sh (by omega)).1 | exact (kd_sh (by omega)).2.1 | exact kdE KW_70 (by omega) | exact KW_70.2.2.2.2.2.2.2.2.1 _ (by omega) | exact kdE KW_92 (by omega) | exact KW_92.2.2.2.2.2.2.2.2.1 _ (by omega)) (And.intro (by first | rfl | assumption | exact (kd_sh (by omega)).1 | exact (kd_sh (by omega)).2.1 | exact kdE KW_70 (by omega) | exact KW_70.2.2.2.2.2.2.2.2.1 _ (by omega) | exact kdE KW_92 (by omega) | exact KW_92.2.2.2.2.2.2.2.2.1 _ (by omega)) (And.intro (by rw [(kd_sh (by omega)).2.2]; exact vp_in_nI (show i < 24 by omega) (by decide)) (And.intro (by first | rfl | assumption | exact (kd_sh (by omega)).1 | exact (kd_sh (by omega)).2.1 | exact kdE KW_70 (by omega) | exact KW_70.2.2.2.2.2.2.2.2.1 _ (by omega) | exact kdE KW_92 (by omega) | exact KW_92.2.2.2.2.2.2.2.2.1 _ (by omega)) (And.intro (by first | rfl | assumption | exact (kd_sh (by omega)).1 | exact (kd_sh (by omega)).2.1 | exact kdE KW_70 (by omega) | exact KW_70.2.2.2.2.2.2.2.2.1 _ (by omega) | exact kdE KW_92 (by omega) | exact KW_92.2.2.2.2.2.2.2.2.1 _ (by omega)) (And.intro ⟨by decide, by decide, rfl⟩ (And.intro (by first | rfl | assumption | exact (kd_sh (by omega)).1 | exact (kd_sh (by omega)).2.1 | exact kdE KW_70 (by omega) | exact KW_70.2.2.2.2.2.2.2.2.1 _ (by omega) | exact kdE KW_92 (by omega) | exact KW_92.2.2.2.2.2.2.2.2.1 _ (by omega)) (And.intro (by exact vp_in_nI (show dn < 6 by omega) (by decide)) (And.intro (by first | rfl | assumption | exact (kd_sh (by omega)).1 | exact (kd_sh (by omega)).2.1 | exact kdE KW_70 (by omega) | exact KW_70.2.2.2.2.2.2.2.2.1 _ (by omega) | exact kdE KW_92 (by omega) | exact KW_92.2.2.2.2.2.2.2.2.1 _ (by omega)) ?_)))))))))
              rw [el13 (w := 92) (show dn < 6 by omega), nI_clamp (show i < 2 ^ 31 by omega), ec i (by omega), show M1 (92 + 5 + dn) (4 % 64) = A_go a i (7 + 8 * dn + 4) from hI1.2.2.2.2.2.2.2.2.2 dn hdn (by simp [Sone]) 4 (by decide)]
              refine R.c br_X7_reads_83 (And.intro (fun h83 => ?_) (fun h83 => ?_))
              · refine R.b bk_X7_reads_89 (And.intro (by first | rfl | assumption | exact (kd_sh (by omega)).1 | exact (kd_sh (by omega)).2.1 | exact kdE KW_70 (by omega) | exact KW_70.2.2.2.2.2.2.2.2.1 _ (by omega) | exact kdE KW_92 (by omega) | exact KW_92.2.2.2.2.2.2.2.2.1 _ (by omega)) ?_)
                refine R.S1i kc_X7_reads_94 (c_X7_only) (by omega) rfl ⟨Nat.le_refl _, Nat.le_refl _⟩ (fun x94 M94 q94 => ?_)
                obtain ⟨rfl, q94⟩ := q94
                replace q94 := q94.symm
                subst q94
                refine R.V1i kc_X7_reads_97 (by first | rfl | assumption | exact (kd_sh (by omega)).1 | exact (kd_sh (by omega)).2.1 | exact kdE KW_70 (by omega) | exact KW_70.2.2.2.2.2.2.2.2.1 _ (by omega) | exact kdE KW_92 (by omega) | exact KW_92.2.2.2.2.2.2.2.2.1 _ (by omega)) (c_X6_liveDay KW_92 (VP_go hV i) hI1 (RLw_go hV.1 (fun q q1 q2 => hI2 q (by omega)) hL i) (fun j hj => bit1 dn j (by omega) (by omega))) (by omega) rfl ⟨Nat.le_refl _, Nat.le_refl _⟩ (fun x97 M97 q97 => ?_)
                obtain ⟨-, r97, f97⟩ := q97
                refine R.b bk_X7_reads_100 ?_
                refine R.j gt_X7_reads_104 ?_
                rw [nI_inc]
                refine ih (i + 1) M97 (by omega) (by omega) r97 (fun q hq => by rw [f97 q (by omega)]; exact hI2 q hq) ?_
                rw [hI3, show zn - i = (zn - (i + 1)) + 1 by omega, A_rd]
                refine if_neg (fun hq => ?_)
                first
                | (have q1 := h83; exact hq.2 q1)
                | (rw [if_neg hq.1] at h61; exact absurd h61 (by decide))
              · refine R.b bk_X7_reads_86 ?_
                refine R.ri rt_X7_reads_88 rfl ⟨_, rfl, ?_⟩
                refine ⟨?_, hI2⟩
                rw [F_reads, if_neg hnb, hcsn, if_neg hn0, hcdn, ez, cN_nI (by omega), ← hc, hI3, show zn - i = (zn - (i + 1)) + 1 by omega, A_rd, if_pos ⟨hcn, h83⟩]
        refine R.b bk_X7_reads_39 ?_
        refine R.V0v kc_X7_reads_40 (by first | rfl | assumption | exact (kd_sh (by omega)).1 | exact (kd_sh (by omega)).2.1 | exact kdE KW_70 (by omega) | exact KW_70.2.2.2.2.2.2.2.2.1 _ (by omega) | exact kdE KW_92 (by omega) | exact KW_92.2.2.2.2.2.2.2.2.1 _ (by omega)) (c_X7_thinkFromNow hV hR) (by omega) rfl ⟨Nat.le_refl _, Nat.le_refl _⟩ (fun M40 q40 => ?_)
        obtain ⟨r40, f40⟩ := q40
        refine R.b bk_X7_reads_43 ?_
        exact hA zn 0 M40 rfl (Nat.zero_le _) (RW_S r40 (fun _ _ _ => rfl)) f40 rfl
      · refine R.b bk_X7_reads_36 ?_
        refine R.ri rt_X7_reads_38 rfl ⟨_, rfl, ?_⟩
        have hnb : ¬ (f_in (nI sn) 0 3 = 0 ∨ isD a (nI dn) = 0) := by rw [hisD]; exact fun q => q.elim h5 h16
        exact ⟨by rw [F_reads, if_neg hnb, hcsn, if_pos (miss_1 v0 h33)], fun q _ => rfl⟩
    · refine R.b bk_X7_reads_19 ?_
      refine R.ri rt_X7_reads_21 rfl ⟨_, rfl, ?_⟩
      exact ⟨by rw [F_reads, hisD, if_pos (by simp_all)], fun q _ => rfl⟩
theorem RS_copy {M : Mm} {so sz ce : Rw} {f t p a m : Nat} (hS : RS M so sz ce) (hf : f < 4) (ht : t < 4) (h1 : p + m ≤ 24) (h2 : a + m ≤ 24) : RS (mx_cpy M (42 + 2 * f + 1) p (42 + 2 * t + 1) a m) so sz (f_cp ce ce (24 * f + p) (24 * t + a) m) := by
  obtain ⟨g0, g1, g2⟩ := hS t ht
  refine RS_at hS ht ?_ ?_ ?_ ?_ ?_ ?_
  · rw [mx_cpy, if_neg (by omega)]; exact g0
  · rw [mx_cpy, if_neg (by omega)]; exact g1
  · intro k hk
    rw [mx_cpy, if_pos rfl, f_cp]
    by_cases h : a ≤ k ∧ k < a + m
    · rw [pk_cpy_in h.1 h.2, if_pos (by omega), (hS f hf).2.2 _ (by omega)]
      congr 1
      omega
    · rw [pk_cpy_out (by omega), if_neg (by omega)]
      exact g2 k hk
  · intro q _ h2 _ _
    rw [mx_cpy, if_neg h2]
  · intro t' _
    exact ⟨rfl, rfl⟩
  · intro t' k ht' hk
    rw [f_cp, if_neg (by omega)]
theorem c_X7_copy {l : Launch} {G : Gt} {M : Mm} {f p t at_ m : Int32} {so sz ce : Rw} (hS : RS M so sz ce) (hVS : VS so sz ce) : Runs l G true dm_X7_copy 1 127 [.ref 0, .int f, .int p, .int t, .int at_, .int m] M 127 (Pi (fun r M1 => (k_copy so sz f p t at_ m ≠ 0 → r = k_copy so sz f p t at_ m ∧ M1 = M) ∧ (k_copy so sz f p t at_ m = 0 → r = m ∧ RS M1 so sz (f_cp ce ce (24 * cN f + cN p) (24 * cN t + cN at_) (cN m)) ∧ ∀ q, ¬ (42 ≤ q ∧ q < 50) → M1 q = M q))) := by
  refine mx_run ow_X7_copy rfl rfl (fun dp X hdp R => ?_)
  refine R.b bk_X7_copy_0 ?_
  refine R.V1i kc_X7_copy_2 (by first | rfl | assumption | exact (kd_sh (by omega)).1 | exact (kd_sh (by omega)).2.1) (c_X7_isSheet) (by omega) rfl ⟨Nat.le_refl _, Nat.le_refl _⟩ (fun x2 M2 q2 => ?_)
  obtain ⟨rfl, q2⟩ := q2
  replace q2 := q2.symm
  subst q2
  refine R.c br_X7_copy_5 (And.intro (fun h5 => ?_) (fun h5 => ?_))
  · refine R.b bk_X7_copy_16 ?_
    refine R.ri rt_X7_copy_18 rfl ⟨_, rfl, ?_⟩
    have e : k_copy so sz f p t at_ m = (-1000000001) := by rw [k_copy, if_pos (by simp_all)]
    exact ⟨fun _ => ⟨e.symm, rfl⟩, fun h => absurd (e.symm.trans h) (by decide)⟩
  · refine R.b bk_X7_copy_8 ?_
    refine R.V1i kc_X7_copy_10 (by first | rfl | assumption | exact (kd_sh (by omega)).1 | exact (kd_sh (by omega)).2.1) (c_X7_isSheet) (by omega) rfl ⟨Nat.le_refl _, Nat.le_refl _⟩ (fun x10 M10 q10 => ?_)
    obtain ⟨rfl, q10⟩ := q10
    replace q10 := q10.symm
    subst q10
    refine R.c br_X7_copy_13 (And.intro (fun h13 => ?_) (fun h13 => ?_))
    · obtain ⟨sn, hsn, rfl⟩ := f_in_nat (n := 3) (by decide) h5
      have hcsn : cN (nI sn) = sn := cN_nI (by omega)
      obtain ⟨g0, g1, g2⟩ := hS sn (by omega)
      obtain ⟨v0, ⟨zn, hzn, ez⟩, v2⟩ := hVS sn (by omega)
      have h1n : M (42 + 2 * sn) 1 = nI zn := g1.trans ez
      obtain ⟨tn, htn, rfl⟩ := f_in_nat (n := 3) (by decide) h13
      have hctn : cN (nI tn) = tn := cN_nI (by omega)
      obtain ⟨t0, t1, t2⟩ := hS tn (by omega)
      obtain ⟨w0, ⟨yn, hyn, ey⟩, w2⟩ := hVS tn (by omega)
      have t1n : M (42 + 2 * tn) 1 = nI yn := t1.trans ey
      refine R.b bk_X7_copy_19 (And.intro (by first | rfl | assumption | exact (kd_sh (by omega)).1 | exact (kd_sh (by omega)).2.1) (And.intro ⟨by decide, by decide, rfl⟩ (And.intro (by first | rfl | assumption | exact (kd_sh (by omega)).1 | exact (kd_sh (by omega)).2.1) (And.intro (by exact vp_in_nI (show sn < 4 by omega) (by decide)) (And.intro (by first | rfl | assumption | exact (kd_sh (by omega)).1 | exact (kd_sh (by omega)).2.1) (And.intro ⟨by decide, by decide, rfl⟩ (And.intro (by first | rfl | assumption | exact (kd_sh (by omega)).1 | exact (kd_sh (by omega)).2.1) (And.intro (by exact vp_in_nI (show tn < 4 by omega) (by decide)) ?_))))))))
      rw [el15 (s := sn) (by omega), el15 (s := tn) (by omega)]
      refine R.V0i kc_X7_copy_37 (by first | rfl | assumption | exact (kd_sh (by omega)).1 | exact (kd_sh (by omega)).2.1) (c_X4_isMissing (q := 42 + 2 * sn) (kd_sh (by omega)).1) (by omega) rfl ⟨Nat.le_refl _, Nat.le_refl _⟩ (fun x37 M37 q37 => ?_)
      obtain ⟨e37, q37⟩ := q37
      replace q37 := q37.symm
      subst q37
      rw [g0] at e37
      subst e37
      refine R.c br_X7_copy_40 (And.intro (fun h40 => ?_) (fun h40 => ?_))
      · refine R.b bk_X7_copy_51 ?_
        refine R.ri rt_X7_copy_53 rfl ⟨_, rfl, ?_⟩
        have hms : so sn < 0 ∨ so tn < 0 := by
          first | exact Or.inl (miss_1 v0 h40) | (have q1 := h48; exact Or.inr (miss_1 w0 q1))
        have e : k_copy so sz (nI sn) p (nI tn) at_ m = (-1000000011) := by rw [k_copy, if_neg (fun q => q.elim h5 h13), hcsn, hctn, if_pos hms]
        exact ⟨fun _ => ⟨e.symm, rfl⟩, fun h => absurd (e.symm.trans h) (by decide)⟩
      · have hn0 : ¬ so sn < 0 := miss_0 v0 h40
        refine R.b bk_X7_copy_43 ?_
        refine R.V0i kc_X7_copy_45 (by first | rfl | assumption | exact (kd_sh (by omega)).1 | exact (kd_sh (by omega)).2.1) (c_X4_isMissing (q := 42 + 2 * tn) (kd_sh (by omega)).1) (by omega) rfl ⟨Nat.le_refl _, Nat.le_refl _⟩ (fun x45 M45 q45 => ?_)
        obtain ⟨e45, q45⟩ := q45
        replace q45 := q45.symm
        subst q45
        rw [t0] at e45
        subst e45
        refine R.c br_X7_copy_48 (And.intro (fun h48 => ?_) (fun h48 => ?_))
        · have hn1 : ¬ so tn < 0 := miss_0 w0 h48
          refine R.b bk_X7_copy_54 (And.intro (by first | rfl | assumption | exact (kd_sh (by omega)).1 | exact (kd_sh (by omega)).2.1) (And.intro (by first | rfl | assumption | exact (kd_sh (by omega)).1 | exact (kd_sh (by omega)).2.1) ?_))
          rw [show M (42 + 2 * sn) (256 % 64) = so sn from g0, show M (42 + 2 * tn) (256 % 64) = so tn from t0]
          refine R.c br_X7_copy_64 (And.intro (fun h64 => ?_) (fun h64 => ?_))
          · refine R.b bk_X7_copy_70 ?_
            refine R.V2i kc_X7_copy_75 (by first | rfl | assumption | exact (kd_sh (by omega)).1 | exact (kd_sh (by omega)).2.1) (c_X4_hasRun (q := 42 + 2 * sn) (kd_sh (by omega)).1 hzn h1n) (by omega) rfl ⟨Nat.le_refl _, Nat.le_refl _⟩ (fun x75 M75 q75 => ?_)
            obtain ⟨rfl, q75⟩ := q75
            replace q75 := q75.symm
            subst q75
            refine R.c br_X7_copy_78 (And.intro (fun h78 => ?_) (fun h78 => ?_))
            · refine R.b bk_X7_copy_93 ?_
              refine R.ri rt_X7_copy_96 rfl ⟨_, rfl, ?_⟩
              have hX : p < 0 ∨ at_ < 0 ∨ m < 0 ∨ sz sn - m < p ∨ sz tn - m < at_ := by
                rw [ez, ey]
                apply Classical.byContradiction
                intro hc
                simp only [not_or] at hc
                obtain ⟨c1, c2, c3, c4, c5⟩ := hc
                first
                | (have q1 := h90; rw [if_neg (fun q => q.elim c3 (fun q => q.elim c2 c5))] at q1; exact absurd q1 (by decide))
                | (rw [if_neg (fun q => q.elim c3 (fun q => q.elim c1 c4))] at h78; exact absurd h78 (by decide))
              have e : k_copy so sz (nI sn) p (nI tn) at_ m = (-1000000013) := by rw [k_copy, if_neg (fun q => q.elim h5 h13), hcsn, hctn, if_neg (fun q => q.elim hn0 hn1), if_neg (fun q => q h64), if_pos hX]
              exact ⟨fun _ => ⟨e.symm, rfl⟩, fun h => absurd (e.symm.trans h) (by decide)⟩
            · refine R.b bk_X7_copy_81 ?_
              refine R.V2i kc_X7_copy_87 (by first | rfl | assumption | exact (kd_sh (by omega)).1 | exact (kd_sh (by omega)).2.1) (c_X4_hasRun (q := 42 + 2 * tn) (kd_sh (by omega)).1 hyn t1n) (by omega) rfl ⟨Nat.le_refl _, Nat.le_refl _⟩ (fun x87 M87 q87 => ?_)
              obtain ⟨rfl, q87⟩ := q87
              replace q87 := q87.symm
              subst q87
              refine R.c br_X7_copy_90 (And.intro (fun h90 => ?_) (fun h90 => ?_))
              · have hX : ¬ (p < 0 ∨ at_ < 0 ∨ m < 0 ∨ sz sn - m < p ∨ sz tn - m < at_) := by
                  rw [ez, ey]
                  intro q
                  rcases q with q | q | q | q | q
                  · exact h78 (if_pos (Or.inr (Or.inl q)))
                  · exact h90 (if_pos (Or.inr (Or.inl q)))
                  · exact h78 (if_pos (Or.inl q))
                  · exact h78 (if_pos (Or.inr (Or.inr q)))
                  · exact h90 (if_pos (Or.inr (Or.inr q)))
                have hp0 : ¬ p < 0 := fun q => hX (Or.inl q)
                have ha0 : ¬ at_ < 0 := fun q => hX (Or.inr (Or.inl q))
                have hm0 : ¬ m < 0 := fun q => hX (Or.inr (Or.inr (Or.inl q)))
                obtain ⟨pn, mn, rfl, rfl, hpm⟩ := run_ok ez hzn hp0 hm0 (fun q => hX (Or.inr (Or.inr (Or.inr (Or.inl q)))))
                obtain ⟨an, mn2, rfl, hmm2, ham⟩ := run_ok ey hyn ha0 hm0 (fun q => hX (Or.inr (Or.inr (Or.inr (Or.inr q)))))
                have hme : mn2 = mn := by
                  have q1 : cN (nI mn) = mn2 := by rw [hmm2]; exact cN_nI (by omega)
                  by_cases hb : mn < 2 ^ 31
                  · rw [cN_nI hb] at q1; exact q1.symm
                  · omega
                have hcp : cN (nI pn) = pn := cN_nI (by omega)
                have hca : cN (nI an) = an := cN_nI (by omega)
                have hcm : cN (nI mn) = mn := cN_nI (by omega)
                refine R.b bk_X7_copy_97 (And.intro (by first | rfl | assumption | exact (kd_sh (by omega)).1 | exact (kd_sh (by omega)).2.1) (And.intro (by first | rfl | assumption | exact (kd_sh (by omega)).1 | exact (kd_sh (by omega)).2.1) ?_))
                refine R.copy kc_X7_copy_112 (by omega) rfl (by exact (kd_sh (s := sn) (by omega)).2.1) (by exact (kd_sh (s := tn) (by omega)).2.1) ⟨hp0, ha0, hm0⟩ (by rw [(kd_sh (s := sn) (by omega)).2.2, (kd_sh (s := tn) (by omega)).2.2, show (nI pn).toNatClampNeg = pn from hcp, show (nI mn).toNatClampNeg = mn from hcm, show (nI an).toNatClampNeg = an from hca]; omega) ?_
                refine R.b bk_X7_copy_115 ?_
                refine R.ri rt_X7_copy_117 rfl ⟨_, rfl, ?_⟩
                have e : k_copy so sz (nI sn) (nI pn) (nI tn) (nI an) (nI mn) = 0 := by rw [k_copy, if_neg (fun q => q.elim h5 h13), hcsn, hctn, if_neg (fun q => q.elim hn0 hn1), if_neg (fun q => q h64), if_neg hX]
                refine ⟨fun h => absurd e h, fun _ => ⟨rfl, ?_, fun q hq => by rw [mx_cpy, if_neg (by omega)]⟩⟩
                rw [hcsn, hctn, hcp, hca, hcm, show (nI pn).toNatClampNeg = pn from hcp, show (nI mn).toNatClampNeg = mn from hcm, show (nI an).toNatClampNeg = an from hca]
                exact RS_copy hS (by omega) (by omega) (by omega) (by omega)
              · refine R.b bk_X7_copy_93 ?_
                refine R.ri rt_X7_copy_96 rfl ⟨_, rfl, ?_⟩
                have hX : p < 0 ∨ at_ < 0 ∨ m < 0 ∨ sz sn - m < p ∨ sz tn - m < at_ := by
                  rw [ez, ey]
                  apply Classical.byContradiction
                  intro hc
                  simp only [not_or] at hc
                  obtain ⟨c1, c2, c3, c4, c5⟩ := hc
                  first
                  | (have q1 := h90; rw [if_neg (fun q => q.elim c3 (fun q => q.elim c2 c5))] at q1; exact absurd q1 (by decide))
                  | (rw [if_neg (fun q => q.elim c3 (fun q => q.elim c1 c4))] at h78; exact absurd h78 (by decide))
                have e : k_copy so sz (nI sn) p (nI tn) at_ m = (-1000000013) := by rw [k_copy, if_neg (fun q => q.elim h5 h13), hcsn, hctn, if_neg (fun q => q.elim hn0 hn1), if_neg (fun q => q h64), if_pos hX]
                exact ⟨fun _ => ⟨e.symm, rfl⟩, fun h => absurd (e.symm.trans h) (by decide)⟩
          · refine R.b bk_X7_copy_67 ?_
            refine R.ri rt_X7_copy_69 rfl ⟨_, rfl, ?_⟩
            have e : k_copy so sz (nI sn) p (nI tn) at_ m = (-1000000012) := by rw [k_copy, if_neg (fun q => q.elim h5 h13), hcsn, hctn, if_neg (fun q => q.elim hn0 hn1), if_pos h64]
            exact ⟨fun _ => ⟨e.symm, rfl⟩, fun h => absurd (e.symm.trans h) (by decide)⟩
        · refine R.b bk_X7_copy_51 ?_
          refine R.ri rt_X7_copy_53 rfl ⟨_, rfl, ?_⟩
          have hms : so sn < 0 ∨ so tn < 0 := by
            first | exact Or.inl (miss_1 v0 h40) | (have q1 := h48; exact Or.inr (miss_1 w0 q1))
          have e : k_copy so sz (nI sn) p (nI tn) at_ m = (-1000000011) := by rw [k_copy, if_neg (fun q => q.elim h5 h13), hcsn, hctn, if_pos hms]
          exact ⟨fun _ => ⟨e.symm, rfl⟩, fun h => absurd (e.symm.trans h) (by decide)⟩
    · refine R.b bk_X7_copy_16 ?_
      refine R.ri rt_X7_copy_18 rfl ⟨_, rfl, ?_⟩
      have e : k_copy so sz f p t at_ m = (-1000000001) := by rw [k_copy, if_pos (by simp_all)]
      exact ⟨fun _ => ⟨e.symm, rfl⟩, fun h => absurd (e.symm.trans h) (by decide)⟩
/-- the slots as the class has them -/
def RSl (M : Mm) (ho hA hB hC : Rw) : Prop := ∀ s, s < 5 → M (50 + 4 * s) 0 = ho s ∧ (ho s = 1 → M (50 + 4 * s + 1) 0 = hA s ∧ f_worth (M (50 + 4 * s + 1) 0) (M (50 + 4 * s + 1) 1) = hB s ∧ ∃ k, k ≤ 5 ∧ hA s = nI k) ∧ (ho s = 2 → M (50 + 4 * s + 2) 1 = hA s ∧ (∃ n, n ≤ 24 ∧ hA s = nI n) ∧ ∀ k, k < 24 → M (50 + 4 * s + 2 + 1) k = hC (24 * s + k)) ∧ (ho s = 3 → M (50 + 4 * s) 1 = hA s)
theorem RSl_at {M M1 : Mm} {ho hA hB hC ho' hA' hB' hC' : Rw} {s : Nat} (h : RSl M ho hA hB hC) (h0 : M1 (50 + 4 * s) 0 = ho' s ∧ (ho' s = 1 → M1 (50 + 4 * s + 1) 0 = hA' s ∧ f_worth (M1 (50 + 4 * s + 1) 0) (M1 (50 + 4 * s + 1) 1) = hB' s ∧ ∃ k, k ≤ 5 ∧ hA' s = nI k) ∧ (ho' s = 2 → M1 (50 + 4 * s + 2) 1 = hA' s ∧ (∃ n, n ≤ 24 ∧ hA' s = nI n) ∧ ∀ k, k < 24 → M1 (50 + 4 * s + 2 + 1) k = hC' (24 * s + k)) ∧ (ho' s = 3 → M1 (50 + 4 * s) 1 = hA' s)) (hf : ∀ q, ¬ (50 + 4 * s ≤ q ∧ q < 54 + 4 * s) → 50 ≤ q → q < 70 → M1 q = M q) (ho2 : ∀ t, t ≠ s → ho' t = ho t ∧ hA' t = hA t ∧ hB' t = hB t) (hc : ∀ t k, t ≠ s → k < 24 → hC' (24 * t + k) = hC (24 * t + k)) : RSl M1 ho' hA' hB' hC' := by
  intro t ht
  by_cases hts : t = s
  · subst hts
    exact h0
  · obtain ⟨g0, g1, g2, g3⟩ := h t ht
    obtain ⟨o0, o1, o2⟩ := ho2 t hts
    rw [o0, o1, o2, hf (50 + 4 * t) (by omega) (by omega) (by omega), hf (50 + 4 * t + 1) (by omega) (by omega) (by omega), hf (50 + 4 * t + 2) (by omega) (by omega) (by omega), hf (50 + 4 * t + 2 + 1) (by omega) (by omega) (by omega)]
    refine ⟨g0, g1, fun e => ?_, g3⟩
    obtain ⟨i1, i2, i3⟩ := g2 e
    exact ⟨i1, i2, fun k hk => by rw [hc t k hts hk]; exact i3 k hk⟩
theorem c_X7_ask {l : Launch} {G : Gt} {M : Mm} {s k : Int32} {ho hA hB hC : Rw} (hSl : RSl M ho hA hB hC) : Runs l G true dm_X7_ask 3 127 [.ref 0, .int s, .int k] M 127 (Pi (fun r M1 => r = F_ask ho hA hB s k ∧ M1 = M)) := by
  refine mx_run ow_X7_ask rfl rfl (fun dp X hdp R => ?_)
  refine R.b bk_X7_ask_0 ?_
  refine R.V1i kc_X7_ask_2 (by first | rfl | assumption | exact kd_el16 (show sn < 5 by omega) | exact (kd_sl (by omega)).1 | exact (kd_sl (by omega)).2.1 | exact (kd_sl (by omega)).2.2.1 | exact (kd_sl (by omega)).2.2.2.1) (c_X7_isSlot) (by omega) rfl ⟨Nat.le_refl _, Nat.le_refl _⟩ (fun x2 M2 q2 => ?_)
  obtain ⟨rfl, q2⟩ := q2
  replace q2 := q2.symm
  subst q2
  refine R.c br_X7_ask_5 (And.intro (fun h5 => ?_) (fun h5 => ?_))
  · refine R.b bk_X7_ask_15 ?_
    refine R.ri rt_X7_ask_17 rfl ⟨_, rfl, ?_⟩
    exact ⟨by rw [F_ask, if_pos (by simp_all)], rfl⟩
  · refine R.b bk_X7_ask_8 ?_
    refine R.S1i kc_X7_ask_9 (c_X7_isKind) (by omega) rfl ⟨Nat.le_refl _, Nat.le_refl _⟩ (fun x9 M9 q9 => ?_)
    obtain ⟨rfl, q9⟩ := q9
    replace q9 := q9.symm
    subst q9
    refine R.c br_X7_ask_12 (And.intro (fun h12 => ?_) (fun h12 => ?_))
    · obtain ⟨sn, hsn, rfl⟩ := f_in_nat (n := 4) (by decide) h5
      have hcsn : cN (nI sn) = sn := cN_nI (by omega)
      obtain ⟨g0, g1, g2, g3⟩ := hSl sn (by omega)
      obtain ⟨kn, hkn, rfl⟩ := f_in_nat (n := 5) (by decide) h12
      have hckn : cN (nI kn) = kn := cN_nI (by omega)
      have hnb : ¬ (f_in (nI sn) 0 4 = 0 ∨ f_in (nI kn) 0 5 = 0) := fun q => q.elim h5 h12
      refine R.b bk_X7_ask_18 (And.intro (by first | rfl | assumption | exact kd_el16 (show sn < 5 by omega) | exact (kd_sl (by omega)).1 | exact (kd_sl (by omega)).2.1 | exact (kd_sl (by omega)).2.2.1 | exact (kd_sl (by omega)).2.2.2.1) (And.intro ⟨by decide, by decide, rfl⟩ (And.intro (by first | rfl | assumption | exact kd_el16 (show sn < 5 by omega) | exact (kd_sl (by omega)).1 | exact (kd_sl (by omega)).2.1 | exact (kd_sl (by omega)).2.2.1 | exact (kd_sl (by omega)).2.2.2.1) (And.intro (by exact vp_in_nI (show sn < 5 by omega) (by decide)) (And.intro (by first | rfl | assumption | exact kd_el16 (show sn < 5 by omega) | exact (kd_sl (by omega)).1 | exact (kd_sl (by omega)).2.1 | exact (kd_sl (by omega)).2.2.1 | exact (kd_sl (by omega)).2.2.2.1) ?_)))))
      rw [el16 (show sn < 5 by omega)]
      rw [show M (50 + 4 * sn) (320 % 64) = ho sn from g0]
      refine R.c br_X7_ask_29 (And.intro (fun h29 => ?_) (fun h29 => ?_))
      · refine R.b bk_X7_ask_35 (And.intro (by first | rfl | assumption | exact kd_el16 (show sn < 5 by omega) | exact (kd_sl (by omega)).1 | exact (kd_sl (by omega)).2.1 | exact (kd_sl (by omega)).2.2.1 | exact (kd_sl (by omega)).2.2.2.1) ?_)
        rw [show M (50 + 4 * sn) (320 % 64) = ho sn from g0]
        refine R.c br_X7_ask_40 (And.intro (fun h40 => ?_) (fun h40 => ?_))
        · refine R.b bk_X7_ask_54 ?_
          refine R.ri rt_X7_ask_56 rfl ⟨_, rfl, ?_⟩
          refine ⟨?_, rfl⟩
          rw [F_ask, if_neg hnb, hcsn, if_neg h29]
          first | (rw [if_pos (Or.inl h40)]; done) | (have q1 := h51; rw [if_pos (Or.inr q1)]; done)
        · obtain ⟨a1, a2, ki, hki, a3⟩ := g1 h40
          have eU : isO 6 (M (50 + 4 * sn + 1) 0) (nI kn) = f_under (hA sn) (nI kn) := by
            rw [a1, a3]
            exact isO_under hki hkn
          refine R.b bk_X7_ask_43 (And.intro (by first | rfl | assumption | exact kd_el16 (show sn < 5 by omega) | exact (kd_sl (by omega)).1 | exact (kd_sl (by omega)).2.1 | exact (kd_sl (by omega)).2.2.1 | exact (kd_sl (by omega)).2.2.2.1) ?_)
          refine R.V1i kc_X7_ask_48 (by first | rfl | assumption | exact kd_el16 (show sn < 5 by omega) | exact (kd_sl (by omega)).1 | exact (kd_sl (by omega)).2.1 | exact (kd_sl (by omega)).2.2.1 | exact (kd_sl (by omega)).2.2.2.1) (c_X0_isOf (k := 50 + 4 * sn + 1) (kd_sl (by omega)).2.1) (by omega) rfl ⟨Nat.le_refl _, Nat.le_refl _⟩ (fun x48 M48 q48 => ?_)
          obtain ⟨rfl, q48⟩ := q48
          replace q48 := q48.symm
          subst q48
          rw [eU]
          refine R.c br_X7_ask_51 (And.intro (fun h51 => ?_) (fun h51 => ?_))
          · refine R.b bk_X7_ask_57 (And.intro (by first | rfl | assumption | exact kd_el16 (show sn < 5 by omega) | exact (kd_sl (by omega)).1 | exact (kd_sl (by omega)).2.1 | exact (kd_sl (by omega)).2.2.1 | exact (kd_sl (by omega)).2.2.2.1) ?_)
            refine R.V0i kc_X7_ask_61 (by first | rfl | assumption | exact kd_el16 (show sn < 5 by omega) | exact (kd_sl (by omega)).1 | exact (kd_sl (by omega)).2.1 | exact (kd_sl (by omega)).2.2.1 | exact (kd_sl (by omega)).2.2.2.1) (c_X0_worth (k := 50 + 4 * sn + 1) (kd_sl (by omega)).2.1) (by omega) rfl ⟨Nat.le_refl _, Nat.le_refl _⟩ (fun x61 M61 q61 => ?_)
            obtain ⟨rfl, q61⟩ := q61
            replace q61 := q61.symm
            subst q61
            refine R.ri rt_X7_ask_64 rfl ⟨_, rfl, ?_⟩
            refine ⟨?_, rfl⟩
            rw [F_ask, if_neg hnb, hcsn, if_neg h29, if_neg (fun q => q.elim (fun q => q h40) h51)]
            exact a2
          · refine R.b bk_X7_ask_54 ?_
            refine R.ri rt_X7_ask_56 rfl ⟨_, rfl, ?_⟩
            refine ⟨?_, rfl⟩
            rw [F_ask, if_neg hnb, hcsn, if_neg h29]
            first | (rw [if_pos (Or.inl h40)]; done) | (have q1 := h51; rw [if_pos (Or.inr q1)]; done)
      · refine R.b bk_X7_ask_32 ?_
        refine R.ri rt_X7_ask_34 rfl ⟨_, rfl, ?_⟩
        exact ⟨by rw [F_ask, if_neg hnb, hcsn, if_pos h29], rfl⟩
    · refine R.b bk_X7_ask_15 ?_
      refine R.ri rt_X7_ask_17 rfl ⟨_, rfl, ?_⟩
      exact ⟨by rw [F_ask, if_pos (by simp_all)], rfl⟩
theorem c_X7_item {l : Launch} {G : Gt} {M : Mm} {s p : Int32} {ho hA hB hC : Rw} (hSl : RSl M ho hA hB hC) : Runs l G true dm_X7_item 2 127 [.ref 0, .int s, .int p] M 127 (Pi (fun r M1 => r = F_item ho hA hC s p ∧ M1 = M)) := by
  refine mx_run ow_X7_item rfl rfl (fun dp X hdp R => ?_)
  refine R.b bk_X7_item_0 ?_
  refine R.V1i kc_X7_item_2 (by first | rfl | assumption | exact kd_el16 (show sn < 5 by omega) | exact (kd_sl (by omega)).1 | exact (kd_sl (by omega)).2.1 | exact (kd_sl (by omega)).2.2.1 | exact (kd_sl (by omega)).2.2.2.1) (c_X7_isSlot) (by omega) rfl ⟨Nat.le_refl _, Nat.le_refl _⟩ (fun x2 M2 q2 => ?_)
  obtain ⟨rfl, q2⟩ := q2
  replace q2 := q2.symm
  subst q2
  refine R.c br_X7_item_5 (And.intro (fun h5 => ?_) (fun h5 => ?_))
  · obtain ⟨sn, hsn, rfl⟩ := f_in_nat (n := 4) (by decide) h5
    have hcsn : cN (nI sn) = sn := cN_nI (by omega)
    obtain ⟨g0, g1, g2, g3⟩ := hSl sn (by omega)
    refine R.b bk_X7_item_11 (And.intro (by first | rfl | assumption | exact kd_el16 (show sn < 5 by omega) | exact (kd_sl (by omega)).1 | exact (kd_sl (by omega)).2.1 | exact (kd_sl (by omega)).2.2.1 | exact (kd_sl (by omega)).2.2.2.1) (And.intro ⟨by decide, by decide, rfl⟩ (And.intro (by first | rfl | assumption | exact kd_el16 (show sn < 5 by omega) | exact (kd_sl (by omega)).1 | exact (kd_sl (by omega)).2.1 | exact (kd_sl (by omega)).2.2.1 | exact (kd_sl (by omega)).2.2.2.1) (And.intro (by exact vp_in_nI (show sn < 5 by omega) (by decide)) (And.intro (by first | rfl | assumption | exact kd_el16 (show sn < 5 by omega) | exact (kd_sl (by omega)).1 | exact (kd_sl (by omega)).2.1 | exact (kd_sl (by omega)).2.2.1 | exact (kd_sl (by omega)).2.2.2.1) ?_)))))
    rw [el16 (show sn < 5 by omega)]
    rw [show M (50 + 4 * sn) (320 % 64) = ho sn from g0]
    refine R.c br_X7_item_22 (And.intro (fun h22 => ?_) (fun h22 => ?_))
    · refine R.b bk_X7_item_28 (And.intro (by first | rfl | assumption | exact kd_el16 (show sn < 5 by omega) | exact (kd_sl (by omega)).1 | exact (kd_sl (by omega)).2.1 | exact (kd_sl (by omega)).2.2.1 | exact (kd_sl (by omega)).2.2.2.1) ?_)
      rw [show M (50 + 4 * sn) (320 % 64) = ho sn from g0]
      refine R.c br_X7_item_33 (And.intro (fun h33 => ?_) (fun h33 => ?_))
      · obtain ⟨b1, ⟨zn, hzn, b2⟩, b3⟩ := g2 h33
        have h1n : M (50 + 4 * sn + 2) 1 = nI zn := b1.trans b2
        refine R.b bk_X7_item_39 (And.intro (by first | rfl | assumption | exact kd_el16 (show sn < 5 by omega) | exact (kd_sl (by omega)).1 | exact (kd_sl (by omega)).2.1 | exact (kd_sl (by omega)).2.2.1 | exact (kd_sl (by omega)).2.2.2.1) ?_)
        refine R.V1i kc_X7_item_44 (by first | rfl | assumption | exact kd_el16 (show sn < 5 by omega) | exact (kd_sl (by omega)).1 | exact (kd_sl (by omega)).2.1 | exact (kd_sl (by omega)).2.2.1 | exact (kd_sl (by omega)).2.2.2.1) (c_X4_has (q := 50 + 4 * sn + 2) (kd_sl (by omega)).2.2.1 hzn h1n) (by omega) rfl ⟨Nat.le_refl _, Nat.le_refl _⟩ (fun x44 M44 q44 => ?_)
        obtain ⟨rfl, q44⟩ := q44
        replace q44 := q44.symm
        subst q44
        refine R.c br_X7_item_47 (And.intro (fun h47 => ?_) (fun h47 => ?_))
        · obtain ⟨pn, hpn, rfl⟩ := f_in_dist (by omega) rfl h47
          have hcp : cN (nI pn) = pn := cN_nI (by omega)
          have hz : ¬ f_in (nI pn) 0 (hA sn - 1) = 0 := by rw [b2]; exact h47
          refine R.b bk_X7_item_54 (And.intro (by first | rfl | assumption | exact kd_el16 (show sn < 5 by omega) | exact (kd_sl (by omega)).1 | exact (kd_sl (by omega)).2.1 | exact (kd_sl (by omega)).2.2.1 | exact (kd_sl (by omega)).2.2.2.1) ?_)
          refine R.V1i kc_X7_item_59 (by first | rfl | assumption | exact kd_el16 (show sn < 5 by omega) | exact (kd_sl (by omega)).1 | exact (kd_sl (by omega)).2.1 | exact (kd_sl (by omega)).2.2.1 | exact (kd_sl (by omega)).2.2.2.1) (c_X4_isNumberAt (q := 50 + 4 * sn + 2) (kd_sl (by omega)).2.2.1 (kd_sl (by omega)).2.2.2.1 (kd_sl (by omega)).2.2.2.2 hzn h1n) (by omega) rfl ⟨Nat.le_refl _, Nat.le_refl _⟩ (fun x59 M59 q59 => ?_)
          obtain ⟨rfl, q59⟩ := q59
          replace q59 := q59.symm
          subst q59
          rw [f_num_in hpn (by omega), b3 pn (by omega)]
          refine R.c br_X7_item_62 (And.intro (fun h62 => ?_) (fun h62 => ?_))
          · refine R.b bk_X7_item_77 ?_
            refine R.ri rt_X7_item_79 rfl ⟨_, rfl, ?_⟩
            refine ⟨?_, rfl⟩
            rw [F_item, if_neg h5, hcsn, if_neg h22, if_neg (fun q => q h33), if_neg hz, hcp]
            by_cases hq : hC (24 * sn + pn) = (-1000000005)
            · first | (rw [if_pos hq] at h62; exact absurd rfl h62) | (rw [if_pos hq]; done)
            · first | (rw [if_neg hq] at h62; exact absurd h62 (by decide)) | (rw [if_neg hq, nI_clamp (by omega)]; exact b3 pn (by omega))
          · refine R.b bk_X7_item_65 (And.intro (by first | rfl | assumption | exact kd_el16 (show sn < 5 by omega) | exact (kd_sl (by omega)).1 | exact (kd_sl (by omega)).2.1 | exact (kd_sl (by omega)).2.2.1 | exact (kd_sl (by omega)).2.2.2.1) (And.intro (by first | rfl | assumption | exact kd_el16 (show sn < 5 by omega) | exact (kd_sl (by omega)).1 | exact (kd_sl (by omega)).2.1 | exact (kd_sl (by omega)).2.2.1 | exact (kd_sl (by omega)).2.2.2.1) (And.intro (by first | rfl | assumption | exact kd_el16 (show sn < 5 by omega) | exact (kd_sl (by omega)).1 | exact (kd_sl (by omega)).2.1 | exact (kd_sl (by omega)).2.2.1 | exact (kd_sl (by omega)).2.2.2.1) (And.intro (by rw [(kd_sl (by omega)).2.2.2.2]; exact vp_in_nI (show pn < 24 by omega) (by decide)) ?_))))
            refine R.j gt_X7_item_74 ?_
            refine R.ri rt_X7_item_79 rfl ⟨_, rfl, ?_⟩
            refine ⟨?_, rfl⟩
            rw [F_item, if_neg h5, hcsn, if_neg h22, if_neg (fun q => q h33), if_neg hz, hcp]
            by_cases hq : hC (24 * sn + pn) = (-1000000005)
            · first | (rw [if_pos hq] at h62; exact absurd rfl h62) | (rw [if_pos hq]; done)
            · first | (rw [if_neg hq] at h62; exact absurd h62 (by decide)) | (rw [if_neg hq, nI_clamp (by omega)]; exact b3 pn (by omega))
        · refine R.b bk_X7_item_50 ?_
          refine R.ri rt_X7_item_53 rfl ⟨_, rfl, ?_⟩
          have hz : f_in p 0 (hA sn - 1) = 0 := by rw [b2]; exact h47
          exact ⟨by rw [F_item, if_neg h5, hcsn, if_neg h22, if_neg (fun q => q h33), if_pos hz], rfl⟩
      · refine R.b bk_X7_item_36 ?_
        refine R.ri rt_X7_item_38 rfl ⟨_, rfl, ?_⟩
        exact ⟨by rw [F_item, if_neg h5, hcsn, if_neg h22, if_pos h33], rfl⟩
    · refine R.b bk_X7_item_25 ?_
      refine R.ri rt_X7_item_27 rfl ⟨_, rfl, ?_⟩
      exact ⟨by rw [F_item, if_neg h5, hcsn, if_pos h22], rfl⟩
  · refine R.b bk_X7_item_8 ?_
    refine R.ri rt_X7_item_10 rfl ⟨_, rfl, ?_⟩
    exact ⟨by rw [F_item, if_pos h5], rfl⟩
theorem sdiv_m1 (b : BitVec 32) : b.sdiv (-1#32) = -b := by
  have h := BitVec.toInt_sdiv b (-1#32)
  have e : (-1#32 : BitVec 32).toInt = -1 := by decide
  rw [e, Int.tdiv_neg, Int.tdiv_one] at h
  apply BitVec.eq_of_toInt_eq
  rw [h, BitVec.toInt_neg]
theorem i_rem_m1 (v : Int32) : v - v / (-1) * (-1) = 0 := by
  have e : v / (-1) = -v := by
    apply Int32.toBitVec_inj.mp
    have e1 : (-1 : Int32).toBitVec = -1#32 := rfl
    rw [Int32.toBitVec_div, e1, Int32.toBitVec_neg]
    exact sdiv_m1 v.toBitVec
  rw [e]
  grind
theorem c_X7_rest {l : Launch} {G : Gt} {M : Mm} {s n : Int32} {ho hA hB hC : Rw} (hSl : RSl M ho hA hB hC) : Runs l G true dm_X7_rest 1 127 [.ref 0, .int s, .int n] M 127 (Pi (fun r M1 => r = F_rest ho hA s n ∧ M1 = M)) := by
  refine mx_run ow_X7_rest rfl rfl (fun dp X hdp R => ?_)
  refine R.b bk_X7_rest_0 ?_
  refine R.V1i kc_X7_rest_2 (by first | rfl | assumption | exact kd_el16 (show sn < 5 by omega) | exact (kd_sl (by omega)).1 | exact (kd_sl (by omega)).2.1 | exact (kd_sl (by omega)).2.2.1 | exact (kd_sl (by omega)).2.2.2.1) (c_X7_isSlot) (by omega) rfl ⟨Nat.le_refl _, Nat.le_refl _⟩ (fun x2 M2 q2 => ?_)
  obtain ⟨rfl, q2⟩ := q2
  replace q2 := q2.symm
  subst q2
  refine R.c br_X7_rest_5 (And.intro (fun h5 => ?_) (fun h5 => ?_))
  · obtain ⟨sn, hsn, rfl⟩ := f_in_nat (n := 4) (by decide) h5
    have hcsn : cN (nI sn) = sn := cN_nI (by omega)
    obtain ⟨g0, g1, g2, g3⟩ := hSl sn (by omega)
    refine R.b bk_X7_rest_11 (And.intro (by first | rfl | assumption | exact kd_el16 (show sn < 5 by omega) | exact (kd_sl (by omega)).1 | exact (kd_sl (by omega)).2.1 | exact (kd_sl (by omega)).2.2.1 | exact (kd_sl (by omega)).2.2.2.1) (And.intro ⟨by decide, by decide, rfl⟩ (And.intro (by first | rfl | assumption | exact kd_el16 (show sn < 5 by omega) | exact (kd_sl (by omega)).1 | exact (kd_sl (by omega)).2.1 | exact (kd_sl (by omega)).2.2.1 | exact (kd_sl (by omega)).2.2.2.1) (And.intro (by exact vp_in_nI (show sn < 5 by omega) (by decide)) (And.intro (by first | rfl | assumption | exact kd_el16 (show sn < 5 by omega) | exact (kd_sl (by omega)).1 | exact (kd_sl (by omega)).2.1 | exact (kd_sl (by omega)).2.2.1 | exact (kd_sl (by omega)).2.2.2.1) ?_)))))
    rw [el16 (show sn < 5 by omega)]
    rw [show M (50 + 4 * sn) (320 % 64) = ho sn from g0]
    refine R.c br_X7_rest_22 (And.intro (fun h22 => ?_) (fun h22 => ?_))
    · refine R.b bk_X7_rest_28 (And.intro (by first | rfl | assumption | exact kd_el16 (show sn < 5 by omega) | exact (kd_sl (by omega)).1 | exact (kd_sl (by omega)).2.1 | exact (kd_sl (by omega)).2.2.1 | exact (kd_sl (by omega)).2.2.2.1) ?_)
      rw [show M (50 + 4 * sn) (320 % 64) = ho sn from g0]
      refine R.c br_X7_rest_33 (And.intro (fun h33 => ?_) (fun h33 => ?_))
      · have g4 := g3 h33
        refine R.b bk_X7_rest_39 ?_
        refine R.c br_X7_rest_40 (And.intro (fun h40 => ?_) (fun h40 => ?_))
        · refine R.b bk_X7_rest_48 (And.intro (by first | rfl | assumption | exact kd_el16 (show sn < 5 by omega) | exact (kd_sl (by omega)).1 | exact (kd_sl (by omega)).2.1 | exact (kd_sl (by omega)).2.2.1 | exact (kd_sl (by omega)).2.2.2.1) (And.intro h40 ?_))
          refine R.ri rt_X7_rest_54 rfl ⟨_, rfl, ?_⟩
          refine ⟨?_, rfl⟩
          rw [F_rest, if_neg h5, hcsn, if_neg h22, if_neg (fun q => q h33)]
          first
          | (rw [if_pos h40]; done)
          | (rw [if_neg h40, show M (50 + 4 * sn) (321 % 64) = hA sn from g4]
             by_cases hm : n = -1
             · rw [if_pos hm, hm]; exact i_rem_m1 _
             · rw [if_neg hm]; rfl)
        · refine R.b bk_X7_rest_43 ?_
          refine R.j gt_X7_rest_45 ?_
          refine R.ri rt_X7_rest_54 rfl ⟨_, rfl, ?_⟩
          refine ⟨?_, rfl⟩
          rw [F_rest, if_neg h5, hcsn, if_neg h22, if_neg (fun q => q h33)]
          first
          | (rw [if_pos h40]; done)
          | (rw [if_neg h40, show M (50 + 4 * sn) (321 % 64) = hA sn from g4]
             by_cases hm : n = -1
             · rw [if_pos hm, hm]; exact i_rem_m1 _
             · rw [if_neg hm]; rfl)
      · refine R.b bk_X7_rest_36 ?_
        refine R.ri rt_X7_rest_38 rfl ⟨_, rfl, ?_⟩
        exact ⟨by rw [F_rest, if_neg h5, hcsn, if_neg h22, if_pos h33], rfl⟩
    · refine R.b bk_X7_rest_25 ?_
      refine R.ri rt_X7_rest_27 rfl ⟨_, rfl, ?_⟩
      exact ⟨by rw [F_rest, if_neg h5, hcsn, if_pos h22], rfl⟩
  · refine R.b bk_X7_rest_8 ?_
    refine R.ri rt_X7_rest_10 rfl ⟨_, rfl, ?_⟩
    exact ⟨by rw [F_rest, if_pos h5], rfl⟩
