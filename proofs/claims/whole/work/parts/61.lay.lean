/-! things laid into slots; traders -/
theorem c_X7_lay {l : Launch} {G : Gt} {M : Mm} {s t k : Int32} {a : Rw} {mm : Nat} (hV : VP a mm) (hR : RW M 70 a Sall mm) {so sz ce : Rw} (hS : RS M so sz ce) (hVS : VS so sz ce) {ho hA hB hC : Rw} (hSl : RSl M ho hA hB hC) : Runs l G true dm_X7_lay 2 127 [.ref 0, .int s, .int t, .int k] M 127 (Pi (fun r M1 => (k_lay a so s t k ≠ 0 → r = k_lay a so s t k ∧ M1 = M) ∧ (k_lay a so s t k = 0 → r = ho (cN s) ∧ RSl M1 (up ho (cN s) t) (up hA (cN s) (f_layA a sz t k)) (up hB (cN s) (f_layB a t k)) (f_layC ce hC (cN s) t k) ∧ ∀ q, ¬ (50 ≤ q ∧ q < 70) → M1 q = M q))) := by
  refine mx_run ow_X7_lay rfl rfl (fun dp X hdp R => ?_)
  have hm6 := hV.1.1
  have h4m : M 70 4 = nI mm := hR.2.1.trans hR.1
  have hDD : ∀ d, d < mm → ∀ f, f < 8 → M (70 + 5 + d) f = a (7 + 8 * d + f) := fun d hd f hf => hR.2.2.2.2.2.2.2.2.2 d hd rfl f hf
  have hisD : ∀ v, isD a v = f_in v 0 (nI mm - 1) := fun v => by rw [isD, hR.1]
  refine R.b bk_X7_lay_0 ?_
  refine R.V1i kc_X7_lay_2 (by first | rfl | assumption | exact kd_el16 (show sn < 5 by omega) | exact (kd_sl (by omega)).1 | exact (kd_sl (by omega)).2.1 | exact (kd_sl (by omega)).2.2.1 | exact (kd_sl (by omega)).2.2.2.1 | exact (kd_sh (by omega)).1 | exact kdE KW_70 (by omega) | exact KW_70.2.2.2.2.2.2.2.2.1 _ (by omega)) (c_X7_isSlot) (by omega) rfl ⟨Nat.le_refl _, Nat.le_refl _⟩ (fun x2 M2 q2 => ?_)
  obtain ⟨rfl, q2⟩ := q2
  replace q2 := q2.symm
  subst q2
  refine R.c br_X7_lay_5 (And.intro (fun h5 => ?_) (fun h5 => ?_))
  · refine R.b bk_X7_lay_17 ?_
    refine R.ri rt_X7_lay_19 rfl ⟨_, rfl, ?_⟩
    have e : k_lay a so s t k = (-1000000001) := by rw [k_lay, if_pos (by simp_all)]
    exact ⟨fun _ => ⟨e.symm, rfl⟩, fun h => absurd (e.symm.trans h) (by decide)⟩
  · refine R.b bk_X7_lay_8 ?_
    refine R.S3i kc_X7_lay_11 (c_X7_within) (by omega) rfl ⟨Nat.le_refl _, Nat.le_refl _⟩ (fun x11 M11 q11 => ?_)
    obtain ⟨rfl, q11⟩ := q11
    replace q11 := q11.symm
    subst q11
    refine R.c br_X7_lay_14 (And.intro (fun h14 => ?_) (fun h14 => ?_))
    · obtain ⟨sn, hsn, rfl⟩ := f_in_nat (n := 4) (by decide) h5
      have hcsn : cN (nI sn) = sn := cN_nI (by omega)
      obtain ⟨g0, g1, g2, g3⟩ := hSl sn (by omega)
      refine R.b bk_X7_lay_20 ?_
      refine R.c br_X7_lay_22 (And.intro (fun h22 => ?_) (fun h22 => ?_))
      · refine R.b bk_X7_lay_39 ?_
        refine R.c br_X7_lay_41 (And.intro (fun h41 => ?_) (fun h41 => ?_))
        · refine R.b bk_X7_lay_55 ?_
          refine R.c br_X7_lay_57 (And.intro (fun h57 => ?_) (fun h57 => absurd h57 h41))
          refine R.b bk_X7_lay_75 (And.intro (by first | rfl | assumption | exact kd_el16 (show sn < 5 by omega) | exact (kd_sl (by omega)).1 | exact (kd_sl (by omega)).2.1 | exact (kd_sl (by omega)).2.2.1 | exact (kd_sl (by omega)).2.2.2.1 | exact (kd_sh (by omega)).1 | exact kdE KW_70 (by omega) | exact KW_70.2.2.2.2.2.2.2.2.1 _ (by omega)) (And.intro ⟨by decide, by decide, rfl⟩ (And.intro (by first | rfl | assumption | exact kd_el16 (show sn < 5 by omega) | exact (kd_sl (by omega)).1 | exact (kd_sl (by omega)).2.1 | exact (kd_sl (by omega)).2.2.1 | exact (kd_sl (by omega)).2.2.2.1 | exact (kd_sh (by omega)).1 | exact kdE KW_70 (by omega) | exact KW_70.2.2.2.2.2.2.2.2.1 _ (by omega)) (And.intro (by exact vp_in_nI (show sn < 5 by omega) (by decide)) (And.intro (by first | rfl | assumption | exact kd_el16 (show sn < 5 by omega) | exact (kd_sl (by omega)).1 | exact (kd_sl (by omega)).2.1 | exact (kd_sl (by omega)).2.2.1 | exact (kd_sl (by omega)).2.2.2.1 | exact (kd_sh (by omega)).1 | exact kdE KW_70 (by omega) | exact KW_70.2.2.2.2.2.2.2.2.1 _ (by omega)) (And.intro (by first | rfl | assumption | exact kd_el16 (show sn < 5 by omega) | exact (kd_sl (by omega)).1 | exact (kd_sl (by omega)).2.1 | exact (kd_sl (by omega)).2.2.1 | exact (kd_sl (by omega)).2.2.2.1 | exact (kd_sh (by omega)).1 | exact kdE KW_70 (by omega) | exact KW_70.2.2.2.2.2.2.2.2.1 _ (by omega)) (And.intro rfl (And.intro rfl ?_))))))))
          rw [el16 (show sn < 5 by omega)]
          refine R.c br_X7_lay_98 (And.intro (fun h98 => ?_) (fun h98 => absurd h98 h22))
          refine R.b bk_X7_lay_121 ?_
          refine R.c br_X7_lay_123 (And.intro (fun h123 => ?_) (fun h123 => absurd h123 h41))
          refine R.b bk_X7_lay_143 (And.intro (by first | rfl | assumption | exact kd_el16 (show sn < 5 by omega) | exact (kd_sl (by omega)).1 | exact (kd_sl (by omega)).2.1 | exact (kd_sl (by omega)).2.2.1 | exact (kd_sl (by omega)).2.2.2.1 | exact (kd_sh (by omega)).1 | exact kdE KW_70 (by omega) | exact KW_70.2.2.2.2.2.2.2.2.1 _ (by omega)) (And.intro rfl (And.intro rfl ?_)))
          refine R.b bk_X7_lay_149 ?_
          refine R.ri rt_X7_lay_151 rfl ⟨_, rfl, ?_⟩
          have hcnd : ¬ (f_in (nI sn) 0 4 = 0 ∨ f_in t 0 3 = 0 ∨ (t = 1 ∧ isD a k = 0) ∨ (t = 2 ∧ f_in k 0 3 = 0)) := by simp_all
          have e : k_lay a so (nI sn) t k = 0 := by rw [k_lay, if_neg hcnd, if_neg (fun q => h41 q.1)]
          refine ⟨fun h => absurd e h, fun _ => ⟨(by rw [hcsn]; exact g0), ?_, ?_⟩⟩
          · rw [hcsn, f_layC, if_neg h41]
            refine RSl_at hSl ⟨?_, ?_, ?_, ?_⟩ (fun q hq _ _ => by rw [mx_wr_ne (by omega), mx_wr_ne (by omega)]) (fun t ht => ⟨up_ne ht, up_ne ht, up_ne ht⟩) (fun _ _ _ _ => rfl)
            · rw [mx_wr_up, mx_rw_at, up_ne (by decide), mx_wr_up, mx_rw_at, up_at, up_at]
            · rw [up_at]; exact fun h => absurd h h22
            · rw [up_at]; exact fun h => absurd h h41
            · intro _
              rw [mx_wr_up, mx_rw_at, up_at, up_at, f_layA, if_neg h22, if_neg h41]
          · intro q hq
            rw [mx_wr_ne (by omega), mx_wr_ne (by omega)]
        · refine R.b bk_X7_lay_44 ?_
          refine R.V1i kc_X7_lay_46 (by first | rfl | assumption | exact kd_el16 (show sn < 5 by omega) | exact (kd_sl (by omega)).1 | exact (kd_sl (by omega)).2.1 | exact (kd_sl (by omega)).2.2.1 | exact (kd_sl (by omega)).2.2.2.1 | exact (kd_sh (by omega)).1 | exact kdE KW_70 (by omega) | exact KW_70.2.2.2.2.2.2.2.2.1 _ (by omega)) (c_X7_isSheet) (by omega) rfl ⟨Nat.le_refl _, Nat.le_refl _⟩ (fun x46 M46 q46 => ?_)
          obtain ⟨rfl, q46⟩ := q46
          replace q46 := q46.symm
          subst q46
          refine R.c br_X7_lay_49 (And.intro (fun h49 => ?_) (fun h49 => ?_))
          · refine R.b bk_X7_lay_55 ?_
            refine R.c br_X7_lay_57 (And.intro (fun h57 => absurd h41 h57) (fun h57 => ?_))
            obtain ⟨kn, hkn, rfl⟩ := f_in_nat (n := 3) (by decide) h49
            have hckn : cN (nI kn) = kn := cN_nI (by omega)
            obtain ⟨s0, s1, s2⟩ := hS kn (by omega)
            obtain ⟨v0, ⟨zn, hzn, ez⟩, v2⟩ := hVS kn (by omega)
            refine R.b bk_X7_lay_60 (And.intro (by first | rfl | assumption | exact kd_el16 (show sn < 5 by omega) | exact (kd_sl (by omega)).1 | exact (kd_sl (by omega)).2.1 | exact (kd_sl (by omega)).2.2.1 | exact (kd_sl (by omega)).2.2.2.1 | exact (kd_sh (by omega)).1 | exact kdE KW_70 (by omega) | exact KW_70.2.2.2.2.2.2.2.2.1 _ (by omega)) (And.intro ⟨by decide, by decide, rfl⟩ (And.intro (by first | rfl | assumption | exact kd_el16 (show sn < 5 by omega) | exact (kd_sl (by omega)).1 | exact (kd_sl (by omega)).2.1 | exact (kd_sl (by omega)).2.2.1 | exact (kd_sl (by omega)).2.2.2.1 | exact (kd_sh (by omega)).1 | exact kdE KW_70 (by omega) | exact KW_70.2.2.2.2.2.2.2.2.1 _ (by omega)) (And.intro (by exact vp_in_nI (show kn < 4 by omega) (by decide)) ?_))))
            rw [el15 (show kn < 4 by omega)]
            refine R.V0i kc_X7_lay_66 (by first | rfl | assumption | exact kd_el16 (show sn < 5 by omega) | exact (kd_sl (by omega)).1 | exact (kd_sl (by omega)).2.1 | exact (kd_sl (by omega)).2.2.1 | exact (kd_sl (by omega)).2.2.2.1 | exact (kd_sh (by omega)).1 | exact kdE KW_70 (by omega) | exact KW_70.2.2.2.2.2.2.2.2.1 _ (by omega)) (c_X4_isMissing (q := 42 + 2 * kn) (kd_sh (by omega)).1) (by omega) rfl ⟨Nat.le_refl _, Nat.le_refl _⟩ (fun x66 M66 q66 => ?_)
            obtain ⟨e66, q66⟩ := q66
            replace q66 := q66.symm
            subst q66
            rw [s0] at e66
            subst e66
            refine R.c br_X7_lay_69 (And.intro (fun h69 => ?_) (fun h69 => ?_))
            · refine R.b bk_X7_lay_75 (And.intro (by first | rfl | assumption | exact kd_el16 (show sn < 5 by omega) | exact (kd_sl (by omega)).1 | exact (kd_sl (by omega)).2.1 | exact (kd_sl (by omega)).2.2.1 | exact (kd_sl (by omega)).2.2.2.1 | exact (kd_sh (by omega)).1 | exact kdE KW_70 (by omega) | exact KW_70.2.2.2.2.2.2.2.2.1 _ (by omega)) (And.intro ⟨by decide, by decide, rfl⟩ (And.intro (by first | rfl | assumption | exact kd_el16 (show sn < 5 by omega) | exact (kd_sl (by omega)).1 | exact (kd_sl (by omega)).2.1 | exact (kd_sl (by omega)).2.2.1 | exact (kd_sl (by omega)).2.2.2.1 | exact (kd_sh (by omega)).1 | exact kdE KW_70 (by omega) | exact KW_70.2.2.2.2.2.2.2.2.1 _ (by omega)) (And.intro (by exact vp_in_nI (show sn < 5 by omega) (by decide)) (And.intro (by first | rfl | assumption | exact kd_el16 (show sn < 5 by omega) | exact (kd_sl (by omega)).1 | exact (kd_sl (by omega)).2.1 | exact (kd_sl (by omega)).2.2.1 | exact (kd_sl (by omega)).2.2.2.1 | exact (kd_sh (by omega)).1 | exact kdE KW_70 (by omega) | exact KW_70.2.2.2.2.2.2.2.2.1 _ (by omega)) (And.intro (by first | rfl | assumption | exact kd_el16 (show sn < 5 by omega) | exact (kd_sl (by omega)).1 | exact (kd_sl (by omega)).2.1 | exact (kd_sl (by omega)).2.2.1 | exact (kd_sl (by omega)).2.2.2.1 | exact (kd_sh (by omega)).1 | exact kdE KW_70 (by omega) | exact KW_70.2.2.2.2.2.2.2.2.1 _ (by omega)) (And.intro rfl (And.intro rfl ?_))))))))
              rw [el16 (show sn < 5 by omega)]
              refine R.c br_X7_lay_98 (And.intro (fun h98 => ?_) (fun h98 => absurd (h41.symm.trans h98) (by decide)))
              refine R.b bk_X7_lay_121 ?_
              refine R.c br_X7_lay_123 (And.intro (fun h123 => absurd h41 h123) (fun h123 => ?_))
              refine R.b bk_X7_lay_126 (And.intro (by first | rfl | assumption | exact kd_el16 (show sn < 5 by omega) | exact (kd_sl (by omega)).1 | exact (kd_sl (by omega)).2.1 | exact (kd_sl (by omega)).2.2.1 | exact (kd_sl (by omega)).2.2.2.1 | exact (kd_sh (by omega)).1 | exact kdE KW_70 (by omega) | exact KW_70.2.2.2.2.2.2.2.2.1 _ (by omega)) (And.intro (by first | rfl | assumption | exact kd_el16 (show sn < 5 by omega) | exact (kd_sl (by omega)).1 | exact (kd_sl (by omega)).2.1 | exact (kd_sl (by omega)).2.2.1 | exact (kd_sl (by omega)).2.2.2.1 | exact (kd_sh (by omega)).1 | exact kdE KW_70 (by omega) | exact KW_70.2.2.2.2.2.2.2.2.1 _ (by omega)) (And.intro ⟨by decide, by decide, rfl⟩ (And.intro (by first | rfl | assumption | exact kd_el16 (show sn < 5 by omega) | exact (kd_sl (by omega)).1 | exact (kd_sl (by omega)).2.1 | exact (kd_sl (by omega)).2.2.1 | exact (kd_sl (by omega)).2.2.2.1 | exact (kd_sh (by omega)).1 | exact kdE KW_70 (by omega) | exact KW_70.2.2.2.2.2.2.2.2.1 _ (by omega)) (And.intro (by exact vp_in_nI (show kn < 4 by omega) (by decide)) ?_)))))
              rw [el15 (show kn < 4 by omega)]
              refine R.V1v kc_X7_lay_137 (by first | rfl | assumption | exact kd_el16 (show sn < 5 by omega) | exact (kd_sl (by omega)).1 | exact (kd_sl (by omega)).2.1 | exact (kd_sl (by omega)).2.2.1 | exact (kd_sl (by omega)).2.2.2.1 | exact (kd_sh (by omega)).1 | exact kdE KW_70 (by omega) | exact KW_70.2.2.2.2.2.2.2.2.1 _ (by omega)) (c_X4_becomeLike (q := 50 + 4 * sn + 2) (q2 := 42 + 2 * kn) (kd_sl (by omega)).2.2.1 (kd_sh (by omega)).1 (kd_sl (by omega)).2.2.2.1 (kd_sl (by omega)).2.2.2.2 (kd_sh (by omega)).2.1 (kd_sh (by omega)).2.2 (by omega)) (by omega) rfl ⟨Nat.le_refl _, Nat.le_refl _⟩ (fun M137 q137 => ?_)
              refine R.j gt_X7_lay_140 ?_
              refine R.b bk_X7_lay_149 ?_
              refine R.ri rt_X7_lay_151 rfl ⟨_, rfl, ?_⟩
              have hcnd : ¬ (f_in (nI sn) 0 4 = 0 ∨ f_in t 0 3 = 0 ∨ (t = 1 ∧ isD a (nI kn) = 0) ∨ (t = 2 ∧ f_in (nI kn) 0 3 = 0)) := by simp_all
              have hn0 := miss_0 v0 h69
              have e : k_lay a so (nI sn) t (nI kn) = 0 := by rw [k_lay, if_neg hcnd, hckn, if_neg (fun q => hn0 q.2)]
              subst h41
              obtain ⟨q1, q2, q3⟩ := q137
              refine ⟨fun h => absurd e h, fun _ => ⟨(by rw [hcsn]; exact g0), ?_, ?_⟩⟩
              · rw [hcsn, f_layC, if_pos rfl, hckn]
                refine RSl_at hSl ⟨?_, ?_, ?_, ?_⟩ (fun q hq _ _ => by rw [q3 q (by omega) (by omega), mx_wr_ne (by omega)]) (fun t ht => ⟨up_ne ht, up_ne ht, up_ne ht⟩) (fun t k ht hk => by rw [f_cp, if_neg (by omega)])
                · rw [q3 _ (by omega) (by omega), mx_wr_up, mx_rw_at, up_at, up_at]
                · rw [up_at]; exact fun h => absurd h (by decide)
                · intro _
                  have eA : f_layA a sz 2 (nI kn) = sz kn := by rw [f_layA, if_neg (by decide), if_pos rfl, hckn]
                  refine ⟨?_, ⟨zn, hzn, ?_⟩, fun k hk => ?_⟩
                  · rw [q1, cut, if_pos (by decide), mx_wr_ne (by omega), up_at, eA]; exact s1
                  · rw [up_at, eA]; exact ez
                  · rw [q2 k hk, mx_wr_ne (by omega), s2 k hk, f_cp, if_pos (by omega)]
                    congr 1
                    omega
                · rw [up_at]; exact fun h => absurd h (by decide)
              · intro q hq
                rw [q3 q (by omega) (by omega), mx_wr_ne (by omega)]
            · refine R.b bk_X7_lay_72 ?_
              refine R.ri rt_X7_lay_74 rfl ⟨_, rfl, ?_⟩
              have hcnd : ¬ (f_in (nI sn) 0 4 = 0 ∨ f_in t 0 3 = 0 ∨ (t = 1 ∧ isD a (nI kn) = 0) ∨ (t = 2 ∧ f_in (nI kn) 0 3 = 0)) := by simp_all
              have e : k_lay a so (nI sn) t (nI kn) = (-1000000011) := by rw [k_lay, if_neg hcnd, hckn, if_pos ⟨h41, miss_1 v0 h69⟩]
              exact ⟨fun _ => ⟨e.symm, rfl⟩, fun h => absurd (e.symm.trans h) (by decide)⟩
          · refine R.b bk_X7_lay_52 ?_
            refine R.ri rt_X7_lay_54 rfl ⟨_, rfl, ?_⟩
            have e : k_lay a so (nI sn) t k = (-1000000001) := by rw [k_lay, if_pos (Or.inr (Or.inr (Or.inr ⟨h41, h49⟩)))]
            exact ⟨fun _ => ⟨e.symm, rfl⟩, fun h => absurd (e.symm.trans h) (by decide)⟩
      · refine R.b bk_X7_lay_25 (And.intro (by first | rfl | assumption | exact kd_el16 (show sn < 5 by omega) | exact (kd_sl (by omega)).1 | exact (kd_sl (by omega)).2.1 | exact (kd_sl (by omega)).2.2.1 | exact (kd_sl (by omega)).2.2.2.1 | exact (kd_sh (by omega)).1 | exact kdE KW_70 (by omega) | exact KW_70.2.2.2.2.2.2.2.2.1 _ (by omega)) ?_)
        refine R.V1i kc_X7_lay_30 (by first | rfl | assumption | exact kd_el16 (show sn < 5 by omega) | exact (kd_sl (by omega)).1 | exact (kd_sl (by omega)).2.1 | exact (kd_sl (by omega)).2.2.1 | exact (kd_sl (by omega)).2.2.2.1 | exact (kd_sh (by omega)).1 | exact kdE KW_70 (by omega) | exact KW_70.2.2.2.2.2.2.2.2.1 _ (by omega)) (c_X6_has KW_70 hm6 h4m) (by omega) rfl ⟨Nat.le_refl _, Nat.le_refl _⟩ (fun x30 M30 q30 => ?_)
        obtain ⟨rfl, q30⟩ := q30
        replace q30 := q30.symm
        subst q30
        refine R.c br_X7_lay_33 (And.intro (fun h33 => ?_) (fun h33 => ?_))
        · refine R.b bk_X7_lay_39 ?_
          refine R.c br_X7_lay_41 (And.intro (fun h41 => ?_) (fun h41 => absurd (h22.symm.trans h41) (by decide)))
          refine R.b bk_X7_lay_55 ?_
          refine R.c br_X7_lay_57 (And.intro (fun h57 => ?_) (fun h57 => absurd (h22.symm.trans h57) (by decide)))
          refine R.b bk_X7_lay_75 (And.intro (by first | rfl | assumption | exact kd_el16 (show sn < 5 by omega) | exact (kd_sl (by omega)).1 | exact (kd_sl (by omega)).2.1 | exact (kd_sl (by omega)).2.2.1 | exact (kd_sl (by omega)).2.2.2.1 | exact (kd_sh (by omega)).1 | exact kdE KW_70 (by omega) | exact KW_70.2.2.2.2.2.2.2.2.1 _ (by omega)) (And.intro ⟨by decide, by decide, rfl⟩ (And.intro (by first | rfl | assumption | exact kd_el16 (show sn < 5 by omega) | exact (kd_sl (by omega)).1 | exact (kd_sl (by omega)).2.1 | exact (kd_sl (by omega)).2.2.1 | exact (kd_sl (by omega)).2.2.2.1 | exact (kd_sh (by omega)).1 | exact kdE KW_70 (by omega) | exact KW_70.2.2.2.2.2.2.2.2.1 _ (by omega)) (And.intro (by exact vp_in_nI (show sn < 5 by omega) (by decide)) (And.intro (by first | rfl | assumption | exact kd_el16 (show sn < 5 by omega) | exact (kd_sl (by omega)).1 | exact (kd_sl (by omega)).2.1 | exact (kd_sl (by omega)).2.2.1 | exact (kd_sl (by omega)).2.2.2.1 | exact (kd_sh (by omega)).1 | exact kdE KW_70 (by omega) | exact KW_70.2.2.2.2.2.2.2.2.1 _ (by omega)) (And.intro (by first | rfl | assumption | exact kd_el16 (show sn < 5 by omega) | exact (kd_sl (by omega)).1 | exact (kd_sl (by omega)).2.1 | exact (kd_sl (by omega)).2.2.1 | exact (kd_sl (by omega)).2.2.2.1 | exact (kd_sh (by omega)).1 | exact kdE KW_70 (by omega) | exact KW_70.2.2.2.2.2.2.2.2.1 _ (by omega)) (And.intro rfl (And.intro rfl ?_))))))))
          rw [el16 (show sn < 5 by omega)]
          refine R.c br_X7_lay_98 (And.intro (fun h98 => absurd h22 h98) (fun h98 => ?_))
          obtain ⟨dn, hdn, rfl⟩ := f_in_dist (by omega) rfl h33
          have hcdn : cN (nI dn) = dn := cN_nI (by omega)
          refine R.b bk_X7_lay_101 (And.intro (by first | rfl | assumption | exact kd_el16 (show sn < 5 by omega) | exact (kd_sl (by omega)).1 | exact (kd_sl (by omega)).2.1 | exact (kd_sl (by omega)).2.2.1 | exact (kd_sl (by omega)).2.2.2.1 | exact (kd_sh (by omega)).1 | exact kdE KW_70 (by omega) | exact KW_70.2.2.2.2.2.2.2.2.1 _ (by omega)) (And.intro (by first | rfl | assumption | exact kd_el16 (show sn < 5 by omega) | exact (kd_sl (by omega)).1 | exact (kd_sl (by omega)).2.1 | exact (kd_sl (by omega)).2.2.1 | exact (kd_sl (by omega)).2.2.2.1 | exact (kd_sh (by omega)).1 | exact kdE KW_70 (by omega) | exact KW_70.2.2.2.2.2.2.2.2.1 _ (by omega)) (And.intro (by first | rfl | assumption | exact kd_el16 (show sn < 5 by omega) | exact (kd_sl (by omega)).1 | exact (kd_sl (by omega)).2.1 | exact (kd_sl (by omega)).2.2.1 | exact (kd_sl (by omega)).2.2.2.1 | exact (kd_sh (by omega)).1 | exact kdE KW_70 (by omega) | exact KW_70.2.2.2.2.2.2.2.2.1 _ (by omega)) (And.intro ⟨by decide, by decide, rfl⟩ (And.intro (by first | rfl | assumption | exact kd_el16 (show sn < 5 by omega) | exact (kd_sl (by omega)).1 | exact (kd_sl (by omega)).2.1 | exact (kd_sl (by omega)).2.2.1 | exact (kd_sl (by omega)).2.2.2.1 | exact (kd_sh (by omega)).1 | exact kdE KW_70 (by omega) | exact KW_70.2.2.2.2.2.2.2.2.1 _ (by omega)) (And.intro (by exact vp_in_nI (show dn < 6 by omega) (by decide)) ?_))))))
          rw [el13 (w := 70) (show dn < 6 by omega)]
          refine R.V1v kc_X7_lay_115 (by first | rfl | assumption | exact kd_el16 (show sn < 5 by omega) | exact (kd_sl (by omega)).1 | exact (kd_sl (by omega)).2.1 | exact (kd_sl (by omega)).2.2.1 | exact (kd_sl (by omega)).2.2.2.1 | exact (kd_sh (by omega)).1 | exact kdE KW_70 (by omega) | exact KW_70.2.2.2.2.2.2.2.2.1 _ (by omega)) (c_X0_becomeLike (k := 50 + 4 * sn + 1) (k2 := 70 + 5 + dn) (kd_sl (by omega)).2.1 (KW_70.2.2.2.2.2.2.2.2.1 dn (by omega)) (by omega)) (by omega) rfl ⟨Nat.le_refl _, Nat.le_refl _⟩ (fun M115 q115 => ?_)
          replace q115 := q115.symm
          subst q115
          refine R.j gt_X7_lay_118 ?_
          refine R.b bk_X7_lay_149 ?_
          refine R.ri rt_X7_lay_151 rfl ⟨_, rfl, ?_⟩
          have hcnd : ¬ (f_in (nI sn) 0 4 = 0 ∨ f_in t 0 3 = 0 ∨ (t = 1 ∧ isD a (nI dn) = 0) ∨ (t = 2 ∧ f_in (nI dn) 0 3 = 0)) := by subst h22; rw [hisD]; simp_all
          have e : k_lay a so (nI sn) t (nI dn) = 0 := by rw [k_lay, if_neg hcnd, if_neg (fun q => absurd (h22.symm.trans q.1) (by decide))]
          subst h22
          have hdd : ∀ f, f < 8 → (mx_wr M (50 + 4 * sn) 0 1) (70 + 5 + dn) f = a (7 + 8 * dn + f) := fun f hf => by rw [mx_wr_ne (by omega)]; exact hDD dn hdn f hf
          obtain ⟨ki, L, p, hki, hk1, -⟩ := hV.2 dn hdn
          refine ⟨fun h => absurd e h, fun _ => ⟨(by rw [hcsn]; exact g0), ?_, ?_⟩⟩
          · rw [hcsn, f_layC, if_neg (by decide)]
            have eA : f_layA a sz 1 (nI dn) = a (7 + 8 * dn + 0) := by rw [f_layA, if_pos rfl, hcdn]; rfl
            have eB : f_layB a 1 (nI dn) = f_worth (a (7 + 8 * dn + 0)) (a (7 + 8 * dn + 1)) := by rw [f_layB, if_pos rfl, hcdn]; rfl
            refine RSl_at hSl ⟨?_, ?_, ?_, ?_⟩ (fun q hq _ _ => by rw [mx_rw_ne (by omega), mx_wr_ne (by omega)]) (fun t ht => ⟨up_ne ht, up_ne ht, up_ne ht⟩) (fun _ _ _ _ => rfl)
            · rw [mx_rw_ne (by omega), mx_wr_up, mx_rw_at, up_at, up_at]
            · intro _
              rw [up_at, up_at, mx_rw_at, eA, eB, cut, cut, if_pos (by decide), if_pos (by decide), hdd 0 (by decide), hdd 1 (by decide)]
              exact ⟨rfl, rfl, ki, hki, hk1⟩
            · rw [up_at]; exact fun h => absurd h (by decide)
            · rw [up_at]; exact fun h => absurd h (by decide)
          · intro q hq
            rw [mx_rw_ne (by omega), mx_wr_ne (by omega)]
        · refine R.b bk_X7_lay_36 ?_
          refine R.ri rt_X7_lay_38 rfl ⟨_, rfl, ?_⟩
          have e : k_lay a so (nI sn) t k = (-1000000001) := by rw [k_lay, if_pos (Or.inr (Or.inr (Or.inl ⟨h22, by rw [hisD]; exact h33⟩)))]
          exact ⟨fun _ => ⟨e.symm, rfl⟩, fun h => absurd (e.symm.trans h) (by decide)⟩
    · refine R.b bk_X7_lay_17 ?_
      refine R.ri rt_X7_lay_19 rfl ⟨_, rfl, ?_⟩
      have e : k_lay a so s t k = (-1000000001) := by rw [k_lay, if_pos (by simp_all)]
      exact ⟨fun _ => ⟨e.symm, rfl⟩, fun h => absurd (e.symm.trans h) (by decide)⟩
def SEEN (M : Mm) : Prop := (M 0 13 = nI 11 ∧ M 0 14 = nI 12) ∨ (M 0 13 = nI 12 ∧ M 0 14 = nI 11)
/-- what the class has of what the model has seen -/
def TRv (s c : Int32) (B : Nat) : Prop := (∃ k, k ≤ B ∧ s = nI k ∧ c = nI k) ∨ (s = -1 ∧ c = (-1000000005))
theorem TRv_max {s c s2 c2 : Int32} {B : Nat} (hB : B ≤ 1000) (h1 : TRv s c B) (h2 : TRv s2 c2 B) : TRv (if s < s2 then s2 else s) (if c < c2 then c2 else c) B := by
  rcases h1 with ⟨k, hk, rfl, rfl⟩ | ⟨rfl, rfl⟩
  · rcases h2 with ⟨k2, hk2, rfl, rfl⟩ | ⟨rfl, rfl⟩
    · by_cases h : k < k2
      · rw [if_pos (nI_lt h (by omega))]
        exact Or.inl ⟨k2, hk2, rfl, rfl⟩
      · rw [if_neg (nI_nlt (by omega) (by omega))]
        exact Or.inl ⟨k, hk, rfl, rfl⟩
    · have e1 : ¬ nI k < -1 := fun q => absurd (Int32.lt_trans q (by decide : (-1 : Int32) < 0)) (nI_pos (by omega))
      have e2 : ¬ nI k < (-1000000005) := fun q => absurd (Int32.lt_trans q (by decide : (-1000000005 : Int32) < 0)) (nI_pos (by omega))
      rw [if_neg e1, if_neg e2]
      exact Or.inl ⟨k, hk, rfl, rfl⟩
  · rcases h2 with ⟨k2, hk2, rfl, rfl⟩ | ⟨rfl, rfl⟩
    · have e1 : (-1 : Int32) < nI k2 := Int32.lt_of_lt_of_le (by decide : (-1 : Int32) < 0) (nI_pos' (by omega))
      have e2 : (-1000000005 : Int32) < nI k2 := Int32.lt_of_lt_of_le (by decide : (-1000000005 : Int32) < 0) (nI_pos' (by omega))
      rw [if_pos e1, if_pos e2]
      exact Or.inl ⟨k2, hk2, rfl, rfl⟩
    · exact Or.inr ⟨rfl, rfl⟩
theorem TRv_fair {s c x y : Int32} {B : Nat} (hB : B ≤ 1000) (h : TRv s c B) : (c < 0 → TRv (if s < 0 then -1 else s + f_eq x y) (-1000000005) (B + 1)) ∧ (¬ c < 0 → TRv (if s < 0 then -1 else s + f_eq x y) (c + f_eq x y) (B + 1)) := by
  rcases h with ⟨k, hk, rfl, rfl⟩ | ⟨rfl, rfl⟩
  · refine ⟨fun h => absurd h (nI_pos (by omega)), fun _ => ?_⟩
    rw [if_neg (nI_pos (by omega))]
    unfold f_eq
    split
    · exact Or.inl ⟨k + 1, by omega, nI_1 k, nI_1 k⟩
    · exact Or.inl ⟨k, by omega, by simp, by simp⟩
  · exact ⟨fun _ => Or.inr ⟨if_pos (by decide), rfl⟩, fun h => absurd (by decide) h⟩
theorem f_b1_eq (s : Rw) (d : Nat) : (0 < d → f_b1 s d = if s d < s (d - 1) then s (d - 1) else s d) ∧ (¬ 0 < d → f_b1 s d = s d) := by
  unfold f_b1
  grind
theorem f_b2_eq (s : Rw) (mm d : Nat) : (d + 1 < mm → f_b2 s mm d = if f_b1 s d < s (d + 1) then s (d + 1) else f_b1 s d) ∧ (¬ d + 1 < mm → f_b2 s mm d = f_b1 s d) := by
  unfold f_b2
  grind
theorem c_X7_tradeOneDay {l : Launch} {G : Gt} {M : Mm} {c1 c2 mm B : Nat} {a s : Rw} (k1 : (kd c1).1 = 11) (z1 : (kd c1).2 = 6) (k2 : (kd c2).1 = 11) (z2 : (kd c2).2 = 6) (hcc : c1 ≠ c2) (hcl : 0 < c1 ∧ c1 < 70 ∧ 0 < c2 ∧ c2 < 70) (h13 : (M 0 13).toNatClampNeg = c1) (h14 : (M 0 14).toNatClampNeg = c2) (hm6 : mm ≤ 6) (hR : RW M 92 a Sall mm) (hB : B ≤ 1000) (hT : ∀ j, j < mm → TRv (s j) (M c1 j) B) : Runs l G true dm_X7_tradeOneDay 2 127 [.ref 0] M 127 (Pv (fun M1 => M1 0 = up (up (M 0) 13 (nI c2)) 14 (nI c1) ∧ (∀ j, j < mm → TRv (f_tr a s mm j) (M1 c2 j) (B + 1)) ∧ ∀ q, q ≠ 0 → q ≠ c2 → M1 q = M q)) := by
  refine mx_run ow_X7_tradeOneDay rfl rfl (fun dp X hdp R => ?_)
  have hA : ∀ (fu i : Nat) (M1 : Mm) (c2v : Option Value), mm - i = fu → i ≤ mm → (∀ q, q ≠ c2 → M1 q = M q) → (∀ j, j < i → TRv (f_tr a s mm j) (M1 c2 j) (B + 1)) → X 127 M1 2 [some (.ref 0), some (.int (nI i)), c2v] [] := by
    intro fu
    induction fu with
    | zero =>
      intro i M1 c2v hfu hi hI1 hI2
      have hiN : i = mm := by omega
      have e13 : (M1 0 (461 % 64)).toNatClampNeg = c1 := by rw [hI1 0 (by omega)]; exact h13
      have e14 : (M1 0 (462 % 64)).toNatClampNeg = c2 := by rw [hI1 0 (by omega)]; exact h14
      have e4 : M1 92 4 = nI mm := by rw [hI1 92 (by omega)]; exact hR.2.1.trans hR.1
      have ec : M1 c1 = M c1 := hI1 c1 hcc
      have hT0 : ∀ j, j < mm → TRv (s j) (M1 c1 j) B := fun j hj => by rw [ec]; exact hT j hj
      have hD : ∀ d, d < mm → ∀ f, f < 8 → M1 (92 + 5 + d) f = a (7 + 8 * d + f) := fun d hd f hf => by rw [hI1 _ (by omega)]; exact hR.2.2.2.2.2.2.2.2.2 d hd rfl f hf
      have h8e : M1 92 8 = a 5 := by rw [hI1 92 (by omega)]; exact hR.2.2.2.2.2.1
      refine R.b bk_X7_tradeOneDay_2 (And.intro (by first | rfl | (rw [e13]; exact k1)) (And.intro (by first | rfl | (rw [e13]; exact k1)) ?_))
      refine R.c br_X7_tradeOneDay_10 (And.intro (fun h10 => ?_) (fun h10 => absurd (by rw [show M1 92 (388 % 64) = nI mm from e4, hiN]; exact nI_le (Nat.le_refl mm) (by omega)) h10))
      refine R.b bk_X7_tradeOneDay_94 (And.intro (by first | rfl | (rw [e13]; exact k1)) (And.intro (by first | rfl | (rw [e13]; exact k1)) (And.intro (by first | rfl | (rw [e13]; exact k1)) (And.intro (Or.inl rfl) (And.intro (by rw [e14]; exact ⟨hcl.2.2.1, Nat.lt_trans hcl.2.2.2 (by decide)⟩) (And.intro (by first | rfl | (rw [e13]; exact k1)) (And.intro (Or.inl rfl) (And.intro (by rw [e13]; exact ⟨hcl.1, Nat.lt_trans hcl.2.1 (by decide)⟩) ?_))))))))
      refine R.rv rt_X7_tradeOneDay_112 ⟨rfl, ?_⟩
      refine ⟨?_, fun j hj => ?_, fun q q1 q2 => ?_⟩
      · show mx_wr (mx_wr M1 0 13 (nI (M1 0 (462 % 64)).toNatClampNeg)) 0 14 (nI (M1 0 (461 % 64)).toNatClampNeg) 0 = _
        rw [e13, e14, mx_wr_up, mx_wr_up, mx_rw_rw, mx_rw_at, hI1 0 (by omega)]
        rw [mx_rw_at]
      · rw [mx_wr_ne (by omega), mx_wr_ne (by omega)]
        exact hI2 j (by omega)
      · rw [mx_wr_ne q1, mx_wr_ne q1]
        exact hI1 q q2
    | succ fu ih =>
      intro i M1 c2v hfu hi hI1 hI2
      have hlt : i < mm := by omega
      have e13 : (M1 0 (461 % 64)).toNatClampNeg = c1 := by rw [hI1 0 (by omega)]; exact h13
      have e14 : (M1 0 (462 % 64)).toNatClampNeg = c2 := by rw [hI1 0 (by omega)]; exact h14
      have e4 : M1 92 4 = nI mm := by rw [hI1 92 (by omega)]; exact hR.2.1.trans hR.1
      have ec : M1 c1 = M c1 := hI1 c1 hcc
      have hT0 : ∀ j, j < mm → TRv (s j) (M1 c1 j) B := fun j hj => by rw [ec]; exact hT j hj
      have hD : ∀ d, d < mm → ∀ f, f < 8 → M1 (92 + 5 + d) f = a (7 + 8 * d + f) := fun d hd f hf => by rw [hI1 _ (by omega)]; exact hR.2.2.2.2.2.2.2.2.2 d hd rfl f hf
      have h8e : M1 92 8 = a 5 := by rw [hI1 92 (by omega)]; exact hR.2.2.2.2.2.1
      have hC : ∀ (bs bc : Int32), bs = f_b2 s mm i → TRv bs bc B → X 127 M1 63 [some (.ref 0), some (.int (nI i)), some (.int bc)] [] := by
        intro bs bc hbs hT
        have hF := TRv_fair (x := a (7 + 8 * i + 4)) (y := a 5) hB hT
        rw [hbs] at hF
        refine R.b bk_X7_tradeOneDay_63 (And.intro (by first | rfl | (rw [e14]; exact k2)) ?_)
        refine R.c br_X7_tradeOneDay_69 (And.intro (fun h69 => ?_) (fun h69 => ?_))
        · refine R.b bk_X7_tradeOneDay_77 (And.intro (by first | rfl | (rw [e14]; exact k2)) ?_)
          refine R.V1i kc_X7_tradeOneDay_83 (by first | rfl | (rw [e14]; exact k2)) (c_X6_fairAt KW_92 (d := i) hm6 e4 hlt) (by omega) rfl ⟨Nat.le_refl _, Nat.le_refl _⟩ (fun x83 M83 q83 => ?_)
          obtain ⟨e83, q83⟩ := q83
          replace q83 := q83.symm
          subst q83
          rw [hD i hlt 4 (by decide), h8e] at e83
          subst e83
          refine R.b bk_X7_tradeOneDay_86 ?_
          refine R.b bk_X7_tradeOneDay_87 (And.intro (by first | rfl | (rw [e14]; exact k2)) (And.intro (by rw [e14, z2]; exact vp_in_nI (show i < 6 by omega) (by decide)) ?_))
          refine R.j gt_X7_tradeOneDay_91 ?_
          rw [nI_inc, e14, nI_clamp (show i < 2 ^ 31 by omega)]
          refine ih (i + 1) (mx_wr M1 c2 i (bc + f_eq (a (7 + 8 * i + 4)) (a 5))) _ (by omega) (by omega) (fun q hq => by rw [mx_wr_ne hq]; exact hI1 q hq) (fun j hj => ?_)
          rw [mx_wr_up, mx_rw_at]
          by_cases hji : j = i
          · rw [hji, up_at]
            exact hF.2 (Int32.not_lt.mpr h69)
          · rw [up_ne hji]
            exact hI2 j (by omega)
        · refine R.b bk_X7_tradeOneDay_72 ?_
          refine R.j gt_X7_tradeOneDay_74 ?_
          refine R.b bk_X7_tradeOneDay_87 (And.intro (by first | rfl | (rw [e14]; exact k2)) (And.intro (by rw [e14, z2]; exact vp_in_nI (show i < 6 by omega) (by decide)) ?_))
          refine R.j gt_X7_tradeOneDay_91 ?_
          rw [nI_inc, e14, nI_clamp (show i < 2 ^ 31 by omega)]
          refine ih (i + 1) (mx_wr M1 c2 i (-1000000005)) _ (by omega) (by omega) (fun q hq => by rw [mx_wr_ne hq]; exact hI1 q hq) (fun j hj => ?_)
          rw [mx_wr_up, mx_rw_at]
          by_cases hji : j = i
          · rw [hji, up_at]
            exact hF.1 (Int32.not_le.mp h69)
          · rw [up_ne hji]
            exact hI2 j (by omega)
      have hB1 : ∀ (bs bc : Int32), bs = f_b1 s i → TRv bs bc B → X 127 M1 37 [some (.ref 0), some (.int (nI i)), some (.int bc)] [] := by
        intro bs bc hbs hT
        refine R.b bk_X7_tradeOneDay_37 (And.intro (by first | rfl | (rw [e13]; exact k1)) (And.intro (by first | rfl | (rw [e13]; exact k1)) ?_))
        have h47n : ¬ M1 92 (388 % 64) ≤ nI i + 1 → i + 1 < mm := fun h => by
          rw [show M1 92 (388 % 64) = nI mm from e4, nI_1] at h
          exact nI_lt8 (by omega) (by omega) h
        refine R.c br_X7_tradeOneDay_47 (And.intro (fun h47 => ?_) (fun h47 => ?_))
        · refine hC _ _ ?_ hT
          rw [(f_b2_eq s mm i).2 (fun q => absurd h47 (by rw [show M1 92 (388 % 64) = nI mm from e4, nI_1]; exact nI_ge q (by omega)))]
          exact hbs
        · have hlt2 := h47n h47
          refine R.b bk_X7_tradeOneDay_50 (And.intro (by first | rfl | (rw [e13]; exact k1)) (And.intro (by first | rfl | (rw [e13]; exact k1)) (And.intro (by rw [e13, z1]; exact vp_n (nI_1 i) (show i + 1 < 6 by have := h47n h47; omega) (by decide)) ?_)))
          rw [e13, cl_n (nI_1 i) (by omega)]
          refine R.max kc_X7_tradeOneDay_59 (by omega) rfl (Nat.le_refl _) ?_
          refine R.b bk_X7_tradeOneDay_62 ?_
          refine hC _ _ ?_ (TRv_max hB hT (hT0 (i + 1) (by omega)))
          rw [(f_b2_eq s mm i).1 hlt2, hbs]
      refine R.b bk_X7_tradeOneDay_2 (And.intro (by first | rfl | (rw [e13]; exact k1)) (And.intro (by first | rfl | (rw [e13]; exact k1)) ?_))
      refine R.c br_X7_tradeOneDay_10 (And.intro (fun h10 => absurd h10 (by rw [show M1 92 (388 % 64) = nI mm from e4]; exact nI_ge hlt (by omega))) (fun h10 => ?_))
      refine R.b bk_X7_tradeOneDay_13 (And.intro (by first | rfl | (rw [e13]; exact k1)) (And.intro (by first | rfl | (rw [e13]; exact k1)) (And.intro (by rw [e13, z1]; exact vp_in_nI (show i < 6 by omega) (by decide)) ?_)))
      rw [e13, nI_clamp (show i < 2 ^ 31 by omega)]
      refine R.c br_X7_tradeOneDay_21 (And.intro (fun h21 => ?_) (fun h21 => ?_))
      · refine hB1 _ _ ?_ (hT0 i hlt)
        rw [(f_b1_eq s i).2 (fun q => absurd h21 (nI_nle q (by omega)))]
      · have h0 : 0 < i := Nat.pos_of_ne_zero (fun q => h21 (by rw [q]; decide))
        refine R.b bk_X7_tradeOneDay_24 (And.intro (by first | rfl | (rw [e13]; exact k1)) (And.intro (by first | rfl | (rw [e13]; exact k1)) (And.intro (by rw [e13, z1]; exact vp_n (nI_dec i h0) (show i - 1 < 6 by omega) (by decide)) ?_)))
        rw [e13, cl_n (nI_dec i h0) (by omega)]
        refine R.max kc_X7_tradeOneDay_33 (by omega) rfl (Nat.le_refl _) ?_
        refine R.b bk_X7_tradeOneDay_36 ?_
        refine hB1 _ _ ?_ (TRv_max hB (hT0 i hlt) (hT0 (i - 1) (by omega)))
        rw [(f_b1_eq s i).1 h0]
  refine R.b bk_X7_tradeOneDay_0 ?_
  exact hA mm 0 M _ rfl (Nat.zero_le mm) (fun q _ => rfl) (fun j hj => absurd hj (Nat.not_lt_zero j))
