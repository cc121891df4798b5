/-! what the class finds of told weeks; its tape -/
theorem c_X7_thinkTillNextWeek {l : Launch} {G : Gt} {M : Mm} {b : Rw} {mm dn : Nat} (hV : VP b mm) (hdn : dn < mm) (hR : RW M 92 b (Sone dn) mm) (hL : RLw M b) : Runs l G true dm_X7_thinkTillNextWeek 5 127 [.ref 0, .int (nI dn)] M 127 (Pv (fun M1 => RW M1 92 (A_go b (f_left b dn)) (Sone dn) mm ∧ ∀ q, ¬ (92 ≤ q ∧ q < 103) → M1 q = M q)) := by
  refine mx_run ow_X7_thinkTillNextWeek rfl rfl (fun dp X hdp R => ?_)
  have hm6 := hV.1.1
  obtain ⟨L, p, hL3, hp4, hpL, hL60, hfl⟩ := VPd_left (hV.2 dn hdn)
  have hA : ∀ (fu i : Nat) (M1 : Mm), (L - p) - i = fu → i ≤ (L - p) → (RW M1 92 (A_go b i) (Sone dn) mm) → (∀ q, ¬ (92 ≤ q ∧ q < 103) → M1 q = M q) → X 127 M1 4 [some (.ref 0), some (.int (nI dn)), some (.int (if i = L - p then 1 else 0)), some (.int (nI i))] [] := by
    intro fu
    induction fu with
    | zero =>
      intro i M1 hfu hi hI1 hI2
      have hiN : i = (L - p) := by omega
      refine R.b bk_X7_thinkTillNextWeek_4 ?_
      refine R.c br_X7_thinkTillNextWeek_7 (And.intro (fun h7 => ?_) (fun h7 => ?_))
      · refine R.rv rt_X7_thinkTillNextWeek_32 ⟨rfl, ?_⟩
        rw [hfl, ← hiN]
        exact ⟨hI1, hI2⟩
      · refine R.b bk_X7_thinkTillNextWeek_10 ?_
        refine R.c br_X7_thinkTillNextWeek_11 (And.intro (fun h11 => ?_) (fun h11 => absurd (by rw [if_pos hiN]; decide) (show ¬ ¬ (if i = L - p then (1 : Int32) else 0) = 0 from fun q => q h11)))
        refine R.rv rt_X7_thinkTillNextWeek_32 ⟨rfl, ?_⟩
        rw [hfl, ← hiN]
        exact ⟨hI1, hI2⟩
    | succ fu ih =>
      intro i M1 hfu hi hI1 hI2
      have hlt : i < (L - p) := by omega
      refine R.b bk_X7_thinkTillNextWeek_4 ?_
      refine R.c br_X7_thinkTillNextWeek_7 (And.intro (fun h7 => absurd h7 (nI_ge (b := 60) (by omega) (by decide))) (fun h7 => ?_))
      refine R.b bk_X7_thinkTillNextWeek_10 ?_
      refine R.c br_X7_thinkTillNextWeek_11 (And.intro (fun h11 => absurd (by rw [if_neg (by omega)]) h11) (fun h11 => ?_))
      refine R.b bk_X7_thinkTillNextWeek_14 (And.intro (by first | rfl | assumption | exact kdE KW_70 (by omega) | exact KW_70.2.2.2.2.2.2.2.2.1 _ (by omega) | exact kdE KW_92 (by omega) | exact KW_92.2.2.2.2.2.2.2.2.1 _ (by omega)) ?_)
      refine R.S1i kc_X7_thinkTillNextWeek_19 (c_X7_only) (by omega) rfl ⟨Nat.le_refl _, Nat.le_refl _⟩ (fun x19 M19 q19 => ?_)
      obtain ⟨rfl, q19⟩ := q19
      replace q19 := q19.symm
      subst q19
      refine R.V1i kc_X7_thinkTillNextWeek_22 (by first | rfl | assumption | exact kdE KW_70 (by omega) | exact KW_70.2.2.2.2.2.2.2.2.1 _ (by omega) | exact kdE KW_92 (by omega) | exact KW_92.2.2.2.2.2.2.2.2.1 _ (by omega)) (c_X6_liveDay KW_92 (VP_go hV i) hI1 (RLw_go hV.1 (fun q q1 q2 => hI2 q (by omega)) hL i) (fun j hj => bit1 dn j (by omega) (by omega))) (by omega) rfl ⟨Nat.le_refl _, Nat.le_refl _⟩ (fun x22 M22 q22 => ?_)
      obtain ⟨e22, r22, f22⟩ := q22
      refine R.b bk_X7_thinkTillNextWeek_25 ?_
      refine R.j gt_X7_thinkTillNextWeek_29 ?_
      rw [nI_inc]
      have hx := ih (i + 1) M22 (by omega) (by omega) r22 (fun q hq => by rw [f22 q (by omega)]; exact hI2 q hq)
      have ew : x22 = if i + 1 = L - p then 1 else 0 := by
        rw [e22, wkS_one _ _ _ hdn, sun_one (VP_go hV i) hdn]
        have hg := A_go_in hV hdn hL3 hp4 hpL hL60
        by_cases hl : i + 1 = L - p
        · rw [if_pos hl]
          have he := (A_go_end hV hdn hL3 hp4 hpL hL60).2
          rw [← hl] at he
          exact if_pos he
        · rw [if_neg hl]
          have he := (hg (i + 1) (by omega)).2.2
          refine if_neg ?_
          show ¬ A_go b (i + 1) (7 + 8 * dn + 4) = 0
          rw [he]
          exact nI_ne0 (by omega) (by omega)
      rw [← ew] at hx
      exact hx
  refine R.b bk_X7_thinkTillNextWeek_0 ?_
  have hx := hA (L - p) 0 M rfl (Nat.zero_le _) hR (fun q _ => rfl)
  rw [if_neg (by omega)] at hx
  exact hx
theorem i_abs {L : Nat} {v : Int32} (hL : L ≤ 60) (h1 : -99999 ≤ v) (h2 : v ≤ 99999) : (if 0 ≤ nI L - v then nI L - v else 0 - (nI L - v)) = nI (v.toInt - (nI L).toInt).natAbs ∧ (v.toInt - (nI L).toInt).natAbs ≤ 100100 := by
  have e1 : (-99999 : Int32).toInt = -99999 := by decide
  have e2 : (99999 : Int32).toInt = 99999 := by decide
  have e0 : (0 : Int32).toInt = 0 := by decide
  rw [Int32.le_iff_toInt_le, e1] at h1
  rw [Int32.le_iff_toInt_le, e2] at h2
  have eL : (nI L).toInt = L := nI_toInt (by omega)
  have es : (nI L - v).toInt = L - v.toInt := by
    rw [Int32.toInt_sub, eL]
    exact Int.bmod_eq_of_le (by omega) (by omega)
  have en : (0 - (nI L - v)).toInt = v.toInt - L := by
    rw [Int32.toInt_sub, es, e0]
    rw [show (0 : Int) - (L - v.toInt) = v.toInt - L by omega]
    exact Int.bmod_eq_of_le (by omega) (by omega)
  refine ⟨?_, by rw [eL]; omega⟩
  by_cases hq : 0 ≤ nI L - v
  · rw [if_pos hq]
    rw [Int32.le_iff_toInt_le, es, e0] at hq
    apply Int32.toInt_inj.mp
    rw [es, nI_toInt (by rw [eL]; omega), eL]
    omega
  · rw [if_neg hq]
    rw [Int32.le_iff_toInt_le, es, e0] at hq
    apply Int32.toInt_inj.mp
    rw [en, nI_toInt (by rw [eL]; omega), eL]
    omega
theorem off_bd {b c : Rw} {mm d : Nat} (hV : VP b mm) (hd : d < mm) : ∀ k, (∀ j, j < k → c j = (-1000000005) ∨ (-99999 ≤ c j ∧ c j ≤ 99999)) → A_off b c d k ≤ k * 100100
  | 0, _ => Nat.le_refl 0
  | k + 1, h => by
    have ih := off_bd hV hd k (fun j hj => h j (by omega))
    unfold A_off
    rw [Nat.add_mul, Nat.one_mul]
    generalize k * 100100 = T at *
    split
    · omega
    · rename_i hn
      obtain ⟨h1, h2⟩ := (h k (by omega)).resolve_left hn
      obtain ⟨_, L, _, -, -, hL, -, -, -, hL60⟩ := (VP_go hV (A_wd b d k)).2 d hd
      have := (i_abs hL60 h1 h2).2
      rw [hL]
      omega
theorem c_X7_differences {l : Launch} {G : Gt} {M : Mm} {sn dn r zn : Nat} {b c : Rw} {a : Rw} {mm : Nat} (hV : VP a mm) (hR : RW M 70 a Sall mm) (hL : RLw M a) {so sz ce : Rw} (hsn : sn < 4) (hzn : zn ≤ 24) (h1n : M (42 + 2 * sn) 1 = nI zn) (g2 : ∀ k, k < 24 → M (42 + 2 * sn + 1) k = ce (24 * sn + k)) (hcr : ∀ k, k < 24 → c k = (-1000000005) ∨ (-99999 ≤ c k ∧ c k ≤ 99999)) (hb : b = (up a (7 + 8 * dn + 1) (nI r))) (hc : c = fun k => ce (24 * sn + k)) (hdn : dn < mm) (hr : r ≤ 9) : Runs l G true dm_X7_differences 6 127 [.ref 0, .ref (42 + 2 * sn), .int (nI dn), .int (nI r)] M 127 (Pi (fun v M1 => v = nI (A_off b c dn (min 6 zn)) ∧ ∀ q, ¬ (92 ≤ q ∧ q < 103) → M1 q = M q)) := by
  refine mx_run ow_X7_differences rfl rfl (fun dp X hdp R => ?_)
  have hm6 := hV.1.1
  have h4m : M 70 4 = nI mm := hR.2.1.trans hR.1
  have hDD : ∀ d, d < mm → ∀ f, f < 8 → M (70 + 5 + d) f = a (7 + 8 * d + f) := fun d hd f hf => hR.2.2.2.2.2.2.2.2.2 d hd rfl f hf
  have hisD : ∀ v, isD a v = f_in v 0 (nI mm - 1) := fun v => by rw [isD, hR.1]
  have hVb : VP b mm := by rw [hb]; exact VP_rate hV hr (by omega)
  refine R.b bk_X7_differences_0 ?_
  refine R.V0v kc_X7_differences_1 (by first | rfl | assumption | exact (kd_sh (by omega)).1 | exact (kd_sh (by omega)).2.1 | exact kdE KW_70 (by omega) | exact KW_70.2.2.2.2.2.2.2.2.1 _ (by omega) | exact kdE KW_92 (by omega) | exact KW_92.2.2.2.2.2.2.2.2.1 _ (by omega)) (c_X7_thinkFromNow hV hR) (by omega) rfl ⟨Nat.le_refl _, Nat.le_refl _⟩ (fun M1 q1 => ?_)
  obtain ⟨r1, f1⟩ := q1
  refine R.b bk_X7_differences_4 (And.intro (by first | rfl | assumption | exact (kd_sh (by omega)).1 | exact (kd_sh (by omega)).2.1 | exact kdE KW_70 (by omega) | exact KW_70.2.2.2.2.2.2.2.2.1 _ (by omega) | exact kdE KW_92 (by omega) | exact KW_92.2.2.2.2.2.2.2.2.1 _ (by omega)) (And.intro (by first | rfl | assumption | exact (kd_sh (by omega)).1 | exact (kd_sh (by omega)).2.1 | exact kdE KW_70 (by omega) | exact KW_70.2.2.2.2.2.2.2.2.1 _ (by omega) | exact kdE KW_92 (by omega) | exact KW_92.2.2.2.2.2.2.2.2.1 _ (by omega)) (And.intro ⟨by decide, by decide, rfl⟩ (And.intro (by first | rfl | assumption | exact (kd_sh (by omega)).1 | exact (kd_sh (by omega)).2.1 | exact kdE KW_70 (by omega) | exact KW_70.2.2.2.2.2.2.2.2.1 _ (by omega) | exact kdE KW_92 (by omega) | exact KW_92.2.2.2.2.2.2.2.2.1 _ (by omega)) (And.intro (by exact vp_in_nI (show dn < 6 by omega) (by decide)) (And.intro (by first | rfl | assumption | exact (kd_sh (by omega)).1 | exact (kd_sh (by omega)).2.1 | exact kdE KW_70 (by omega) | exact KW_70.2.2.2.2.2.2.2.2.1 _ (by omega) | exact kdE KW_92 (by omega) | exact KW_92.2.2.2.2.2.2.2.2.1 _ (by omega)) (And.intro rfl (And.intro rfl ?_))))))))
  rw [el13 (w := 92) (show dn < 6 by omega)]
  have rb : RW (mx_wr M1 (92 + 5 + dn) 1 (nI r)) 92 b (Sone dn) mm := by rw [hb]; exact RW_S (RW_wr (f := 1) hm6 hdn (by decide) r1) (fun _ _ _ => rfl)
  have fb : ∀ q, ¬ (92 ≤ q ∧ q < 103) → mx_wr M1 (92 + 5 + dn) 1 (nI r) q = M q := fun q hq => by rw [mx_wr_ne (by omega)]; exact f1 q hq
  have hLb : RLw M b := RLw_congr (fun q _ _ => rfl) (fun j hj => by rw [hb]; exact up_ne (by omega)) (T14 hV.1.2.2.1) hL
  have hA : ∀ (fu i : Nat) (M1 : Mm), (min 6 zn) - i = fu → i ≤ (min 6 zn) → (∀ q, ¬ (92 ≤ q ∧ q < 103) → M1 q = M q) → (∀ j, i ≤ j → j < min 6 zn → ¬ c j = (-1000000005) → RW M1 92 (A_go b (A_wd b dn i)) (Sone dn) mm) → X 127 M1 27 [some (.ref 0), some (.ref (42 + 2 * sn)), some (.int (nI dn)), some (.int (nI r)), some (.ref (92 + 5 + dn)), some (.int (nI (A_off b c dn i))), some (.int (nI i))] [] := by
    intro fu
    induction fu with
    | zero =>
      intro i M1 hfu hi hI1 hI2
      have hiN : i = (min 6 zn) := by omega
      have e1 : M1 (42 + 2 * sn) 1 = nI zn := by rw [hI1 _ (by omega)]; exact h1n
      refine R.b bk_X7_differences_27 ?_
      refine R.c br_X7_differences_31 (And.intro (fun h31 => ?_) (fun h31 => ?_))
      · refine R.b bk_X7_differences_93 ?_
        refine R.ri rt_X7_differences_95 rfl ⟨_, rfl, ?_⟩
        rw [hiN]
        exact ⟨rfl, hI1⟩
      · refine R.b bk_X7_differences_34 (And.intro (by first | rfl | assumption | exact (kd_sh (by omega)).1 | exact (kd_sh (by omega)).2.1 | exact kdE KW_70 (by omega) | exact KW_70.2.2.2.2.2.2.2.2.1 _ (by omega) | exact kdE KW_92 (by omega) | exact KW_92.2.2.2.2.2.2.2.2.1 _ (by omega)) ?_)
        refine R.c br_X7_differences_40 (And.intro (fun h40 => ?_) (fun h40 => absurd (by rw [show M1 (42 + 2 * sn) (257 % 64) = nI zn from e1]; exact nI_le (show zn ≤ i by have := nI_lt8 (n := 6) (by omega) (by decide) h31; omega) (by omega)) h40))
        refine R.b bk_X7_differences_93 ?_
        refine R.ri rt_X7_differences_95 rfl ⟨_, rfl, ?_⟩
        rw [hiN]
        exact ⟨rfl, hI1⟩
    | succ fu ih =>
      intro i M1 hfu hi hI1 hI2
      have hlt : i < (min 6 zn) := by omega
      have e1 : M1 (42 + 2 * sn) 1 = nI zn := by rw [hI1 _ (by omega)]; exact h1n
      have ec : ∀ k, k < 24 → M1 (42 + 2 * sn + 1) k = c k := fun k hk => by rw [hI1 _ (by omega), hc]; exact g2 k hk
      have hW : ∀ (tg : Int32), tg = nI (A_off b c dn (i + 1)) → X 127 M1 73 [some (.ref 0), some (.ref (42 + 2 * sn)), some (.int (nI dn)), some (.int (nI r)), some (.ref (92 + 5 + dn)), some (.int tg), some (.int (nI i))] [] := by
        intro tg htg
        subst htg
        refine R.b bk_X7_differences_73 ?_
        refine R.V1i kc_X7_differences_76 (by first | rfl | assumption | exact (kd_sh (by omega)).1 | exact (kd_sh (by omega)).2.1 | exact kdE KW_70 (by omega) | exact KW_70.2.2.2.2.2.2.2.2.1 _ (by omega) | exact kdE KW_92 (by omega) | exact KW_92.2.2.2.2.2.2.2.2.1 _ (by omega)) (c_X4_hasNumberBehind (k := i) (by omega) (q := 42 + 2 * sn) (kd_sh (by omega)).1 (kd_sh (by omega)).2.1 (kd_sh (by omega)).2.2 hzn e1) (by omega) rfl ⟨Nat.le_refl _, Nat.le_refl _⟩ (fun x76 M76 q76 => ?_)
        obtain ⟨e76, q76⟩ := q76
        replace q76 := q76.symm
        subst q76
        refine R.c br_X7_differences_79 (And.intro (fun h79 => ?_) (fun h79 => ?_))
        · refine R.b bk_X7_differences_87 ?_
          refine R.j gt_X7_differences_90 ?_
          rw [nI_inc]
          refine ih (i + 1) M1 (by clear e76; omega) (by clear e76; omega) hI1 (fun j j1 j2 j3 => ?_)
          exfalso
          rcases e76 with ⟨e, -⟩ | ⟨-, e⟩
          · rw [e] at h79; exact absurd h79 (by decide)
          · exact j3 (by rw [← ec j (by omega)]; exact e j (by omega) j2)
        · have rr : RW M1 92 (A_go b (A_wd b dn i)) (Sone dn) mm := by
            rcases e76 with ⟨-, j, j1, j2, j3⟩ | ⟨e, -⟩
            · exact hI2 j (by omega) j2 (by rw [← ec j (by omega)]; exact j3)
            · exact absurd e h79
          refine R.b bk_X7_differences_82 ?_
          refine R.V1v kc_X7_differences_84 (by first | rfl | assumption | exact (kd_sh (by omega)).1 | exact (kd_sh (by omega)).2.1 | exact kdE KW_70 (by omega) | exact KW_70.2.2.2.2.2.2.2.2.1 _ (by omega) | exact kdE KW_92 (by omega) | exact KW_92.2.2.2.2.2.2.2.2.1 _ (by omega)) (c_X7_thinkTillNextWeek (VP_go hVb (A_wd b dn i)) hdn rr (RLw_go hVb.1 (fun q q1 q2 => hI1 q (by omega)) hLb (A_wd b dn i))) (by omega) rfl ⟨Nat.le_refl _, Nat.le_refl _⟩ (fun M84 q84 => ?_)
          obtain ⟨r84, f84⟩ := q84
          rw [← A_go_add] at r84
          refine R.b bk_X7_differences_87 ?_
          refine R.j gt_X7_differences_90 ?_
          rw [nI_inc]
          exact ih (i + 1) M84 (by clear e76; omega) (by clear e76; omega) (fun q hq => by rw [f84 q hq]; exact hI1 q hq) (fun j j1 j2 j3 => r84)
      refine R.b bk_X7_differences_27 ?_
      refine R.c br_X7_differences_31 (And.intro (fun h31 => absurd h31 (nI_ge (b := 6) (by omega) (by decide))) (fun h31 => ?_))
      refine R.b bk_X7_differences_34 (And.intro (by first | rfl | assumption | exact (kd_sh (by omega)).1 | exact (kd_sh (by omega)).2.1 | exact kdE KW_70 (by omega) | exact KW_70.2.2.2.2.2.2.2.2.1 _ (by omega) | exact kdE KW_92 (by omega) | exact KW_92.2.2.2.2.2.2.2.2.1 _ (by omega)) ?_)
      refine R.c br_X7_differences_40 (And.intro (fun h40 => absurd h40 (by rw [show M1 (42 + 2 * sn) (257 % 64) = nI zn from e1]; exact nI_ge (by omega) (by omega))) (fun h40 => ?_))
      refine R.b bk_X7_differences_43 ?_
      refine R.V1i kc_X7_differences_46 (by first | rfl | assumption | exact (kd_sh (by omega)).1 | exact (kd_sh (by omega)).2.1 | exact kdE KW_70 (by omega) | exact KW_70.2.2.2.2.2.2.2.2.1 _ (by omega) | exact kdE KW_92 (by omega) | exact KW_92.2.2.2.2.2.2.2.2.1 _ (by omega)) (c_X4_isNumberAt (q := 42 + 2 * sn) (kd_sh (by omega)).1 (kd_sh (by omega)).2.1 (kd_sh (by omega)).2.2 hzn e1) (by omega) rfl ⟨Nat.le_refl _, Nat.le_refl _⟩ (fun x46 M46 q46 => ?_)
      obtain ⟨rfl, q46⟩ := q46
      replace q46 := q46.symm
      subst q46
      rw [f_num_in (show i < zn by omega) (by omega), ec i (by omega)]
      refine R.c br_X7_differences_49 (And.intro (fun h49 => ?_) (fun h49 => ?_))
      · refine hW _ ?_
        have hcn : c i = (-1000000005) := by
          apply Classical.byContradiction
          intro q
          rw [if_neg q] at h49
          exact absurd h49 (by decide)
        rw [A_off, if_pos hcn, Nat.add_zero]
      · refine R.b bk_X7_differences_52 (And.intro (by first | rfl | assumption | exact (kd_sh (by omega)).1 | exact (kd_sh (by omega)).2.1 | exact kdE KW_70 (by omega) | exact KW_70.2.2.2.2.2.2.2.2.1 _ (by omega) | exact kdE KW_92 (by omega) | exact KW_92.2.2.2.2.2.2.2.2.1 _ (by omega)) (And.intro (by first | rfl | assumption | exact (kd_sh (by omega)).1 | exact (kd_sh (by omega)).2.1 | exact kdE KW_70 (by omega) | exact KW_70.2.2.2.2.2.2.2.2.1 _ (by omega) | exact kdE KW_92 (by omega) | exact KW_92.2.2.2.2.2.2.2.2.1 _ (by omega)) (And.intro (by first | rfl | assumption | exact (kd_sh (by omega)).1 | exact (kd_sh (by omega)).2.1 | exact kdE KW_70 (by omega) | exact KW_70.2.2.2.2.2.2.2.2.1 _ (by omega) | exact kdE KW_92 (by omega) | exact KW_92.2.2.2.2.2.2.2.2.1 _ (by omega)) (And.intro (by rw [(kd_sh (by omega)).2.2]; exact vp_in_nI (show i < 24 by omega) (by decide)) ?_))))
        have hcn : ¬ c i = (-1000000005) := by
          intro q
          rw [if_pos q] at h49
          exact h49 rfl
        have rr := hI2 i (Nat.le_refl i) hlt hcn
        obtain ⟨_, L, _, -, -, hL3, -, -, -, hL60⟩ := (VP_go hVb (A_wd b dn i)).2 dn hdn
        have eL : M1 (92 + 5 + dn) (3 % 64) = nI L := (rr.2.2.2.2.2.2.2.2.2 dn hdn (by simp [Sone]) 3 (by decide)).trans hL3
        have hcv := (hcr i (by omega)).resolve_left hcn
        have hab := i_abs hL60 hcv.1 hcv.2
        rw [eL, nI_clamp (show i < 2 ^ 31 by omega), ec i (by omega)]
        refine R.abs kc_X7_differences_67 (by omega) rfl (Nat.le_refl _) ?_
        rw [hab.1]
        refine R.b bk_X7_differences_70 ?_
        refine hW _ ?_
        rw [A_off, if_neg hcn, hL3, nI_add]
  exact hA _ 0 _ rfl (Nat.zero_le _) fb (fun _ _ _ _ => rb)
theorem offs_bd {a so sz ce : Rw} {mm s d zn : Nat} (hV : VP a mm) (hd : d < mm) (hz : zn ≤ 24) (hc : ∀ k, k < 24 → ce (24 * s + k) = (-1000000005) ∨ (-99999 ≤ ce (24 * s + k) ∧ ce (24 * s + k) ≤ 99999)) (r : Nat) (hr : r ≤ 9) : A_off (up a (7 + 8 * d + 1) (nI r)) (fun k => ce (24 * s + k)) d (min 6 zn) ≤ 600600 := by
  have hm := hV.1.1
  have h := off_bd (VP_rate hV hr (show d < 6 by omega)) hd (min 6 zn) (fun j hj => hc j (by omega))
  have h6 : min 6 zn ≤ 6 := Nat.min_le_left _ _
  have : min 6 zn * 100100 ≤ 6 * 100100 := Nat.mul_le_mul_right _ h6
  omega
theorem rt_cap (f : Nat → Nat) : ∀ n, n ≤ 9 → A_rt f n = A_rt (fun r => if r ≤ 9 then f r else 0) n
  | 0, h => rfl
  | n + 1, h => by
    unfold A_rt
    rw [← rt_cap f n (by omega)]
    simp only [if_pos h]
theorem c_X7_rated {l : Launch} {G : Gt} {M : Mm} {s d w : Int32} {a : Rw} {mm : Nat} (hV : VP a mm) (hR : RW M 70 a Sall mm) (hL : RLw M a) {so sz ce : Rw} (hS : RS M so sz ce) (hVS : VS so sz ce) : Runs l G true dm_X7_rated 7 127 [.ref 0, .int s, .int d, .int w] M 127 (Pi (fun r M1 => r = F_rated a so sz ce s d w ∧ ∀ q, ¬ (92 ≤ q ∧ q < 103) → M1 q = M q)) := by
  refine mx_run ow_X7_rated rfl rfl (fun dp X hdp R => ?_)
  have hm6 := hV.1.1
  have h4m : M 70 4 = nI mm := hR.2.1.trans hR.1
  have hDD : ∀ d, d < mm → ∀ f, f < 8 → M (70 + 5 + d) f = a (7 + 8 * d + f) := fun d hd f hf => hR.2.2.2.2.2.2.2.2.2 d hd rfl f hf
  have hisD : ∀ v, isD a v = f_in v 0 (nI mm - 1) := fun v => by rw [isD, hR.1]
  refine R.b bk_X7_rated_0 ?_
  refine R.V1i kc_X7_rated_2 (by first | rfl | assumption | exact (kd_sh (by omega)).1 | exact (kd_sh (by omega)).2.1 | exact kdE KW_70 (by omega) | exact KW_70.2.2.2.2.2.2.2.2.1 _ (by omega) | exact kdE KW_92 (by omega) | exact KW_92.2.2.2.2.2.2.2.2.1 _ (by omega)) (c_X7_isSheet) (by omega) rfl ⟨Nat.le_refl _, Nat.le_refl _⟩ (fun x2 M2 q2 => ?_)
  obtain ⟨rfl, q2⟩ := q2
  replace q2 := q2.symm
  subst q2
  refine R.c br_X7_rated_5 (And.intro (fun h5 => ?_) (fun h5 => ?_))
  · refine R.b bk_X7_rated_28 ?_
    refine R.ri rt_X7_rated_30 rfl ⟨_, rfl, ?_⟩
    exact ⟨by rw [F_rated, hisD, if_pos (by simp_all)], fun q _ => rfl⟩
  · refine R.b bk_X7_rated_8 (And.intro (by first | rfl | assumption | exact (kd_sh (by omega)).1 | exact (kd_sh (by omega)).2.1 | exact kdE KW_70 (by omega) | exact KW_70.2.2.2.2.2.2.2.2.1 _ (by omega) | exact kdE KW_92 (by omega) | exact KW_92.2.2.2.2.2.2.2.2.1 _ (by omega)) ?_)
    refine R.V1i kc_X7_rated_13 (by first | rfl | assumption | exact (kd_sh (by omega)).1 | exact (kd_sh (by omega)).2.1 | exact kdE KW_70 (by omega) | exact KW_70.2.2.2.2.2.2.2.2.1 _ (by omega) | exact kdE KW_92 (by omega) | exact KW_92.2.2.2.2.2.2.2.2.1 _ (by omega)) (c_X6_has KW_70 hm6 h4m) (by omega) rfl ⟨Nat.le_refl _, Nat.le_refl _⟩ (fun x13 M13 q13 => ?_)
    obtain ⟨rfl, q13⟩ := q13
    replace q13 := q13.symm
    subst q13
    refine R.c br_X7_rated_16 (And.intro (fun h16 => ?_) (fun h16 => ?_))
    · refine R.b bk_X7_rated_28 ?_
      refine R.ri rt_X7_rated_30 rfl ⟨_, rfl, ?_⟩
      exact ⟨by rw [F_rated, hisD, if_pos (by simp_all)], fun q _ => rfl⟩
    · refine R.b bk_X7_rated_19 ?_
      refine R.S3i kc_X7_rated_22 (c_X7_within) (by omega) rfl ⟨Nat.le_refl _, Nat.le_refl _⟩ (fun x22 M22 q22 => ?_)
      obtain ⟨rfl, q22⟩ := q22
      replace q22 := q22.symm
      subst q22
      refine R.c br_X7_rated_25 (And.intro (fun h25 => ?_) (fun h25 => ?_))
      · obtain ⟨sn, hsn, rfl⟩ := f_in_nat (n := 3) (by decide) h5
        have hcsn : cN (nI sn) = sn := cN_nI (by omega)
        obtain ⟨g0, g1, g2⟩ := hS sn (by omega)
        obtain ⟨v0, ⟨zn, hzn, ez⟩, v2⟩ := hVS sn (by omega)
        have h1n : M (42 + 2 * sn) 1 = nI zn := g1.trans ez
        obtain ⟨dn, hdn, rfl⟩ := f_in_dist (by omega) rfl h16
        have hcdn : cN (nI dn) = dn := cN_nI (by omega)
        refine R.b bk_X7_rated_31 (And.intro (by first | rfl | assumption | exact (kd_sh (by omega)).1 | exact (kd_sh (by omega)).2.1 | exact kdE KW_70 (by omega) | exact KW_70.2.2.2.2.2.2.2.2.1 _ (by omega) | exact kdE KW_92 (by omega) | exact KW_92.2.2.2.2.2.2.2.2.1 _ (by omega)) (And.intro ⟨by decide, by decide, rfl⟩ (And.intro (by first | rfl | assumption | exact (kd_sh (by omega)).1 | exact (kd_sh (by omega)).2.1 | exact kdE KW_70 (by omega) | exact KW_70.2.2.2.2.2.2.2.2.1 _ (by omega) | exact kdE KW_92 (by omega) | exact KW_92.2.2.2.2.2.2.2.2.1 _ (by omega)) (And.intro (by exact vp_in_nI (show sn < 4 by omega) (by decide)) ?_))))
        rw [el15 (show sn < 4 by omega)]
        refine R.V0i kc_X7_rated_41 (by first | rfl | assumption | exact (kd_sh (by omega)).1 | exact (kd_sh (by omega)).2.1 | exact kdE KW_70 (by omega) | exact KW_70.2.2.2.2.2.2.2.2.1 _ (by omega) | exact kdE KW_92 (by omega) | exact KW_92.2.2.2.2.2.2.2.2.1 _ (by omega)) (c_X4_isMissing (q := 42 + 2 * sn) (kd_sh (by omega)).1) (by omega) rfl ⟨Nat.le_refl _, Nat.le_refl _⟩ (fun x41 M41 q41 => ?_)
        obtain ⟨e41, q41⟩ := q41
        replace q41 := q41.symm
        subst q41
        rw [g0] at e41
        subst e41
        refine R.c br_X7_rated_44 (And.intro (fun h44 => ?_) (fun h44 => ?_))
        · have hn0 : ¬ so sn < 0 := miss_0 v0 h44
          have hnb : ¬ (f_in (nI sn) 0 3 = 0 ∨ isD a (nI dn) = 0 ∨ f_in w 0 1 = 0) := by rw [hisD]; exact fun q => q.elim h5 (fun q => q.elim h16 h25)
          obtain ⟨F, hF0⟩ : ∃ F : Nat → Nat, F = fun r => if r ≤ 9 then f_offs a sz ce sn dn r else 0 := ⟨_, rfl⟩
          have hoff : ∀ r, f_offs a sz ce sn dn r = A_off (up a (7 + 8 * dn + 1) (nI r)) (fun k => ce (24 * sn + k)) dn (min 6 zn) := fun r => by rw [f_offs, ez, cN_nI (by omega)]
          have hFb : ∀ r, F r ≤ 600600 := fun r => by
            rw [hF0]
            by_cases h9 : r ≤ 9
            · simp only [if_pos h9]
              rw [hoff]
              exact offs_bd (so := so) (sz := sz) hV hdn hzn v2 r h9
            · simp only [if_neg h9]
              omega
          have hFr : ∀ r, r ≤ 9 → A_off (up a (7 + 8 * dn + 1) (nI r)) (fun k => ce (24 * sn + k)) dn (min 6 zn) = F r := fun r h9 => by
            rw [hF0]
            simp only [if_pos h9]
            rw [hoff]
          have hFF : F_rated a so sz ce (nI sn) (nI dn) w = if w = 0 then nI (A_rt F 9).1 else nI (A_rt F 9).2 := by
            rw [F_rated, if_neg hnb, hcsn, if_neg hn0, hcdn, rt_cap (f_offs a sz ce sn dn) 9 (by decide), hF0]
          have hA : ∀ (fu i : Nat) (M1 : Mm) (c8 : Option Value), 9 - i = fu → i ≤ 9 → (∀ q, ¬ (92 ≤ q ∧ q < 103) → M1 q = M q) → X 127 M1 66 [some (.ref 0), some (.int (nI sn)), some (.int (nI dn)), some (.int w), some (.ref (42 + 2 * sn)), some (.int (nI (A_rt F i).1)), some (.int (nI (A_rt F i).2)), some (.int (nI (i + 1))), c8] [] := by
            intro fu
            induction fu with
            | zero =>
              intro i M1 c8 hfu hi hI1
              have hiN : i = 9 := by omega
              refine R.b bk_X7_rated_66 ?_
              refine R.c br_X7_rated_70 (And.intro (fun h70 => ?_) (fun h70 => absurd (by rw [hiN]; decide) h70))
              refine R.b bk_X7_rated_105 ?_
              refine R.c br_X7_rated_106 (And.intro (fun h106 => ?_) (fun h106 => ?_))
              · refine R.b bk_X7_rated_114 ?_
                refine R.ri rt_X7_rated_116 rfl ⟨_, rfl, ?_⟩
                refine ⟨?_, hI1⟩
                rw [hiN, hFF]
                first | (rw [if_pos h106]; done) | (rw [if_neg h106]; done)
              · refine R.b bk_X7_rated_109 ?_
                refine R.j gt_X7_rated_111 ?_
                refine R.ri rt_X7_rated_116 rfl ⟨_, rfl, ?_⟩
                refine ⟨?_, hI1⟩
                rw [hiN, hFF]
                first | (rw [if_pos h106]; done) | (rw [if_neg h106]; done)
            | succ fu ih =>
              intro i M1 c8 hfu hi hI1
              have hlt : i < 9 := by omega
              refine R.b bk_X7_rated_66 ?_
              refine R.c br_X7_rated_70 (And.intro (fun h70 => absurd h70 (nI_nlt (a := 9) (b := i + 1) (by omega) (by decide))) (fun h70 => ?_))
              refine R.b bk_X7_rated_73 ?_
              refine R.V3i kc_X7_rated_79 (by first | rfl | assumption | exact (kd_sh (by omega)).1 | exact (kd_sh (by omega)).2.1 | exact kdE KW_70 (by omega) | exact KW_70.2.2.2.2.2.2.2.2.1 _ (by omega) | exact kdE KW_92 (by omega) | exact KW_92.2.2.2.2.2.2.2.2.1 _ (by omega)) (c_X7_differences (b := up a (7 + 8 * dn + 1) (nI (i + 1))) (c := fun k => ce (24 * sn + k)) (r := i + 1) hV (RW_frame hm6 hR (fun q hq => hI1 q (by omega))) (RLw_congr (fun q q1 q2 => hI1 q (by omega)) (fun _ _ => rfl) (T14 hV.1.2.2.1) hL) (ce := ce) (so := so) (sz := sz) (show sn < 4 by omega) hzn (by rw [hI1 _ (by omega)]; exact h1n) (fun k hk => by rw [hI1 _ (by omega)]; exact g2 k hk) v2 rfl rfl hdn (by omega)) (by omega) rfl ⟨Nat.le_refl _, Nat.le_refl _⟩ (fun x79 M79 q79 => ?_)
              obtain ⟨rfl, f79⟩ := q79
              refine R.b bk_X7_rated_82 ?_
              have eF : A_off (up a (7 + 8 * dn + 1) (nI (i + 1))) (fun k => ce (24 * sn + k)) dn (min 6 zn) = F (i + 1) := hFr (i + 1) (by omega)
              rw [eF]
              refine R.c br_X7_rated_88 (And.intro (fun h88 => ?_) (fun h88 => ?_))
              · refine R.b bk_X7_rated_99 ?_
                refine R.j gt_X7_rated_102 ?_
                rw [nI_inc]
                have hx := ih (i + 1) M79 (some (.int (nI (F (i + 1))))) (by omega) (by omega) (fun q hq => by rw [f79 q hq]; exact hI1 q hq)
                rw [show A_rt F (i + 1) = A_rt F i by rw [A_rt, if_neg (fun q => absurd h88 (nI_ge q (by have := hFb; have := A_rt_le F 600600 hFb i; omega)))]] at hx
                exact hx
              · refine R.b bk_X7_rated_91 ?_
                refine R.b bk_X7_rated_99 ?_
                refine R.j gt_X7_rated_102 ?_
                rw [nI_inc]
                have hx := ih (i + 1) M79 (some (.int (nI (F (i + 1))))) (by omega) (by omega) (fun q hq => by rw [f79 q hq]; exact hI1 q hq)
                rw [show A_rt F (i + 1) = (i + 1, F (i + 1)) by rw [A_rt, if_pos (nI_lt8 (by have := hFb (i + 1); omega) (by have := A_rt_le F 600600 hFb i; omega) h88)]] at hx
                exact hx
          refine R.b bk_X7_rated_50 ?_
          refine R.V3i kc_X7_rated_58 (by first | rfl | assumption | exact (kd_sh (by omega)).1 | exact (kd_sh (by omega)).2.1 | exact kdE KW_70 (by omega) | exact KW_70.2.2.2.2.2.2.2.2.1 _ (by omega) | exact kdE KW_92 (by omega) | exact KW_92.2.2.2.2.2.2.2.2.1 _ (by omega)) (c_X7_differences (b := up a (7 + 8 * dn + 1) (nI (0))) (c := fun k => ce (24 * sn + k)) (r := 0) hV hR hL (ce := ce) (so := so) (sz := sz) (show sn < 4 by omega) hzn (by rw [(show ∀ q, True → M q = M q from fun _ _ => rfl) _ trivial]; exact h1n) (fun k hk => by rw [(show ∀ q, True → M q = M q from fun _ _ => rfl) _ trivial]; exact g2 k hk) v2 rfl rfl hdn (by omega)) (by omega) rfl ⟨Nat.le_refl _, Nat.le_refl _⟩ (fun x58 M58 q58 => ?_)
          obtain ⟨rfl, f58⟩ := q58
          refine R.b bk_X7_rated_61 ?_
          rw [hFr 0 (by decide)]
          exact hA 9 0 M58 none rfl (by decide) f58
        · refine R.b bk_X7_rated_47 ?_
          refine R.ri rt_X7_rated_49 rfl ⟨_, rfl, ?_⟩
          have hnb : ¬ (f_in (nI sn) 0 3 = 0 ∨ isD a (nI dn) = 0 ∨ f_in w 0 1 = 0) := by rw [hisD]; exact fun q => q.elim h5 (fun q => q.elim h16 h25)
          exact ⟨by rw [F_rated, if_neg hnb, hcsn, if_pos (miss_1 v0 h44)], fun q _ => rfl⟩
      · refine R.b bk_X7_rated_28 ?_
        refine R.ri rt_X7_rated_30 rfl ⟨_, rfl, ?_⟩
        exact ⟨by rw [F_rated, hisD, if_pos (by simp_all)], fun q _ => rfl⟩
