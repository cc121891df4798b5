/-! text and feed of the class -/
theorem text_wf {tp kc rm : Rw} {n : Nat} {p : Int32} {C : List Int32} {at_ : Nat} (h : R_text tp kc n rm = (p, some (C, at_))) : ky0 tp kc n ≤ 2 ∧ wfR (nnK (ky0 tp kc n)) C ∧ 1 ≤ dlR C := by
  unfold R_text at h
  split at h
  · rename_i hc
    exact ⟨by omega, E_wf (ky := ky0 tp kc n) (by omega) (n + 1) true (tk1 tp n rm (ky0 tp kc n)) [] [] 0 [false] 0 (nxt_ok _ _ _) (fun w hw => absurd hw List.not_mem_nil) (show wfR _ [] from trivial) rfl p C at_ h⟩
  · exact absurd (congrArg Prod.snd h) (by simp)
theorem VT_at {a : Rw} {T t : Nat} (hV : VT a) (h6 : a 6 = nI T) (ht : t < T) (hT : T ≤ 14 := by omega) : ∃ k n, k ≤ 2 ∧ n ≤ 96 ∧ a (55 + 2 * t) = nI (1000 * k + n) ∧ WFc (fun j => a (83 + 96 * t + j)) n (nnK k) := by
  obtain ⟨T', hT', h6', h⟩ := hV
  have e : T' = T := (nI_eq (by omega) (by omega)).mp (h6'.symm.trans h6)
  exact h t (by omega)
theorem c_X6_addLaw {l : Launch} {G : Gt} {M : Mm} {a : Rw} {mm T ky at_ : Nat} {C : List Int32} (hV : VP a mm) (hR : RW M 70 a Sall mm) (hL : RLw M a) (h6 : a 6 = nI T) (hT : T < 14) (hky : ky ≤ 2) (h96 : C.length ≤ 96) (hw : wfR (nnK ky) C) (d0 : M 6 0 = nI ky) (d1 : M 6 1 = nI at_) (d2 : M 6 2 = nI C.length) (hst : stR (M 7) (C.map f_st)) : Runs l G true dm_X6_addLaw 2 127 [.ref 70, .ref 6] M 127 (Pi (fun x M1 => x = nI T ∧ RW M1 70 (A_text a T ky C at_) Sall mm ∧ RLw M1 (A_text a T ky C at_) ∧ ∀ q, q ≠ 70 → q ≠ 72 → q ≠ 14 + 2 * T → q ≠ 14 + 2 * T + 1 → M1 q = M q)) := by
  refine mx_run ow_X6_addLaw rfl rfl (fun dp X hdp R => ?_)
  have hm6 := hV.1.1
  have e10 : M 70 10 = nI T := hR.2.2.2.2.2.2.2.1.trans h6
  have ec : mx_el 14 13 (M 70 (394 % 64)).toNatClampNeg = 14 + 2 * T := by
    rw [show M 70 (394 % 64) = nI T from e10]
    exact el14 hT
  have kt := kd_law hT
  obtain ⟨r1, r4, r5, r6, r7, r8, r9, r10, rc, rD⟩ := id hR
  refine R.b bk_X6_addLaw_0 (And.intro (by first | rfl | assumption | exact kt.1) (And.intro (by first | rfl | assumption | exact kt.1) (And.intro ⟨14, by decide, by decide, rfl⟩ ?_)))
  refine R.c br_X6_addLaw_11 (And.intro (fun h11 => ?_) (fun h11 => absurd (show M 70 10 < nI 14 by rw [e10]; exact nI_lt hT (by decide)) h11))
  refine R.b bk_X6_addLaw_17 (And.intro (by first | rfl | assumption | exact kt.1) (And.intro ⟨by decide, by decide, rfl⟩ (And.intro (by first | rfl | assumption | exact kt.1) (And.intro (by exact vp_n (show M 70 10 = nI T from e10) (show T < 14 from hT) (by decide)) ?_))))
  rw [ec]
  refine R.V1v kc_X6_addLaw_24 (by first | rfl | assumption | exact kt.1) (c_X1_becomeLike (q := 14 + 2 * T) (q2 := 6) kt.1 rfl kt.2.1 kt.2.2 rfl rfl (by omega)) (by omega) rfl ⟨Nat.le_refl _, Nat.le_refl _⟩ (fun M24 q24 => ?_)
  obtain ⟨q1, q2, q3⟩ := q24
  refine R.b bk_X6_addLaw_27 (And.intro (by first | rfl | assumption | exact kt.1) (And.intro (by first | rfl | assumption | exact kt.1) (And.intro (by first | rfl | assumption | exact kt.1) (And.intro (by exact vp_n (show M24 6 0 = nI ky by rw [q3 6 (by omega) (by omega)]; exact d0) (show ky < 3 by omega) (by decide)) (And.intro (by first | rfl | assumption | exact kt.1) (And.intro (by first | rfl | assumption | exact kt.1) (And.intro rfl (And.intro rfl ?_))))))))
  refine R.ri rt_X6_addLaw_48 rfl ⟨_, rfl, ?_⟩
  have e6k : (M24 6 0).toNatClampNeg = ky := by rw [q3 6 (by omega) (by omega), d0]; exact nI_clamp (by omega)
  have e72 : mx_wr M24 72 (M24 6 0).toNatClampNeg (M 70 10) = mx_wr M24 72 ky (nI T) := by rw [e6k, e10]
  have f72 : ∀ q, q ≠ 72 → mx_wr M24 72 ky (nI T) q = M24 q := fun q hq => mx_wr_ne hq
  show (M 70 10 = nI T) ∧ RW (mx_wr (mx_wr M24 72 (M24 6 0).toNatClampNeg (M 70 10)) 70 10 (mx_wr M24 72 (M24 6 0).toNatClampNeg (M 70 10) 70 10 + 1)) 70 (A_text a T ky C at_) Sall mm ∧ RLw (mx_wr (mx_wr M24 72 (M24 6 0).toNatClampNeg (M 70 10)) 70 10 (mx_wr M24 72 (M24 6 0).toNatClampNeg (M 70 10) 70 10 + 1)) (A_text a T ky C at_) ∧ ∀ q, q ≠ 70 → q ≠ 72 → q ≠ 14 + 2 * T → q ≠ 14 + 2 * T + 1 → mx_wr (mx_wr M24 72 (M24 6 0).toNatClampNeg (M 70 10)) 70 10 (mx_wr M24 72 (M24 6 0).toNatClampNeg (M 70 10) 70 10 + 1) q = M q
  rw [e72, f72 70 (by decide), show M24 70 10 = nI T by rw [q3 70 (by omega) (by omega)]; exact e10, nI_1]
  obtain ⟨N, hN⟩ : ∃ N, N = mx_wr (mx_wr M24 72 ky (nI T)) 70 10 (nI (T + 1)) := ⟨_, rfl⟩
  rw [← hN]
  have n70 : ∀ j, j ≠ 10 → N 70 j = M 70 j := fun j hj => by rw [hN, mx_wr_up, mx_rw_at, up_ne hj, f72 70 (by decide), q3 70 (by omega) (by omega)]
  have nq : ∀ q, q ≠ 70 → q ≠ 72 → N q = M24 q := fun q h1 h2 => by rw [hN, mx_wr_ne h1, f72 q h2]
  have ak : ∀ j, j ≠ 6 → j < 55 → A_text a T ky C at_ j = a j := fun j h1 h2 => A_text_keep h1 (by omega) (by omega) (by omega)
  refine ⟨e10, ⟨by rw [ak 1 (by decide) (by decide)]; exact r1, ?_, ?_, ?_, ?_, ?_, ?_, ?_, ?_, ?_⟩, ?_, ?_⟩
  · rw [n70 4 (by decide), ak 1 (by decide) (by decide)]; exact r4
  · rw [n70 5 (by decide), ak 2 (by decide) (by decide)]; exact r5
  · rw [n70 6 (by decide), ak 3 (by decide) (by decide)]; exact r6
  · rw [n70 7 (by decide), ak 4 (by decide) (by decide)]; exact r7
  · rw [n70 8 (by decide), ak 5 (by decide) (by decide)]; exact r8
  · rw [n70 9 (by decide), ak 0 (by decide) (by decide)]; exact r9
  · rw [hN, mx_wr_up, mx_rw_at, up_at, A_text, if_pos rfl]
  · intro k hk
    rw [cnt_text h6 hT hky h96]
    have e : N (70 + 2) k = mx_wr M24 72 ky (nI T) 72 k := by rw [hN, mx_wr_ne (by decide)]
    rw [e, mx_wr_up, mx_rw_at]
    by_cases hkk : k = ky
    · rw [hkk, up_at, if_pos rfl]
    · rw [up_ne hkk, if_neg (fun e2 => hkk ((nI_eq (by omega) (by omega)).mp e2).symm), q3 72 (by omega) (by omega)]
      exact rc k hk
  · intro d hd _ f hf
    rw [nq _ (by omega) (by omega), q3 _ (by omega) (by omega), ak _ (by omega) (by omega)]
    exact rD d hd rfl f hf
  · intro t ht
    rw [show A_text a T ky C at_ 6 = nI (T + 1) by unfold A_text; rw [if_pos rfl], cN_nI (by omega)] at ht
    by_cases htT : t = T
    · subst htT
      have e55 : A_text a t ky C at_ (55 + 2 * t) = nI (1000 * ky + C.length) := by
        unfold A_text
        rw [if_neg (by omega), if_pos rfl]
      have e56 : A_text a t ky C at_ (56 + 2 * t) = nI at_ := by
        unfold A_text
        rw [if_neg (by omega), if_neg (by omega), if_pos rfl]
      have erem : f_rem (A_text a t ky C at_ (55 + 2 * t)) 1000 = nI C.length := by
        rw [f_rem, e55, show (1000 : Int32) = nI 1000 from rfl, pk_rem (by omega) (by decide) (by decide)]
        congr 1
        omega
      have el : ∀ j, j < 3 → N (14 + 2 * t) j = M 6 j := fun j hj => by rw [nq _ (by omega) (by omega), q1, cut, if_pos hj]
      refine ⟨?_, ?_, ?_, ?_⟩
      · rw [el 0 (by decide), e55, d0, show (1000 : Int32) = nI 1000 from rfl, pk_div (by omega) (by decide) (by decide)]
        congr 1
        omega
      · rw [el 1 (by decide), e56, d1]
      · rw [el 2 (by decide), erem, d2]
      · intro j hj
        rw [erem, cN_nI (by omega)] at hj
        rw [nq _ (by omega) (by omega), q2 j (by omega), A_text_code hT h96 hj]
        exact ⟨stR_cd hst hj, (wf_list C hw j hj).1⟩
    · have hTn : cN (a 6) = T := by rw [h6]; exact cN_nI (by omega)
      obtain ⟨g1, g2, g3, g4⟩ := hL t (by omega)
      rw [LawR, nq _ (by omega) (by omega), nq _ (by omega) (by omega), q3 _ (by omega) (by omega), q3 _ (by omega) (by omega), A_text_keep (show 55 + 2 * t ≠ 6 by omega) (by omega) (by omega) (by omega), A_text_keep (show 56 + 2 * t ≠ 6 by omega) (by omega) (by omega) (by omega)]
      refine ⟨g1, g2, g3, fun j hj => ?_⟩
      obtain ⟨k, n, k1, k2, k3, k4⟩ := VT_at hV.1.2.2.1 h6 (show t < T by omega)
      have hjn : j < 96 := by
        rw [f_rem, k3, show (1000 : Int32) = nI 1000 from rfl, pk_rem (by omega) (by decide) (by decide), cN_nI (by omega)] at hj
        omega
      rw [A_text_keep (by omega) (by omega) (by omega) (by omega)]
      exact g4 j hj
  · intro q h1 h2 h3 h4
    rw [nq q h1 h2, q3 q h3 h4]
/-- what text leaves, on the class's side -/
def T_cl (M : Mm) (a : Rw) (mm T : Nat) (R : Rn_) (ky : Nat) (x : Int32) (M1 : Mm) : Prop := M1 0 = up (M 0) 6 0 ∧ (∀ q, q ≠ 0 → q ≠ 2 → q ≠ 6 → q ≠ 7 → q ≠ 70 → q ≠ 72 → (T < 14 → q ≠ 14 + 2 * T) → (T < 14 → q ≠ 14 + 2 * T + 1) → M1 q = M q) ∧ (R.2 = none → x = -100 - R.1 ∧ RW M1 70 a Sall mm ∧ RLw M1 a) ∧ (∀ C at_, R.2 = some (C, at_) → ky ≤ 2 ∧ C.length ≤ 96 ∧ wfR (nnK ky) C ∧ 1 ≤ dlR C ∧ (T = 14 → x = (-1000000003) ∧ RW M1 70 a Sall mm ∧ RLw M1 a) ∧ (T < 14 → x = nI T ∧ RW M1 70 (A_text a T ky C at_) Sall mm ∧ RLw M1 (A_text a T ky C at_)))
theorem c_X7_text {l : Launch} {G : Gt} {M : Mm} {tp kc rm : Rw} {n T : Nat} {a : Rw} {mm : Nat} (hV : VP a mm) (hR : RW M 70 a Sall mm) (hL : RLw M a) (ht : ∀ k, k < 96 → (M 1 k &&& 255) = tp k) (hn : n ≤ 96) (htl : M 0 6 = nI n) (hkc : keysOK kc) (h6 : a 6 = nI T) (hT : T ≤ 14) : Runs l G true dm_X7_text 181 127 [.ref 0] M 127 (Pi (T_cl M a mm T (R_text tp kc n rm) (ky0 tp kc n))) := by
  refine mx_run ow_X7_text rfl rfl (fun dp X hdp R => ?_)
  have hm6 := hV.1.1
  have hT14 := T14 hV.1.2.2.1
  rw [h6, cN_nI (by omega)] at hT14
  refine R.b bk_X7_text_0 (And.intro (by rfl) (And.intro (by rfl) (And.intro (by rfl) (And.intro (by rfl) ?_))))
  show X 127 M 16 (mx_L0 dm_X7_text [Value.ref 0]) [.ref 6, .int (M 0 6), .ref 1, .ref 2]
  rw [htl]
  refine R.V3i kc_X7_text_16 (by rfl) (c_X2_understands (kc := kc) (rm := rm) ht hn hkc) (by omega) rfl ⟨Nat.le_refl _, Nat.le_refl _⟩ (fun x16 M16 q16 => ?_)
  obtain ⟨r1, d1, st1, rfl, hU⟩ := q16
  have fr : ∀ q, q ≠ 0 → q ≠ 2 → q ≠ 6 → q ≠ 7 → mx_wr (S3 M r1 d1 st1) 0 6 0 q = M q := fun q h0 h2 h6 h7 => by rw [mx_wr_ne h0, S3_ne h2 h6 h7]
  have f0 : mx_wr (S3 M r1 d1 st1) 0 6 0 0 = up (M 0) 6 0 := by rw [mx_wr_up, mx_rw_at, S3_ne (by decide) (by decide) (by decide)]
  have hR2 : RW (mx_wr (S3 M r1 d1 st1) 0 6 0) 70 a Sall mm := RW_frame hm6 hR (fun q hq => fr q (by omega) (by omega) (by omega) (by omega))
  have hL2 : RLw (mx_wr (S3 M r1 d1 st1) 0 6 0) a := RLw_congr (fun q q1 q2 => fr q (by omega) (by omega) (by omega) (by omega)) (fun _ _ => rfl) (T14 hV.1.2.2.1) hL
  rcases hU with ⟨rfl, hRn⟩ | ⟨rfl, hky2, C, at_, p, hRs, h96, e0, e1, e2, est⟩
  · refine R.b bk_X7_text_19 (And.intro (by rfl) (And.intro rfl (And.intro rfl ?_)))
    refine R.c br_X7_text_26 (And.intro (fun h26 => absurd rfl h26) (fun h26 => ?_))
    refine R.b bk_X7_text_29 (And.intro (by rfl) (And.intro (by rfl) ?_))
    refine R.ri rt_X7_text_39 rfl ⟨_, rfl, ?_⟩
    refine ⟨f0, fun q h0 h2 h6 h7 _ _ _ _ => fr q h0 h2 h6 h7, fun _ => ⟨?_, hR2, hL2⟩, fun C at_ e => ?_⟩
    · rw [hRn]
      show -100 - mx_wr (S3 M r1 d1 st1) 0 6 0 2 4 = -100 - r1 4
      rw [mx_wr_ne (by decide), S3_2]
    · rw [hRn] at e
      exact absurd e (by simp)
  · obtain ⟨-, hwf, hdl⟩ := text_wf hRs
    have e10 : mx_wr (S3 M r1 d1 st1) 0 6 0 70 (394 % 64) = nI T := by rw [fr 70 (by decide) (by decide) (by decide) (by decide)]; exact hR.2.2.2.2.2.2.2.1.trans h6
    refine R.b bk_X7_text_19 (And.intro (by rfl) (And.intro rfl (And.intro rfl ?_)))
    refine R.c br_X7_text_26 (And.intro (fun h26 => ?_) (fun h26 => absurd h26 (by decide)))
    refine R.b bk_X7_text_40 (And.intro (by rfl) (And.intro (by rfl) ?_))
    refine R.c br_X7_text_49 (And.intro (fun h49 => ?_) (fun h49 => ?_))
    · have hTl : T < 14 := by
        rw [e10] at h49
        exact (nI_ltI (b := 14) (by omega) (by decide)).mp h49
      refine R.b bk_X7_text_55 (And.intro (by rfl) (And.intro (by rfl) ?_))
      refine R.V1i kc_X7_text_63 (by rfl) (c_X6_addLaw (T := T) (ky := ky0 tp kc n) (at_ := at_) (C := C) hV hR2 hL2 h6 hTl hky2 h96 hwf (by rw [mx_wr_ne (by decide), S3_6]; exact e0) (by rw [mx_wr_ne (by decide), S3_6]; exact e1) (by rw [mx_wr_ne (by decide), S3_6]; exact e2) (by rw [mx_wr_ne (by decide), S3_7]; exact est)) (by omega) rfl ⟨Nat.le_refl _, Nat.le_refl _⟩ (fun x63 M63 q63 => ?_)
      obtain ⟨rfl, r63, l63, f63⟩ := q63
      refine R.ri rt_X7_text_66 rfl ⟨_, rfl, ?_⟩
      refine ⟨?_, fun q h0 h2 h6 h7 h70 h72 ha hb => ?_, fun e => ?_, fun C2 at2 e => ?_⟩
      · rw [f63 0 (by decide) (by decide) (by omega) (by omega)]; exact f0
      · rw [f63 q h70 h72 (ha hTl) (hb hTl)]; exact fr q h0 h2 h6 h7
      · rw [hRs] at e
        exact absurd e (by simp)
      · rw [hRs] at e
        obtain ⟨rfl, rfl⟩ := Prod.mk.inj (Option.some.inj e)
        exact ⟨hky2, h96, hwf, hdl, fun hh => absurd hTl (by omega), fun _ => ⟨rfl, r63, l63⟩⟩
    · refine R.b bk_X7_text_52 ?_
      refine R.ri rt_X7_text_54 rfl ⟨_, rfl, ?_⟩
      refine ⟨f0, fun q h0 h2 h6 h7 _ _ _ _ => fr q h0 h2 h6 h7, fun e => ?_, fun C2 at2 e => ?_⟩
      · rw [hRs] at e
        exact absurd e (by simp)
      · rw [hRs] at e
        obtain ⟨rfl, rfl⟩ := Prod.mk.inj (Option.some.inj e)
        refine ⟨hky2, h96, hwf, hdl, fun _ => ⟨rfl, hR2, hL2⟩, fun hh => ?_⟩
        exact absurd (by rw [e10]; exact nI_lt (b := 14) hh (by decide)) h49
