/-! the key of a text -/
def sm (tp kc : Rw) (s at0 : Nat) (b0 : Bool) : Nat → Bool
  | 0 => b0
  | i + 1 => sm tp kc s at0 b0 i && decide (tp (s + i) = kc (at0 + i))
theorem sm_f {tp kc : Rw} {s at0 : Nat} {b0 : Bool} {i : Nat} (h : sm tp kc s at0 b0 i = false) : ∀ j, sm tp kc s at0 b0 (i + j) = false
  | 0 => h
  | j + 1 => by rw [← Nat.add_assoc, sm, sm_f h j]; rfl
theorem sm_b {tp kc : Rw} {s at0 : Nat} {b0 : Bool} : ∀ i, sm tp kc s at0 b0 i = true → b0 = true
  | 0, h => h
  | i + 1, h => by
    rw [sm, Bool.and_eq_true] at h
    exact sm_b i h.1
def sW (tp kc : Rw) (s q at0 ln : Nat) : Bool := sm tp kc s at0 (decide (q - s = ln)) ln
def f_key (tp kc : Rw) (s q : Nat) : Nat := if sW tp kc s q 0 5 = true then 0 else if sW tp kc s q 5 4 = true then 1 else if sW tp kc s q 9 4 = true then 2 else 3
theorem c_X8_takesKey {l : Launch} {G : Gt} {M : Mm} {a c w t : Rw} {n s q : Nat} (hn : n ≤ 96) (h8 : a 8 = nI n) (hT : TKV n a s q) (hk0 : M 112 0 = nI 0) (hk1 : M 112 1 = nI 5) (hk2 : M 112 2 = nI 9) (hk3 : M 112 3 = nI 13) : Runs l G true dm_X8_takesKey 2 127 [.ref 103] (S4 M a c w t) 127 (Pi (fun x M1 => (¬ (a 11 = 1 ∧ f_key (M 110) (M 111) s q < 3) → x = 0 ∧ M1 = (S4 M a c w t)) ∧ (a 11 = 1 ∧ f_key (M 110) (M 111) s q < 3 → x = 1 ∧ M1 = S4 M (nxt (M 110) n (up a 14 (nI (f_key (M 110) (M 111) s q)))) c w t))) := by
  refine mx_run ow_X8_takesKey rfl rfl (fun dp X hdp R => ?_)
  by_cases h11 : a 11 = 1
  · have h12_3 : sW (M 110) (M 111) s q 0 5 = false → sW (M 110) (M 111) s q 5 4 = false → sW (M 110) (M 111) s q 9 4 = false → ∀ c2 c3 c4, X 127 (S4 M a c w t) 12 [some (.ref 103), some (.int 3), c2, c3, c4] [] := by
      intro n0 n1 n2 c2 c3 c4
      refine R.b bk_X8_takesKey_12 ?_
      refine R.c br_X8_takesKey_14 (And.intro (fun h14 => ?_) (fun h14 => absurd (by decide) h14))
      refine R.b bk_X8_takesKey_127 ?_
      refine R.ri rt_X8_takesKey_128 rfl ⟨_, rfl, ?_⟩
      refine ⟨fun _ => ⟨rfl, rfl⟩, fun h => absurd h.2 ?_⟩
      rw [f_key, n0, n1, n2]
      decide
    have h12_2 : sW (M 110) (M 111) s q 0 5 = false → sW (M 110) (M 111) s q 5 4 = false → ∀ c2 c3 c4, X 127 (S4 M a c w t) 12 [some (.ref 103), some (.int 2), c2, c3, c4] [] := by
      intro n0 n1 c2 c3 c4
      have h106 : ∀ c4, X 127 (S4 M a c w t) 106 [some (.ref 103), some (.int 2), some (.int (nI 4)), some (.int (bI (sm (M 110) (M 111) s 9 (decide (q - s = 4)) 4))), some (.int c4)] [] := by
        intro c4
        refine R.b bk_X8_takesKey_106 ?_
        refine R.c br_X8_takesKey_107 (And.intro (fun h107 => ?_) (fun h107 => ?_))
        · refine R.b bk_X8_takesKey_121 ?_
          refine R.j gt_X8_takesKey_124 ?_
          exact h12_3 n0 n1 (bI_0 h107) _ _ _
        · refine R.b bk_X8_takesKey_110 (And.intro (by first | rfl | assumption) (And.intro rfl (And.intro rfl ?_)))
          have hS : sW (M 110) (M 111) s q 9 4 = true := bI_1 h107
          have ek : f_key (M 110) (M 111) s q = 2 := by rw [f_key, n0, if_neg (by decide), n1, if_neg (by decide), if_pos hS]
          have e110 : mx_wr (S4 M a c w t) 103 14 2 = S4 M (up a 14 (nI 2)) c w t := S4_a _ _ _ _ _ _ _
          refine Eq.mp (congrArg (fun m => X 127 m 116 [some (.ref 103), some (.int 2), some (.int (nI 4)), some (.int (bI (sm (M 110) (M 111) s 9 (decide (q - s = 4)) 4))), some (.int c4)] [.ref 103]) e110.symm) ?_
          refine R.V0v kc_X8_takesKey_116 (by first | rfl | assumption) (c_X8_go (n := n) (p := q) hn hT.2.2.2.1 h8 hT.2.1) (by omega) rfl ⟨Nat.le_refl _, Nat.le_refl _⟩ (fun M116 q116 => ?_)
          have e116 : M116 = S4 M (nxt (M 110) n (up a 14 (nI 2))) c w t := by
            refine q116.trans ((S4_103 _ _ _ _ _ _).trans ?_)
            rw [nxt, show cN (up a 14 (nI 2) 9) = q by rw [up_ne (by decide), hT.2.1]; exact cN_nI (by have := hT.2.2.2.1; omega)]
            rfl
          clear q116
          subst e116
          refine R.b bk_X8_takesKey_119 ?_
          refine R.ri rt_X8_takesKey_120 rfl ⟨_, rfl, ?_⟩
          refine ⟨fun h => absurd ⟨h11, by rw [ek]; decide⟩ h, fun _ => ⟨rfl, ?_⟩⟩
          rw [ek]
      have hA : ∀ (fu i : Nat), 4 - i = fu → i ≤ 4 → X 127 (S4 M a c w t) 55 [some (.ref 103), some (.int 2), some (.int (nI 4)), some (.int (bI (sm (M 110) (M 111) s 9 (decide (q - s = 4)) i))), some (.int (nI i))] [] := by
        intro fu
        induction fu with
        | zero =>
          intro i hfu hi
          have hiN : i = 4 := by omega
          subst hiN
          refine R.b bk_X8_takesKey_55 ?_
          refine R.c br_X8_takesKey_58 (And.intro (fun h58 => ?_) (fun h58 => absurd (nI_le (Nat.le_refl 4) (by decide)) h58))
          exact h106 _
        | succ fu ih =>
          intro i hfu hi
          refine R.b bk_X8_takesKey_55 ?_
          refine R.c br_X8_takesKey_58 (And.intro (fun h58 => absurd h58 (nI_ge (b := 4) (by omega) (by decide))) (fun h58 => ?_))
          refine R.b bk_X8_takesKey_61 ?_
          refine R.c br_X8_takesKey_62 (And.intro (fun h62 => ?_) (fun h62 => ?_))
          · have hz := sm_f (bI_0 h62) (4 - i)
            rw [show i + (4 - i) = 4 by omega] at hz
            have hx := h106 (nI i)
            rw [hz] at hx
            rw [bI_0 h62]
            exact hx
          · have hb := sm_b i (bI_1 h62)
            have hqs : q - s = 4 := of_decide_eq_true hb
            have hqn := hT.2.2.2.1
            have hsi : a 10 + nI i = nI (s + i) := by rw [hT.1, nI_add]
            have hki : M 112 2 + nI i = nI (9 + i) := by rw [hk2]; exact nI_add 9 i
            refine R.b bk_X8_takesKey_65 (And.intro (by first | rfl | assumption) (And.intro (by first | rfl | assumption) (And.intro (by first | rfl | assumption) (And.intro (vp_n hsi (show s + i < 96 by omega) (by decide)) (And.intro (by first | rfl | assumption) (And.intro (by first | rfl | assumption) (And.intro (by first | rfl | assumption) (And.intro (vp_lit rfl) (And.intro (by first | rfl | assumption) (And.intro (vp_n hki (show 9 + i < 13 by omega) (by decide)) ?_))))))))))
            refine R.c br_X8_takesKey_91 (And.intro (fun h91 => ?_) (fun h91 => ?_))
            · refine R.b bk_X8_takesKey_98 ?_
              refine R.b bk_X8_takesKey_99 ?_
              refine R.j gt_X8_takesKey_103 ?_
              rw [nI_inc]
              have hx := ih (i + 1) (by omega) (by omega)
              rw [sm, bI_1 h62, Bool.true_and] at hx
              first
              | (have q1 : ¬ M 110 (a 10 + nI i).toNatClampNeg = M 111 (M 112 2 + nI i).toNatClampNeg := h91; rw [cl_n hsi (by omega), cl_n hki (by omega)] at q1; rw [decide_eq_false q1] at hx; exact hx)
              | (have q1 : M 110 (a 10 + nI i).toNatClampNeg = M 111 (M 112 2 + nI i).toNatClampNeg := h91; rw [cl_n hsi (by omega), cl_n hki (by omega)] at q1; rw [decide_eq_true q1] at hx; exact hx)
            · refine R.b bk_X8_takesKey_94 ?_
              refine R.j gt_X8_takesKey_95 ?_
              refine R.b bk_X8_takesKey_99 ?_
              refine R.j gt_X8_takesKey_103 ?_
              rw [nI_inc]
              have hx := ih (i + 1) (by omega) (by omega)
              rw [sm, bI_1 h62, Bool.true_and] at hx
              first
              | (have q1 : ¬ M 110 (a 10 + nI i).toNatClampNeg = M 111 (M 112 2 + nI i).toNatClampNeg := h91; rw [cl_n hsi (by omega), cl_n hki (by omega)] at q1; rw [decide_eq_false q1] at hx; exact hx)
              | (have q1 : M 110 (a 10 + nI i).toNatClampNeg = M 111 (M 112 2 + nI i).toNatClampNeg := h91; rw [cl_n hsi (by omega), cl_n hki (by omega)] at q1; rw [decide_eq_true q1] at hx; exact hx)
      have hd : a 9 - a 10 = nI (q - s) := by rw [hT.1, hT.2.1]; exact pk_sub hT.2.2.1
      have hq96 := hT.2.2.2.1
      refine R.b bk_X8_takesKey_12 ?_
      refine R.c br_X8_takesKey_14 (And.intro (fun h14 => absurd h14 (by decide)) (fun h14 => ?_))
      refine R.b bk_X8_takesKey_17 (And.intro (by first | rfl | assumption) (And.intro (by first | rfl | assumption) (And.intro (by exact vp_lit rfl) (And.intro (by first | rfl | assumption) (And.intro (by first | rfl | assumption) (And.intro (by exact vp_lit rfl) (And.intro (by first | rfl | assumption) (And.intro (by first | rfl | assumption) ?_))))))))
      refine Eq.mp (congrArg (fun v => X 127 (S4 M a c w t) 43 [some (.ref 103), some (.int 2), some (.int v), c3, c4] [.int (a 9 - a 10), .int v]) (show M 112 3 - M 112 2 = nI 4 by rw [hk3, hk2]; rfl).symm) ?_
      refine R.c br_X8_takesKey_43 (And.intro (fun h43 => ?_) (fun h43 => ?_))
      · refine R.b bk_X8_takesKey_50 ?_
        refine R.b bk_X8_takesKey_51 ?_
        have hx := hA 4 0 rfl (by decide)
        rw [sm] at hx
        first
        | (have q1 : ¬ nI 4 = a 9 - a 10 := h43; rw [hd, nI_eq (by decide) (by omega)] at q1; rw [decide_eq_false (fun e => q1 e.symm)] at hx; exact hx)
        | (have q1 : nI 4 = a 9 - a 10 := h43; rw [hd, nI_eq (by decide) (by omega)] at q1; rw [decide_eq_true q1.symm] at hx; exact hx)
      · refine R.b bk_X8_takesKey_46 ?_
        refine R.j gt_X8_takesKey_47 ?_
        refine R.b bk_X8_takesKey_51 ?_
        have hx := hA 4 0 rfl (by decide)
        rw [sm] at hx
        first
        | (have q1 : ¬ nI 4 = a 9 - a 10 := h43; rw [hd, nI_eq (by decide) (by omega)] at q1; rw [decide_eq_false (fun e => q1 e.symm)] at hx; exact hx)
        | (have q1 : nI 4 = a 9 - a 10 := h43; rw [hd, nI_eq (by decide) (by omega)] at q1; rw [decide_eq_true q1.symm] at hx; exact hx)
    have h12_1 : sW (M 110) (M 111) s q 0 5 = false → ∀ c2 c3 c4, X 127 (S4 M a c w t) 12 [some (.ref 103), some (.int 1), c2, c3, c4] [] := by
      intro n0 c2 c3 c4
      have h106 : ∀ c4, X 127 (S4 M a c w t) 106 [some (.ref 103), some (.int 1), some (.int (nI 4)), some (.int (bI (sm (M 110) (M 111) s 5 (decide (q - s = 4)) 4))), some (.int c4)] [] := by
        intro c4
        refine R.b bk_X8_takesKey_106 ?_
        refine R.c br_X8_takesKey_107 (And.intro (fun h107 => ?_) (fun h107 => ?_))
        · refine R.b bk_X8_takesKey_121 ?_
          refine R.j gt_X8_takesKey_124 ?_
          exact h12_2 n0 (bI_0 h107) _ _ _
        · refine R.b bk_X8_takesKey_110 (And.intro (by first | rfl | assumption) (And.intro rfl (And.intro rfl ?_)))
          have hS : sW (M 110) (M 111) s q 5 4 = true := bI_1 h107
          have ek : f_key (M 110) (M 111) s q = 1 := by rw [f_key, n0, if_neg (by decide), if_pos hS]
          have e110 : mx_wr (S4 M a c w t) 103 14 1 = S4 M (up a 14 (nI 1)) c w t := S4_a _ _ _ _ _ _ _
          refine Eq.mp (congrArg (fun m => X 127 m 116 [some (.ref 103), some (.int 1), some (.int (nI 4)), some (.int (bI (sm (M 110) (M 111) s 5 (decide (q - s = 4)) 4))), some (.int c4)] [.ref 103]) e110.symm) ?_
          refine R.V0v kc_X8_takesKey_116 (by first | rfl | assumption) (c_X8_go (n := n) (p := q) hn hT.2.2.2.1 h8 hT.2.1) (by omega) rfl ⟨Nat.le_refl _, Nat.le_refl _⟩ (fun M116 q116 => ?_)
          have e116 : M116 = S4 M (nxt (M 110) n (up a 14 (nI 1))) c w t := by
            refine q116.trans ((S4_103 _ _ _ _ _ _).trans ?_)
            rw [nxt, show cN (up a 14 (nI 1) 9) = q by rw [up_ne (by decide), hT.2.1]; exact cN_nI (by have := hT.2.2.2.1; omega)]
            rfl
          clear q116
          subst e116
          refine R.b bk_X8_takesKey_119 ?_
          refine R.ri rt_X8_takesKey_120 rfl ⟨_, rfl, ?_⟩
          refine ⟨fun h => absurd ⟨h11, by rw [ek]; decide⟩ h, fun _ => ⟨rfl, ?_⟩⟩
          rw [ek]
      have hA : ∀ (fu i : Nat), 4 - i = fu → i ≤ 4 → X 127 (S4 M a c w t) 55 [some (.ref 103), some (.int 1), some (.int (nI 4)), some (.int (bI (sm (M 110) (M 111) s 5 (decide (q - s = 4)) i))), some (.int (nI i))] [] := by
        intro fu
        induction fu with
        | zero =>
          intro i hfu hi
          have hiN : i = 4 := by omega
          subst hiN
          refine R.b bk_X8_takesKey_55 ?_
          refine R.c br_X8_takesKey_58 (And.intro (fun h58 => ?_) (fun h58 => absurd (nI_le (Nat.le_refl 4) (by decide)) h58))
          exact h106 _
        | succ fu ih =>
          intro i hfu hi
          refine R.b bk_X8_takesKey_55 ?_
          refine R.c br_X8_takesKey_58 (And.intro (fun h58 => absurd h58 (nI_ge (b := 4) (by omega) (by decide))) (fun h58 => ?_))
          refine R.b bk_X8_takesKey_61 ?_
          refine R.c br_X8_takesKey_62 (And.intro (fun h62 => ?_) (fun h62 => ?_))
          · have hz := sm_f (bI_0 h62) (4 - i)
            rw [show i + (4 - i) = 4 by omega] at hz
            have hx := h106 (nI i)
            rw [hz] at hx
            rw [bI_0 h62]
            exact hx
          · have hb := sm_b i (bI_1 h62)
            have hqs : q - s = 4 := of_decide_eq_true hb
            have hqn := hT.2.2.2.1
            have hsi : a 10 + nI i = nI (s + i) := by rw [hT.1, nI_add]
            have hki : M 112 1 + nI i = nI (5 + i) := by rw [hk1]; exact nI_add 5 i
            refine R.b bk_X8_takesKey_65 (And.intro (by first | rfl | assumption) (And.intro (by first | rfl | assumption) (And.intro (by first | rfl | assumption) (And.intro (vp_n hsi (show s + i < 96 by omega) (by decide)) (And.intro (by first | rfl | assumption) (And.intro (by first | rfl | assumption) (And.intro (by first | rfl | assumption) (And.intro (vp_lit rfl) (And.intro (by first | rfl | assumption) (And.intro (vp_n hki (show 5 + i < 13 by omega) (by decide)) ?_))))))))))
            refine R.c br_X8_takesKey_91 (And.intro (fun h91 => ?_) (fun h91 => ?_))
            · refine R.b bk_X8_takesKey_98 ?_
              refine R.b bk_X8_takesKey_99 ?_
              refine R.j gt_X8_takesKey_103 ?_
              rw [nI_inc]
              have hx := ih (i + 1) (by omega) (by omega)
              rw [sm, bI_1 h62, Bool.true_and] at hx
              first
              | (have q1 : ¬ M 110 (a 10 + nI i).toNatClampNeg = M 111 (M 112 1 + nI i).toNatClampNeg := h91; rw [cl_n hsi (by omega), cl_n hki (by omega)] at q1; rw [decide_eq_false q1] at hx; exact hx)
              | (have q1 : M 110 (a 10 + nI i).toNatClampNeg = M 111 (M 112 1 + nI i).toNatClampNeg := h91; rw [cl_n hsi (by omega), cl_n hki (by omega)] at q1; rw [decide_eq_true q1] at hx; exact hx)
            · refine R.b bk_X8_takesKey_94 ?_
              refine R.j gt_X8_takesKey_95 ?_
              refine R.b bk_X8_takesKey_99 ?_
              refine R.j gt_X8_takesKey_103 ?_
              rw [nI_inc]
              have hx := ih (i + 1) (by omega) (by omega)
              rw [sm, bI_1 h62, Bool.true_and] at hx
              first
              | (have q1 : ¬ M 110 (a 10 + nI i).toNatClampNeg = M 111 (M 112 1 + nI i).toNatClampNeg := h91; rw [cl_n hsi (by omega), cl_n hki (by omega)] at q1; rw [decide_eq_false q1] at hx; exact hx)
              | (have q1 : M 110 (a 10 + nI i).toNatClampNeg = M 111 (M 112 1 + nI i).toNatClampNeg := h91; rw [cl_n hsi (by omega), cl_n hki (by omega)] at q1; rw [decide_eq_true q1] at hx; exact hx)
      have hd : a 9 - a 10 = nI (q - s) := by rw [hT.1, hT.2.1]; exact pk_sub hT.2.2.1
      have hq96 := hT.2.2.2.1
      refine R.b bk_X8_takesKey_12 ?_
      refine R.c br_X8_takesKey_14 (And.intro (fun h14 => absurd h14 (by decide)) (fun h14 => ?_))
      refine R.b bk_X8_takesKey_17 (And.intro (by first | rfl | assumption) (And.intro (by first | rfl | assumption) (And.intro (by exact vp_lit rfl) (And.intro (by first | rfl | assumption) (And.intro (by first | rfl | assumption) (And.intro (by exact vp_lit rfl) (And.intro (by first | rfl | assumption) (And.intro (by first | rfl | assumption) ?_))))))))
      refine Eq.mp (congrArg (fun v => X 127 (S4 M a c w t) 43 [some (.ref 103), some (.int 1), some (.int v), c3, c4] [.int (a 9 - a 10), .int v]) (show M 112 2 - M 112 1 = nI 4 by rw [hk2, hk1]; rfl).symm) ?_
      refine R.c br_X8_takesKey_43 (And.intro (fun h43 => ?_) (fun h43 => ?_))
      · refine R.b bk_X8_takesKey_50 ?_
        refine R.b bk_X8_takesKey_51 ?_
        have hx := hA 4 0 rfl (by decide)
        rw [sm] at hx
        first
        | (have q1 : ¬ nI 4 = a 9 - a 10 := h43; rw [hd, nI_eq (by decide) (by omega)] at q1; rw [decide_eq_false (fun e => q1 e.symm)] at hx; exact hx)
        | (have q1 : nI 4 = a 9 - a 10 := h43; rw [hd, nI_eq (by decide) (by omega)] at q1; rw [decide_eq_true q1.symm] at hx; exact hx)
      · refine R.b bk_X8_takesKey_46 ?_
        refine R.j gt_X8_takesKey_47 ?_
        refine R.b bk_X8_takesKey_51 ?_
        have hx := hA 4 0 rfl (by decide)
        rw [sm] at hx
        first
        | (have q1 : ¬ nI 4 = a 9 - a 10 := h43; rw [hd, nI_eq (by decide) (by omega)] at q1; rw [decide_eq_false (fun e => q1 e.symm)] at hx; exact hx)
        | (have q1 : nI 4 = a 9 - a 10 := h43; rw [hd, nI_eq (by decide) (by omega)] at q1; rw [decide_eq_true q1.symm] at hx; exact hx)
    have h12_0 : ∀ c2 c3 c4, X 127 (S4 M a c w t) 12 [some (.ref 103), some (.int 0), c2, c3, c4] [] := by
      intro  c2 c3 c4
      have h106 : ∀ c4, X 127 (S4 M a c w t) 106 [some (.ref 103), some (.int 0), some (.int (nI 5)), some (.int (bI (sm (M 110) (M 111) s 0 (decide (q - s = 5)) 5))), some (.int c4)] [] := by
        intro c4
        refine R.b bk_X8_takesKey_106 ?_
        refine R.c br_X8_takesKey_107 (And.intro (fun h107 => ?_) (fun h107 => ?_))
        · refine R.b bk_X8_takesKey_121 ?_
          refine R.j gt_X8_takesKey_124 ?_
          exact h12_1  (bI_0 h107) _ _ _
        · refine R.b bk_X8_takesKey_110 (And.intro (by first | rfl | assumption) (And.intro rfl (And.intro rfl ?_)))
          have hS : sW (M 110) (M 111) s q 0 5 = true := bI_1 h107
          have ek : f_key (M 110) (M 111) s q = 0 := by rw [f_key, if_pos hS]
          have e110 : mx_wr (S4 M a c w t) 103 14 0 = S4 M (up a 14 (nI 0)) c w t := S4_a _ _ _ _ _ _ _
          refine Eq.mp (congrArg (fun m => X 127 m 116 [some (.ref 103), some (.int 0), some (.int (nI 5)), some (.int (bI (sm (M 110) (M 111) s 0 (decide (q - s = 5)) 5))), some (.int c4)] [.ref 103]) e110.symm) ?_
          refine R.V0v kc_X8_takesKey_116 (by first | rfl | assumption) (c_X8_go (n := n) (p := q) hn hT.2.2.2.1 h8 hT.2.1) (by omega) rfl ⟨Nat.le_refl _, Nat.le_refl _⟩ (fun M116 q116 => ?_)
          have e116 : M116 = S4 M (nxt (M 110) n (up a 14 (nI 0))) c w t := by
            refine q116.trans ((S4_103 _ _ _ _ _ _).trans ?_)
            rw [nxt, show cN (up a 14 (nI 0) 9) = q by rw [up_ne (by decide), hT.2.1]; exact cN_nI (by have := hT.2.2.2.1; omega)]
            rfl
          clear q116
          subst e116
          refine R.b bk_X8_takesKey_119 ?_
          refine R.ri rt_X8_takesKey_120 rfl ⟨_, rfl, ?_⟩
          refine ⟨fun h => absurd ⟨h11, by rw [ek]; decide⟩ h, fun _ => ⟨rfl, ?_⟩⟩
          rw [ek]
      have hA : ∀ (fu i : Nat), 5 - i = fu → i ≤ 5 → X 127 (S4 M a c w t) 55 [some (.ref 103), some (.int 0), some (.int (nI 5)), some (.int (bI (sm (M 110) (M 111) s 0 (decide (q - s = 5)) i))), some (.int (nI i))] [] := by
        intro fu
        induction fu with
        | zero =>
          intro i hfu hi
          have hiN : i = 5 := by omega
          subst hiN
          refine R.b bk_X8_takesKey_55 ?_
          refine R.c br_X8_takesKey_58 (And.intro (fun h58 => ?_) (fun h58 => absurd (nI_le (Nat.le_refl 5) (by decide)) h58))
          exact h106 _
        | succ fu ih =>
          intro i hfu hi
          refine R.b bk_X8_takesKey_55 ?_
          refine R.c br_X8_takesKey_58 (And.intro (fun h58 => absurd h58 (nI_ge (b := 5) (by omega) (by decide))) (fun h58 => ?_))
          refine R.b bk_X8_takesKey_61 ?_
          refine R.c br_X8_takesKey_62 (And.intro (fun h62 => ?_) (fun h62 => ?_))
          · have hz := sm_f (bI_0 h62) (5 - i)
            rw [show i + (5 - i) = 5 by omega] at hz
            have hx := h106 (nI i)
            rw [hz] at hx
            rw [bI_0 h62]
            exact hx
          · have hb := sm_b i (bI_1 h62)
            have hqs : q - s = 5 := of_decide_eq_true hb
            have hqn := hT.2.2.2.1
            have hsi : a 10 + nI i = nI (s + i) := by rw [hT.1, nI_add]
            have hki : M 112 0 + nI i = nI (0 + i) := by rw [hk0]; exact nI_add 0 i
            refine R.b bk_X8_takesKey_65 (And.intro (by first | rfl | assumption) (And.intro (by first | rfl | assumption) (And.intro (by first | rfl | assumption) (And.intro (vp_n hsi (show s + i < 96 by omega) (by decide)) (And.intro (by first | rfl | assumption) (And.intro (by first | rfl | assumption) (And.intro (by first | rfl | assumption) (And.intro (vp_lit rfl) (And.intro (by first | rfl | assumption) (And.intro (vp_n hki (show 0 + i < 13 by omega) (by decide)) ?_))))))))))
            refine R.c br_X8_takesKey_91 (And.intro (fun h91 => ?_) (fun h91 => ?_))
            · refine R.b bk_X8_takesKey_98 ?_
              refine R.b bk_X8_takesKey_99 ?_
              refine R.j gt_X8_takesKey_103 ?_
              rw [nI_inc]
              have hx := ih (i + 1) (by omega) (by omega)
              rw [sm, bI_1 h62, Bool.true_and] at hx
              first
              | (have q1 : ¬ M 110 (a 10 + nI i).toNatClampNeg = M 111 (M 112 0 + nI i).toNatClampNeg := h91; rw [cl_n hsi (by omega), cl_n hki (by omega)] at q1; rw [decide_eq_false q1] at hx; exact hx)
              | (have q1 : M 110 (a 10 + nI i).toNatClampNeg = M 111 (M 112 0 + nI i).toNatClampNeg := h91; rw [cl_n hsi (by omega), cl_n hki (by omega)] at q1; rw [decide_eq_true q1] at hx; exact hx)
            · refine R.b bk_X8_takesKey_94 ?_
              refine R.j gt_X8_takesKey_95 ?_
              refine R.b bk_X8_takesKey_99 ?_
              refine R.j gt_X8_takesKey_103 ?_
              rw [nI_inc]
              have hx := ih (i + 1) (by omega) (by omega)
              rw [sm, bI_1 h62, Bool.true_and] at hx
              first
              | (have q1 : ¬ M 110 (a 10 + nI i).toNatClampNeg = M 111 (M 112 0 + nI i).toNatClampNeg := h91; rw [cl_n hsi (by omega), cl_n hki (by omega)] at q1; rw [decide_eq_false q1] at hx; exact hx)
              | (have q1 : M 110 (a 10 + nI i).toNatClampNeg = M 111 (M 112 0 + nI i).toNatClampNeg := h91; rw [cl_n hsi (by omega), cl_n hki (by omega)] at q1; rw [decide_eq_true q1] at hx; exact hx)
      have hd : a 9 - a 10 = nI (q - s) := by rw [hT.1, hT.2.1]; exact pk_sub hT.2.2.1
      have hq96 := hT.2.2.2.1
      refine R.b bk_X8_takesKey_12 ?_
      refine R.c br_X8_takesKey_14 (And.intro (fun h14 => absurd h14 (by decide)) (fun h14 => ?_))
      refine R.b bk_X8_takesKey_17 (And.intro (by first | rfl | assumption) (And.intro (by first | rfl | assumption) (And.intro (by exact vp_lit rfl) (And.intro (by first | rfl | assumption) (And.intro (by first | rfl | assumption) (And.intro (by exact vp_lit rfl) (And.intro (by first | rfl | assumption) (And.intro (by first | rfl | assumption) ?_))))))))
      refine Eq.mp (congrArg (fun v => X 127 (S4 M a c w t) 43 [some (.ref 103), some (.int 0), some (.int v), c3, c4] [.int (a 9 - a 10), .int v]) (show M 112 1 - M 112 0 = nI 5 by rw [hk1, hk0]; rfl).symm) ?_
      refine R.c br_X8_takesKey_43 (And.intro (fun h43 => ?_) (fun h43 => ?_))
      · refine R.b bk_X8_takesKey_50 ?_
        refine R.b bk_X8_takesKey_51 ?_
        have hx := hA 5 0 rfl (by decide)
        rw [sm] at hx
        first
        | (have q1 : ¬ nI 5 = a 9 - a 10 := h43; rw [hd, nI_eq (by decide) (by omega)] at q1; rw [decide_eq_false (fun e => q1 e.symm)] at hx; exact hx)
        | (have q1 : nI 5 = a 9 - a 10 := h43; rw [hd, nI_eq (by decide) (by omega)] at q1; rw [decide_eq_true q1.symm] at hx; exact hx)
      · refine R.b bk_X8_takesKey_46 ?_
        refine R.j gt_X8_takesKey_47 ?_
        refine R.b bk_X8_takesKey_51 ?_
        have hx := hA 5 0 rfl (by decide)
        rw [sm] at hx
        first
        | (have q1 : ¬ nI 5 = a 9 - a 10 := h43; rw [hd, nI_eq (by decide) (by omega)] at q1; rw [decide_eq_false (fun e => q1 e.symm)] at hx; exact hx)
        | (have q1 : nI 5 = a 9 - a 10 := h43; rw [hd, nI_eq (by decide) (by omega)] at q1; rw [decide_eq_true q1.symm] at hx; exact hx)
    refine R.b bk_X8_takesKey_0 (And.intro (by first | rfl | assumption) ?_)
    refine R.c br_X8_takesKey_5 (And.intro (fun h5 => ?_) (fun h5 => absurd h11 h5))
    refine R.b bk_X8_takesKey_10 ?_
    exact h12_0 _ _ _
  · refine R.b bk_X8_takesKey_0 (And.intro (by first | rfl | assumption) ?_)
    refine R.c br_X8_takesKey_5 (And.intro (fun h5 => absurd h5 h11) (fun h5 => ?_))
    refine R.b bk_X8_takesKey_8 ?_
    refine R.ri rt_X8_takesKey_9 rfl ⟨_, rfl, ?_⟩
    exact ⟨fun _ => ⟨rfl, rfl⟩, fun h => absurd h.1 h11⟩
