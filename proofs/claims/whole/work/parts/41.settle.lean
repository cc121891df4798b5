/-! settling -/
/-- a store with the rows of the model that a text's reading changes -/
def S4 (M : Mm) (a c w t : Rw) : Mm := mx_rw (mx_rw (mx_rw (mx_rw M 103 a) 113 c) 114 w) 115 t
theorem S4_id (M : Mm) : S4 M (M 103) (M 113) (M 114) (M 115) = M := by
  funext q
  simp only [S4, mx_rw]
  grind
theorem S4_a (M : Mm) (a c w t : Rw) (i : Nat) (v : Int32) : mx_wr (S4 M a c w t) 103 i v = S4 M (up a i v) c w t := by
  funext q
  by_cases h : q = 103
  · subst h
    rw [mx_wr_up]
    rfl
  · rw [mx_wr_up, mx_rw_ne h]
    simp only [S4, mx_rw, if_neg h]
theorem S4_c (M : Mm) (a c w t : Rw) (i : Nat) (v : Int32) : mx_wr (S4 M a c w t) 113 i v = S4 M a (up c i v) w t := by
  funext q
  by_cases h : q = 113
  · subst h
    rw [mx_wr_up]
    rfl
  · rw [mx_wr_up, mx_rw_ne h]
    simp only [S4, mx_rw, if_neg h]
theorem S4_w (M : Mm) (a c w t : Rw) (i : Nat) (v : Int32) : mx_wr (S4 M a c w t) 114 i v = S4 M a c (up w i v) t := by
  funext q
  by_cases h : q = 114
  · subst h
    rw [mx_wr_up]
    rfl
  · rw [mx_wr_up, mx_rw_ne h]
    simp only [S4, mx_rw, if_neg h]
theorem S4_t (M : Mm) (a c w t : Rw) (i : Nat) (v : Int32) : mx_wr (S4 M a c w t) 115 i v = S4 M a c w (up t i v) := by
  funext q
  by_cases h : q = 115
  · subst h
    rw [mx_wr_up]
    rfl
  · rw [mx_wr_up, mx_rw_ne h]
    simp only [S4, mx_rw, if_neg h]
theorem S4_103 (M : Mm) (a b c w t : Rw) : mx_rw (S4 M a c w t) 103 b = S4 M b c w t := by
  funext q
  by_cases h : q = 103
  · subst h
    rfl
  · rw [mx_rw_ne h]
    simp only [S4, mx_rw, if_neg h]
def stl (lv : Int32) : List Int32 → List Int32 → List Int32 × List Int32
  | [], C => ([], C)
  | w :: W, C => if w = -11 ∨ f_rank w < lv then (w :: W, C) else stl lv W (w :: C)
theorem stl_len (lv : Int32) : ∀ W C, (stl lv W C).1.length + (stl lv W C).2.length = W.length + C.length
  | [], C => rfl
  | w :: W, C => by
    unfold stl
    split
    · rfl
    · rw [stl_len lv W (w :: C)]
      simp only [List.length_cons]
      omega
theorem stR_len_up (c : Rw) (C : List Int32) (w : Int32) (h : stR c C) : stR (up c C.length w) (w :: C) := stR_push h
theorem c_X8_settle {l : Launch} {G : Gt} {M : Mm} {lv : Int32} {a c0 w t : Rw} {W0 C0 : List Int32} (hW0 : stR w W0) (hh : a 21 = nI W0.length) (hC0 : stR c0 C0) (hc : a 18 = nI C0.length) (hb0 : W0.length + C0.length ≤ 96) : Runs l G true dm_X8_settle 1 127 [.ref 103, .int lv] (S4 M a c0 w t) 127 (Pv (fun M1 => ∃ c', stR c' (stl lv W0 C0).2 ∧ M1 = S4 M (up (up a 21 (nI (stl lv W0 C0).1.length)) 18 (nI (stl lv W0 C0).2.length)) c' w t)) := by
  refine mx_run ow_X8_settle rfl rfl (fun dp X hdp R => ?_)
  have hA : ∀ (W C : List Int32) (c : Rw), stR w W → stR c C → W.length + C.length ≤ 96 → stl lv W C = stl lv W0 C0 → X 127 (S4 M (up (up a 21 (nI W.length)) 18 (nI C.length)) c w t) 0 [some (.ref 103), some (.int lv)] [] := by
    intro W
    induction W with
    | nil =>
      intro C c hW hC hb hst
      rw [stl] at hst
      refine R.b bk_X8_settle_0 (And.intro (by first | rfl | assumption) ?_)
      refine R.c br_X8_settle_4 (And.intro (fun h4 => ?_) (fun h4 => absurd (show nI 0 ≤ 0 from by decide) h4))
      refine R.rv rt_X8_settle_82 ⟨rfl, ?_⟩
      exact ⟨c, by rw [← hst]; exact hC, by rw [← hst]⟩
    | cons x W ih =>
      intro C c hW hC hb hst
      simp only [List.length_cons] at hb
      have hix : w (nI (W.length + 1) - 1).toNatClampNeg = x := by rw [nI_pm, nI_clamp (by omega)]; exact stR_top hW
      refine R.b bk_X8_settle_0 (And.intro (by first | rfl | assumption) ?_)
      refine R.c br_X8_settle_4 (And.intro (fun h4 => absurd (show nI (W.length + 1) ≤ 0 from h4) (nI_nle (by omega) (by omega))) (fun h4 => ?_))
      refine R.b bk_X8_settle_7 (And.intro (by first | rfl | assumption) (And.intro (by first | rfl | assumption) (And.intro (by first | rfl | assumption) (And.intro (vp_n (show (nI (W.length + 1) - 1 : Int32) = nI W.length from nI_pm _) (by show W.length < 96; omega) (by decide)) ?_))))
      refine R.c br_X8_settle_20 (And.intro (fun h20 => ?_) (fun h20 => ?_))
      · refine R.rv rt_X8_settle_82 ⟨rfl, ?_⟩
        first
        | (replace h20 : w (nI (W.length + 1) - 1).toNatClampNeg = -11 := h20
           rw [hix] at h20
           rw [stl, if_pos (Or.inl h20)] at hst
           exact ⟨c, by rw [← hst]; exact hC, by rw [← hst]⟩)
        | (rw [stl, if_pos (Or.inr h38)] at hst
           exact ⟨c, by rw [← hst]; exact hC, by rw [← hst]⟩)
      · refine R.b bk_X8_settle_23 (And.intro (by first | rfl | assumption) (And.intro (by first | rfl | assumption) (And.intro (by first | rfl | assumption) (And.intro (vp_n (show (nI (W.length + 1) - 1 : Int32) = nI W.length from nI_pm _) (by show W.length < 96; omega) (by decide)) ?_))))
        refine R.S1i kc_X8_settle_34 (c_X8_rank) (by omega) rfl ⟨Nat.le_refl _, Nat.le_refl _⟩ (fun x34 M34 q34 => ?_)
        obtain ⟨e34, q34⟩ := q34
        replace e34 : x34 = f_rank (w (nI (W.length + 1) - 1).toNatClampNeg) := e34
        rw [hix] at e34
        replace q34 := q34.symm
        subst q34
        rw [e34]
        refine R.b bk_X8_settle_37 ?_
        refine R.c br_X8_settle_38 (And.intro (fun h38 => ?_) (fun h38 => ?_))
        · refine R.rv rt_X8_settle_82 ⟨rfl, ?_⟩
          first
          | (replace h20 : w (nI (W.length + 1) - 1).toNatClampNeg = -11 := h20
             rw [hix] at h20
             rw [stl, if_pos (Or.inl h20)] at hst
             exact ⟨c, by rw [← hst]; exact hC, by rw [← hst]⟩)
          | (rw [stl, if_pos (Or.inr h38)] at hst
             exact ⟨c, by rw [← hst]; exact hC, by rw [← hst]⟩)
        · refine R.b bk_X8_settle_41 (And.intro (by first | rfl | assumption) (And.intro (by first | rfl | assumption) (And.intro rfl (And.intro rfl (And.intro (by first | rfl | assumption) (And.intro (by first | rfl | assumption) (And.intro (by first | rfl | assumption) (And.intro (by first | rfl | assumption) (And.intro (by first | rfl | assumption) (And.intro (vp_n (show (nI (W.length + 1) - 1 : Int32) = nI W.length from nI_pm _) (by show W.length < 96; omega) (by decide)) (And.intro (by first | rfl | assumption) (And.intro (vp_in_nI (show C.length < 96 by omega) (by decide)) (And.intro (by first | rfl | assumption) (And.intro (by first | rfl | assumption) (And.intro rfl (And.intro rfl ?_))))))))))))))))
          refine R.j gt_X8_settle_79 ?_
          replace h20 : ¬ w (nI (W.length + 1) - 1).toNatClampNeg = -11 := h20
          rw [hix] at h20
          rw [stl, if_neg (not_or.mpr ⟨h20, h38⟩)] at hst
          have hx := ih (x :: C) (up c C.length x) (stR_tail hW) (stR_push hC) (by simp only [List.length_cons] at hb ⊢; omega) hst
          have e : mx_wr (mx_wr (mx_wr (S4 M (up (up a 21 (nI (x :: W).length)) 18 (nI C.length)) c w t) 103 21 (nI (W.length + 1) - 1)) 113 (nI C.length).toNatClampNeg (w (nI (W.length + 1) - 1).toNatClampNeg)) 103 18 (nI C.length + 1) = S4 M (up (up a 21 (nI W.length)) 18 (nI (x :: C).length)) (up c C.length x) w t := by
            rw [S4_a, S4_c, S4_a, hix, nI_pm, nI_clamp (by omega), nI_1]
            congr 1
            funext j
            simp only [up, List.length_cons]
            grind
          rw [← e] at hx
          exact hx
  have hx := hA W0 C0 c0 hW0 hC0 hb0 rfl
  rw [show (up (up a 21 (nI W0.length)) 18 (nI C0.length)) = a by funext j; simp only [up]; grind] at hx
  exact hx
