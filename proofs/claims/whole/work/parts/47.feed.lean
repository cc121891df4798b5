/-! feed of the model -/
def f_by (w : Int32) (j : Nat) : Int32 := (w >>> ((24 - 8 * nI j) &&& 31)) &&& 255
def f_wd (a b c : Int32) (k : Nat) : Int32 := if k < 4 then a else if k < 8 then b else c
def f_fd (a b c : Int32) (k : Nat) : Int32 := f_by (f_wd a b c k) (k % 4)
theorem c_X8_feed {l : Launch} {G : Gt} {M : Mm} {a b c : Int32} {n : Nat} (hn : n ≤ 96) (h8 : M 103 8 = nI n) : Runs l G true dm_X8_feed 0 127 [.ref 103, .int a, .int b, .int c] M 127 (Pi (fun x M1 => (84 < n → x = (-1000000003) ∧ M1 = M) ∧ (n ≤ 84 → x = nI (n + 12) ∧ M1 = mx_wr (mx_rw M 110 (f_cp (f_fd a b c) (M 110) 0 n 12)) 103 8 (nI (n + 12))))) := by
  refine mx_run ow_X8_feed rfl rfl (fun dp X hdp R => ?_)
  have hA : n ≤ 84 → ∀ (fu i : Nat) (c5 : Option Value), 12 - i = fu → i ≤ 12 → X 127 (mx_rw M 110 (f_cp (f_fd a b c) (M 110) 0 n i)) 18 [some (.ref 103), some (.int a), some (.int b), some (.int c), some (.int (nI i)), c5] [] := by
    intro hn84 fu
    induction fu with
    | zero =>
      intro i c5 hfu hi
      have hiN : i = 12 := by omega
      refine R.b bk_X8_feed_18 ?_
      refine R.c br_X8_feed_22 (And.intro (fun h22 => ?_) (fun h22 => absurd (by rw [hiN]; decide) h22))
      refine R.b bk_X8_feed_84 (And.intro (by first | rfl | assumption) (And.intro (by first | rfl | assumption) (And.intro rfl (And.intro rfl (And.intro (by first | rfl | assumption) ?_)))))
      refine R.ri rt_X8_feed_99 rfl ⟨_, rfl, ?_⟩
      refine ⟨fun h => absurd h (by omega), fun _ => ⟨?_, ?_⟩⟩
      · show M 103 8 + 12 = nI (n + 12)
        rw [h8]; exact nI_add n 12
      · show mx_wr (mx_rw M 110 (f_cp (f_fd a b c) (M 110) 0 n i)) 103 8 (M 103 8 + 12) = mx_wr (mx_rw M 110 (f_cp (f_fd a b c) (M 110) 0 n 12)) 103 8 (nI (n + 12))
        rw [hiN, h8, show nI n + 12 = nI (n + 12) from nI_add n 12]
    | succ fu ih =>
      intro i c5 hfu hi
      have hlt : i < 12 := by omega
      have hW : ∀ (wd : Int32) (c5 : Option Value), wd = f_wd a b c i → X 127 (mx_rw M 110 (f_cp (f_fd a b c) (M 110) 0 n i)) 47 [some (.ref 103), some (.int a), some (.int b), some (.int c), some (.int (nI i)), c5] [.int wd] := by
        intro wd c5 hw
        subst hw
        have hix : M 103 8 + nI i = nI (n + i) := by rw [h8, nI_add]
        refine R.b bk_X8_feed_47 (And.intro (by first | rfl | assumption) (And.intro (by first | rfl | assumption) (And.intro (by decide) (And.intro (by first | rfl | assumption) (And.intro (by exact vp_n hix (show n + i < 96 by omega) (by decide)) ?_)))))
        refine R.j gt_X8_feed_81 ?_
        rw [nI_inc]
        have hx := ih (i + 1) (some (.int (f_wd a b c i))) (by omega) (by omega)
        have e : mx_wr (mx_rw M 110 (f_cp (f_fd a b c) (M 110) 0 n i)) 110 (M 103 8 + nI i).toNatClampNeg (((f_wd a b c i) >>> ((24 - 8 * (nI i - nI i / 4 * 4)) &&& 31)) &&& 255) = (mx_rw M 110 (f_cp (f_fd a b c) (M 110) 0 n (i + 1))) := by
          rw [mx_wr_up, mx_rw_rw, mx_rw_at, cl_n hix (by omega), show nI i - nI i / 4 * 4 = nI (i % 4) from pk_rem (d := 4) (by omega) (by decide) (by decide), ← f_cp_up, Nat.zero_add]
          rfl
        rw [← e] at hx
        exact hx
      refine R.b bk_X8_feed_18 ?_
      refine R.c br_X8_feed_22 (And.intro (fun h22 => absurd h22 (nI_ge (b := 12) hlt (by decide))) (fun h22 => ?_))
      refine R.b bk_X8_feed_25 ?_
      refine R.c br_X8_feed_28 (And.intro (fun h28 => ?_) (fun h28 => ?_))
      · refine R.b bk_X8_feed_35 ?_
        refine R.c br_X8_feed_39 (And.intro (fun h39 => ?_) (fun h39 => ?_))
        · refine R.b bk_X8_feed_46 ?_
          refine hW _ _ ?_
          unfold f_wd
          first
          | (rw [if_pos (nI_lt8 (w := i) (n := 4) (by omega) (by decide) h28)]; done)
          | (have q1 := h39; rw [if_neg (fun q => absurd h28 (nI_ge (b := 4) q (by decide))), if_pos (nI_lt8 (w := i) (n := 8) (by omega) (by decide) q1)]; done)
          | (have q1 := h39; rw [if_neg (fun q => absurd h28 (nI_ge (b := 4) q (by decide))), if_neg (fun q => absurd q1 (nI_ge (b := 8) q (by decide)))]; done)
        · refine R.b bk_X8_feed_42 ?_
          refine R.j gt_X8_feed_43 ?_
          refine hW _ _ ?_
          unfold f_wd
          first
          | (rw [if_pos (nI_lt8 (w := i) (n := 4) (by omega) (by decide) h28)]; done)
          | (have q1 := h39; rw [if_neg (fun q => absurd h28 (nI_ge (b := 4) q (by decide))), if_pos (nI_lt8 (w := i) (n := 8) (by omega) (by decide) q1)]; done)
          | (have q1 := h39; rw [if_neg (fun q => absurd h28 (nI_ge (b := 4) q (by decide))), if_neg (fun q => absurd q1 (nI_ge (b := 8) q (by decide)))]; done)
      · refine R.b bk_X8_feed_31 ?_
        refine R.j gt_X8_feed_32 ?_
        refine hW _ _ ?_
        unfold f_wd
        first
        | (rw [if_pos (nI_lt8 (w := i) (n := 4) (by omega) (by decide) h28)]; done)
        | (have q1 := h39; rw [if_neg (fun q => absurd h28 (nI_ge (b := 4) q (by decide))), if_pos (nI_lt8 (w := i) (n := 8) (by omega) (by decide) q1)]; done)
        | (have q1 := h39; rw [if_neg (fun q => absurd h28 (nI_ge (b := 4) q (by decide))), if_neg (fun q => absurd q1 (nI_ge (b := 8) q (by decide)))]; done)
  have e8 : M 103 8 + 12 = nI (n + 12) := by rw [h8]; exact nI_add n 12
  refine R.b bk_X8_feed_0 (And.intro (by first | rfl | assumption) ?_)
  refine R.c br_X8_feed_9 (And.intro (fun h9 => ?_) (fun h9 => ?_))
  · refine R.b bk_X8_feed_15 ?_
    have hn84 : n ≤ 84 := by
      have q1 : M 103 8 + 12 ≤ 96 := h9
      rw [e8, show (96 : Int32) = nI 96 from rfl, nI_leI (by omega) (by decide)] at q1
      omega
    have hx := hA hn84 12 0 none rfl (by decide)
    rw [f_cp_0, mx_rw_id] at hx
    exact hx
  · refine R.b bk_X8_feed_12 ?_
    refine R.ri rt_X8_feed_14 rfl ⟨_, rfl, ?_⟩
    refine ⟨fun _ => ⟨rfl, rfl⟩, fun h => absurd ?_ h9⟩
    show M 103 8 + 12 ≤ 96
    rw [e8]
    exact nI_le (b := 96) (by omega) (by decide)
