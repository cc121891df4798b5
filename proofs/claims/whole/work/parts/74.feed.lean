/-! feed of the class -/
def g_by (v : Int32) (j : Nat) : Int32 := (v.toUInt32 >>> (((24 : Int32) - 8 * nI j).toUInt32 &&& Int32.toUInt32 31)).toInt32.toInt8.toInt32
theorem nat_256 (z : Int32) : ((z.toBitVec.toNat % 256 : Nat) : Int) = z.toInt % 256 := by
  have h : z.toInt = if 2 * z.toBitVec.toNat < 2 ^ 32 then (z.toBitVec.toNat : Int) else (z.toBitVec.toNat : Int) - ((2 ^ 32 : Nat) : Int) := BitVec.toInt_eq_toNat_cond z.toBitVec
  split at h <;> omega
theorem by_one {v s s2 : Int32} {k : Nat} (hk : k ≤ 24) (h1 : ((s.toUInt32 &&& Int32.toUInt32 31).toBitVec % 32).toNat = k) (h2 : (s2.toBitVec.smod 32).toNat = k) (hk4 : k = 24 ∨ k = 16 ∨ k = 8 ∨ k = 0) : ((v.toUInt32 >>> (s.toUInt32 &&& Int32.toUInt32 31)).toInt32.toInt8.toInt32 &&& 255) = ((v >>> s2) &&& 255) := by
  rw [pk_and _ (m := 255) 8 (by decide), pk_and (v >>> s2) (m := 255) 8 (by decide)]
  congr 1
  have e1 := pk_ushr v s k h1
  have e2 := pk_shr v s2 k h2
  generalize (v.toUInt32 >>> (s.toUInt32 &&& Int32.toUInt32 31)).toInt32 = y at e1 ⊢
  generalize v >>> s2 = w at e2 ⊢
  have n1 := nat_256 (y.toInt8.toInt32)
  have n2 := nat_256 w
  have n3 := nat_256 y
  rw [Int8.toInt_toInt32, Int32.toInt_toInt8, show ((2 : Nat) ^ 8) = 256 from rfl] at n1
  have nb : y.toInt.bmod 256 % 256 = y.toInt % 256 := Int.bmod_emod (x := y.toInt) (m := 256)
  rw [nb] at n1
  rw [e2, Int.shiftRight_eq_div_pow] at n2
  have hv : v.toInt = if 2 * v.toBitVec.toNat < 2 ^ 32 then (v.toBitVec.toNat : Int) else (v.toBitVec.toNat : Int) - ((2 ^ 32 : Nat) : Int) := BitVec.toInt_eq_toNat_cond v.toBitVec
  have hlt := v.toBitVec.isLt
  show y.toInt8.toInt32.toBitVec.toNat % 256 = w.toBitVec.toNat % 256
  rcases hk4 with rfl | rfl | rfl | rfl
  all_goals
    simp only [Nat.reducePow] at e1 n2 hv hlt
    split at hv <;> omega
theorem by_eq (v : Int32) {j : Nat} (hj : j < 4) : (g_by v j &&& 255) = f_by v j := by
  unfold g_by f_by
  rcases (show j = 0 ∨ j = 1 ∨ j = 2 ∨ j = 3 by omega) with rfl | rfl | rfl | rfl
  · exact by_one (k := 24) (by decide) (by decide) (by decide) (by decide)
  · exact by_one (k := 16) (by decide) (by decide) (by decide) (by decide)
  · exact by_one (k := 8) (by decide) (by decide) (by decide) (by decide)
  · exact by_one (k := 0) (by decide) (by decide) (by decide) (by decide)
theorem sh_nn {j : Nat} (h : j < 4) : ¬ ((24 : Int32) - 8 * nI j) < 0 ∧ ((24 : Int32) - 8 * nI j) + Int32.ofInt (-8) = 24 - 8 * nI (j + 1) := by
  have h2 : ∀ j, j < 4 → ¬ ((24 : Int32) - 8 * nI j) < 0 ∧ ((24 : Int32) - 8 * nI j) + Int32.ofInt (-8) = 24 - 8 * nI (j + 1) := by decide
  exact h2 j h
theorem c_X7_feedOne {l : Launch} {G : Gt} {M : Mm} {v : Int32} {n : Nat} (hn : n + 4 ≤ 96) (h6 : M 0 6 = nI n) : Runs l G true dm_X7_feedOne 0 127 [.ref 0, .int v] M 127 (Pv (fun M1 => M1 = (mx_wr (mx_rw M 1 (f_cp (g_by v) (M 1) 0 n 4)) 0 6 (nI (n + 4))))) := by
  refine mx_run ow_X7_feedOne rfl rfl (fun dp X hdp R => ?_)
  have hA : ∀ (fu i : Nat) , 4 - i = fu → i ≤ 4 → X 127 (mx_wr (mx_rw M 1 (f_cp (g_by v) (M 1) 0 n i)) 0 6 (nI (n + i))) 3 [some (.ref 0), some (.int v), some (.int (24 - 8 * nI i))] [] := by
    intro fu
    induction fu with
    | zero =>
      intro i  hfu hi 
      have hiN : i = 4 := by omega
      refine R.b bk_X7_feedOne_3 ?_
      refine R.c br_X7_feedOne_4 (And.intro (fun h4 => ?_) (fun h4 => absurd (by rw [hiN]; decide) h4))
      refine R.rv rt_X7_feedOne_45 ⟨rfl, ?_⟩
      rw [hiN]
    | succ fu ih =>
      intro i  hfu hi 
      have hlt : i < 4 := by omega
      have e6 : (mx_wr (mx_rw M 1 (f_cp (g_by v) (M 1) 0 n i)) 0 6 (nI (n + i))) 0 (454 % 64) = nI (n + i) := by rw [mx_wr_up, mx_rw_at]; rfl
      refine R.b bk_X7_feedOne_3 ?_
      refine R.c br_X7_feedOne_4 (And.intro (fun h4 => absurd h4 (sh_nn hlt).1) (fun h4 => ?_))
      refine R.b bk_X7_feedOne_7 (And.intro (by rfl) ?_)
      refine R.c br_X7_feedOne_13 (And.intro (fun h13 => absurd h13 (by rw [e6]; exact nI_ge (b := 96) (by omega) (by decide))) (fun h13 => ?_))
      refine R.b bk_X7_feedOne_16 (And.intro (by rfl) (And.intro (by rfl) (And.intro (by rfl) (And.intro (by exact vp_n e6 (show n + i < 96 by omega) (by decide)) (And.intro (by rfl) (And.intro (by rfl) (And.intro rfl (And.intro rfl ?_))))))))
      refine R.j gt_X7_feedOne_42 ?_
      rw [(sh_nn hlt).2]
      have hx := ih (i + 1) (by omega) (by omega)
      have e : mx_wr (mx_wr (mx_wr (mx_rw M 1 (f_cp (g_by v) (M 1) 0 n i)) 0 6 (nI (n + i))) 1 ((mx_wr (mx_rw M 1 (f_cp (g_by v) (M 1) 0 n i)) 0 6 (nI (n + i))) 0 (454 % 64)).toNatClampNeg (vp_nar .byte (v.toUInt32 >>> (((24 : Int32) - 8 * nI i).toUInt32 &&& Int32.toUInt32 31)).toInt32.toInt8.toInt32)) 0 6 (mx_wr (mx_wr (mx_rw M 1 (f_cp (g_by v) (M 1) 0 n i)) 0 6 (nI (n + i))) 1 ((mx_wr (mx_rw M 1 (f_cp (g_by v) (M 1) 0 n i)) 0 6 (nI (n + i))) 0 (454 % 64)).toNatClampNeg (vp_nar .byte (v.toUInt32 >>> (((24 : Int32) - 8 * nI i).toUInt32 &&& Int32.toUInt32 31)).toInt32.toInt8.toInt32) 0 (454 % 64) + 1) = (mx_wr (mx_rw M 1 (f_cp (g_by v) (M 1) 0 n (i + 1))) 0 6 (nI (n + (i + 1)))) := by
        rw [pk_vb, e6, nI_clamp (by omega), mx_wr_ne (show (0 : Nat) ≠ 1 by decide), e6, nI_1]
        have e1 : f_cp (g_by v) (M 1) 0 n (i + 1) = up (f_cp (g_by v) (M 1) 0 n i) (n + i) (g_by v i) := by
          have := f_cp_up (g_by v) (M 1) 0 n i
          rw [Nat.zero_add] at this
          exact this.symm
        funext z
        by_cases z0 : z = 0
        · subst z0
          rw [mx_wr_up, mx_rw_at, mx_wr_ne (show (0 : Nat) ≠ 1 by decide), mx_wr_up, mx_rw_at, mx_wr_up, mx_rw_at, up_up]
          rfl
        · rw [mx_wr_ne z0, mx_wr_ne z0]
          by_cases z1 : z = 1
          · subst z1
            rw [mx_wr_up, mx_rw_at, mx_wr_ne (show (1 : Nat) ≠ 0 by decide), mx_rw_at, mx_rw_at, e1]
            rfl
          · rw [mx_wr_ne z1, mx_wr_ne z0, mx_rw_ne z1, mx_rw_ne z1]
      rw [← e] at hx
      exact hx
  refine R.b bk_X7_feedOne_0 ?_
  have hx := hA 4 0 rfl (by decide)
  have e : (mx_wr (mx_rw M 1 (f_cp (g_by v) (M 1) 0 n 0)) 0 6 (nI (n + 0))) = M := by
    rw [f_cp_0, mx_rw_id, mx_wr_up, Nat.add_zero, ← h6, up_same, mx_rw_id]
  rw [e] at hx
  exact hx
theorem c_X7_feed {l : Launch} {G : Gt} {M : Mm} {a b c : Int32} {n : Nat} (hn : n ≤ 96) (h6 : M 0 6 = nI n) : Runs l G true dm_X7_feed 1 127 [.ref 0, .int a, .int b, .int c] M 127 (Pi (fun x M1 => (84 < n → x = (-1000000003) ∧ M1 = M) ∧ (n ≤ 84 → x = nI (n + 12) ∧ M1 0 = up (M 0) 6 (nI (n + 12)) ∧ (∀ k, k < 96 → (M1 1 k &&& 255) = f_cp (f_fd a b c) (fun k => M 1 k &&& 255) 0 n 12 k) ∧ ∀ q, q ≠ 0 → q ≠ 1 → M1 q = M q))) := by
  refine mx_run ow_X7_feed rfl rfl (fun dp X hdp R => ?_)
  refine R.b bk_X7_feed_0 (And.intro (by rfl) ?_)
  refine R.c br_X7_feed_6 (And.intro (fun h6z => ?_) (fun h6z => ?_))
  · have hn84 : n ≤ 84 := (nI_leI (b := 84) (by omega) (by decide)).mp (by rw [← h6]; exact h6z)
    refine R.b bk_X7_feed_12 ?_
    refine R.V1v kc_X7_feed_14 (by rfl) (c_X7_feedOne (n := n) (by omega) h6) (by omega) rfl ⟨Nat.le_refl _, Nat.le_refl _⟩ (fun M14 q14 => ?_)
    replace q14 := q14.symm
    subst q14
    refine R.b bk_X7_feed_17 ?_
    refine R.V1v kc_X7_feed_19 (by rfl) (c_X7_feedOne (n := n + 4) (by omega) (by rw [mx_wr_up, mx_rw_at, up_at])) (by omega) rfl ⟨Nat.le_refl _, Nat.le_refl _⟩ (fun M19 q19 => ?_)
    replace q19 := q19.symm
    subst q19
    refine R.b bk_X7_feed_22 ?_
    refine R.V1v kc_X7_feed_24 (by rfl) (c_X7_feedOne (n := n + 4 + 4) (by omega) (by rw [mx_wr_up, mx_rw_at, up_at])) (by omega) rfl ⟨Nat.le_refl _, Nat.le_refl _⟩ (fun M24 q24 => ?_)
    replace q24 := q24.symm
    subst q24
    refine R.b bk_X7_feed_27 (And.intro (by rfl) ?_)
    refine R.ri rt_X7_feed_31 rfl ⟨_, rfl, ?_⟩
    refine ⟨fun h => absurd h (by omega), fun _ => ⟨?_, ?_, ?_, ?_⟩⟩
    · show mx_wr _ 0 6 (nI (n + 4 + 4 + 4)) 0 6 = _
      rw [mx_wr_up, mx_rw_at, up_at]
    · simp only [mx_wr_up, mx_rw_at, mx_rw_ne (show (0 : Nat) ≠ 1 by decide), up_up]
    · intro k hk
      have e1 : ∀ (N : Mm) (r : Rw) (u : Int32), mx_wr (mx_rw N 1 r) 0 6 u 1 = r := fun N r u => by rw [mx_wr_ne (by decide), mx_rw_at]
      simp only [e1]
      unfold f_cp
      by_cases k1 : n + 4 + 4 ≤ k ∧ k < n + 4 + 4 + 4
      · rw [if_pos k1, if_pos (by omega), by_eq _ (by omega), f_fd, f_wd, if_neg (by omega), if_neg (by omega)]
        congr 1
        omega
      · rw [if_neg k1]
        by_cases k2 : n + 4 ≤ k ∧ k < n + 4 + 4
        · rw [if_pos k2, if_pos (by omega), by_eq _ (by omega), f_fd, f_wd, if_neg (by omega), if_pos (by omega)]
          congr 1
          omega
        · rw [if_neg k2]
          by_cases k3 : n ≤ k ∧ k < n + 4
          · rw [if_pos k3, if_pos (by omega), by_eq _ (by omega), f_fd, f_wd, if_pos (by omega)]
            congr 1
            omega
          · rw [if_neg k3, if_neg (by omega)]
    · intro q h0 h1
      simp only [mx_wr_ne h0, mx_rw_ne h1]
  · refine R.b bk_X7_feed_9 ?_
    refine R.ri rt_X7_feed_11 rfl ⟨_, rfl, ?_⟩
    have hn84 : ¬ n ≤ 84 := fun q => h6z (by rw [show M 0 (454 % 64) = nI n from h6]; exact nI_le q (by decide))
    exact ⟨fun _ => ⟨rfl, rfl⟩, fun h => absurd h hn84⟩
