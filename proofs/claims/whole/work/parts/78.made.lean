/-! constructors -/
theorem mx_runI {l : Launch} {G : Gt} {D : Md} {k n n' : Nat} {as : List Value} {M : Mm} {P : Option Value → Mm → Prop} (hD : mx_own D) (hi : D.1.name = "<init>") (has : as.all (fun v => v.category == 1) = true) (hla : Nat.ble as.length D.2.2.1 = true) (hn : n ≤ n')
    (body : ∀ (d : Nat) (X : Nat → Mm → Nat → Lv → Sk → Prop), k ≤ d → mx_Rl l G false D d n' P X → X n M 0 (mx_L0 D as) []) : Runs l G false D k n as M n' P := by
  intro d hd
  refine mx_met hD (fun _ => hi) (fun v hv => ?_) (Nat.le_of_ble_eq_true hla) hn (fun X R => body d X hd R)
  have := List.all_eq_true.mp has v hv
  simpa using this
theorem mx_rv_nI {t : Nat} (h0 : 0 < t) (h1 : t < 1000) : mx_rv (nI t) = .ref t := by
  rw [mx_rv, if_neg (show ¬ nI t = 0 from fun e => absurd ((nI_eq (a := t) (b := 0) (by omega) (by decide)).mp e) (by omega)), nI_clamp (by omega)]
theorem mx_z_at (M : Mm) (n : Nat) : mx_z M n n = fun _ => 0 := by simp [mx_z]
theorem mx_z_ne {M : Mm} {n q : Nat} (h : q ≠ n) : mx_z M n q = M q := by simp [mx_z, h]
def zr : Rw := fun _ => 0
def iniD : Rw := (up (up (up (up (up (up (up (up zr 0 0) 1 0) 2 0) 3 7) 4 0) 5 0) 6 0) 7 0)
def iniL (k : Nat) : Rw := (up (up (up (up zr 0 0) 1 0) 2 0) 3 (nI (k + 1)))
def iniRd : Rw := (up (up (up (up (up (up (up zr 0 (nI 3)) 1 0) 2 (nI 4)) 3 (-1)) 4 0) 5 0) 6 0)
def iniK (k : Nat) : Rw := up zr 0 (nI (k + 1))
def iniS (k : Nat) : Rw := (up (up (up zr 0 (-1)) 1 0) 2 (nI (k + 1)))
def iniSl (k : Nat) : Rw := (up (up (up (up zr 0 0) 1 0) 2 (nI (k + 1))) 3 (nI (k + 2)))
def iniW (k : Nat) : Rw := (up (up (up (up (up (up (up (up (up (up (up zr 0 (nI (k + 1))) 1 (nI (k + 2))) 3 (nI (k + 3))) 4 0) 5 0) 6 20) 7 2) 8 2) 9 1) 10 0) 2 (nI 13))
def iniB0 : Rw := (up (up (up (up (up (up (up (up (up (up (up zr 4 0) 5 (nI 1)) 6 0) 7 (nI 2)) 8 (nI 6)) 9 (nI 8)) 10 (nI 9)) 11 (nI 10)) 12 0) 13 (nI 11)) 14 (nI 12))
def iniB : Rw := (up (up (up (up iniB0 0 (nI 13)) 1 (nI 70)) 2 (nI 81)) 3 (nI 92))
def iniM : Rw := (up (up (up (up (up (up (up (up (up (up (up (up (up (up (up (up (up (up (up (up (up (up (up zr 0 (nI 104)) 1 (nI 105)) 2 (nI 106)) 4 (nI 107)) 5 (nI 108)) 6 (nI 109)) 7 (nI 110)) 15 (nI 111)) 16 (nI 112)) 17 (nI 113)) 20 (nI 114)) 22 (nI 115)) 23 (nI 116)) 24 (nI 117)) 25 (nI 118)) 26 (nI 119)) 27 (nI 120)) 28 (nI 121)) 29 (nI 122)) 30 (nI 123)) 31 (nI 124)) 32 (nI 125)) 33 (nI 126))
def ini104 : Rw := (up (up (up (up zr 0 1) 3 20) 4 2) 5 2)
def ini111 : Rw := (up (up (up (up (up (up (up (up (up (up (up (up (up zr 0 (vp_nar .char 98)) 1 (vp_nar .char 105)) 2 (vp_nar .char 114)) 3 (vp_nar .char 116)) 4 (vp_nar .char 104)) 5 (vp_nar .char 119)) 6 (vp_nar .char 97)) 7 (vp_nar .char 103)) 8 (vp_nar .char 101)) 9 (vp_nar .char 102)) 10 (vp_nar .char 105)) 11 (vp_nar .char 110)) 12 (vp_nar .char 101))
def ini112 : Rw := (up (up (up (up zr 0 0) 1 5) 2 9) 3 13)
def ini118 : Rw := (up (up (up (up zr 0 (-1)) 1 (-1)) 2 (-1)) 3 (-1))
def negs (i : Nat) : Rw := fun j => if j < i then -1 else 0
def refs (c k i : Nat) : Rw := fun j => if j < i then nI (mx_el c k j) else 0
/-- what a cell holds once it is made -/
def Ini (k : Nat) : Rw := match (kd k).1 with
  | 0 => iniD
  | 1 => iniL k
  | 2 => iniRd
  | 3 => iniK k
  | 4 => iniS k
  | 5 => iniSl k
  | 6 => iniW k
  | 7 => iniB
  | 8 => iniM
  | 10 => ini111
  | 11 => if (kd k).2 = 3 then negs 3 else if k = 104 then ini104 else if k = 112 then ini112 else if k = 118 then ini118 else zr
  | 13 => refs 13 k 6
  | 14 => refs 14 k 14
  | 15 => refs 15 k 4
  | 16 => refs 16 k 5
  | _ => zr
theorem Ini_z {k : Nat} (h : (kd k).1 = 11) (h2 : (kd k).2 = 96 ∨ (kd k).2 = 24) : Ini k = zr := by
  unfold Ini
  rw [h]
  have a1 : ¬ (kd k).2 = 3 := by omega
  have a2 : ¬ k = 104 := fun e => by subst e; exact absurd h2 (by decide)
  have a3 : ¬ k = 112 := fun e => by subst e; exact absurd h2 (by decide)
  have a4 : ¬ k = 118 := fun e => by subst e; exact absurd h2 (by decide)
  show (if (kd k).2 = 3 then negs 3 else if k = 104 then ini104 else if k = 112 then ini112 else if k = 118 then ini118 else zr) = zr
  rw [if_neg a1, if_neg a2, if_neg a3, if_neg a4]
def Made (b n : Nat) (M M1 : Mm) : Prop := (∀ q, b ≤ q → q < n → M1 q = Ini q) ∧ ∀ q, q < b → M1 q = M q
theorem refs_up {c k i : Nat} {v : Int32} (h : v = nI (mx_el c k i)) : up (refs c k i) i v = refs c k (i + 1) := by
  funext j
  by_cases hj : j = i
  · subst hj
    rw [up_at, refs, if_pos (by omega), h]
  · rw [up_ne hj, refs, refs]
    by_cases h2 : j < i
    · rw [if_pos h2, if_pos (by omega)]
    · rw [if_neg h2, if_neg (by omega)]
theorem negs_up (i : Nat) : up (negs i) i (-1) = negs (i + 1) := by
  funext j
  by_cases hj : j = i
  · subst hj
    rw [up_at, negs, if_pos (by omega)]
  · rw [up_ne hj, negs, negs]
    by_cases h2 : j < i
    · rw [if_pos h2, if_pos (by omega)]
    · rw [if_neg h2, if_neg (by omega)]
theorem refs_0 (c k : Nat) : refs c k 0 = zr := by
  funext j
  rw [refs, if_neg (by omega)]
  rfl
theorem negs_0 : negs 0 = zr := by
  funext j
  rw [negs, if_neg (by omega)]
  rfl
theorem c_X0_init {l : Launch} {G : Gt} {M : Mm} {b : Nat} (hk : (kd b).1 = 0) (hz : M b = zr) : Runs l G false dm_X0_init 1 (b + 1) [.ref b] M (b + 1) (Pv (Made b (b + 1) M)) := by
  refine mx_runI ow_X0_init rfl rfl rfl (by omega) (fun dp X hdp R => ?_)
  refine R.b bk_X0_init_0 ?_
  refine R.oi kc_X0_init_1 (by omega) rfl ?_
  refine R.b bk_X0_init_4 (And.intro (by exact And.intro (by first | rfl | assumption) (by omega)) (And.intro rfl (And.intro rfl (And.intro (by exact And.intro (by first | rfl | assumption) (by omega)) (And.intro rfl (And.intro rfl (And.intro (by exact And.intro (by first | rfl | assumption) (by omega)) (And.intro rfl (And.intro rfl (And.intro (by exact And.intro (by first | rfl | assumption) (by omega)) (And.intro rfl (And.intro rfl (And.intro (by exact And.intro (by first | rfl | assumption) (by omega)) (And.intro rfl (And.intro rfl (And.intro (by exact And.intro (by first | rfl | assumption) (by omega)) (And.intro rfl (And.intro rfl (And.intro (by exact And.intro (by first | rfl | assumption) (by omega)) (And.intro rfl (And.intro rfl (And.intro (by exact And.intro (by first | rfl | assumption) (by omega)) (And.intro rfl (And.intro rfl ?_))))))))))))))))))))))))
  refine R.rv rt_X0_init_45 ⟨rfl, ?_⟩
  refine ⟨fun q h1 h2 => ?_, fun q hq => by simp only [mx_wr_ne (show q ≠ b by omega)]⟩
  have e : q = b := by omega
  subst e
  unfold Ini
  rw [hk]
  simp only [mx_wr_up, mx_rw_rw, mx_rw_at, hz]
  rfl
theorem c_X1_init {l : Launch} {G : Gt} {M : Mm} {b : Nat} (hk : (kd b).1 = 1) (hk1 : (kd (b + 1)).1 = 11) (hk2 : (kd (b + 1)).2 = 96) (hz : M b = zr) (hb : b < 500) : Runs l G false dm_X1_init 1 (b + 1) [.ref b] M (b + 2) (Pv (Made b (b + 2) M)) := by
  refine mx_runI ow_X1_init rfl rfl rfl (by omega) (fun dp X hdp R => ?_)
  refine R.b bk_X1_init_0 ?_
  refine R.oi kc_X1_init_1 (by omega) rfl ?_
  refine R.b bk_X1_init_4 (And.intro (by exact And.intro (by first | rfl | assumption) (by omega)) (And.intro rfl (And.intro rfl (And.intro (by exact And.intro (by first | rfl | assumption) (by omega)) (And.intro rfl (And.intro rfl (And.intro (by exact And.intro (by first | rfl | assumption) (by omega)) (And.intro rfl (And.intro rfl ?_)))))))))
  refine R.na dd_X1_init_22 ⟨hk1, by decide⟩ ⟨by decide, by rw [hk2]; decide, by rw [hk2]; decide⟩ (by omega) ?_
  refine R.b bk_X1_init_24 (And.intro (by exact And.intro (by first | rfl | assumption) (by omega)) (And.intro (Or.inr ⟨rfl, by decide⟩) (And.intro (by first | (show 0 < b + 1 ∧ b + 1 < 1000; omega) | (show 0 < b + 2 ∧ b + 2 < 1000; omega) | (show 0 < b + 3 ∧ b + 3 < 1000; omega) | decide) ?_)))
  refine R.rv rt_X1_init_27 ⟨rfl, ?_⟩
  refine ⟨fun q h1 h2 => ?_, fun q hq => by rw [mx_wr_ne (show q ≠ b by omega), mx_z_ne (by omega)]; simp only [mx_wr_ne (show q ≠ b by omega)]⟩
  rcases (show q = b ∨ q = b + 1 by omega) with rfl | rfl
  · unfold Ini
    rw [hk]
    rw [mx_wr_up, mx_rw_at, mx_z_ne (by omega)]
    simp only [mx_wr_up, mx_rw_rw, mx_rw_at, hz]
    rfl
  · rw [Ini_z hk1 (Or.inl hk2), mx_wr_ne (by omega), mx_z_at]
    rfl
theorem c_X3_init {l : Launch} {G : Gt} {M : Mm} {b : Nat} (hk : (kd b).1 = 3) (hk1 : (kd (b + 1)).1 = 11) (hk2 : (kd (b + 1)).2 = 96) (hz : M b = zr) (hb : b < 500) : Runs l G false dm_X3_init 1 (b + 1) [.ref b] M (b + 2) (Pv (Made b (b + 2) M)) := by
  refine mx_runI ow_X3_init rfl rfl rfl (by omega) (fun dp X hdp R => ?_)
  refine R.b bk_X3_init_0 ?_
  refine R.oi kc_X3_init_1 (by omega) rfl ?_
  refine R.b bk_X3_init_4 ?_
  refine R.na dd_X3_init_7 ⟨hk1, by decide⟩ ⟨by decide, by rw [hk2]; decide, by rw [hk2]; decide⟩ (by omega) ?_
  refine R.b bk_X3_init_9 (And.intro (by exact And.intro (by first | rfl | assumption) (by omega)) (And.intro (Or.inr ⟨rfl, by decide⟩) (And.intro (by first | (show 0 < b + 1 ∧ b + 1 < 1000; omega) | (show 0 < b + 2 ∧ b + 2 < 1000; omega) | (show 0 < b + 3 ∧ b + 3 < 1000; omega) | decide) ?_)))
  refine R.rv rt_X3_init_12 ⟨rfl, ?_⟩
  refine ⟨fun q h1 h2 => ?_, fun q hq => by rw [mx_wr_ne (show q ≠ b by omega), mx_z_ne (by omega)]⟩
  rcases (show q = b ∨ q = b + 1 by omega) with rfl | rfl
  · unfold Ini
    rw [hk]
    rw [mx_wr_up, mx_rw_at, mx_z_ne (by omega)]
    simp only [mx_wr_up, mx_rw_rw, mx_rw_at, hz]
    rfl
  · rw [Ini_z hk1 (Or.inl hk2), mx_wr_ne (by omega), mx_z_at]
    rfl
theorem c_X4_init {l : Launch} {G : Gt} {M : Mm} {b : Nat} (hk : (kd b).1 = 4) (hk1 : (kd (b + 1)).1 = 11) (hk2 : (kd (b + 1)).2 = 24) (hz : M b = zr) (hb : b < 500) : Runs l G false dm_X4_init 1 (b + 1) [.ref b] M (b + 2) (Pv (Made b (b + 2) M)) := by
  refine mx_runI ow_X4_init rfl rfl rfl (by omega) (fun dp X hdp R => ?_)
  refine R.b bk_X4_init_0 ?_
  refine R.oi kc_X4_init_1 (by omega) rfl ?_
  refine R.b bk_X4_init_4 (And.intro (by exact And.intro (by first | rfl | assumption) (by omega)) (And.intro rfl (And.intro rfl (And.intro (by exact And.intro (by first | rfl | assumption) (by omega)) (And.intro rfl (And.intro rfl ?_))))))
  refine R.na dd_X4_init_17 ⟨hk1, by decide⟩ ⟨by decide, by rw [hk2]; decide, by rw [hk2]; decide⟩ (by omega) ?_
  refine R.b bk_X4_init_19 (And.intro (by exact And.intro (by first | rfl | assumption) (by omega)) (And.intro (Or.inr ⟨rfl, by decide⟩) (And.intro (by first | (show 0 < b + 1 ∧ b + 1 < 1000; omega) | (show 0 < b + 2 ∧ b + 2 < 1000; omega) | (show 0 < b + 3 ∧ b + 3 < 1000; omega) | decide) ?_)))
  refine R.rv rt_X4_init_22 ⟨rfl, ?_⟩
  refine ⟨fun q h1 h2 => ?_, fun q hq => by rw [mx_wr_ne (show q ≠ b by omega), mx_z_ne (by omega)]; simp only [mx_wr_ne (show q ≠ b by omega)]⟩
  rcases (show q = b ∨ q = b + 1 by omega) with rfl | rfl
  · unfold Ini
    rw [hk]
    rw [mx_wr_up, mx_rw_at, mx_z_ne (by omega)]
    simp only [mx_wr_up, mx_rw_rw, mx_rw_at, hz]
    rfl
  · rw [Ini_z hk1 (Or.inr hk2), mx_wr_ne (by omega), mx_z_at]
    rfl
theorem c_X2_init {l : Launch} {G : Gt} {M : Mm}  (hz : M 2 = zr) : Runs l G false dm_X2_init 2 (3) [.ref 2] M (6) (Pv (Made 2 6 M)) := by
  refine mx_runI ow_X2_init rfl rfl rfl (by omega) (fun dp X hdp R => ?_)
  refine R.b bk_X2_init_0 ?_
  refine R.oi kc_X2_init_1 (by omega) rfl ?_
  refine R.b bk_X2_init_4 ?_
  refine R.na dd_X2_init_6 ⟨rfl, by decide⟩ ⟨by decide, by rw [show (kd 3).2 = 0 from rfl]; decide, by rw [show (kd 3).2 = 0 from rfl]; decide⟩ (by omega) ?_
  refine R.b bk_X2_init_8 (And.intro (by exact And.intro rfl (by decide)) (And.intro (Or.inr ⟨rfl, by decide⟩) (And.intro (by decide) (And.intro (by exact And.intro rfl (by decide)) (And.intro rfl (And.intro rfl ?_))))))
  refine R.nw kc_X2_init_17 rfl (by decide) ?_
  refine R.b bk_X2_init_20 ?_
  refine R.I0 kc_X2_init_21 (c_X1_init (b := 4) rfl rfl rfl (mx_z_at _ _) (by decide)) (by omega) rfl ⟨by omega, by omega⟩ (fun M21 q21 => ?_)
  obtain ⟨q1, q2⟩ := q21
  refine R.b bk_X2_init_24 (And.intro (by exact And.intro rfl (by decide)) (And.intro (Or.inr ⟨rfl, by decide⟩) (And.intro (by decide) (And.intro (by exact And.intro rfl (by decide)) (And.intro rfl (And.intro rfl (And.intro (by exact And.intro rfl (by decide)) (And.intro rfl (And.intro rfl (And.intro (by exact And.intro rfl (by decide)) (And.intro rfl (And.intro rfl (And.intro (by exact And.intro rfl (by decide)) (And.intro rfl (And.intro rfl ?_)))))))))))))))
  refine R.rv rt_X2_init_47 ⟨rfl, ?_⟩
  refine ⟨fun q h1 h2 => ?_, fun q hq => ?_⟩
  · by_cases hq : q = 2
    · subst hq
      simp only [mx_wr_up, mx_rw_rw, mx_rw_at]
      rw [q2 2 (by decide), mx_z_ne (by decide)]
      simp only [mx_wr_up, mx_rw_rw, mx_rw_at]
      rw [mx_z_ne (by decide), hz]
      rfl
    · simp only [mx_wr_ne hq]
      by_cases h3 : q = 3
      · subst h3
        rw [q2 3 (by decide), mx_z_ne (by decide)]
        simp only [mx_wr_ne (show 3 ≠ 2 by decide)]
        rw [mx_z_at]
        rfl
      · exact q1 q (by omega) h2
  · simp only [mx_wr_ne (show q ≠ 2 by omega)]
    rw [q2 q (by omega), mx_z_ne (by omega)]
    simp only [mx_wr_ne (show q ≠ 2 by omega)]
    rw [mx_z_ne (by omega)]
theorem c_X5_init {l : Launch} {G : Gt} {M : Mm} {b : Nat} (hk : (kd b).1 = 5) (hk1 : (kd (b + 1)).1 = 0) (hk2 : (kd (b + 2)).1 = 4) (hk3 : (kd (b + 2 + 1)).1 = 11) (hk4 : (kd (b + 2 + 1)).2 = 24) (hz : M b = zr) (hb : b < 400) : Runs l G false dm_X5_init 2 (b + 1) [.ref b] M (b + 4) (Pv (Made b (b + 4) M)) := by
  refine mx_runI ow_X5_init rfl rfl rfl (by omega) (fun dp X hdp R => ?_)
  refine R.b bk_X5_init_0 ?_
  refine R.oi kc_X5_init_1 (by omega) rfl ?_
  refine R.b bk_X5_init_4 (And.intro (by exact And.intro (by first | rfl | assumption) (by omega)) (And.intro rfl (And.intro rfl (And.intro (by exact And.intro (by first | rfl | assumption) (by omega)) (And.intro rfl (And.intro rfl ?_))))))
  refine R.nw kc_X5_init_15 hk1 (by omega) ?_
  refine R.b bk_X5_init_18 ?_
  refine R.I0 kc_X5_init_19 (c_X0_init (b := b + 1) hk1 (mx_z_at _ _)) (by omega) rfl ⟨by omega, by omega⟩ (fun M19 q19 => ?_)
  obtain ⟨q1, q2⟩ := q19
  refine R.b bk_X5_init_22 (And.intro (by exact And.intro (by first | rfl | assumption) (by omega)) (And.intro (Or.inr ⟨rfl, by decide⟩) (And.intro (by first | (show 0 < b + 1 ∧ b + 1 < 1000; omega) | (show 0 < b + 2 ∧ b + 2 < 1000; omega) | (show 0 < b + 3 ∧ b + 3 < 1000; omega) | decide) ?_)))
  refine R.nw kc_X5_init_26 hk2 (by omega) ?_
  refine R.b bk_X5_init_29 ?_
  refine R.I0 kc_X5_init_30 (c_X4_init (b := b + 2) hk2 hk3 hk4 (mx_z_at _ _) (by omega)) (by omega) rfl ⟨by omega, by omega⟩ (fun M30 q30 => ?_)
  obtain ⟨q3, q4⟩ := q30
  refine R.b bk_X5_init_33 (And.intro (by exact And.intro (by first | rfl | assumption) (by omega)) (And.intro (Or.inr ⟨rfl, by decide⟩) (And.intro (by first | (show 0 < b + 1 ∧ b + 1 < 1000; omega) | (show 0 < b + 2 ∧ b + 2 < 1000; omega) | (show 0 < b + 3 ∧ b + 3 < 1000; omega) | decide) ?_)))
  refine R.rv rt_X5_init_36 ⟨rfl, ?_⟩
  refine ⟨fun q h1 h2 => ?_, fun q hq => ?_⟩
  · by_cases hq : q = b
    · subst hq
      unfold Ini
      rw [hk]
      simp only [mx_wr_up, mx_rw_rw, mx_rw_at]
      rw [q4 q (by omega), mx_z_ne (by omega)]
      simp only [mx_wr_up, mx_rw_at]
      rw [q2 q (by omega), mx_z_ne (by omega)]
      simp only [mx_wr_up, mx_rw_at, mx_rw_rw, hz]
      rfl
    · rw [mx_wr_ne hq]
      by_cases h3 : q = b + 1
      · subst h3
        rw [q4 _ (by omega), mx_z_ne (by omega), mx_wr_ne hq]
        exact q1 _ (Nat.le_refl _) (by omega)
      · exact q3 q (by omega) (by omega)
  · rw [mx_wr_ne (by omega), q4 q (by omega), mx_z_ne (by omega), mx_wr_ne (by omega), q2 q (by omega), mx_z_ne (by omega), mx_wr_ne (by omega), mx_wr_ne (by omega)]
theorem c_X6_init {l : Launch} {G : Gt} {M : Mm} {b : Nat} (hw : KW b) (hz : M b = zr) : Runs l G false dm_X6_init 3 (b + 1) [.ref b, .ref 13] M (b + 11) (Pv (Made b (b + 11) M)) := by
  refine mx_runI ow_X6_init rfl rfl rfl (by omega) (fun dp X hdp R => ?_)
  have hb1 := hw.2.2.2.2.2.2.2.2.2.1
  have hb2 := hw.2.2.2.2.2.2.2.2.2.2
  have hE : ∀ (fu i : Nat) (M1 : Mm), 3 - i = fu → i ≤ 3 → (M1 b = iniW b) → (∀ q, q < b → M1 q = M q) → (M1 (b + 2) = negs i) → (∀ q, b < q → q < b + 11 → q ≠ b + 2 → M1 q = Ini q) → X (b + 11) M1 104 [some (.ref b), some (.ref 13), some (.int (nI i))] [] := by
    intro fu
    induction fu with
    | zero =>
      intro i M1 hfu hi hI1 hI2 hI3 hI4
      have hiN : i = 3 := by omega
      refine R.b bk_X6_init_104 (And.intro (by first | exact And.intro hw.1 (by omega) | exact And.intro hw.2.1 (by omega) | exact And.intro hw.2.2.2.1 (by omega)) ?_)
      show mx_b false [.inl .arraylength] _ _ _ (mx_rv (M1 b 1) :: _) _
      rw [show mx_rv (M1 b 1) = .ref (b + 2) by rw [hI1]; exact mx_rv_nI (by omega) (by omega)]
      refine (And.intro ⟨11, by decide, by decide, And.intro hw.2.2.2.1 (by omega)⟩ ?_)
      refine R.c br_X6_init_110 (And.intro (fun h110 => ?_) (fun h110 => absurd (by rw [hiN, hw.2.2.2.2.1]; decide) h110))
      refine R.rv rt_X6_init_126 ⟨rfl, ?_⟩
      refine ⟨fun q h1 h2 => ?_, hI2⟩
      by_cases e1 : q = b
      · subst e1
        rw [hI1, Ini, hw.1]
        rfl
      by_cases e2 : q = b + 2
      · rw [e2, hI3, hiN, Ini, hw.2.2.2.1]
        show _ = if (kd (b + 2)).2 = 3 then negs 3 else _
        rw [if_pos hw.2.2.2.2.1]
      · exact hI4 q (by omega) h2 e2
    | succ fu ih =>
      intro i M1 hfu hi hI1 hI2 hI3 hI4
      have hlt : i < 3 := by omega
      refine R.b bk_X6_init_104 (And.intro (by first | exact And.intro hw.1 (by omega) | exact And.intro hw.2.1 (by omega) | exact And.intro hw.2.2.2.1 (by omega)) ?_)
      show mx_b false [.inl .arraylength] _ _ _ (mx_rv (M1 b 1) :: _) _
      rw [show mx_rv (M1 b 1) = .ref (b + 2) by rw [hI1]; exact mx_rv_nI (by omega) (by omega)]
      refine (And.intro ⟨11, by decide, by decide, And.intro hw.2.2.2.1 (by omega)⟩ ?_)
      refine R.c br_X6_init_110 (And.intro (fun h110 => absurd (by rw [hw.2.2.2.2.1] at h110; exact h110) (nI_ge (b := 3) hlt (by decide))) (fun h110 => ?_))
      refine R.b bk_X6_init_113 (And.intro (by first | exact And.intro hw.1 (by omega) | exact And.intro hw.2.1 (by omega) | exact And.intro hw.2.2.2.1 (by omega)) ?_)
      show mx_b false [.inl (.iload 2), .inr (.int (-1)), .inl .iastore, .inl (.iinc 2 1)] _ _ _ (mx_rv (M1 b 1) :: _) _
      rw [show mx_rv (M1 b 1) = .ref (b + 2) by rw [hI1]; exact mx_rv_nI (by omega) (by omega)]
      refine (And.intro (by first | exact And.intro hw.1 (by omega) | exact And.intro hw.2.1 (by omega) | exact And.intro hw.2.2.2.1 (by omega)) (And.intro (by rw [hw.2.2.2.2.1]; exact vp_in_nI hlt (by decide)) ?_))
      refine R.j gt_X6_init_123 ?_
      rw [nI_inc]
      refine ih (i + 1) _ (by omega) (by omega) ?_ ?_ ?_ ?_
      · rw [mx_wr_ne (by omega)]; exact hI1
      · intro q hq
        rw [mx_wr_ne (by omega)]; exact hI2 q hq
      · rw [mx_wr_up, mx_rw_at, hI3, nI_clamp (by omega)]
        exact negs_up i
      · intro q h1 h2 h3
        rw [mx_wr_ne h3]; exact hI4 q h1 h2 h3
  have hA : ∀ (fu i : Nat) (M1 : Mm), 6 - i = fu → i ≤ 6 → (M1 b = iniW b) → (∀ q, q < b → M1 q = M q) → (M1 (b + 1) = refs 13 (b + 1) i) → (M1 (b + 2) = zr) → (∀ q, b + 3 ≤ q → q < b + 5 + i → M1 q = Ini q) → X (b + 5 + i) M1 74 [some (.ref b), some (.ref 13), some (.int (nI i))] [] := by
    intro fu
    induction fu with
    | zero =>
      intro i M1 hfu hi hI1 hI2 hI3 hI4 hI5
      have hiN : i = 6 := by omega
      refine R.b bk_X6_init_74 (And.intro (by first | exact And.intro hw.1 (by omega) | exact And.intro hw.2.1 (by omega) | exact And.intro hw.2.2.2.1 (by omega)) ?_)
      show mx_b false [.inl .arraylength] _ _ _ (mx_rv (M1 b 0) :: _) _
      rw [show mx_rv (M1 b 0) = .ref (b + 1) by rw [hI1]; exact mx_rv_nI (by omega) (by omega)]
      refine (And.intro ⟨13, by decide, by decide, And.intro hw.2.1 (by omega)⟩ ?_)
      refine R.c br_X6_init_80 (And.intro (fun h80 => ?_) (fun h80 => absurd (by rw [hiN, hw.2.2.1]; decide) h80))
      refine R.b bk_X6_init_102 ?_
      rw [show b + 5 + i = b + 11 by omega]
      refine hE 3 0 M1 rfl (by decide) hI1 hI2 (by rw [hI4, negs_0]) (fun q h1 h2 h3 => ?_)
      by_cases e : q = b + 1
      · rw [e, hI3, hiN, Ini, hw.2.1]
        rfl
      · exact hI5 q (by omega) (by omega)
    | succ fu ih =>
      intro i M1 hfu hi hI1 hI2 hI3 hI4 hI5
      have hlt : i < 6 := by omega
      refine R.b bk_X6_init_74 (And.intro (by first | exact And.intro hw.1 (by omega) | exact And.intro hw.2.1 (by omega) | exact And.intro hw.2.2.2.1 (by omega)) ?_)
      show mx_b false [.inl .arraylength] _ _ _ (mx_rv (M1 b 0) :: _) _
      rw [show mx_rv (M1 b 0) = .ref (b + 1) by rw [hI1]; exact mx_rv_nI (by omega) (by omega)]
      refine (And.intro ⟨13, by decide, by decide, And.intro hw.2.1 (by omega)⟩ ?_)
      refine R.c br_X6_init_80 (And.intro (fun h80 => absurd (by rw [hw.2.2.1] at h80; exact h80) (nI_ge (b := 6) hlt (by decide))) (fun h80 => ?_))
      refine R.b bk_X6_init_83 (And.intro (by first | exact And.intro hw.1 (by omega) | exact And.intro hw.2.1 (by omega) | exact And.intro hw.2.2.2.1 (by omega)) ?_)
      show mx_b false [.inl (.iload 2)] _ _ _ (mx_rv (M1 b 0) :: _) _
      rw [show mx_rv (M1 b 0) = .ref (b + 1) by rw [hI1]; exact mx_rv_nI (by omega) (by omega)]
      refine R.nw kc_X6_init_88 (hw.2.2.2.2.2.2.2.2.1 i hlt) (by omega) ?_
      refine R.b bk_X6_init_91 ?_
      refine R.I0 kc_X6_init_92 (c_X0_init (b := b + 5 + i) (hw.2.2.2.2.2.2.2.2.1 i hlt) (mx_z_at _ _)) (by omega) rfl ⟨by omega, by omega⟩ (fun M92 q92 => ?_)
      obtain ⟨q1, q2⟩ := q92
      refine R.as dd_X6_init_95 ⟨hw.2.1, by omega⟩ ⟨by decide, by decide⟩ ⟨hw.2.2.2.2.2.2.2.2.1 i hlt, by omega, by omega⟩ (by rw [hw.2.2.1]; exact vp_in_nI hlt (by decide)) ?_
      refine R.b bk_X6_init_96 ?_
      refine R.j gt_X6_init_99 ?_
      rw [nI_inc]
      refine ih (i + 1) _ (by omega) (by omega) ?_ ?_ ?_ ?_ ?_
      · rw [mx_wr_ne (by omega), q2 b (by omega), mx_z_ne (by omega)]; exact hI1
      · intro q hq
        rw [mx_wr_ne (by omega), q2 q (by omega), mx_z_ne (by omega)]; exact hI2 q hq
      · rw [mx_wr_up, mx_rw_at, q2 _ (by omega), mx_z_ne (by omega), hI3, nI_clamp (by omega)]
        exact refs_up (by unfold mx_el; congr 1 <;> omega)
      · rw [mx_wr_ne (by omega), q2 _ (by omega), mx_z_ne (by omega)]; exact hI4
      · intro q h1 h2
        rw [mx_wr_ne (by omega)]
        by_cases e : q = b + 5 + i
        · exact q1 q (by omega) (by omega)
        · rw [q2 q (by omega), mx_z_ne e]; exact hI5 q h1 (by omega)
  refine R.b bk_X6_init_0 ?_
  refine R.oi kc_X6_init_1 (by omega) rfl ?_
  refine R.b bk_X6_init_4 ?_
  refine R.an kc_X6_init_7 hw.2.1 ⟨by decide, by rw [hw.2.2.1]; decide, by rw [hw.2.2.1]; decide⟩ (by omega) ?_
  refine R.b bk_X6_init_10 (And.intro (by first | exact And.intro hw.1 (by omega) | exact And.intro hw.2.1 (by omega) | exact And.intro hw.2.2.2.1 (by omega)) (And.intro (Or.inr ⟨rfl, by decide⟩) (And.intro (by first | (show 0 < b + 1 ∧ b + 1 < 1000; omega) | (show 0 < b + 2 ∧ b + 2 < 1000; omega) | (show 0 < b + 3 ∧ b + 3 < 1000; omega) | decide) ?_)))
  refine R.na dd_X6_init_15 ⟨hw.2.2.2.1, by decide⟩ ⟨by decide, by rw [hw.2.2.2.2.1]; decide, by rw [hw.2.2.2.2.1]; decide⟩ (by omega) ?_
  refine R.b bk_X6_init_17 (And.intro (by first | exact And.intro hw.1 (by omega) | exact And.intro hw.2.1 (by omega) | exact And.intro hw.2.2.2.1 (by omega)) (And.intro (Or.inr ⟨rfl, by decide⟩) (And.intro (by first | (show 0 < b + 1 ∧ b + 1 < 1000; omega) | (show 0 < b + 2 ∧ b + 2 < 1000; omega) | (show 0 < b + 3 ∧ b + 3 < 1000; omega) | decide) ?_)))
  refine R.nw kc_X6_init_21 hw.2.2.2.2.2.1 (by omega) ?_
  refine R.b bk_X6_init_24 ?_
  refine R.I0 kc_X6_init_25 (c_X3_init (b := b + 3) hw.2.2.2.2.2.1 hw.2.2.2.2.2.2.1 hw.2.2.2.2.2.2.2.1 (mx_z_at _ _) (by omega)) (by omega) rfl ⟨by omega, by omega⟩ (fun M25 q25 => ?_)
  obtain ⟨q1, q2⟩ := q25
  refine R.b bk_X6_init_28 (And.intro (by first | exact And.intro hw.1 (by omega) | exact And.intro hw.2.1 (by omega) | exact And.intro hw.2.2.2.1 (by omega)) (And.intro (Or.inr ⟨rfl, by decide⟩) (And.intro (by first | (show 0 < b + 1 ∧ b + 1 < 1000; omega) | (show 0 < b + 2 ∧ b + 2 < 1000; omega) | (show 0 < b + 3 ∧ b + 3 < 1000; omega) | decide) (And.intro (by first | exact And.intro hw.1 (by omega) | exact And.intro hw.2.1 (by omega) | exact And.intro hw.2.2.2.1 (by omega)) (And.intro rfl (And.intro rfl (And.intro (by first | exact And.intro hw.1 (by omega) | exact And.intro hw.2.1 (by omega) | exact And.intro hw.2.2.2.1 (by omega)) (And.intro rfl (And.intro rfl (And.intro (by first | exact And.intro hw.1 (by omega) | exact And.intro hw.2.1 (by omega) | exact And.intro hw.2.2.2.1 (by omega)) (And.intro rfl (And.intro rfl (And.intro (by first | exact And.intro hw.1 (by omega) | exact And.intro hw.2.1 (by omega) | exact And.intro hw.2.2.2.1 (by omega)) (And.intro rfl (And.intro rfl (And.intro (by first | exact And.intro hw.1 (by omega) | exact And.intro hw.2.1 (by omega) | exact And.intro hw.2.2.2.1 (by omega)) (And.intro rfl (And.intro rfl (And.intro (by first | exact And.intro hw.1 (by omega) | exact And.intro hw.2.1 (by omega) | exact And.intro hw.2.2.2.1 (by omega)) (And.intro rfl (And.intro rfl (And.intro (by first | exact And.intro hw.1 (by omega) | exact And.intro hw.2.1 (by omega) | exact And.intro hw.2.2.2.1 (by omega)) (And.intro rfl (And.intro rfl (And.intro (by first | exact And.intro hw.1 (by omega) | exact And.intro hw.2.1 (by omega) | exact And.intro hw.2.2.2.1 (by omega)) (And.intro (Or.inr ⟨rfl, by decide⟩) (And.intro (by first | (show 0 < b + 1 ∧ b + 1 < 1000; omega) | (show 0 < b + 2 ∧ b + 2 < 1000; omega) | (show 0 < b + 3 ∧ b + 3 < 1000; omega) | decide) ?_)))))))))))))))))))))))))))
  refine hA 6 0 _ rfl (by decide) ?_ ?_ ?_ ?_ ?_
  · simp only [mx_wr_up, mx_rw_rw, mx_rw_at]
    rw [q2 b (by omega), mx_z_ne (by omega)]
    simp only [mx_wr_up, mx_rw_at]
    rw [mx_z_ne (by omega)]
    simp only [mx_wr_up, mx_rw_at]
    rw [mx_z_ne (by omega), hz]
    rfl
  · intro q hq
    simp only [mx_wr_ne (show q ≠ b by omega)]
    rw [q2 q (by omega), mx_z_ne (by omega), mx_wr_ne (by omega), mx_z_ne (by omega), mx_wr_ne (by omega), mx_z_ne (by omega)]
  · simp only [mx_wr_ne (show b + 1 ≠ b by omega)]
    rw [q2 _ (by omega), mx_z_ne (by omega), mx_wr_ne (by omega), mx_z_ne (by omega), mx_wr_ne (by omega), mx_z_at, refs_0]
    rfl
  · simp only [mx_wr_ne (show b + 2 ≠ b by omega)]
    rw [q2 _ (by omega), mx_z_ne (by omega), mx_wr_ne (by omega), mx_z_at]
    rfl
  · intro q h1 h2
    simp only [mx_wr_ne (show q ≠ b by omega)]
    exact q1 q (by omega) (by omega)
theorem kd_sheet {i : Nat} (h : i < 4) : (kd (42 + 2 * i)).1 = 4 ∧ (kd (42 + 2 * i + 1)).1 = 11 ∧ (kd (42 + 2 * i + 1)).2 = 24 := by
  have a : ∀ i, i < 4 → (kd (42 + 2 * i)).1 = 4 ∧ (kd (42 + 2 * i + 1)).1 = 11 ∧ (kd (42 + 2 * i + 1)).2 = 24 := by decide +kernel
  exact a i h
theorem kd_slot {i : Nat} (h : i < 5) : (kd (50 + 4 * i)).1 = 5 ∧ (kd (50 + 4 * i + 1)).1 = 0 ∧ (kd (50 + 4 * i + 2)).1 = 4 ∧ (kd (50 + 4 * i + 2 + 1)).1 = 11 ∧ (kd (50 + 4 * i + 2 + 1)).2 = 24 := by
  have a : ∀ i, i < 5 → (kd (50 + 4 * i)).1 = 5 ∧ (kd (50 + 4 * i + 1)).1 = 0 ∧ (kd (50 + 4 * i + 2)).1 = 4 ∧ (kd (50 + 4 * i + 2 + 1)).1 = 11 ∧ (kd (50 + 4 * i + 2 + 1)).2 = 24 := by decide +kernel
  exact a i h
theorem c_X7_init {l : Launch} {G : Gt} {M : Mm}  (hz : M 0 = zr) : Runs l G false dm_X7_init 4 (1) [.ref 0] M (103) (Pv (Made 0 103 M)) := by
  refine mx_runI ow_X7_init rfl rfl rfl (by omega) (fun dp X hdp R => ?_)
  have hF : ∀ (fu i : Nat) (M1 : Mm), 5 - i = fu → i ≤ 5 → (M1 0 = iniB0) → (∀ q, 1 ≤ q → q < 50 + 4 * i → q ≠ 9 → M1 q = Ini q) → (M1 9 = refs 16 9 i) → X (50 + 4 * i) M1 151 [some (.ref 0), some (.ref 13), some (.int (nI i))] [] := by
    intro fu
    induction fu with
    | zero =>
      intro i M1 hfu hi hI1 hI2 hI3
      have hiN : i = 5 := by omega
      refine R.b bk_X7_init_151 (And.intro (by exact And.intro rfl (by omega)) ?_)
      show mx_b false [.inl .arraylength] _ _ _ (mx_rv (M1 0 10) :: _) _
      rw [show mx_rv (M1 0 10) = .ref 9 by rw [hI1]; exact mx_rv_nI (t := 9) (by decide) (by decide)]
      refine (And.intro ⟨16, by decide, by decide, And.intro rfl (by omega)⟩ ?_)
      refine R.c br_X7_init_157 (And.intro (fun h157 => ?_) (fun h157 => absurd (by rw [hiN]; decide) h157))
      rw [show 50 + 4 * i = 70 by omega]
      refine R.b bk_X7_init_179 (And.intro (by exact And.intro rfl (by omega)) (And.intro (Or.inr ⟨rfl, by decide⟩) (And.intro (by decide) ?_)))
      refine R.nw kc_X7_init_185 rfl (by decide) ?_
      refine R.b bk_X7_init_188 ?_
      refine R.I1 kc_X7_init_190 (c_X6_init (b := 70) KW_70 (mx_z_at _ _)) (by omega) rfl ⟨by decide, by decide⟩ (fun M190 q190 => ?_)
      obtain ⟨u1, u2⟩ := q190
      refine R.b bk_X7_init_193 (And.intro (by exact And.intro rfl (by omega)) (And.intro (Or.inr ⟨rfl, by decide⟩) (And.intro (by decide) ?_)))
      refine R.nw kc_X7_init_197 rfl (by decide) ?_
      refine R.b bk_X7_init_200 ?_
      refine R.I1 kc_X7_init_202 (c_X6_init (b := 81) KW_81 (mx_z_at _ _)) (by omega) rfl ⟨by decide, by decide⟩ (fun M202 q202 => ?_)
      obtain ⟨v1, v2⟩ := q202
      refine R.b bk_X7_init_205 (And.intro (by exact And.intro rfl (by omega)) (And.intro (Or.inr ⟨rfl, by decide⟩) (And.intro (by decide) ?_)))
      refine R.nw kc_X7_init_209 rfl (by decide) ?_
      refine R.b bk_X7_init_212 ?_
      refine R.I1 kc_X7_init_214 (c_X6_init (b := 92) KW_92 (mx_z_at _ _)) (by omega) rfl ⟨by decide, by decide⟩ (fun M214 q214 => ?_)
      obtain ⟨w1, w2⟩ := q214
      refine R.b bk_X7_init_217 (And.intro (by exact And.intro rfl (by omega)) (And.intro (Or.inr ⟨rfl, by decide⟩) (And.intro (by decide) ?_)))
      refine R.rv rt_X7_init_220 ⟨rfl, ?_⟩
      refine ⟨fun q _ h2 => ?_, fun q hq => absurd hq (by omega)⟩
      by_cases e0 : q = 0
      · subst e0
        rw [mx_wr_up, mx_rw_at, w2 0 (by decide), mx_z_ne (by decide), mx_wr_up, mx_rw_at, v2 0 (by decide), mx_z_ne (by decide), mx_wr_up, mx_rw_at, u2 0 (by decide), mx_z_ne (by decide), mx_wr_up, mx_rw_at, hI1]
        rfl
      rw [mx_wr_ne e0]
      by_cases e3 : 92 ≤ q
      · exact w1 q e3 h2
      rw [w2 q (by omega), mx_z_ne (by omega), mx_wr_ne e0]
      by_cases e2 : 81 ≤ q
      · exact v1 q e2 (by omega)
      rw [v2 q (by omega), mx_z_ne (by omega), mx_wr_ne e0]
      by_cases e1 : 70 ≤ q
      · exact u1 q e1 (by omega)
      rw [u2 q (by omega), mx_z_ne (by omega), mx_wr_ne e0]
      by_cases e9 : q = 9
      · rw [e9, hI3, hiN]
        rfl
      · exact hI2 q (by omega) (by omega) e9
    | succ fu ih =>
      intro i M1 hfu hi hI1 hI2 hI3
      have hlt : i < 5 := by omega
      refine R.b bk_X7_init_151 (And.intro (by exact And.intro rfl (by omega)) ?_)
      show mx_b false [.inl .arraylength] _ _ _ (mx_rv (M1 0 10) :: _) _
      rw [show mx_rv (M1 0 10) = .ref 9 by rw [hI1]; exact mx_rv_nI (t := 9) (by decide) (by decide)]
      refine (And.intro ⟨16, by decide, by decide, And.intro rfl (by omega)⟩ ?_)
      refine R.c br_X7_init_157 (And.intro (fun h157 => absurd h157 (nI_ge (b := 5) hlt (by decide))) (fun h157 => ?_))
      refine R.b bk_X7_init_160 (And.intro (by exact And.intro rfl (by omega)) ?_)
      show mx_b false [.inl (.iload 2)] _ _ _ (mx_rv (M1 0 10) :: _) _
      rw [show mx_rv (M1 0 10) = .ref 9 by rw [hI1]; exact mx_rv_nI (t := 9) (by decide) (by decide)]
      refine R.nw kc_X7_init_165 (kd_slot hlt).1 (by omega) ?_
      refine R.b bk_X7_init_168 ?_
      refine R.I0 kc_X7_init_169 (c_X5_init (b := 50 + 4 * i) (kd_slot hlt).1 (kd_slot hlt).2.1 (kd_slot hlt).2.2.1 (kd_slot hlt).2.2.2.1 (kd_slot hlt).2.2.2.2 (mx_z_at _ _) (by omega)) (by omega) rfl ⟨by omega, by omega⟩ (fun M169 q169 => ?_)
      obtain ⟨q1, q2⟩ := q169
      refine R.as dd_X7_init_172 ⟨rfl, by omega⟩ ⟨by decide, by decide⟩ ⟨(kd_slot hlt).1, by omega, by omega⟩ (by exact vp_in_nI (show i < 5 from hlt) (by decide)) ?_
      refine R.b bk_X7_init_173 ?_
      refine R.j gt_X7_init_176 ?_
      rw [nI_inc]
      rw [show 50 + 4 * i + 4 = 50 + 4 * (i + 1) by omega]
      refine ih (i + 1) _ (by omega) (by omega) ?_ ?_ ?_
      · rw [mx_wr_ne (by omega), q2 0 (by omega), mx_z_ne (by omega)]; exact hI1
      · intro q h1 h2 h4
        rw [mx_wr_ne h4]
        by_cases e : q < 50 + 4 * i
        · rw [q2 q e, mx_z_ne (by omega)]; exact hI2 q h1 e h4
        · exact q1 q (by omega) (by omega)
      · rw [mx_wr_up, mx_rw_at, q2 _ (by omega), mx_z_ne (by omega), hI3, nI_clamp (by omega)]
        exact refs_up (by unfold mx_el; congr 1 <;> omega)
  have hE : ∀ (fu i : Nat) (M1 : Mm), 4 - i = fu → i ≤ 4 → (M1 0 = iniB0) → (∀ q, 1 ≤ q → q < 42 + 2 * i → q ≠ 8 → q ≠ 9 → M1 q = Ini q) → (M1 8 = refs 15 8 i) → (M1 9 = zr) → X (42 + 2 * i) M1 121 [some (.ref 0), some (.ref 13), some (.int (nI i))] [] := by
    intro fu
    induction fu with
    | zero =>
      intro i M1 hfu hi hI1 hI2 hI3 hI4
      have hiN : i = 4 := by omega
      refine R.b bk_X7_init_121 (And.intro (by exact And.intro rfl (by omega)) ?_)
      show mx_b false [.inl .arraylength] _ _ _ (mx_rv (M1 0 9) :: _) _
      rw [show mx_rv (M1 0 9) = .ref 8 by rw [hI1]; exact mx_rv_nI (t := 8) (by decide) (by decide)]
      refine (And.intro ⟨15, by decide, by decide, And.intro rfl (by omega)⟩ ?_)
      refine R.c br_X7_init_127 (And.intro (fun h127 => ?_) (fun h127 => absurd (by rw [hiN]; decide) h127))
      refine R.b bk_X7_init_149 ?_
      rw [show 42 + 2 * i = 50 + 4 * 0 by omega]
      refine hF 5 0 M1 rfl (by decide) hI1 (fun q h1 h2 h9 => ?_) (by rw [hI4, refs_0])
      by_cases e : q = 8
      · rw [e, hI3, hiN]
        rfl
      · exact hI2 q h1 (by omega) e h9
    | succ fu ih =>
      intro i M1 hfu hi hI1 hI2 hI3 hI4
      have hlt : i < 4 := by omega
      refine R.b bk_X7_init_121 (And.intro (by exact And.intro rfl (by omega)) ?_)
      show mx_b false [.inl .arraylength] _ _ _ (mx_rv (M1 0 9) :: _) _
      rw [show mx_rv (M1 0 9) = .ref 8 by rw [hI1]; exact mx_rv_nI (t := 8) (by decide) (by decide)]
      refine (And.intro ⟨15, by decide, by decide, And.intro rfl (by omega)⟩ ?_)
      refine R.c br_X7_init_127 (And.intro (fun h127 => absurd h127 (nI_ge (b := 4) hlt (by decide))) (fun h127 => ?_))
      refine R.b bk_X7_init_130 (And.intro (by exact And.intro rfl (by omega)) ?_)
      show mx_b false [.inl (.iload 2)] _ _ _ (mx_rv (M1 0 9) :: _) _
      rw [show mx_rv (M1 0 9) = .ref 8 by rw [hI1]; exact mx_rv_nI (t := 8) (by decide) (by decide)]
      refine R.nw kc_X7_init_135 (kd_sheet hlt).1 (by omega) ?_
      refine R.b bk_X7_init_138 ?_
      refine R.I0 kc_X7_init_139 (c_X4_init (b := 42 + 2 * i) (kd_sheet hlt).1 (kd_sheet hlt).2.1 (kd_sheet hlt).2.2 (mx_z_at _ _) (by omega)) (by omega) rfl ⟨by omega, by omega⟩ (fun M139 q139 => ?_)
      obtain ⟨q1, q2⟩ := q139
      refine R.as dd_X7_init_142 ⟨rfl, by omega⟩ ⟨by decide, by decide⟩ ⟨(kd_sheet hlt).1, by omega, by omega⟩ (by exact vp_in_nI (show i < 4 from hlt) (by decide)) ?_
      refine R.b bk_X7_init_143 ?_
      refine R.j gt_X7_init_146 ?_
      rw [nI_inc]
      rw [show 42 + 2 * i + 2 = 42 + 2 * (i + 1) by omega]
      refine ih (i + 1) _ (by omega) (by omega) ?_ ?_ ?_ ?_
      · rw [mx_wr_ne (by omega), q2 0 (by omega), mx_z_ne (by omega)]; exact hI1
      · intro q h1 h2 h4 h5
        rw [mx_wr_ne h4]
        by_cases e : q < 42 + 2 * i
        · rw [q2 q e, mx_z_ne (by omega)]; exact hI2 q h1 e h4 h5
        · exact q1 q (by omega) (by omega)
      · rw [mx_wr_up, mx_rw_at, q2 _ (by omega), mx_z_ne (by omega), hI3, nI_clamp (by omega)]
        exact refs_up (by unfold mx_el; congr 1 <;> omega)
      · rw [mx_wr_ne (by decide), q2 _ (by omega), mx_z_ne (by omega)]; exact hI4
  have hA : ∀ (fu i : Nat) (M1 : Mm), 14 - i = fu → i ≤ 14 → (M1 0 = iniB0) → (∀ q, 1 ≤ q → q < 14 + 2 * i → q ≠ 13 → q ≠ 8 → q ≠ 9 → M1 q = Ini q) → (M1 13 = refs 14 13 i) → (M1 8 = zr) → (M1 9 = zr) → X (14 + 2 * i) M1 97 [some (.ref 0), some (.ref 13), some (.int (nI i))] [] := by
    intro fu
    induction fu with
    | zero =>
      intro i M1 hfu hi hI1 hI2 hI3 hI4 hI5
      have hiN : i = 14 := by omega
      refine R.b bk_X7_init_97 (And.intro ⟨14, by decide, by decide, And.intro rfl (by omega)⟩ ?_)
      refine R.c br_X7_init_100 (And.intro (fun h100 => ?_) (fun h100 => absurd (by rw [hiN]; decide) h100))
      refine R.b bk_X7_init_119 ?_
      rw [show 14 + 2 * i = 42 + 2 * 0 by omega]
      refine hE 4 0 M1 rfl (by decide) hI1 (fun q h1 h2 h8 h9 => ?_) (by rw [hI4, refs_0]) hI5
      by_cases e : q = 13
      · rw [e, hI3, hiN]
        rfl
      · exact hI2 q h1 (by omega) e h8 h9
    | succ fu ih =>
      intro i M1 hfu hi hI1 hI2 hI3 hI4 hI5
      have hlt : i < 14 := by omega
      refine R.b bk_X7_init_97 (And.intro ⟨14, by decide, by decide, And.intro rfl (by omega)⟩ ?_)
      refine R.c br_X7_init_100 (And.intro (fun h100 => absurd h100 (nI_ge (b := 14) hlt (by decide))) (fun h100 => ?_))
      refine R.b bk_X7_init_103 ?_
      refine R.nw kc_X7_init_105 (kd_law hlt).1 (by omega) ?_
      refine R.b bk_X7_init_108 ?_
      refine R.I0 kc_X7_init_109 (c_X1_init (b := 14 + 2 * i) (kd_law hlt).1 (kd_law hlt).2.1 (kd_law hlt).2.2 (mx_z_at _ _) (by omega)) (by omega) rfl ⟨by omega, by omega⟩ (fun M109 q109 => ?_)
      obtain ⟨q1, q2⟩ := q109
      refine R.as dd_X7_init_112 ⟨rfl, by omega⟩ ⟨by decide, by decide⟩ ⟨(kd_law hlt).1, by omega, by omega⟩ (by exact vp_in_nI (show i < 14 from hlt) (by decide)) ?_
      refine R.b bk_X7_init_113 ?_
      refine R.j gt_X7_init_116 ?_
      rw [nI_inc]
      rw [show 14 + 2 * i + 2 = 14 + 2 * (i + 1) by omega]
      refine ih (i + 1) _ (by omega) (by omega) ?_ ?_ ?_ ?_ ?_
      · rw [mx_wr_ne (by omega), q2 0 (by omega), mx_z_ne (by omega)]; exact hI1
      · intro q h1 h2 h4 h5 h6
        rw [mx_wr_ne h4]
        by_cases e : q < 14 + 2 * i
        · rw [q2 q e, mx_z_ne (by omega)]; exact hI2 q h1 e h4 h5 h6
        · exact q1 q (by omega) (by omega)
      · rw [mx_wr_up, mx_rw_at, q2 _ (by omega), mx_z_ne (by omega), hI3, nI_clamp (by omega)]
        exact refs_up (by unfold mx_el; congr 1 <;> omega)
      · rw [mx_wr_ne (by decide), q2 _ (by omega), mx_z_ne (by omega)]; exact hI4
      · rw [mx_wr_ne (by decide), q2 _ (by omega), mx_z_ne (by omega)]; exact hI5
  refine R.b bk_X7_init_0 ?_
  refine R.oi kc_X7_init_1 (by omega) rfl ?_
  refine R.b bk_X7_init_4 (And.intro (by exact And.intro rfl (by decide)) (And.intro rfl (And.intro rfl ?_)))
  refine R.na dd_X7_init_12 ⟨rfl, by decide⟩ ⟨by decide, by decide, by decide⟩ (by decide) ?_
  refine R.b bk_X7_init_14 (And.intro (by exact And.intro rfl (by decide)) (And.intro (Or.inr ⟨rfl, by decide⟩) (And.intro (by decide) (And.intro (by exact And.intro rfl (by decide)) (And.intro rfl (And.intro rfl ?_))))))
  refine R.nw kc_X7_init_23 rfl (by decide) ?_
  refine R.b bk_X7_init_26 ?_
  refine R.I0 kc_X7_init_27 (c_X2_init (mx_z_at _ _)) (by omega) rfl ⟨by decide, by decide⟩ (fun M27 q27 => ?_)
  obtain ⟨q1, q2⟩ := q27
  refine R.b bk_X7_init_30 (And.intro (by exact And.intro rfl (by decide)) (And.intro (Or.inr ⟨rfl, by decide⟩) (And.intro (by decide) ?_)))
  refine R.nw kc_X7_init_34 rfl (by decide) ?_
  refine R.b bk_X7_init_37 ?_
  refine R.I0 kc_X7_init_38 (c_X1_init (b := 6) rfl rfl rfl (mx_z_at _ _) (by decide)) (by omega) rfl ⟨by decide, by decide⟩ (fun M38 q38 => ?_)
  obtain ⟨q3, q4⟩ := q38
  refine R.b bk_X7_init_41 (And.intro (by exact And.intro rfl (by decide)) (And.intro (Or.inr ⟨rfl, by decide⟩) (And.intro (by decide) ?_)))
  refine R.an kc_X7_init_46 rfl ⟨by decide, by decide, by decide⟩ (by decide) ?_
  refine R.b bk_X7_init_49 (And.intro (by exact And.intro rfl (by decide)) (And.intro (Or.inr ⟨rfl, by decide⟩) (And.intro (by decide) ?_)))
  refine R.an kc_X7_init_54 rfl ⟨by decide, by decide, by decide⟩ (by decide) ?_
  refine R.b bk_X7_init_57 (And.intro (by exact And.intro rfl (by decide)) (And.intro (Or.inr ⟨rfl, by decide⟩) (And.intro (by decide) ?_)))
  refine R.na dd_X7_init_63 ⟨rfl, by decide⟩ ⟨by decide, by decide, by decide⟩ (by decide) ?_
  refine R.b bk_X7_init_65 (And.intro (by exact And.intro rfl (by decide)) (And.intro (Or.inr ⟨rfl, by decide⟩) (And.intro (by decide) (And.intro (by exact And.intro rfl (by decide)) (And.intro rfl (And.intro rfl ?_))))))
  refine R.na dd_X7_init_76 ⟨rfl, by decide⟩ ⟨by decide, by decide, by decide⟩ (by decide) ?_
  refine R.b bk_X7_init_78 (And.intro (by exact And.intro rfl (by decide)) (And.intro (Or.inr ⟨rfl, by decide⟩) (And.intro (by decide) ?_)))
  refine R.na dd_X7_init_84 ⟨rfl, by decide⟩ ⟨by decide, by decide, by decide⟩ (by decide) ?_
  refine R.b bk_X7_init_86 (And.intro (by exact And.intro rfl (by decide)) (And.intro (Or.inr ⟨rfl, by decide⟩) (And.intro (by decide) ?_)))
  refine R.an kc_X7_init_91 rfl ⟨by decide, by decide, by decide⟩ (by decide) ?_
  refine R.b bk_X7_init_94 ?_
  have f0 : ∀ N : Mm, ∀ k j v q, q ≠ k → mx_wr N k j v q = N q := fun N k j v q h => mx_wr_ne h
  refine hA 14 0 _ rfl (by decide) ?_ ?_ ?_ ?_ ?_
  · refine Eq.trans (b := (up (up (up (up (up (up (up (M38 0) 8 (nI 6)) 9 (nI 8)) 10 (nI 9)) 11 (nI 10)) 12 0) 13 (nI 11)) 14 (nI 12))) rfl ?_
    rw [q4 0 (by decide)]
    refine Eq.trans (b := (up (up (up (up (up (up (up (up (M27 0) 7 (nI 2)) 8 (nI 6)) 9 (nI 8)) 10 (nI 9)) 11 (nI 10)) 12 0) 13 (nI 11)) 14 (nI 12))) rfl ?_
    rw [q2 0 (by decide)]
    refine Eq.trans (b := (up (up (up (up (up (up (up (up (up (up (up (M 0) 4 0) 5 (nI 1)) 6 0) 7 (nI 2)) 8 (nI 6)) 9 (nI 8)) 10 (nI 9)) 11 (nI 10)) 12 0) 13 (nI 11)) 14 (nI 12))) rfl ?_
    rw [hz]
    rfl
  · intro q h1 h2 h13 h8 h9
    rcases (show q = 1 ∨ (2 ≤ q ∧ q < 6) ∨ (6 ≤ q ∧ q < 8) ∨ q = 10 ∨ q = 11 ∨ q = 12 by omega) with rfl | h | h | rfl | rfl | rfl
    · refine Eq.trans (b := M38 1) rfl ?_
      rw [q4 1 (by decide)]
      refine Eq.trans (b := M27 1) rfl ?_
      rw [q2 1 (by decide)]
      rfl
    · simp only [mx_wr_ne (show q ≠ 0 by omega), mx_z_ne (show q ≠ 13 by omega), mx_z_ne (show q ≠ 12 by omega), mx_z_ne (show q ≠ 11 by omega), mx_z_ne (show q ≠ 10 by omega), mx_z_ne (show q ≠ 9 by omega), mx_z_ne (show q ≠ 8 by omega)]
      rw [q4 q (by omega), mx_z_ne (by omega), mx_wr_ne (by omega)]
      exact q1 q h.1 h.2
    · simp only [mx_wr_ne (show q ≠ 0 by omega), mx_z_ne (show q ≠ 13 by omega), mx_z_ne (show q ≠ 12 by omega), mx_z_ne (show q ≠ 11 by omega), mx_z_ne (show q ≠ 10 by omega), mx_z_ne (show q ≠ 9 by omega), mx_z_ne (show q ≠ 8 by omega)]
      exact q3 q h.1 h.2
    · rfl
    · rfl
    · rfl
  · rw [refs_0]
    rfl
  · rfl
  · rfl
theorem c_X8_init {l : Launch} {G : Gt} {M : Mm}  (hz : M 103 = zr) : Runs l G false dm_X8_init 1 (104) [.ref 103] M (127) (Pv (Made 103 127 M)) := by
  refine mx_runI ow_X8_init rfl rfl rfl (by omega) (fun dp X hdp R => ?_)
  refine R.b bk_X8_init_0 ?_
  refine R.oi kc_X8_init_1 (by omega) rfl ?_
  refine R.b bk_X8_init_4 ?_
  refine R.na dd_X8_init_8 ⟨rfl, by decide⟩ ⟨by decide, by decide, by decide⟩ (by decide) ?_
  refine R.b bk_X8_init_10 (And.intro (by exact And.intro rfl (by decide)) (And.intro (Or.inr ⟨rfl, by decide⟩) (And.intro (by decide) ?_)))
  refine R.na dd_X8_init_17 ⟨rfl, by decide⟩ ⟨by decide, by decide, by decide⟩ (by decide) ?_
  refine R.b bk_X8_init_19 (And.intro (by exact And.intro rfl (by decide)) (And.intro (Or.inr ⟨rfl, by decide⟩) (And.intro (by decide) ?_)))
  refine R.na dd_X8_init_26 ⟨rfl, by decide⟩ ⟨by decide, by decide, by decide⟩ (by decide) ?_
  refine R.b bk_X8_init_28 (And.intro (by exact And.intro rfl (by decide)) (And.intro (Or.inr ⟨rfl, by decide⟩) (And.intro (by decide) ?_)))
  refine R.na dd_X8_init_34 ⟨rfl, by decide⟩ ⟨by decide, by decide, by decide⟩ (by decide) ?_
  refine R.b bk_X8_init_36 (And.intro (by exact And.intro rfl (by decide)) (And.intro (Or.inr ⟨rfl, by decide⟩) (And.intro (by decide) ?_)))
  refine R.na dd_X8_init_42 ⟨rfl, by decide⟩ ⟨by decide, by decide, by decide⟩ (by decide) ?_
  refine R.b bk_X8_init_44 (And.intro (by exact And.intro rfl (by decide)) (And.intro (Or.inr ⟨rfl, by decide⟩) (And.intro (by decide) ?_)))
  refine R.na dd_X8_init_50 ⟨rfl, by decide⟩ ⟨by decide, by decide, by decide⟩ (by decide) ?_
  refine R.b bk_X8_init_52 (And.intro (by exact And.intro rfl (by decide)) (And.intro (Or.inr ⟨rfl, by decide⟩) (And.intro (by decide) ?_)))
  refine R.na dd_X8_init_58 ⟨rfl, by decide⟩ ⟨by decide, by decide, by decide⟩ (by decide) ?_
  refine R.b bk_X8_init_60 (And.intro (by exact And.intro rfl (by decide)) (And.intro (Or.inr ⟨rfl, by decide⟩) (And.intro (by decide) ?_)))
  refine R.na dd_X8_init_66 ⟨rfl, by decide⟩ ⟨by decide, by decide, by decide⟩ (by decide) ?_
  refine R.b bk_X8_init_68 (And.intro (by exact And.intro rfl (by decide)) (And.intro (by unfold vp_in; decide) (And.intro (by exact And.intro rfl (by decide)) (And.intro (by unfold vp_in; decide) (And.intro (by exact And.intro rfl (by decide)) (And.intro (by unfold vp_in; decide) (And.intro (by exact And.intro rfl (by decide)) (And.intro (by unfold vp_in; decide) (And.intro (by exact And.intro rfl (by decide)) (And.intro (by unfold vp_in; decide) (And.intro (by exact And.intro rfl (by decide)) (And.intro (by unfold vp_in; decide) (And.intro (by exact And.intro rfl (by decide)) (And.intro (by unfold vp_in; decide) (And.intro (by exact And.intro rfl (by decide)) (And.intro (by unfold vp_in; decide) (And.intro (by exact And.intro rfl (by decide)) (And.intro (by unfold vp_in; decide) (And.intro (by exact And.intro rfl (by decide)) (And.intro (by unfold vp_in; decide) (And.intro (by exact And.intro rfl (by decide)) (And.intro (by unfold vp_in; decide) (And.intro (by exact And.intro rfl (by decide)) (And.intro (by unfold vp_in; decide) (And.intro (by exact And.intro rfl (by decide)) (And.intro (by unfold vp_in; decide) (And.intro (by exact And.intro rfl (by decide)) (And.intro (Or.inr ⟨rfl, by decide⟩) (And.intro (by decide) ?_)))))))))))))))))))))))))))))
  refine R.na dd_X8_init_145 ⟨rfl, by decide⟩ ⟨by decide, by decide, by decide⟩ (by decide) ?_
  refine R.b bk_X8_init_147 (And.intro (by exact And.intro rfl (by decide)) (And.intro (by unfold vp_in; decide) (And.intro (by exact And.intro rfl (by decide)) (And.intro (by unfold vp_in; decide) (And.intro (by exact And.intro rfl (by decide)) (And.intro (by unfold vp_in; decide) (And.intro (by exact And.intro rfl (by decide)) (And.intro (by unfold vp_in; decide) (And.intro (by exact And.intro rfl (by decide)) (And.intro (Or.inr ⟨rfl, by decide⟩) (And.intro (by decide) ?_)))))))))))
  refine R.na dd_X8_init_171 ⟨rfl, by decide⟩ ⟨by decide, by decide, by decide⟩ (by decide) ?_
  refine R.b bk_X8_init_173 (And.intro (by exact And.intro rfl (by decide)) (And.intro (Or.inr ⟨rfl, by decide⟩) (And.intro (by decide) ?_)))
  refine R.na dd_X8_init_179 ⟨rfl, by decide⟩ ⟨by decide, by decide, by decide⟩ (by decide) ?_
  refine R.b bk_X8_init_181 (And.intro (by exact And.intro rfl (by decide)) (And.intro (Or.inr ⟨rfl, by decide⟩) (And.intro (by decide) ?_)))
  refine R.na dd_X8_init_187 ⟨rfl, by decide⟩ ⟨by decide, by decide, by decide⟩ (by decide) ?_
  refine R.b bk_X8_init_189 (And.intro (by exact And.intro rfl (by decide)) (And.intro (Or.inr ⟨rfl, by decide⟩) (And.intro (by decide) ?_)))
  refine R.na dd_X8_init_195 ⟨rfl, by decide⟩ ⟨by decide, by decide, by decide⟩ (by decide) ?_
  refine R.b bk_X8_init_197 (And.intro (by exact And.intro rfl (by decide)) (And.intro (Or.inr ⟨rfl, by decide⟩) (And.intro (by decide) ?_)))
  refine R.na dd_X8_init_202 ⟨rfl, by decide⟩ ⟨by decide, by decide, by decide⟩ (by decide) ?_
  refine R.b bk_X8_init_204 (And.intro (by exact And.intro rfl (by decide)) (And.intro (Or.inr ⟨rfl, by decide⟩) (And.intro (by decide) ?_)))
  refine R.na dd_X8_init_209 ⟨rfl, by decide⟩ ⟨by decide, by decide, by decide⟩ (by decide) ?_
  refine R.b bk_X8_init_211 (And.intro (by exact And.intro rfl (by decide)) (And.intro (by unfold vp_in; decide) (And.intro (by exact And.intro rfl (by decide)) (And.intro (by unfold vp_in; decide) (And.intro (by exact And.intro rfl (by decide)) (And.intro (by unfold vp_in; decide) (And.intro (by exact And.intro rfl (by decide)) (And.intro (by unfold vp_in; decide) (And.intro (by exact And.intro rfl (by decide)) (And.intro (Or.inr ⟨rfl, by decide⟩) (And.intro (by decide) ?_)))))))))))
  refine R.na dd_X8_init_232 ⟨rfl, by decide⟩ ⟨by decide, by decide, by decide⟩ (by decide) ?_
  refine R.b bk_X8_init_234 (And.intro (by exact And.intro rfl (by decide)) (And.intro (Or.inr ⟨rfl, by decide⟩) (And.intro (by decide) ?_)))
  refine R.na dd_X8_init_240 ⟨rfl, by decide⟩ ⟨by decide, by decide, by decide⟩ (by decide) ?_
  refine R.b bk_X8_init_242 (And.intro (by exact And.intro rfl (by decide)) (And.intro (Or.inr ⟨rfl, by decide⟩) (And.intro (by decide) ?_)))
  refine R.na dd_X8_init_247 ⟨rfl, by decide⟩ ⟨by decide, by decide, by decide⟩ (by decide) ?_
  refine R.b bk_X8_init_249 (And.intro (by exact And.intro rfl (by decide)) (And.intro (Or.inr ⟨rfl, by decide⟩) (And.intro (by decide) ?_)))
  refine R.na dd_X8_init_254 ⟨rfl, by decide⟩ ⟨by decide, by decide, by decide⟩ (by decide) ?_
  refine R.b bk_X8_init_256 (And.intro (by exact And.intro rfl (by decide)) (And.intro (Or.inr ⟨rfl, by decide⟩) (And.intro (by decide) ?_)))
  refine R.na dd_X8_init_261 ⟨rfl, by decide⟩ ⟨by decide, by decide, by decide⟩ (by decide) ?_
  refine R.b bk_X8_init_263 (And.intro (by exact And.intro rfl (by decide)) (And.intro (Or.inr ⟨rfl, by decide⟩) (And.intro (by decide) ?_)))
  refine R.na dd_X8_init_269 ⟨rfl, by decide⟩ ⟨by decide, by decide, by decide⟩ (by decide) ?_
  refine R.b bk_X8_init_271 (And.intro (by exact And.intro rfl (by decide)) (And.intro (Or.inr ⟨rfl, by decide⟩) (And.intro (by decide) ?_)))
  refine R.na dd_X8_init_277 ⟨rfl, by decide⟩ ⟨by decide, by decide, by decide⟩ (by decide) ?_
  refine R.b bk_X8_init_279 (And.intro (by exact And.intro rfl (by decide)) (And.intro (Or.inr ⟨rfl, by decide⟩) (And.intro (by decide) ?_)))
  refine R.na dd_X8_init_285 ⟨rfl, by decide⟩ ⟨by decide, by decide, by decide⟩ (by decide) ?_
  refine R.b bk_X8_init_287 (And.intro (by exact And.intro rfl (by decide)) (And.intro (Or.inr ⟨rfl, by decide⟩) (And.intro (by decide) (And.intro (by exact And.intro rfl (by decide)) ?_))))
  show mx_b false [.inr (.int 0), .inr (.int 1), .inl .iastore, .inl (.aload 0), .inl (.getfield 512), .inr (.int 3), .inr (.int 20), .inl .iastore, .inl (.aload 0), .inl (.getfield 512), .inr (.int 4), .inr (.int 2), .inl .iastore, .inl (.aload 0), .inl (.getfield 512), .inr (.int 5), .inr (.int 2), .inl .iastore] _ _ _ (.ref 104 :: _) _
  refine (And.intro (by exact And.intro rfl (by decide)) (And.intro (by unfold vp_in; decide) (And.intro (by exact And.intro rfl (by decide)) ?_)))
  show mx_b false [.inr (.int 3), .inr (.int 20), .inl .iastore, .inl (.aload 0), .inl (.getfield 512), .inr (.int 4), .inr (.int 2), .inl .iastore, .inl (.aload 0), .inl (.getfield 512), .inr (.int 5), .inr (.int 2), .inl .iastore] _ _ _ (.ref 104 :: _) _
  refine (And.intro (by exact And.intro rfl (by decide)) (And.intro (by unfold vp_in; decide) (And.intro (by exact And.intro rfl (by decide)) ?_)))
  show mx_b false [.inr (.int 4), .inr (.int 2), .inl .iastore, .inl (.aload 0), .inl (.getfield 512), .inr (.int 5), .inr (.int 2), .inl .iastore] _ _ _ (.ref 104 :: _) _
  refine (And.intro (by exact And.intro rfl (by decide)) (And.intro (by unfold vp_in; decide) (And.intro (by exact And.intro rfl (by decide)) ?_)))
  show mx_b false [.inr (.int 5), .inr (.int 2), .inl .iastore] _ _ _ (.ref 104 :: _) _
  refine (And.intro (by exact And.intro rfl (by decide)) (And.intro (by unfold vp_in; decide) ?_))
  refine R.rv rt_X8_init_319 ⟨rfl, ?_⟩
  refine ⟨fun q h1 h2 => ?_, fun q hq => ?_⟩
  · rcases (show q = 103 ∨ q = 104 ∨ q = 105 ∨ q = 106 ∨ q = 107 ∨ q = 108 ∨ q = 109 ∨ q = 110 ∨ q = 111 ∨ q = 112 ∨ q = 113 ∨ q = 114 ∨ q = 115 ∨ q = 116 ∨ q = 117 ∨ q = 118 ∨ q = 119 ∨ q = 120 ∨ q = 121 ∨ q = 122 ∨ q = 123 ∨ q = 124 ∨ q = 125 ∨ q = 126 by omega) with rfl | rfl | rfl | rfl | rfl | rfl | rfl | rfl | rfl | rfl | rfl | rfl | rfl | rfl | rfl | rfl | rfl | rfl | rfl | rfl | rfl | rfl | rfl | rfl
    · refine Eq.trans (b := (up (up (up (up (up (up (up (up (up (up (up (up (up (up (up (up (up (up (up (up (up (up (up (M 103) 0 (nI 104)) 1 (nI 105)) 2 (nI 106)) 4 (nI 107)) 5 (nI 108)) 6 (nI 109)) 7 (nI 110)) 15 (nI 111)) 16 (nI 112)) 17 (nI 113)) 20 (nI 114)) 22 (nI 115)) 23 (nI 116)) 24 (nI 117)) 25 (nI 118)) 26 (nI 119)) 27 (nI 120)) 28 (nI 121)) 29 (nI 122)) 30 (nI 123)) 31 (nI 124)) 32 (nI 125)) 33 (nI 126))) rfl ?_
      rw [hz]
      rfl
    · rfl
    · rfl
    · rfl
    · rfl
    · rfl
    · rfl
    · rfl
    · rfl
    · rfl
    · rfl
    · rfl
    · rfl
    · rfl
    · rfl
    · rfl
    · rfl
    · rfl
    · rfl
    · rfl
    · rfl
    · rfl
    · rfl
    · rfl
  · simp only [mx_wr_ne (show q ≠ 103 by omega), mx_wr_ne (show q ≠ 104 by omega), mx_wr_ne (show q ≠ 111 by omega), mx_wr_ne (show q ≠ 112 by omega), mx_wr_ne (show q ≠ 118 by omega), mx_z_ne (show q ≠ 103 by omega), mx_z_ne (show q ≠ 104 by omega), mx_z_ne (show q ≠ 105 by omega), mx_z_ne (show q ≠ 106 by omega), mx_z_ne (show q ≠ 107 by omega), mx_z_ne (show q ≠ 108 by omega), mx_z_ne (show q ≠ 109 by omega), mx_z_ne (show q ≠ 110 by omega), mx_z_ne (show q ≠ 111 by omega), mx_z_ne (show q ≠ 112 by omega), mx_z_ne (show q ≠ 113 by omega), mx_z_ne (show q ≠ 114 by omega), mx_z_ne (show q ≠ 115 by omega), mx_z_ne (show q ≠ 116 by omega), mx_z_ne (show q ≠ 117 by omega), mx_z_ne (show q ≠ 118 by omega), mx_z_ne (show q ≠ 119 by omega), mx_z_ne (show q ≠ 120 by omega), mx_z_ne (show q ≠ 121 by omega), mx_z_ne (show q ≠ 122 by omega), mx_z_ne (show q ≠ 123 by omega), mx_z_ne (show q ≠ 124 by omega), mx_z_ne (show q ≠ 125 by omega), mx_z_ne (show q ≠ 126 by omega)]
