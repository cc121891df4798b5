/-! the start: all made -/
theorem Ini_keys : keysOK ini111 := by
  have a : ∀ j, j < 3 → ∀ i, i < s_len j → ini111 ((if j = 0 then 0 else if j = 1 then 5 else 9) + i) = s_at j i := by decide +kernel
  exact fun j i h1 h2 => a j h1 i h2
theorem SIM_start {M : Mm} (h : ∀ q, q < 127 → M q = Ini q) : SIM M := by
  have e104 : M 104 = ini104 := h 104 (by decide)
  have e105 : M 105 = zr := h 105 (by decide)
  have e106 : M 106 = zr := h 106 (by decide)
  have e70 : M 70 = iniW 70 := h 70 (by decide)
  have e0 : M 0 = iniB := h 0 (by decide)
  have e103 : M 103 = iniM := h 103 (by decide)
  refine ⟨⟨0, ⟨⟨by decide, by rw [e104]; rfl, ⟨0, by decide, by rw [e104]; rfl, fun t ht => absurd ht (by omega)⟩, fun d hd => absurd hd (by omega)⟩, fun d hd => absurd hd (by omega)⟩, ⟨0, by decide, by rw [e104]; rfl, fun d hd => absurd hd (by omega)⟩, ⟨by rw [e104]; rfl, by rw [e70, e104]; rfl, by rw [e70, e104]; rfl, by rw [e70, e104]; rfl, by rw [e70, e104]; rfl, by rw [e70, e104]; rfl, by rw [e70, e104]; rfl, by rw [e70, e104]; rfl, ?_, fun d hd => absurd hd (by omega)⟩, ?_⟩, ⟨by rw [e103, e0]; rfl, fun hn => absurd (show M 0 4 = 0 by rw [e0]; rfl) hn⟩, ⟨0, by decide, by rw [e0]; rfl, by rw [e103]; rfl, ?_⟩, ⟨?_, ?_, ?_⟩, ⟨0, by decide, by rw [e0]; rfl, by rw [e103]; rfl, fun j hj => absurd hj (by omega)⟩, ⟨11, 12, Or.inl ⟨rfl, rfl⟩, by rw [e0]; rfl, by rw [e0]; rfl⟩, ⟨?_, ?_, ?_⟩, ⟨by rw [h 111 (by decide)]; exact Ini_keys, by rw [h 112 (by decide)]; rfl, by rw [h 112 (by decide)]; rfl, by rw [h 112 (by decide)]; rfl, by rw [h 112 (by decide)]; rfl⟩⟩
  · intro k hk
    rw [h (70 + 2) (by decide), e104]
    show negs 3 k = _
    rw [negs, if_pos hk, A_cnt, show cN (ini104 6) = 0 from rfl]
    rfl
  · intro t ht
    rw [e104, show cN (ini104 6) = 0 from rfl] at ht
    exact absurd ht (by omega)
  · intro k hk
    rw [h 1 (by decide), h 110 (by decide)]
    show (0 : Int32) &&& 255 = 0
    decide
  · intro s hs
    rw [h (42 + 2 * s) (by omega), h (42 + 2 * s + 1) (by omega), h 118 (by decide), h 119 (by decide), h 120 (by decide)]
    rcases (show s = 0 ∨ s = 1 ∨ s = 2 ∨ s = 3 by omega) with rfl | rfl | rfl | rfl <;> exact ⟨rfl, rfl, fun _ _ => rfl⟩
  · intro s hs
    rw [h 118 (by decide), h 119 (by decide), h 120 (by decide)]
    refine ⟨?_, ⟨0, by decide, rfl⟩, fun k _ => Or.inr (by show -99999 ≤ (0 : Int32) ∧ (0 : Int32) ≤ 99999; decide)⟩
    rcases (show s = 0 ∨ s = 1 ∨ s = 2 ∨ s = 3 by omega) with rfl | rfl | rfl | rfl <;> exact Or.inl rfl
  · intro s hs
    rw [h (50 + 4 * s) (by omega), h 121 (by decide)]
    refine ⟨?_, fun e => absurd (show (0 : Int32) = 1 from e) (by decide), fun e => absurd (show (0 : Int32) = 2 from e) (by decide), fun e => absurd (show (0 : Int32) = 3 from e) (by decide)⟩
    rcases (show s = 0 ∨ s = 1 ∨ s = 2 ∨ s = 3 ∨ s = 4 by omega) with rfl | rfl | rfl | rfl | rfl <;> rfl
  · intro j hj
    rw [e104]
    unfold ini104
    rw [up_ne (by omega), up_ne (by omega), up_ne (by omega), up_ne (by omega)]
    rfl
  · intro j hj
    rw [e105]
    rfl
  · intro j hj
    rw [e106]
    rfl
/-- references, once all is made -/
def iniOk (k j : Nat) : Bool := decide ((kd k).2 ≤ j) || (if (kd k).1 < 9 then decide (mx_sv true (ft (kd k).1 j) k (Ini k j) = mx_sv false (ft (kd k).1 j) k (Ini k j)) else decide (mx_ev true (kd k).1 k j (Ini k j) = mx_ev false (kd k).1 k j (Ini k j)))
theorem iniOk_all : ∀ k, k < 127 → (kd k).1 < 9 ∨ 13 ≤ (kd k).1 → ∀ j, j < 35 → iniOk k j = true := by decide +kernel
theorem kd_35 : ∀ k, k < 127 → (kd k).1 < 9 ∨ 13 ≤ (kd k).1 → (kd k).2 ≤ 35 := by decide +kernel
theorem iniOk_obj {k j : Nat} (hk : k < 127) (h9 : (kd k).1 < 9) (hj : j < (kd k).2) : mx_sv true (ft (kd k).1 j) k (Ini k j) = mx_sv false (ft (kd k).1 j) k (Ini k j) := by
  have a := iniOk_all k hk (Or.inl h9) j (by have := kd_35 k hk (Or.inl h9); omega)
  rw [iniOk, decide_eq_false (by omega), Bool.false_or, if_pos h9] at a
  exact of_decide_eq_true a
theorem iniOk_arr {k j : Nat} (hk : k < 127) (h9 : ¬ (kd k).1 < 9) (hj : j < (kd k).2) : mx_ev true (kd k).1 k j (Ini k j) = mx_ev false (kd k).1 k j (Ini k j) := by
  by_cases h13 : (kd k).1 < 13
  · rw [mx_ev, mx_ev, if_pos h13, if_pos h13]
  · have a := iniOk_all k hk (Or.inr (by omega)) j (by have := kd_35 k hk (Or.inr (by omega)); omega)
    rw [iniOk, decide_eq_false (by omega), Bool.false_or, if_neg h9] at a
    exact of_decide_eq_true a
theorem arrV_same {cI : ClassId} {N : Nat} {f g : Nat → Value} (h : ∀ j, j < N → f j = g j) : arrV cI N f = arrV cI N g := by
  unfold arrV
  congr 2
  funext j
  exact h j.val j.isLt
theorem mx_H_made {G : Gt} {M : Mm} {H : Heap} (h : mx_H G false 127 M H) (hM : ∀ q, q < 127 → M q = Ini q) : mx_H G true 127 M H := by
  obtain ⟨h1, h2, -, h4, h5⟩ := h
  refine ⟨h1, h2, fun _ => rfl, h4, fun k hk => ?_⟩
  have c := h5 k hk
  unfold mx_cell at c ⊢
  rw [hM k hk] at c ⊢
  split
  · rename_i h9
    rw [if_pos h9] at c
    exact c.to (fun j hj => by rw [iniOk_obj hk h9 hj])
  · rename_i h9
    rw [if_neg h9] at c
    rw [c]
    exact congrArg some (arrV_same (fun j hj => by rw [iniOk_arr hk h9 hj]))
