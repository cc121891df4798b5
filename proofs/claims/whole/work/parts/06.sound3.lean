section MX
variable {p : Program} {l : Launch} {e : Env} {R : Room} {s : State} {m : MethodId} {args : Array Value} {below : List Frame} {meth : Method} {c : Code} {Q : State → Prop} {G : Gt} {md : Bool} {n0 nL o : Nat} {cc : ByteArray}
theorem mx_arr {n c1 k : Nat} {M : Mm} {H : Heap} (hH : mx_H G md n M H) (hi : mx_in md c1 k n) (h9 : 9 ≤ c1) (h17 : c1 < 17) : k < n ∧ (kd k).1 = c1 ∧ H[mx_ad G k]? = some (arrV (G.2.2.1 c1) (kd k).2 (fun j => mx_cv G (mx_ev md c1 k j (M k j)))) := by
  obtain ⟨hk, hkc⟩ := mx_lt hH hi (by omega)
  have hcell := hH.2.2.2.2 k hk
  unfold mx_cell at hcell
  rw [if_neg (by omega), hkc] at hcell
  rw [mx_adk hH hk]
  exact ⟨hk, hkc, hcell⟩
theorem mx_iald {pc k n : Nat} {M : Mm} {L : Lv} {r : Sk} {i : Int32} (C : mx_C p s m args meth c G md nL o cc) (hd : decode cc pc = .ok (.iaload, 1)) (hi : mx_in md 11 k n) (hr : vp_in i (kd k).2) (K : mx_X p l e R s m args below meth c Q G md n0 nL n M (pc + 1) L (.int (M k i.toNatClampNeg) :: r)) : mx_X p l e R s m args below meth c Q G md n0 nL n M pc L (.int i :: .ref k :: r) := by
  intro hL hn H locs ls hH hlo hls
  obtain ⟨hx, hb, hml, ho, hts, hK, -⟩ := C
  obtain ⟨hk, hkc, hcell⟩ := mx_arr hH hi (by decide) (by decide)
  have hlt : i.toNatClampNeg < (kd k).2 := Nat.not_le.mp fun q => hr (Or.inr q)
  exact W.iald (v := .int (M k i.toNatClampNeg)) hx hb hcell ((hK.1.2 2 _ rfl).1 _ _) (fun q => by cases q) (by rw [arrV_size]; exact hr) (by rw [arrV_read _ _ hlt]; rfl) rfl rfl hd (K hL hn H locs ls hH hlo hls)
theorem mx_bald {pc k n : Nat} {M : Mm} {L : Lv} {r : Sk} {i : Int32} (C : mx_C p s m args meth c G md nL o cc) (hd : decode cc pc = .ok (.baload, 1)) (hi : mx_in md 9 k n) (hr : vp_in i (kd k).2) (K : mx_X p l e R s m args below meth c Q G md n0 nL n M (pc + 1) L (.int (M k i.toNatClampNeg) :: r)) : mx_X p l e R s m args below meth c Q G md n0 nL n M pc L (.int i :: .ref k :: r) := by
  intro hL hn H locs ls hH hlo hls
  obtain ⟨hx, hb, hml, ho, hts, hK, -⟩ := C
  obtain ⟨hk, hkc, hcell⟩ := mx_arr hH hi (by decide) (by decide)
  have hlt : i.toNatClampNeg < (kd k).2 := Nat.not_le.mp fun q => hr (Or.inr q)
  exact W.bald (v := .int (M k i.toNatClampNeg)) hx hb hcell ((hK.1.2 0 _ rfl).1 _ _) (fun q => by cases q) (by rw [arrV_size]; exact hr) (by rw [arrV_read _ _ hlt]; rfl) rfl rfl hd (K hL hn H locs ls hH hlo hls)
theorem mx_cald {pc k n : Nat} {M : Mm} {L : Lv} {r : Sk} {i : Int32} (C : mx_C p s m args meth c G md nL o cc) (hd : decode cc pc = .ok (.caload, 1)) (hi : mx_in md 10 k n) (hr : vp_in i (kd k).2) (K : mx_X p l e R s m args below meth c Q G md n0 nL n M (pc + 1) L (.int (M k i.toNatClampNeg) :: r)) : mx_X p l e R s m args below meth c Q G md n0 nL n M pc L (.int i :: .ref k :: r) := by
  intro hL hn H locs ls hH hlo hls
  obtain ⟨hx, hb, hml, ho, hts, hK, -⟩ := C
  obtain ⟨hk, hkc, hcell⟩ := mx_arr hH hi (by decide) (by decide)
  have hlt : i.toNatClampNeg < (kd k).2 := Nat.not_le.mp fun q => hr (Or.inr q)
  exact W.cald (v := .int (M k i.toNatClampNeg)) hx hb hcell ((hK.1.2 1 _ rfl).1 _ _) (fun q => by cases q) (by rw [arrV_size]; exact hr) (by rw [arrV_read _ _ hlt]; rfl) rfl rfl hd (K hL hn H locs ls hH hlo hls)
theorem mx_zald {pc k n : Nat} {M : Mm} {L : Lv} {r : Sk} {i : Int32} (C : mx_C p s m args meth c G md nL o cc) (hd : decode cc pc = .ok (.baload, 1)) (hi : mx_in md 12 k n) (hr : vp_in i (kd k).2) (K : mx_X p l e R s m args below meth c Q G md n0 nL n M (pc + 1) L (.int (M k i.toNatClampNeg) :: r)) : mx_X p l e R s m args below meth c Q G md n0 nL n M pc L (.int i :: .ref k :: r) := by
  intro hL hn H locs ls hH hlo hls
  obtain ⟨hx, hb, hml, ho, hts, hK, -⟩ := C
  obtain ⟨hk, hkc, hcell⟩ := mx_arr hH hi (by decide) (by decide)
  have hlt : i.toNatClampNeg < (kd k).2 := Nat.not_le.mp fun q => hr (Or.inr q)
  exact W.zald (v := .int (M k i.toNatClampNeg)) hx hb hcell ((hK.1.2 3 _ rfl).1 _ _) (fun q => by cases q) (by rw [arrV_size]; exact hr) (by rw [arrV_read _ _ hlt]; rfl) rfl rfl hd (K hL hn H locs ls hH hlo hls)
theorem mx_iast {pc k n : Nat} {M : Mm} {L : Lv} {r : Sk} {i x : Int32} (C : mx_C p s m args meth c G md nL o cc) (hd : decode cc pc = .ok (.iastore, 1)) (hi : mx_in md 11 k n) (hr : vp_in i (kd k).2) (K : mx_X p l e R s m args below meth c Q G md n0 nL n (mx_wr M k i.toNatClampNeg x) (pc + 1) L r) : mx_X p l e R s m args below meth c Q G md n0 nL n M pc L (.int x :: .int i :: .ref k :: r) := by
  intro hL hn H locs ls hH hlo hls
  obtain ⟨hx, hb, hml, ho, hts, hK, -⟩ := C
  obtain ⟨hk, hkc, hcell⟩ := mx_arr hH hi (by decide) (by decide)
  have hz : mx_ad G k = G.1.size + k := mx_adk hH hk
  refine W.iast hx hb hcell ((hK.1.2 2 _ rfl).1 _ _) (fun q => by cases q) (by rw [arrV_size]; exact hr) rfl rfl hd fun H1 e z oq => ?_
  refine K hL hn H1 _ ls (hH.put (k := k) (fun q hq => mx_wr_ne hq) z (fun q hq => oq q (by rw [hz]; exact hq)) ?_) (fun q hq => ?_) hls
  · unfold mx_cell
    rw [if_neg (by omega), hkc]
    rw [arrV_store, hz] at e
    rw [e]
    congr 2
    funext q
    rw [mx_wr_self]
    by_cases hq : q = i.toNatClampNeg
    · subst hq
      simp [updV, mx_ev, mx_cv, vp_nar]
      try rfl
    · simp [updV, hq]
  · rcases List.mem_append.mp hq with h | h
    · exact hlo q h
    · rw [List.mem_singleton.mp h]
      show G.1.size ≤ mx_ad G k
      omega
theorem mx_bast {pc k n : Nat} {M : Mm} {L : Lv} {r : Sk} {i x : Int32} (C : mx_C p s m args meth c G md nL o cc) (hd : decode cc pc = .ok (.bastore, 1)) (hi : mx_in md 9 k n) (hr : vp_in i (kd k).2) (K : mx_X p l e R s m args below meth c Q G md n0 nL n (mx_wr M k i.toNatClampNeg (vp_nar .byte x)) (pc + 1) L r) : mx_X p l e R s m args below meth c Q G md n0 nL n M pc L (.int x :: .int i :: .ref k :: r) := by
  intro hL hn H locs ls hH hlo hls
  obtain ⟨hx, hb, hml, ho, hts, hK, -⟩ := C
  obtain ⟨hk, hkc, hcell⟩ := mx_arr hH hi (by decide) (by decide)
  have hz : mx_ad G k = G.1.size + k := mx_adk hH hk
  refine W.bast hx hb hcell ((hK.1.2 0 _ rfl).1 _ _) (fun q => by cases q) (by rw [arrV_size]; exact hr) rfl rfl hd fun H1 e z oq => ?_
  refine K hL hn H1 _ ls (hH.put (k := k) (fun q hq => mx_wr_ne hq) z (fun q hq => oq q (by rw [hz]; exact hq)) ?_) (fun q hq => ?_) hls
  · unfold mx_cell
    rw [if_neg (by omega), hkc]
    rw [arrV_store, hz] at e
    rw [e]
    congr 2
    funext q
    rw [mx_wr_self]
    by_cases hq : q = i.toNatClampNeg
    · subst hq
      simp [updV, mx_ev, mx_cv, vp_nar]
      try rfl
    · simp [updV, hq]
  · rcases List.mem_append.mp hq with h | h
    · exact hlo q h
    · rw [List.mem_singleton.mp h]
      show G.1.size ≤ mx_ad G k
      omega
theorem mx_cast {pc k n : Nat} {M : Mm} {L : Lv} {r : Sk} {i x : Int32} (C : mx_C p s m args meth c G md nL o cc) (hd : decode cc pc = .ok (.castore, 1)) (hi : mx_in md 10 k n) (hr : vp_in i (kd k).2) (K : mx_X p l e R s m args below meth c Q G md n0 nL n (mx_wr M k i.toNatClampNeg (vp_nar .char x)) (pc + 1) L r) : mx_X p l e R s m args below meth c Q G md n0 nL n M pc L (.int x :: .int i :: .ref k :: r) := by
  intro hL hn H locs ls hH hlo hls
  obtain ⟨hx, hb, hml, ho, hts, hK, -⟩ := C
  obtain ⟨hk, hkc, hcell⟩ := mx_arr hH hi (by decide) (by decide)
  have hz : mx_ad G k = G.1.size + k := mx_adk hH hk
  refine W.cast hx hb hcell ((hK.1.2 1 _ rfl).1 _ _) (fun q => by cases q) (by rw [arrV_size]; exact hr) rfl rfl hd fun H1 e z oq => ?_
  refine K hL hn H1 _ ls (hH.put (k := k) (fun q hq => mx_wr_ne hq) z (fun q hq => oq q (by rw [hz]; exact hq)) ?_) (fun q hq => ?_) hls
  · unfold mx_cell
    rw [if_neg (by omega), hkc]
    rw [arrV_store, hz] at e
    rw [e]
    congr 2
    funext q
    rw [mx_wr_self]
    by_cases hq : q = i.toNatClampNeg
    · subst hq
      simp [updV, mx_ev, mx_cv, vp_nar]
      try rfl
    · simp [updV, hq]
  · rcases List.mem_append.mp hq with h | h
    · exact hlo q h
    · rw [List.mem_singleton.mp h]
      show G.1.size ≤ mx_ad G k
      omega
theorem mx_zast {pc k n : Nat} {M : Mm} {L : Lv} {r : Sk} {i x : Int32} (C : mx_C p s m args meth c G md nL o cc) (hd : decode cc pc = .ok (.bastore, 1)) (hi : mx_in md 12 k n) (hr : vp_in i (kd k).2) (K : mx_X p l e R s m args below meth c Q G md n0 nL n (mx_wr M k i.toNatClampNeg (vp_nar .boolean x)) (pc + 1) L r) : mx_X p l e R s m args below meth c Q G md n0 nL n M pc L (.int x :: .int i :: .ref k :: r) := by
  intro hL hn H locs ls hH hlo hls
  obtain ⟨hx, hb, hml, ho, hts, hK, -⟩ := C
  obtain ⟨hk, hkc, hcell⟩ := mx_arr hH hi (by decide) (by decide)
  have hz : mx_ad G k = G.1.size + k := mx_adk hH hk
  refine W.zast hx hb hcell ((hK.1.2 3 _ rfl).1 _ _) (fun q => by cases q) (by rw [arrV_size]; exact hr) rfl rfl hd fun H1 e z oq => ?_
  refine K hL hn H1 _ ls (hH.put (k := k) (fun q hq => mx_wr_ne hq) z (fun q hq => oq q (by rw [hz]; exact hq)) ?_) (fun q hq => ?_) hls
  · unfold mx_cell
    rw [if_neg (by omega), hkc]
    rw [arrV_store, hz] at e
    rw [e]
    congr 2
    funext q
    rw [mx_wr_self]
    by_cases hq : q = i.toNatClampNeg
    · subst hq
      simp [updV, mx_ev, mx_cv, vp_nar]
      try rfl
    · simp [updV, hq]
  · rcases List.mem_append.mp hq with h | h
    · exact hlo q h
    · rw [List.mem_singleton.mp h]
      show G.1.size ≤ mx_ad G k
      omega
theorem mx_tyA {c1 : Nat} (h9 : 9 ≤ c1) (h17 : c1 < 17) (hK : mx_K G s) : ∃ ty, ArrOfT s (G.2.2.1 c1) ty ∧ (13 ≤ c1 → ty.isReference = true) := by
  rcases (show c1 = 9 ∨ c1 = 10 ∨ c1 = 11 ∨ c1 = 12 ∨ c1 = 13 ∨ c1 = 14 ∨ c1 = 15 ∨ c1 = 16 by omega) with rfl | rfl | rfl | rfl | rfl | rfl | rfl | rfl
  · exact ⟨_, (hK.1.2 0 _ rfl).1, fun h => absurd h (by decide)⟩
  · exact ⟨_, (hK.1.2 1 _ rfl).1, fun h => absurd h (by decide)⟩
  · exact ⟨_, (hK.1.2 2 _ rfl).1, fun h => absurd h (by decide)⟩
  · exact ⟨_, (hK.1.2 3 _ rfl).1, fun h => absurd h (by decide)⟩
  · exact ⟨_, (hK.1.2 4 _ rfl).1, fun h => rfl⟩
  · exact ⟨_, (hK.1.2 5 _ rfl).1, fun h => rfl⟩
  · exact ⟨_, (hK.1.2 6 _ rfl).1, fun h => rfl⟩
  · exact ⟨_, (hK.1.2 7 _ rfl).1, fun h => rfl⟩
theorem mx_aald {pc k n c1 : Nat} {M : Mm} {L : Lv} {r : Sk} {i : Int32} (C : mx_C p s m args meth c G md nL o cc) (hd : decode cc pc = .ok (.aaload, 1)) (h13 : 13 ≤ c1 ∧ c1 < 17 ∧ md = true) (hi : mx_in md c1 k n) (hr : vp_in i (kd k).2) (K : mx_X p l e R s m args below meth c Q G md n0 nL n M (pc + 1) L (.ref (mx_el c1 k i.toNatClampNeg) :: r)) : mx_X p l e R s m args below meth c Q G md n0 nL n M pc L (.int i :: .ref k :: r) := by
  intro hL hn H locs ls hH hlo hls
  obtain ⟨hx, hb, hml, ho, hts, hK, -⟩ := C
  obtain ⟨h13, h17, rfl⟩ := h13
  obtain ⟨hk, hkc, hcell⟩ := mx_arr hH hi (by omega) h17
  obtain ⟨ty, hty, hir⟩ := mx_tyA (by omega) h17 hK
  have hlt : i.toNatClampNeg < (kd k).2 := Nat.not_le.mp fun q => hr (Or.inr q)
  exact W.aald (v := mx_cv G (.ref (mx_el c1 k i.toNatClampNeg))) hx hb hcell (hty _ _) (hir h13) (fun q => by cases q) (by rw [arrV_size]; exact hr) (by rw [arrV_read _ _ hlt]; simp [mx_ev, show ¬ c1 < 13 by omega]) rfl rfl hd (K hL hn H locs ls hH hlo hls)
theorem mx_alen {pc k n : Nat} {M : Mm} {L : Lv} {r : Sk} (C : mx_C p s m args meth c G md nL o cc) (hd : decode cc pc = .ok (.arraylength, 1)) (hi : ∃ c1, 9 ≤ c1 ∧ c1 < 17 ∧ mx_in md c1 k n) (K : mx_X p l e R s m args below meth c Q G md n0 nL n M (pc + 1) L (.int (nI (kd k).2) :: r)) : mx_X p l e R s m args below meth c Q G md n0 nL n M pc L (.ref k :: r) := by
  intro hL hn H locs ls hH hlo hls
  obtain ⟨hx, hb, hml, ho, hts, hK, -⟩ := C
  obtain ⟨c1, h9, h17, hi⟩ := hi
  obtain ⟨hk, hkc, hcell⟩ := mx_arr hH hi h9 h17
  obtain ⟨ty, hty, hir⟩ := mx_tyA h9 h17 hK
  exact W.alen (n := nI (kd k).2) hx hb hcell (hty _ _) (by rw [arrV_size]; rfl) rfl rfl hd (K hL hn H locs ls hH hlo hls)
end MX
