section MX
variable {p : Program} {l : Launch} {e : Env} {s : State} {m : MethodId} {args : Array Value} {below : List Frame} {meth : Method} {c : Code} {Q : State → Prop} {G : Gt} {md : Bool} {n0 nL o : Nat} {cc : ByteArray}
theorem mx_old {n : Nat} {M : Mm} {H : Heap} (hH : mx_H G md n M H) : ∀ a : Nat, a < G.1.size → ¬ mx_A G a → H[a]? = G.1[a]? := fun a h _ => hH.2.2.2.1 a h
theorem mx_mth1 : Cond.static Lib.Math.max.name ∈ gw ∧ Cond.static Lib.Math.min.name ∈ gw ∧ Cond.static Lib.Math.abs.name ∈ gw ∧ Cond.initialized "java/lang/Math" ∈ gw ∧ Cond.code Lib.Math.max.name Lib.Math.max.code 2 (some .int) ∈ gw ∧ Cond.code Lib.Math.min.name Lib.Math.min.code 2 (some .int) ∈ gw ∧ Cond.code Lib.Math.abs.name Lib.Math.abs.code 1 (some .int) ∈ gw :=
  ⟨mx_gw (i := 406) (by decide +kernel), mx_gw (i := 403) (by decide +kernel), mx_gw (i := 561) (by decide +kernel), mx_gw (i := 64) (by decide +kernel), mx_gw (i := 407) (by decide +kernel), mx_gw (i := 404) (by decide +kernel), mx_gw (i := 562) (by decide +kernel)⟩
theorem mx_cpyw : Cond.native arraycopyName ∈ gw ∧ Cond.static arraycopyName ∈ gw ∧ Cond.initialized "java/lang/System" ∈ gw := ⟨mx_gw (i := 788) (by decide +kernel), mx_gw (i := 787) (by decide +kernel), mx_gw (i := 70) (by decide +kernel)⟩
theorem mx_oddS {d nE pc len n : Nat} {w : Instr} {M : Mm} {L : Lv} {S S' : Sk} (C : mx_C p s m args meth c G md nL o cc) (hd : decode cc pc = .ok (w, len)) (h : mx_odd o w len S S') (h1d : 1 ≤ d) (hnE : n ≤ nE) (K : mx_X p l e (mx_rm d n0 nE) s m args below meth c Q G md n0 nL n M (pc + len) L S') : mx_X p l e (mx_rm d n0 nE) s m args below meth c Q G md n0 nL n M pc L S := by
  intro hL hn H locs ls hH hlo hls
  have K := K hL hn H locs ls hH hlo hls
  obtain ⟨hx, hb, hml, ho, hts, hK, -⟩ := C
  obtain ⟨hKa, hKs, hKr, hKc, -⟩ := hK.2.2.2
  have hr1 : 1 ≤ (mx_rm d n0 nE).frames := h1d
  have hsz := mx_fit hn (Nat.le_refl n) hnE
  have hcl : n - n0 ≤ (mx_rm d n0 nE).cells := by show n - n0 ≤ nE - n0; omega
  have hsl : mx_sz n - mx_sz n0 ≤ (mx_rm d n0 nE).slots := by
    show mx_sz n - mx_sz n0 ≤ mx_sz nE - mx_sz n0
    omega
  have hroom : ∀ r : Sk, (r.map fun v => v.category).sum ≤ 8 → ((r.map (mx_cv G)).map fun v => v.category).sum + 13 ≤ (mx_rm d n0 nE).locals := by
    intro r hr
    rw [mx_catm]
    show _ ≤ 100 * d
    omega
  rcases h with ⟨i, rfl, rfl, hl, rfl⟩ | ⟨r, rfl, rfl, rfl, rfl⟩ | ⟨i, r, rfl, rfl, hi, rfl, rfl⟩ | ⟨i, r, x, y, rfl, rfl, hl, hr, rfl, rfl⟩ | ⟨i, r, x, y, rfl, rfl, hl, hr, rfl, rfl⟩ | ⟨i, r, x, rfl, rfl, hl, hr, rfl, rfl⟩ | ⟨j, rfl, rfl, rfl, hj, rfl⟩ | ⟨i, j, r, rfl, rfl, hl, hj, rfl, rfl⟩ | ⟨i, j, r, rfl, rfl, hl, hj, rfl, rfl⟩ | ⟨j, r, rfl, rfl, hj, rfl, rfl⟩ | ⟨j, i, r, rfl, rfl, hj, hi, rfl, rfl⟩ | ⟨i, rfl, rfl, hl, rfl⟩
  · obtain ⟨cf, kf, fi, f, a, cell, z1, z2, z3, z4, z5, z6, z7, z8⟩ := hKa.1.kept (mx_old hH)
    rcases hl with hl | hl
    · exact W.gets hx hb ho (hts _ hl) z1 z2 z3 z4 z5 (fun e => by rw [e] at z6; cases z6) z7 rfl hd K
    · exact va_WgetsN hx hb ho (va_Nw.use rfl (hK.2.1 _ hl)) z1 z2 z3 z4 z5 (fun e => by rw [e] at z6; cases z6) z7 rfl hd K
  · obtain ⟨cell, z1, z2, z3, z4, z5, z6, z7⟩ := hKa.2.kept (mx_old hH)
    exact W.alen hx hb z1 z2 z5 rfl rfl hd K
  · obtain ⟨cell, z1, z2, z3, z4, z5, z6, z7⟩ := hKa.2.kept (mx_old hH)
    have hlt : i.toNatClampNeg < 6 := Nat.not_le.mp fun q => hi (Or.inr q)
    exact W.iald (v := .int (mx_abv i.toNatClampNeg)) hx hb z1 z2 z3 (fun q => by
      rcases q with q | q
      · exact hi (Or.inl q)
      · omega) (z6 _ hlt) rfl rfl hd K
  · exact va_mmax hx hb (by rw [hml]; exact hls.1.symm) ho (hts _ hl) (hts _ mx_mth1.1) (hts _ mx_mth1.2.2.2.1) (hts _ mx_mth1.2.2.2.2.1) hr1 (hroom r hr) hcl hsl hd K
  · exact va_mmin hx hb (by rw [hml]; exact hls.1.symm) ho (hts _ hl) (hts _ mx_mth1.2.1) (hts _ mx_mth1.2.2.2.1) (hts _ mx_mth1.2.2.2.2.2.1) hr1 (hroom r hr) hcl hsl hd K
  · exact va_mabs hx hb (by rw [hml]; exact hls.1.symm) ho (hts _ hl) (hts _ mx_mth1.2.2.1) (hts _ mx_mth1.2.2.2.1) (hts _ mx_mth1.2.2.2.2.2.2) hr1 (hroom r hr) hcl hsl hd K
  · exact va_ldcS hx hb ho (hKr j hj) hd K
  · obtain ⟨cf, k, fi, f, cell, z1, z2, z3, z4, z5, z6⟩ := (hKs.1 j hj).2.2.1.kept (mx_old hH)
    exact W.getf hx hb ho (hts _ hl) z1 z2 z3 z4 z5 rfl rfl hd K
  · obtain ⟨cf, k, fi, f, cell, z1, z2, z3, z4, z5, z6⟩ := (hKs.1 j hj).2.1.kept (mx_old hH)
    exact W.getf hx hb ho (hts _ hl) z1 z2 z3 z4 z5 rfl rfl hd K
  · obtain ⟨cell, z1, z2, z3, z4, z5, z6, z7⟩ := (hKs.1 j hj).2.2.2.kept (mx_old hH)
    exact W.alen hx hb z1 z2 z5 rfl rfl hd K
  · obtain ⟨cell, z1, z2, z3, z4, z5, z6, z7⟩ := (hKs.1 j hj).2.2.2.kept (mx_old hH)
    have hlt : i.toNatClampNeg < mx_sl_.getD j 0 := Nat.not_le.mp fun q => hi (Or.inr q)
    exact W.bald (v := .int ((mx_sb.getD j []).getD i.toNatClampNeg 0)) hx hb z1 z2 z3 (fun q => by
      rcases q with q | q
      · exact hi (Or.inl q)
      · omega) (z6 _ hlt) rfl rfl hd K
  · obtain ⟨cf, kf, fi, f, a, cell, z1, z2, z3, z4, z5, z6, z7, z8⟩ := hKc.kept (mx_old hH)
    exact W.gets hx hb ho (hts _ hl) z1 z2 z3 z4 z5 (fun e => by rw [e] at z6; cases z6) z7 rfl hd K
theorem mx_cpyS {d nE pc i n k1 k2 : Nat} {M : Mm} {L : Lv} {r : Sk} {sp dp cnt : Int32} (C : mx_C p s m args meth c G md nL o cc) (hd : decode cc pc = .ok (.invokestatic i, 3)) (hl : Cond.methodLink (mx_rc o) i arraycopyName ∈ gw) (h1d : 1 ≤ d) (hi1 : mx_in md 11 k1 n) (hi2 : mx_in md 11 k2 n) (h1 : ¬ sp < 0) (h2 : ¬ dp < 0) (h3 : ¬ cnt < 0) (h4 : sp.toNatClampNeg + cnt.toNatClampNeg ≤ (kd k1).2) (h5 : dp.toNatClampNeg + cnt.toNatClampNeg ≤ (kd k2).2) (hr : (r.map fun v => v.category).sum ≤ 8)
    (K : mx_X p l e (mx_rm d n0 nE) s m args below meth c Q G md n0 nL n (mx_cpy M k1 sp.toNatClampNeg k2 dp.toNatClampNeg cnt.toNatClampNeg) (pc + 3) L r) : mx_X p l e (mx_rm d n0 nE) s m args below meth c Q G md n0 nL n M pc L (.int cnt :: .int dp :: .ref k2 :: .int sp :: .ref k1 :: r) := by
  intro hL hn H locs ls hH hlo hls
  obtain ⟨hx, hb, hml, ho, hts, hK, -⟩ := C
  obtain ⟨hk1, hkc1, hc1⟩ := mx_arr hH hi1 (by decide) (by decide)
  obtain ⟨hk2, hkc2, hc2⟩ := mx_arr hH hi2 (by decide) (by decide)
  have hz2 : mx_ad G k2 = G.1.size + k2 := mx_adk hH hk2
  have nn : ∀ z : Int32, ¬ z < 0 → z.toInt = (z.toNatClampNeg : Int) := by
    intro z hz
    have hz0 : (0 : Int) ≤ z.toInt := by
      have := Int32.not_lt.mp hz
      simpa using Int32.le_iff_toInt_le.mp this
    show z.toInt = ((z.toInt.toNat : Nat) : Int)
    omega
  have hc1 : H[mx_ad G k1]? = some (arrV (G.2.2.1 11) (kd k1).2 (fun j => .int (M k1 j))) := hc1
  have hc2 : H[mx_ad G k2]? = some (arrV (G.2.2.1 11) (kd k2).2 (fun j => .int (M k2 j))) := hc2
  intro T hT X
  obtain ⟨-, kA, hkA, cmA, hkkA⟩ := (hK.1.2 2 _ rfl).1 0 (fun j => .int 0)
  obtain ⟨vm', X', step⟩ := X.arraycopy hx ho (hts _ hl) (hts _ mx_cpyw.1) (hts _ mx_cpyw.2.1) (hts _ mx_cpyw.2.2) (src := mx_ad G k1) (dst := mx_ad G k2) (cs := arrV (G.2.2.1 11) (kd k1).2 (fun j => .int (M k1 j))) (cd := arrV (G.2.2.1 11) (kd k2).2 (fun j => .int (M k2 j))) (srcPos := sp) (destPos := dp) (n := cnt) (by rw [hT]; exact hc1) (by rw [hT]; exact hc2)
    (fun _ h => by cases h) (fun _ h => by cases h) (fun h => by cases h) (fun h => by cases h) hkA hkA hkkA hkkA (by simp) h1 h2 h3
    (by rw [nn sp h1, nn cnt h3, arrV_size]; omega)
    (by rw [nn dp h2, nn cnt h3, arrV_size]; omega)
    (fun vm₁ _ i hi => by
      have e : (arrV (G.2.2.1 11) (kd k1).2 (fun j => Value.int (M k1 j))).slots.getD (sp.toNatClampNeg + i) .null = .int (M k1 (sp.toNatClampNeg + i)) := by
        rw [Array.getD_eq_getD_getElem?, arrV_read _ _ (by omega)]
        rfl
      refine ⟨?_, ?_⟩
      · rw [e]
        rfl
      · rw [e]
        exact trivial)
    (g := F0 m pc ls ((Value.int cnt :: .int dp :: .ref k2 :: .int sp :: .ref k1 :: r).map (mx_cv G))) rfl (by rw [hml]; exact hls.1) (rest := r.map (mx_cv G)) rfl (by rw [hb]; exact hd) h1d (by
      rw [mx_catm]
      have : nativeFrameWords "java/lang/System" "arraycopy" 5 ≤ 60 := by decide
      show 2 * 0 + _ + _ ≤ 100 * d
      omega)
  have e1 : copied (arrV (G.2.2.1 11) (kd k1).2 (fun j => Value.int (M k1 j))) (arrV (G.2.2.1 11) (kd k2).2 (fun j => Value.int (M k2 j))) sp dp cnt = arrV (G.2.2.1 11) (kd k2).2 (fun j => .int (va_cpy (M k1) (M k2) sp.toNatClampNeg dp.toNatClampNeg cnt.toNatClampNeg j)) := va_copied (fun z => .int z) _ _ (M k1) (M k2) h4
  rw [e1] at X' step
  have hl2 : mx_ad G k2 < H.size := (Array.getElem?_eq_some_iff.mp hc2).1
  generalize hcell : arrV (G.2.2.1 11) (kd k2).2 (fun j => Value.int (va_cpy (M k1) (M k2) sp.toNatClampNeg dp.toNatClampNeg cnt.toNatClampNeg j)) = cell at X' step
  have hheap : ((T.setVm vm').setCell (mx_ad G k2) cell).heap = H.setIfInBounds (mx_ad G k2) cell := by rw [← hT]; rfl
  have oq : ∀ q : Nat, q ≠ mx_ad G k2 → (H.setIfInBounds (mx_ad G k2) cell)[q]? = H[q]? := fun q hq => by simp [Array.getElem?_setIfInBounds, Ne.symm hq]
  obtain ⟨t, a1, b1⟩ := K hL hn (H.setIfInBounds (mx_ad G k2) cell) _ ls (hH.put (k := k2) (M' := mx_cpy M k1 sp.toNatClampNeg k2 dp.toNatClampNeg cnt.toNatClampNeg) (fun q hq => by simp [mx_cpy, hq]) (by simp) (fun q hq => oq q (by rw [hz2]; exact hq)) (by
      unfold mx_cell
      rw [if_neg (by omega), hkc2, ← hz2]
      have e2 : (H.setIfInBounds (mx_ad G k2) cell)[mx_ad G k2]? = some cell := by simp [Array.getElem?_setIfInBounds, hl2]
      rw [e2, ← hcell]
      congr 2
      funext j
      simp [mx_cpy, mx_ev, mx_cv])) (fun q hq => by
      rcases List.mem_append.mp hq with h | h
      · exact hlo q h
      · obtain ⟨z, -, hz⟩ := List.mem_map.mp h
        rw [← hz]
        show G.1.size ≤ mx_ad G k2
        omega) hls _ hheap X'
  exact ⟨t, step t a1, b1⟩
theorem mx_callT {d nE pc i k n j : Nat} {E : Md} {M : Mm} {L : Lv} {S r : Sk} {as : List Value} {PE : Option Value → Mm → Prop} (C : mx_C p s m args meth c G md nL o cc) (hd : decode cc pc = .ok (.invokevirtual i, 3)) (hE : mx_D E as.length) (hc : mx_cV o i E) (hk : k < d) (hnE : n ≤ nE) (hj : E.1.cls = "java/lang/String" ∧ j < 6) (hR : Runs l G md E k n (.ref (1001 + j) :: as) M n PE) (hS : S = as.reverse ++ .ref (1001 + j) :: r) (hr : (r.map fun v => v.category).sum ≤ 8)
    (K : ∀ (v : Option Value) (M' : Mm), PE v M' → mx_X p l e (mx_rm d n0 nE) s m args below meth c Q G md n0 nL n M' (pc + 3) L (v.toList ++ r)) : mx_X p l e (mx_rm d n0 nE) s m args below meth c Q G md n0 nL n M pc L S := by
  intro hL hn H locs ls hH hlo hls
  obtain ⟨hx, hb, hml, ho, hts, hK, -⟩ := C
  subst hS
  have hcat : 2 * (F0 m pc ls ((as.reverse ++ .ref (1001 + j) :: r).map (mx_cv G))).monitorRoom + ((r.map (mx_cv G)).map fun v => v.category).sum ≤ 8 := lv_room (by rw [mx_catm]; exact hr)
  obtain ⟨cell, h1, h2, h3, -⟩ := (hK.2.2.2.2.1.1 j hj.2).1.kept (mx_old hH)
  rw [← hj.1] at h3
  have hpre := mx_pre (as := .ref (1001 + j) :: as) (s := s) hH hK
  exact mx_behind (a := ((Value.ref (1001 + j) :: as).map (mx_cv G)).toArray) hL hn (Nat.le_refl n) hlo hls (va_runV (C := E.1.cls) (b := mx_ad G (1001 + j)) (As := as.map (mx_cv G)) (rest := r.map (mx_cv G)) ⟨hx, hb, hml, ho, hts⟩ (hR (d - 1) (by omega)) ⟨mx_callB (na := as.length) hts hE (by omega) hc.1, hts _ hc.2.1, hts _ hc.2.2⟩ ⟨hpre.1, ⟨cell, h1, h2, h3⟩, hpre.2⟩ rfl (by simp) hls.1 (by simp; rfl) hcat hd (mx_fit hn (Nat.le_refl n) hnE)) K
end MX
