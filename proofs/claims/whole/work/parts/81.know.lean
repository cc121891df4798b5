/-! the law's beginning, and what is known there -/
theorem lw_begin {l : Launch} {G : Gt} {d : Nat} {P : Option Value → Mm → Prop} {Xf Xt : Nat → Mm → Nat → Lv → Sk → Prop} (R : mx_Rl l G false dm_L d 127 P Xf) (hd : 200 < d) (hsw : ∀ (M : Mm) (pc : Nat) (L : Lv) (S : Sk), (∀ q, q < 127 → M q = Ini q) → Xt 127 M pc L S → Xf 127 M pc L S) (hgo : ∀ M : Mm, SIM M → Xt 127 M 18 (lw_L 0) []) (M0 : Mm) : Xf 0 M0 0 [some (.ref 1020), none, none, none] [] := by
  refine R.nw kn_L_0 rfl (by decide) ?_
  refine R.b bk_L_3 ?_
  refine R.I0 (n' := 103) (b := 0) kc_L_4 (c_X7_init (mx_z_at _ _)) (by omega) rfl ⟨by decide, by decide⟩ (fun M1 q1 => ?_)
  refine R.b bk_L_7 ?_
  refine R.nw kn_L_8 rfl (by decide) ?_
  refine R.b bk_L_11 ?_
  refine R.I0 (n' := 127) (b := 103) kc_L_12 (c_X8_init (mx_z_at _ _)) (by omega) rfl ⟨by decide, by decide⟩ (fun M2 q2 => ?_)
  refine R.b bk_L_15 ?_
  have hM : ∀ q, q < 127 → M2 q = Ini q := fun q hq => by
    by_cases h : 103 ≤ q
    · exact q2.1 q h hq
    · rw [q2.2 q (by omega), mx_z_ne (by omega)]
      exact q1.1 q (by omega) (by omega)
  exact hsw M2 18 _ _ hM (hgo M2 (SIM_start hM))
section MX
variable {p : Program} {l : Launch} {e : Env} {R : Room} {s : State} {m : MethodId} {args : Array Value} {below : List Frame} {meth : Method} {c : Code} {Q : State → Prop} {G : Gt}
theorem lw_scX {xs : Nat → Int32} {Lx : Nat} (C : mx_C p s m args meth c G true 4 9 code) (hX : va_X (mx_ad G 1020) Lx xs s G.1) (hbl : mx_ad G 1020 < G.1.size) : lw_sc xs Lx (mx_X p l e R s m args below meth c Q G true 0 4) := by
  obtain ⟨hx, hb, -⟩ := C
  refine ⟨fun pc n M L r i hd hr K hL hn H locs ls hH hlo hls => ?_, fun pc n M L r hd K hL hn H locs ls hH hlo hls => ?_⟩
  · obtain ⟨scr, q1, q2, q3, q4, q5⟩ := hX.kept (hH.2.2.2.1 _ hbl)
    have hlt : i.toNatClampNeg < Lx := Nat.not_le.mp fun q => hr (Or.inr q)
    exact W.iald (v := .int (xs i.toNatClampNeg)) hx hb q1 q2 q3 (by rw [q4]; exact hr) (q5 _ hlt) rfl rfl hd (K hL hn H locs ls hH hlo hls)
  · obtain ⟨scr, q1, q2, q3, q4, q5⟩ := hX.kept (hH.2.2.2.1 _ hbl)
    exact W.alen (n := nI Lx) hx hb q1 q2 (by rw [q4]; rfl) rfl rfl hd (K hL hn H locs ls hH hlo hls)
end MX
theorem lw_arrC {args : Array Value} {s : State} {ty : FieldType} (h : (Cond.arrayClass ty).before args s = true) : ∃ cA : ClassId, ArrOfT s cA ty ∧ s.vm.findClass ("[" ++ ty.toString) = some cA := by
  obtain ⟨cA, kA, comp, h1, h2, h3⟩ := Cond.arrayClass_spec (args := args) (first := s) (o := none) (s := s) (idx := []) h
  exact ⟨cA, fun n z => ⟨fun k h => (by cases h), kA, h2, comp, h3⟩, h1⟩
theorem lw_arrO {args : Array Value} {s : State} {C : String} (h : (Cond.arrayOver (.object C)).before args s = true) : ∃ cA : ClassId, ArrOfT s cA (.object C) ∧ va_RA s cA (.object C) := by
  obtain ⟨comp, cA, kA, h1, -, h2, h3, h4⟩ := Cond.arrayOver_spec (args := args) (first := s) (o := none) (s := s) (idx := []) h
  exact ⟨cA, fun n z => ⟨fun k h => (by cases h), kA, h2, comp, h3⟩, ⟨kA, comp, h2, h3, h1, h4⟩⟩
def lw_tm (i : Nat) : Term := .string RX2 (mx_si.getD i 0)
theorem lw_m1 : ∀ i, i < 6 → Cond.exactly (lw_tm i) "java/lang/String" ∈ flatC (Jvm.Cond.and given_1 narrow_1) := by decide +kernel
theorem lw_m2 : ∀ i, i < 6 → Cond.eq (.field (lw_tm i) "java/lang/String" "coder" "B") (.int 0) ∈ flatC (Jvm.Cond.and given_1 narrow_1) := by decide +kernel
theorem lw_m3 : ∀ i, i < 6 → Cond.arrayOf (.field (lw_tm i) "java/lang/String" "value" "[B") .byte ∈ flatC (Jvm.Cond.and given_1 narrow_1) := by decide +kernel
theorem lw_m4 : ∀ i, i < 6 → Cond.eq (.length (.field (lw_tm i) "java/lang/String" "value" "[B")) (.int (Int32.ofNat (mx_sl_.getD i 0))) ∈ flatC (Jvm.Cond.and given_1 narrow_1) := by decide +kernel
theorem lw_m5 : ∀ i, i < 6 → ∀ j, j < mx_sl_.getD i 0 → Cond.eq (.elem (.field (lw_tm i) "java/lang/String" "value" "[B") (.int (Int32.ofNat j))) (.int ((mx_sb.getD i []).getD j 0)) ∈ flatC (Jvm.Cond.and given_1 narrow_1) := by decide +kernel
theorem lw_m6 : ∀ i, i < 6 → ∀ j, j < 6 → i ≠ j → Cond.not (Cond.eq (lw_tm i) (lw_tm j)) ∈ flatC (Jvm.Cond.and given_1 narrow_1) ∨ Cond.not (Cond.eq (lw_tm j) (lw_tm i)) ∈ flatC (Jvm.Cond.and given_1 narrow_1) := by decide +kernel
theorem lw_m7 : ∀ i, i < 6 → Cond.stringRef RX2 (mx_si.getD i 0) (mx_st_.getD i "") ∈ lw_tbl := by decide +kernel
theorem lw_m8 : Cond.arrayOf (.static RX7 "ABOVE" "[I") .int ∈ flatC (Jvm.Cond.and given_1 narrow_1) ∧ Cond.eq (.length (.static RX7 "ABOVE" "[I")) (.int (Int32.ofNat 6)) ∈ flatC (Jvm.Cond.and given_1 narrow_1) := by decide +kernel
theorem lw_m9 : ∀ j, j < 6 → Cond.eq (.elem (.static RX7 "ABOVE" "[I") (.int (Int32.ofNat j))) (.int (([-1, 0, 0, 1, 2, 0] : List Int32).getD j 0)) ∈ flatC (Jvm.Cond.and given_1 narrow_1) := by decide +kernel
theorem lw_m10 : Cond.eq (.static "java/lang/String" "COMPACT_STRINGS" "Z") (.int 1) ∈ flatC (Jvm.Cond.and given_1 narrow_1) ∧ Cond.isRef (.static "jdk/internal/util/Preconditions" "SIOOBE_FORMATTER" "Ljava/util/function/BiFunction;") ∈ flatC (Jvm.Cond.and given_1 narrow_1) := by decide +kernel
theorem lw_m11 : Cond.laysStatic RX7 "ABOVE" "[I" ∈ lw_tbl ∧ Cond.laysStatic "java/lang/String" "COMPACT_STRINGS" "Z" ∈ lw_tbl ∧ Cond.laysStatic "jdk/internal/util/Preconditions" "SIOOBE_FORMATTER" "Ljava/util/function/BiFunction;" ∈ lw_tbl := ⟨List.mem_of_getElem? (i := 346) (by decide +kernel), List.mem_of_getElem? (i := 632) (by decide +kernel), List.mem_of_getElem? (i := 648) (by decide +kernel)⟩
theorem lw_m12 : Cond.initialized RX7 ∈ lw_tbl ∧ Cond.initialized "java/lang/String" ∈ lw_tbl ∧ Cond.initialized "jdk/internal/util/Preconditions" ∈ lw_tbl := ⟨List.mem_of_getElem? (i := 55) (by decide +kernel), List.mem_of_getElem? (i := 65) (by decide +kernel), List.mem_of_getElem? (i := 67) (by decide +kernel)⟩
theorem lw_m13 : Cond.arrayOver (.object RX0) ∈ lw_tbl ∧ Cond.arrayOver (.object RX1) ∈ lw_tbl ∧ Cond.arrayOver (.object RX4) ∈ lw_tbl ∧ Cond.arrayOver (.object RX5) ∈ lw_tbl := ⟨List.mem_of_getElem? (i := 236) (by decide +kernel), List.mem_of_getElem? (i := 141) (by decide +kernel), List.mem_of_getElem? (i := 138) (by decide +kernel), List.mem_of_getElem? (i := 140) (by decide +kernel)⟩
theorem lw_K {args : Array Value} {s : State} (b : Nat) (hts : ∀ w ∈ lw_tbl, w.before args s = true) (hgv : (Jvm.Cond.and given_1 narrow_1).before args s = true) : ∃ G : Gt, G.1 = s.heap ∧ G.2.2.2 1020 = b ∧ mx_K G s := by
  have hs := flat_of_before _ hgv
  have hg : ∀ w ∈ gw, w.before args s = true := fun w hw => hts w (List.mem_filter.mp hw).1
  have hA : ∀ a : Nat, a < s.heap.size → ¬ s.heap.size ≤ a := fun a h => Nat.not_le.mpr h
  obtain ⟨c0, i0, k0⟩ := u_known (C := RX0) (T := TX0) (N := 8) (n := 8) hg inX0 (hg _ (mx_instw 0 (by decide)).1)
  obtain ⟨c1, i1, k1⟩ := u_known (C := RX1) (T := TX1) (N := 4) (n := 4) hg inX1 (hg _ (mx_instw 1 (by decide)).1)
  obtain ⟨c2, i2, k2⟩ := u_known (C := RX2) (T := TX2) (N := 7) (n := 7) hg inX2 (hg _ (mx_instw 2 (by decide)).1)
  obtain ⟨c3, i3, k3⟩ := u_known (C := RX3) (T := TX3) (N := 1) (n := 1) hg inX3 (hg _ (mx_instw 3 (by decide)).1)
  obtain ⟨c4, i4, k4⟩ := u_known (C := RX4) (T := TX4) (N := 3) (n := 3) hg inX4 (hg _ (mx_instw 4 (by decide)).1)
  obtain ⟨c5, i5, k5⟩ := u_known (C := RX5) (T := TX5) (N := 4) (n := 4) hg inX5 (hg _ (mx_instw 5 (by decide)).1)
  obtain ⟨c6, i6, k6⟩ := u_known (C := RX6) (T := TX6) (N := 11) (n := 11) hg inX6 (hg _ (mx_instw 6 (by decide)).1)
  obtain ⟨c7, i7, k7⟩ := u_known (C := RX7) (T := TX7) (N := 15) (n := 15) hg inX7 (hg _ (mx_instw 7 (by decide)).1)
  obtain ⟨c8, i8, k8⟩ := u_known (C := RX8) (T := TX8) (N := 35) (n := 35) hg inX8 (hg _ (mx_instw 8 (by decide)).1)
  obtain ⟨a2, x2, y2⟩ := lw_arrC (hg _ mx_arrw.1)
  obtain ⟨a0, x0, y0⟩ := lw_arrC (hg _ mx_arrw.2.1)
  obtain ⟨a1, x1, y1⟩ := lw_arrC (hg _ mx_arrw.2.2.1)
  obtain ⟨a3, x3, y3⟩ := lw_arrC (hg _ mx_arrw.2.2.2)
  obtain ⟨a4, x4, y4⟩ := lw_arrO (hts _ lw_m13.1)
  obtain ⟨a5, x5, y5⟩ := lw_arrO (hts _ lw_m13.2.1)
  obtain ⟨a6, x6, y6⟩ := lw_arrO (hts _ lw_m13.2.2.1)
  obtain ⟨a7, x7, y7⟩ := lw_arrO (hts _ lw_m13.2.2.2)
  obtain ⟨t, ht, hT⟩ := va_Tof (args := args) (s := s) (tm := .static RX7 "ABOVE" "[I") (ty := .int) (N := 6) (f := mx_above) (A := fun q => s.heap.size ≤ q) (by decide) (hs _ lw_m8.1) (va_eqt (hs _ lw_m8.2)) (fun j hj => va_eqt (hs _ (lw_m9 j hj))) hA
  obtain ⟨adK, adV, hSt, hEv⟩ := vk_Sof (args := args) (s := s) (N := 6) (tm := lw_tm) (len := mx_sl_) (byt := mx_sb) (A := fun q => s.heap.size ≤ q) (by decide +kernel) (fun i hi => hs _ (lw_m1 i hi)) (fun i hi => hs _ (lw_m2 i hi)) (fun i hi => hs _ (lw_m3 i hi)) (fun i hi => hs _ (lw_m4 i hi)) (fun i hi j hj => hs _ (lw_m5 i hi j hj)) (fun i j hi hj hn => (lw_m6 i hi j hj hn).imp (fun h => hs _ h) (fun h => hs _ h)) hA
  have hAb : va_Z RX7 "ABOVE" "[I" (.ref t) (fun q => s.heap.size ≤ q) s s.heap := va_Zref (hts _ lw_m11.1) (hts _ lw_m12.1) ht hA
  have hCo : va_Z "java/lang/String" "COMPACT_STRINGS" "Z" (.int 1) (fun q => s.heap.size ≤ q) s s.heap := va_Zof (hts _ lw_m11.2.1) (hts _ lw_m12.2.1) (va_eqt (hs _ lw_m10.1)) hA
  have hSi : va_Zq "jdk/internal/util/Preconditions" "SIOOBE_FORMATTER" "Ljava/util/function/BiFunction;" (fun q => s.heap.size ≤ q) s s.heap := va_Zqof (hts _ lw_m11.2.2) (hts _ lw_m12.2.2) (hs _ lw_m10.2) hA
  have hG : ∃ G : Gt, G = (s.heap, ((fun k => [c0, c1, c2, c3, c4, c5, c6, c7, c8].getD k 0), (fun k => [i0, i1, i2, i3, i4, i5, i6, i7, i8].getD k (fun _ => 0))), (fun k => [a0, a1, a2, a3, a4, a5, a6, a7].getD (k - 9) 0), (fun k => if k = 1000 then t else if k = 1020 then b else if k < 1011 then adK (k - 1001) else adV (k - 1011))) := ⟨_, rfl⟩
  obtain ⟨G, hG⟩ := hG
  have e1 : G.1 = s.heap := by rw [hG]
  have eA : mx_A G = fun q => s.heap.size ≤ q := by unfold mx_A; rw [e1]
  have eK : ∀ j, j < 6 → mx_adK G j = adK j := fun j hj => by
    unfold mx_adK mx_ad
    rw [if_neg (by omega), hG]
    show (if 1001 + j = 1000 then t else if 1001 + j = 1020 then b else if 1001 + j < 1011 then adK (1001 + j - 1001) else adV (1001 + j - 1011)) = adK j
    rw [if_neg (by omega), if_neg (by omega), if_pos (by omega), Nat.add_sub_cancel_left]
  have eV : ∀ j, j < 6 → mx_adV G j = adV j := fun j hj => by
    unfold mx_adV mx_ad
    rw [if_neg (by omega), hG]
    show (if 1011 + j = 1000 then t else if 1011 + j = 1020 then b else if 1011 + j < 1011 then adK (1011 + j - 1001) else adV (1011 + j - 1011)) = adV j
    rw [if_neg (by omega), if_neg (by omega), if_neg (by omega), Nat.add_sub_cancel_left]
  have e0 : mx_ad G 1000 = t := by rw [hG]; rfl
  refine ⟨G, e1, by rw [hG]; rfl, ⟨fun k q hq => ?_, fun k q hq => ?_⟩, fun w hw => ?_, ⟨va_AO.of (hts _ lw_m13.1), va_AO.of (hts _ lw_m13.2.1), va_AO.of (hts _ lw_m13.2.2.1), va_AO.of (hts _ lw_m13.2.2.2)⟩, ⟨?_, ?_⟩, ⟨?_, ?_⟩, ?_, ?_, ?_⟩
  · rw [hG]
    match k, hq with
    | 0, hq => cases hq; exact k0
    | 1, hq => cases hq; exact k1
    | 2, hq => cases hq; exact k2
    | 3, hq => cases hq; exact k3
    | 4, hq => cases hq; exact k4
    | 5, hq => cases hq; exact k5
    | 6, hq => cases hq; exact k6
    | 7, hq => cases hq; exact k7
    | 8, hq => cases hq; exact k8
    | k + 9, hq => simp [vwCl] at hq
  · rw [hG] at hq
    match k, hq with
    | 0, hq => cases hq; exact ⟨x0, y0⟩
    | 1, hq => cases hq; exact ⟨x1, y1⟩
    | 2, hq => cases hq; exact ⟨x2, y2⟩
    | 3, hq => cases hq; exact ⟨x3, y3⟩
    | 4, hq => cases hq; exact ⟨x4, y4⟩
    | 5, hq => cases hq; exact ⟨x5, y5⟩
    | 6, hq => cases hq; exact ⟨x6, y6⟩
    | 7, hq => cases hq; exact ⟨x7, y7⟩
    | k + 8, hq => simp [mx_tys] at hq
  · have h1 := List.mem_filter.mp hw
    have h2 := h1.2
    have h3 := hts w h1.1
    cases w <;> simp at h2
    · exact va_Nw.of rfl h3
    · exact va_Nw.of rfl h3
  · rw [e0, eA, e1]; exact hAb
  · rw [e0, eA, e1]; exact hT
  · intro i hi
    rw [eK i hi, eV i hi, eA, e1]
    exact hSt.1 i hi
  · intro i j hi hj e
    rw [eK i hi, eK j hj] at e
    exact hSt.2 i j hi hj e
  · intro j hj
    rw [eK j hj]
    exact vk_R.of (hts _ (lw_m7 j hj)) (hEv j hj)
  · rw [eA, e1]; exact hCo
  · rw [eA, e1]
    rcases hSi with h | ⟨u, h⟩
    · exact ⟨_, Or.inl rfl, h⟩
    · exact ⟨_, Or.inr ⟨u, rfl⟩, h⟩
