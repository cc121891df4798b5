section MX
variable {p : Program} {l : Launch} {e : Env} {s : State} {m : MethodId} {args : Array Value} {below : List Frame} {meth : Method} {c : Code} {Q : State → Prop} {G : Gt} {md : Bool} {n0 nL o : Nat} {cc : ByteArray}
theorem mx_good {s : State} {args : Array Value} (hts : ∀ w ∈ gw, w.before args s = true) {E : Md} (hE : Cond.code E.1 E.2.1 E.2.2.1 E.2.2.2.1 ∈ gw) : ∀ w ∈ mx_wT E, ∀ (a' : Array Value) (U : State), s.WarmedH U.vm → w.before a' U = true := by
  refine pay_in hts (fun w hw => ?_)
  have h1 : w ∈ gw := by
    rcases List.mem_cons.mp hw with rfl | h
    · exact hE
    · exact h
  exact ⟨h1, good_of_word (List.mem_filter.mp h1).2⟩
theorem mx_pre {as : List Value} {M : Mm} {n : Nat} {H : Heap} (hH : mx_H G md n M H) (hK : mx_K G s) : PreS s H (va_Pc (as.map (mx_cv G)) (fun U => mx_H G md n M U.heap ∧ mx_K G U)) (as.map (mx_cv G)) :=
  ⟨fun a U g mk q => ⟨q.1, q.2.1, q.2.2.calling⟩, fun U hU hW => ⟨rfl, by rw [hU]; exact hH, hK.warm hW⟩⟩
theorem mx_recv {M : Mm} {n b c1 : Nat} {H : Heap} (hH : mx_H G md n M H) (hK : mx_K G s) (hc : c1 < 9) (hi : mx_in md c1 b n) : ∃ cellB : Cell, H[mx_ad G b]? = some cellB ∧ cellB.vm.isStatics = false ∧ s.vm.findClass (mx_rc c1) = some cellB.cls := by
  obtain ⟨hk, hkc⟩ := mx_lt hH hi (by omega)
  have hcell := hH.2.2.2.2 b hk
  unfold mx_cell at hcell
  rw [if_pos (by omega), hkc] at hcell
  obtain ⟨cell, q1, q2, q3, q4⟩ := hcell
  obtain ⟨vr, hvr⟩ := mx_vw hc
  obtain ⟨-, hrc, -⟩ := mx_cls c1 vr hvr
  obtain ⟨hS, hfc, -⟩ := hK.1.1 c1 _ hvr
  rw [← mx_adk hH hk] at q1
  exact ⟨cell, q1, by rw [q3]; rfl, by rw [q2, ← hrc]; exact hfc⟩
/-- behind a call -/
theorem mx_behind {d n n' nE pc : Nat} {H : Heap} {locs : List Loc} {ls : Array Slot} {PE : Option Value → Mm → Prop} {L : Lv} {r S : Sk} {a : Array Value} (hL : L.length = nL) (hn : n0 ≤ n) (hnn : n ≤ n') (hlo : ∀ q ∈ locs, G.1.size ≤ q.base) (hls : lv_has ls nL (mx_al G 0 L))
    (hr : va_Run p l e (mx_rm d n0 nE) s m args below meth c H locs (n - n0) (mx_sz n - mx_sz n0) (n' - n) (mx_sz n' - mx_sz n) (F0 m pc ls S) (r.map (mx_cv G)) (fun _ oc t => ∃ (v : Option Value) (M' : Mm), oc = .returned (v.map (mx_cv G)) ∧ PE v M' ∧ mx_H G md n' M' t.heap) (mx_A G))
    (K : ∀ (v : Option Value) (M' : Mm), PE v M' → mx_X p l e (mx_rm d n0 nE) s m args below meth c Q G md n0 nL n' M' (pc + 3) L (v.toList ++ r)) : W p l e (mx_rm d n0 nE) s m args below meth c H locs (n - n0) (mx_sz n - mx_sz n0) Q (F0 m pc ls S) := by
  intro T hT X
  obtain ⟨v', st₀, t, T', L', h0, X', hL', e1, e2, ⟨v, M', hv, hPE, hH'⟩, st⟩ := hr T hT X
  cases hv
  have e3 : n - n0 + (n' - n) = n' - n0 := by omega
  have e4 : mx_sz n - mx_sz n0 + (mx_sz n' - mx_sz n) = mx_sz n' - mx_sz n0 := by
    have := mx_szm hn
    have := mx_szm hnn
    omega
  rw [e3, e4] at X'
  rw [← e1] at hH'
  obtain ⟨t2, a1, b1⟩ := K v M' hPE hL (by omega) T'.heap (locs ++ L') ls hH' (fun q hq => by
    rcases List.mem_append.mp hq with h | h
    · exact hlo q h
    · exact hL' q h) hls T' rfl X'
  refine ⟨t2, st t2 ?_, b1⟩
  have e5 : (v.toList ++ r).map (mx_cv G) = (v.map (mx_cv G)).toList ++ r.map (mx_cv G) := by
    cases v <;> simp
  rw [e5] at a1
  exact a1
theorem mx_catm (r : Sk) : ((r.map (mx_cv G)).map fun v => v.category) = r.map fun v => v.category := by
  rw [List.map_map]
  exact List.map_congr_left (fun v _ => mx_cv_cat v)
theorem mx_fit {n n' nE : Nat} (hn : n0 ≤ n) (hnn : n ≤ n') (hE : n' ≤ nE) : n - n0 + (n' - n) ≤ nE - n0 ∧ mx_sz n - mx_sz n0 + (mx_sz n' - mx_sz n) ≤ mx_sz nE - mx_sz n0 := by
  have h1 := mx_szm hn
  have h2 := mx_szm hnn
  have h3 := mx_szm hE
  omega
theorem mx_callB {d n n' nE i na : Nat} {E : Md} (hts : ∀ w ∈ gw, w.before args s = true) (hE : mx_D E na) (hk : 0 < d) (hl : Cond.methodLink (mx_rc o) i E.1 ∈ gw) : CallB (mx_rm d n0 nE) s args (mx_rc o) i E.1 E.2.1 E.2.2.1 E.2.2.2.1 (mx_wT E) (mx_rm (d - 1) n n') (n' - n) (mx_sz n' - mx_sz n) na := by
  obtain ⟨h1, h2, h3, h4⟩ := hE
  refine ⟨rfl, rfl, ?_, ?_, mx_good hts h1, List.mem_cons_self, hts _ h1, hts _ h2, ⟨h3.1, h3.2.1⟩, fun sig h => ?_, hts _ hl⟩
  · show d - 1 + 1 ≤ d
    omega
  · show 8 + (E.2.2.1 + 11) + 100 * (d - 1) ≤ 100 * d
    omega
  · have h5 := h3.2.2
    rw [h] at h5
    exact (Option.some.inj h5).symm
theorem mx_callN {d n n' nE i na : Nat} {E : Md} (hts : ∀ w ∈ gw, w.before args s = true) (hK : mx_K G s) (hE : mx_D E na) (hk : 0 < d) (hl : Cond.methodLinkNest (mx_rc o) i E.1 RX7 ∈ mx_nw) : va_CN (mx_rm d n0 nE) s args (mx_rc o) i E.1 RX7 E.2.1 E.2.2.1 E.2.2.2.1 (mx_wT E) (mx_rm (d - 1) n n') (n' - n) (mx_sz n' - mx_sz n) na := by
  obtain ⟨h1, h2, h3, h4⟩ := hE
  refine ⟨⟨rfl, rfl, ?_, ?_, mx_good hts h1, List.mem_cons_self⟩, hts _ h1, hts _ h2, ⟨h3.1, h3.2.1⟩, fun sig h => ?_, va_Nw.use rfl (hK.2.1 _ hl)⟩
  · show d - 1 + 1 ≤ d
    omega
  · show 8 + (E.2.2.1 + 11) + 100 * (d - 1) ≤ 100 * d
    omega
  · have h5 := h3.2.2
    rw [h] at h5
    exact (Option.some.inj h5).symm
theorem mx_callS {d nE pc i k n n' : Nat} {E : Md} {M : Mm} {L : Lv} {S r : Sk} {as : List Value} {PE : Option Value → Mm → Prop} (C : mx_C p s m args meth c G md nL o cc) (hd : decode cc pc = .ok (.invokestatic i, 3)) (hE : mx_D E as.length) (hc : mx_cS o i E ∨ mx_cN o i E) (hk : k < d) (hnn : n ≤ n') (hnE : n' ≤ nE) (hR : Runs l G md E k n as M n' PE) (hS : S = as.reverse ++ r) (hr : (r.map fun v => v.category).sum ≤ 8)
    (K : ∀ (v : Option Value) (M' : Mm), PE v M' → mx_X p l e (mx_rm d n0 nE) s m args below meth c Q G md n0 nL n' M' (pc + 3) L (v.toList ++ r)) : mx_X p l e (mx_rm d n0 nE) s m args below meth c Q G md n0 nL n M pc L S := by
  intro hL hn H locs ls hH hlo hls
  obtain ⟨hx, hb, hml, ho, hts, hK, -⟩ := C
  subst hS
  have hcat : 2 * (F0 m pc ls ((as.reverse ++ r).map (mx_cv G))).monitorRoom + ((r.map (mx_cv G)).map fun v => v.category).sum ≤ 8 := lv_room (by rw [mx_catm]; exact hr)
  rcases hc with hc | hc
  · refine mx_behind (a := (as.map (mx_cv G)).toArray) hL hn hnn hlo hls (va_runS (As := as.map (mx_cv G)) (rest := r.map (mx_cv G)) ⟨hx, hb, hml, ho, hts⟩ (hR (d - 1) (by omega)) ⟨mx_callB (na := as.length) hts hE (by omega) hc.1, hts _ hc.2⟩ (mx_pre hH hK) rfl (by simp) hls.1 (by simp) hcat hd (mx_fit hn hnn hnE)) K
  · refine mx_behind (a := (as.map (mx_cv G)).toArray) hL hn hnn hlo hls (va_runSN (As := as.map (mx_cv G)) (rest := r.map (mx_cv G)) ⟨hx, hb, hml, ho, hts⟩ (hR (d - 1) (by omega)) ⟨mx_callN (na := as.length) hts hK hE (by omega) hc.1, hts _ hc.2, trivial⟩ (mx_pre hH hK) rfl (by simp) hls.1 (by simp) hcat hd (mx_fit hn hnn hnE)) K
theorem mx_callV {d nE pc i k n n' b c1 : Nat} {E : Md} {M : Mm} {L : Lv} {S r : Sk} {as : List Value} {PE : Option Value → Mm → Prop} (C : mx_C p s m args meth c G md nL o cc) (hd : decode cc pc = .ok (.invokevirtual i, 3)) (hE : mx_D E as.length) (hc : mx_cV o i E) (hk : k < d) (hnn : n ≤ n') (hnE : n' ≤ nE) (hc1 : c1 < 9 ∧ mx_rc c1 = E.1.cls) (hi : mx_in md c1 b n) (hR : Runs l G md E k n (.ref b :: as) M n' PE) (hS : S = as.reverse ++ .ref b :: r) (hr : (r.map fun v => v.category).sum ≤ 8)
    (K : ∀ (v : Option Value) (M' : Mm), PE v M' → mx_X p l e (mx_rm d n0 nE) s m args below meth c Q G md n0 nL n' M' (pc + 3) L (v.toList ++ r)) : mx_X p l e (mx_rm d n0 nE) s m args below meth c Q G md n0 nL n M pc L S := by
  intro hL hn H locs ls hH hlo hls
  obtain ⟨hx, hb, hml, ho, hts, hK, -⟩ := C
  subst hS
  have hcat : 2 * (F0 m pc ls ((as.reverse ++ .ref b :: r).map (mx_cv G))).monitorRoom + ((r.map (mx_cv G)).map fun v => v.category).sum ≤ 8 := lv_room (by rw [mx_catm]; exact hr)
  have hrec := mx_recv (s := s) hH hK hc1.1 hi
  rw [hc1.2] at hrec
  have hpre := mx_pre (as := .ref b :: as) (s := s) hH hK
  exact mx_behind (a := ((Value.ref b :: as).map (mx_cv G)).toArray) hL hn hnn hlo hls (va_runV (C := E.1.cls) (b := mx_ad G b) (As := as.map (mx_cv G)) (rest := r.map (mx_cv G)) ⟨hx, hb, hml, ho, hts⟩ (hR (d - 1) (by omega)) ⟨mx_callB (na := as.length) hts hE (by omega) hc.1, hts _ hc.2.1, hts _ hc.2.2⟩ ⟨hpre.1, hrec, hpre.2⟩ rfl (by simp) hls.1 (by simp; rfl) hcat hd (mx_fit hn hnn hnE)) K
theorem mx_callI {d nE pc i k n n' b : Nat} {E : Md} {M : Mm} {L : Lv} {S r : Sk} {as : List Value} {PE : Option Value → Mm → Prop} (C : mx_C p s m args meth c G md nL o cc) (hd : decode cc pc = .ok (.invokespecial i, 3)) (hE : mx_D E as.length) (hc : mx_cI o i E) (hk : k < d) (hnn : n ≤ n') (hnE : n' ≤ nE) (hR : Runs l G md E k n (.ref b :: as) M n' PE) (hS : S = as.reverse ++ .ref b :: r) (hr : (r.map fun v => v.category).sum ≤ 8)
    (K : ∀ (v : Option Value) (M' : Mm), PE v M' → mx_X p l e (mx_rm d n0 nE) s m args below meth c Q G md n0 nL n' M' (pc + 3) L (v.toList ++ r)) : mx_X p l e (mx_rm d n0 nE) s m args below meth c Q G md n0 nL n M pc L S := by
  intro hL hn H locs ls hH hlo hls
  obtain ⟨hx, hb, hml, ho, hts, hK, -⟩ := C
  subst hS
  have hcat : 2 * (F0 m pc ls ((as.reverse ++ .ref b :: r).map (mx_cv G))).monitorRoom + ((r.map (mx_cv G)).map fun v => v.category).sum ≤ 8 := lv_room (by rw [mx_catm]; exact hr)
  have hpre := mx_pre (as := .ref b :: as) (s := s) hH hK
  obtain ⟨hc0, hc1, hc2, hc3⟩ := hc
  rcases hc0 with hc0 | hc0
  · have hB := mx_callB (n0 := n0) (n := n) (n' := n') (nE := nE) (na := as.length) (o := o) hts hE (show 0 < d by omega) hc0
    rw [hc3] at hB
    exact mx_behind (a := ((Value.ref b :: as).map (mx_cv G)).toArray) hL hn hnn hlo hls (va_runI (b := mx_ad G b) (As := as.map (mx_cv G)) (rest := r.map (mx_cv G)) ⟨hx, hb, hml, ho, hts⟩ (hR (d - 1) (by omega)) ⟨hB, hc1, hts _ hc2⟩ hpre rfl (by simp) hls.1 (by simp; rfl) hcat hd (mx_fit hn hnn hnE)) K
  · have hB := mx_callN (G := G) (n0 := n0) (n := n) (n' := n') (nE := nE) (na := as.length) (o := o) hts hK hE (show 0 < d by omega) hc0
    rw [hc3] at hB
    exact mx_behind (a := ((Value.ref b :: as).map (mx_cv G)).toArray) hL hn hnn hlo hls (va_runIN (b := mx_ad G b) (As := as.map (mx_cv G)) (rest := r.map (mx_cv G)) ⟨hx, hb, hml, ho, hts⟩ (hR (d - 1) (by omega)) ⟨hB, hc1, hts _ hc2⟩ hpre rfl (by simp) hls.1 (by simp; rfl) hcat hd (mx_fit hn hnn hnE)) K
end MX
