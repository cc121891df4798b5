theorem mx_sv0 {md : Bool} {t : Nat × Nat} {k : Nat} {x : Int32} (h : t.1 = 0) : mx_sv md t k x = .int x := by
  obtain ⟨a, b⟩ := t
  have h : a = 0 := h
  subst h
  rfl
theorem mx_sv1 {t : Nat × Nat} {k a : Nat} {x : Int32} (h : t.1 = 1) (hx : x.toNatClampNeg = a) : mx_sv true t k x = .ref a := by
  obtain ⟨a, b⟩ := t
  have h : a = 1 := h
  subst h
  show Value.ref x.toNatClampNeg = _
  rw [hx]
theorem mx_svN {t : Nat × Nat} {k : Nat} {x : Int32} {v : Value} (h : t.1 ≠ 0) (hv : mx_rv x = v) : mx_sv false t k x = v := by
  obtain ⟨a, b⟩ := t
  match a, h with
  | 0, h => exact absurd rfl h
  | 1, _ => exact hv
  | 2, _ => exact hv
  | n + 3, _ => exact hv
theorem mx_cell.kept {G : Gt} {md : Bool} {k : Nat} {r : Nat → Int32} {H H1 : Heap} (h : mx_cell G md k r H) (hq : H1[G.1.size + k]? = H[G.1.size + k]?) : mx_cell G md k r H1 := by
  unfold mx_cell at h ⊢
  split at h
  · rename_i h1
    rw [if_pos h1]
    exact h.kept hq
  · rename_i h1
    rw [if_neg h1]
    exact hq.trans h
theorem mx_H.put {G : Gt} {md : Bool} {n k : Nat} {M M' : Mm} {H H1 : Heap} (hH : mx_H G md n M H) (hM : ∀ q, q ≠ k → M' q = M q) (hz : H1.size = H.size) (ho : ∀ q, q ≠ G.1.size + k → H1[q]? = H[q]?) (hc : mx_cell G md k (M' k) H1) : mx_H G md n M' H1 := by
  obtain ⟨h1, h2, h3, h4, h5⟩ := hH
  refine ⟨hz.trans h1, h2, h3, fun q hq => (ho q (by omega)).trans (h4 q hq), fun q hq => ?_⟩
  by_cases e : q = k
  · subst e
    exact hc
  · rw [hM q e]
    exact (h5 q hq).kept (ho _ (by omega))
theorem mx_wr_ne {M : Mm} {k j q : Nat} {x : Int32} (h : q ≠ k) : mx_wr M k j x q = M q := by simp [mx_wr, h]
theorem mx_wr_self {M : Mm} {k j i : Nat} {x : Int32} : mx_wr M k j x k i = if i = j then x else M k i := by simp [mx_wr]
section MX
variable {p : Program} {l : Launch} {e : Env} {R : Room} {s : State} {m : MethodId} {args : Array Value} {below : List Frame} {meth : Method} {c : Code} {Q : State → Prop} {G : Gt} {md : Bool} {n0 nL o : Nat} {cc : ByteArray}
def mx_C (p : Program) (s : State) (m : MethodId) (args : Array Value) (meth : Method) (c : Code) (G : Gt) (md : Bool) (nL o : Nat) (cc : ByteArray) : Prop :=
  p.tables.exec = Jvm.exec ∧ c.code = cc ∧ c.maxLocals = nL ∧ s.vm.findClass (mx_rc o) = some m.cls ∧ (∀ w ∈ gw, w.before args s = true) ∧ mx_K G s ∧ (md = false → o ≠ 9 → meth.name = "<init>") ∧ meth.locks = false
def mx_X (p : Program) (l : Launch) (e : Env) (R : Room) (s : State) (m : MethodId) (args : Array Value) (below : List Frame) (meth : Method) (c : Code) (Q : State → Prop) (G : Gt) (md : Bool) (n0 nL : Nat) (n : Nat) (M : Mm) (pc : Nat) (L : Lv) (S : Sk) : Prop :=
  L.length = nL → n0 ≤ n → ∀ (H : Heap) (locs : List Loc) (ls : Array Slot), mx_H G md n M H → (∀ q ∈ locs, G.1.size ≤ q.base) → lv_has ls nL (mx_al G 0 L) → W p l e R s m args below meth c H locs (n - n0) (mx_sz n - mx_sz n0) Q (F0 m pc ls (S.map (mx_cv G)))
theorem mx_p1_inv {S : Sk} {K : Int32 → Sk → Prop} (h : mx_p1 S K) : ∃ x r, S = .int x :: r ∧ K x r := by
  unfold mx_p1 at h
  split at h
  · exact ⟨_, _, rfl, h⟩
  · exact h.elim
theorem mx_p2_inv {S : Sk} {K : Int32 → Int32 → Sk → Prop} (h : mx_p2 S K) : ∃ x y r, S = .int y :: .int x :: r ∧ K x y r := by
  unfold mx_p2 at h
  split at h
  · exact ⟨_, _, _, rfl, h⟩
  · exact h.elim
theorem mx_l1_inv {S : Sk} {K : Int64 → Sk → Prop} (h : mx_l1 S K) : ∃ x r, S = .long x :: r ∧ K x r := by
  unfold mx_l1 at h
  split at h
  · exact ⟨_, _, rfl, h⟩
  · exact h.elim
theorem mx_l2_inv {S : Sk} {K : Int64 → Int64 → Sk → Prop} (h : mx_l2 S K) : ∃ x y r, S = .long y :: .long x :: r ∧ K x y r := by
  unfold mx_l2 at h
  split at h
  · exact ⟨_, _, _, rfl, h⟩
  · exact h.elim
theorem mx_pr_inv {S : Sk} {K : Nat → Sk → Prop} (h : mx_pr S K) : ∃ x r, S = .ref x :: r ∧ K x r := by
  unfold mx_pr at h
  split at h
  · exact ⟨_, _, rfl, h⟩
  · exact h.elim
theorem mx_pa_inv {S : Sk} {K : Nat → Int32 → Sk → Prop} (h : mx_pa S K) : ∃ k i r, S = .int i :: .ref k :: r ∧ K k i r := by
  unfold mx_pa at h
  split at h
  · exact ⟨_, _, _, rfl, h⟩
  · exact h.elim
theorem mx_pb_inv {S : Sk} {K : Nat → Int32 → Int32 → Sk → Prop} (h : mx_pb S K) : ∃ k i x r, S = .int x :: .int i :: .ref k :: r ∧ K k i x r := by
  unfold mx_pb at h
  split at h
  · exact ⟨_, _, _, _, rfl, h⟩
  · exact h.elim
theorem mx_lat {ls : Array Slot} {nL i : Nat} {L : Lv} {v : Value} (h : lv_has ls nL (mx_al G 0 L)) (hv : L[i]? = some (some v)) : ls[i]? = some (.val (mx_cv G v)) := by
  have := h.2.2 _ (mx_al_mem (G := G) L 0 i v hv)
  simpa using this
theorem mx_getf {pc q c1 j k n : Nat} {M : Mm} {L : Lv} {r : Sk} (C : mx_C p s m args meth c G md nL o cc) (hd : decode cc pc = .ok (.getfield q, 3)) (hq : (o, q, c1, j) ∈ mx_fl ∨ (o, q, c1, j) ∈ mx_fn) (hi : mx_in md c1 k n) (K : mx_X p l e R s m args below meth c Q G md n0 nL n M (pc + 3) L (mx_sv md (ft c1 j) k (M k j) :: r)) : mx_X p l e R s m args below meth c Q G md n0 nL n M pc L (.ref k :: r) := by
  intro hL hn H locs ls hH hlo hls
  obtain ⟨hx, hb, hml, ho, hts, hK, -⟩ := C
  have hcj : c1 < 9 ∧ j < mx_nf.getD c1 0 := by
    rcases hq with hq | hq
    · exact mx_flj _ hq
    · exact ⟨(mx_fnj _ hq).1, (mx_fnj _ hq).2.1⟩
  obtain ⟨hk, hkc⟩ := mx_lt hH hi (by omega)
  have hcell := hH.2.2.2.2 k hk
  unfold mx_cell at hcell
  rw [if_pos (by omega), hkc] at hcell
  obtain ⟨cell, q1, q2, q3, q4⟩ := hcell
  obtain ⟨vr, hvr⟩ := mx_vw hcj.1
  obtain ⟨-, -, hN, hin, -, -⟩ := mx_cls c1 vr hvr
  obtain ⟨hS, hfc, kC, hkC, hkind⟩ := hK.1.1 c1 _ hvr
  have hj : j < vr.2.2 := by rw [hN]; exact hcj.2
  obtain ⟨cf, kf, fi, f, hif, hsl⟩ := hS j hj
  have h2 : (kd k).2 = mx_nf.getD c1 0 := by rw [← mx_kd9 k (mx_kdlt (by omega)) (by omega), hkc]
  have hslot : cell.slots[f.slot]? = some (mx_cv G (mx_sv md (ft c1 j) k (M k j))) := by
    rw [hsl]
    exact q4 j (by rw [h2]; exact hcj.2)
  have hst := (u_facts hfc hkC (u_lays hts hin hj) hif).1
  have hz : mx_ad G k = G.1.size + k := mx_adk hH hk
  rw [← hz] at q1
  rcases hq with hq | hq
  · have hw := hts _ (mx_fl_in _ hq)
    simp only [mx_wfl, hvr] at hw
    exact W.getf hx hb ho hw hif hst q1 (by rw [q3]; exact fun h => by cases h) hslot rfl rfl hd (K hL hn H locs ls hH hlo hls)
  · have hw := hK.2.1 _ (mx_fnj _ hq).2.2
    simp only [mx_wfn, hvr] at hw
    exact va_Wgetf hx hb ho (va_Nw.use rfl hw) hif hst q1 (by rw [q3]; exact fun h => by cases h) hslot rfl rfl hd (K hL hn H locs ls hH hlo hls)
def mx_finb (q : Nat × Nat × Nat × Nat) : Bool := match vwCl[q.2.2.1]? with
  | some r => ((r.2.1 q.2.2.2).2.2.2 == decide (2 ≤ (ft q.2.2.1 q.2.2.2).1)) && ((r.2.1 q.2.2.2).1 == r.1)
  | none => false
theorem mx_fin : ∀ q ∈ mx_fl, mx_finb q = true := by decide +kernel
def mx_isr (t : FieldType) : Bool := match t with
  | .object _ => true
  | .array _ => true
  | _ => false
theorem mx_tyq : ∀ q ∈ mx_fl, ((ft q.2.2.1 q.2.2.2).1 = 0 → mx_ty q.2.2.1 q.2.2.2 = .int ∨ mx_ty q.2.2.1 q.2.2.2 = .boolean) ∧ ((ft q.2.2.1 q.2.2.2).1 ≠ 0 → mx_isr (mx_ty q.2.2.1 q.2.2.2) = true) := by decide +kernel
theorem mx_isr_ok {t : FieldType} {a : Nat} (h : mx_isr t = true) : narrow t (.ref a) = .ref a ∧ fits t (.ref a) = true := by
  cases t <;> simp [mx_isr] at h <;> exact ⟨rfl, rfl⟩
theorem mx_bool {x : Int32} (h : narrow .boolean (.int x) = .int x) : x = 0 ∨ x = 1 := by
  have h1 : x &&& 1 = x := by simpa [narrow] using h
  obtain ⟨j, hj, e⟩ := pk_andE x (m := 1) 1 (by decide)
  rw [← h1, e]
  match j, hj with
  | 0, _ => exact Or.inl rfl
  | 1, _ => exact Or.inr rfl
theorem mx_putf {pc q c1 j k n : Nat} {M : Mm} {L : Lv} {r : Sk} {v : Value} {x : Int32} (C : mx_C p s m args meth c G md nL o cc) (hd : decode cc pc = .ok (.putfield q, 3)) (hq : (o, q, c1, j) ∈ mx_fl) (hf : (ft c1 j).1 < 2 ∨ o = c1 ∧ md = false) (hi : mx_in md c1 k n) (hv : mx_sv md (ft c1 j) k x = v) (hna : narrow (mx_ty c1 j) (mx_cv G v) = mx_cv G v) (hfi : fits (mx_ty c1 j) (mx_cv G v) = true) (K : mx_X p l e R s m args below meth c Q G md n0 nL n (mx_wr M k j x) (pc + 3) L r) : mx_X p l e R s m args below meth c Q G md n0 nL n M pc L (v :: .ref k :: r) := by
  intro hL hn H locs ls hH hlo hls
  obtain ⟨hx, hb, hml, ho, hts, hK, hini, -⟩ := C
  have hcj := mx_flj _ hq
  dsimp only at hcj
  obtain ⟨hk, hkc⟩ := mx_lt hH hi (by omega)
  have hcell := hH.2.2.2.2 k hk
  unfold mx_cell at hcell
  rw [if_pos (by omega), hkc] at hcell
  obtain ⟨cell, q1, q2, q3, q4⟩ := hcell
  obtain ⟨vr, hvr⟩ := mx_vw hcj.1
  obtain ⟨-, hrc, hN, hin, hnm, hty⟩ := mx_cls c1 vr hvr
  have hfin := mx_fin _ hq
  simp only [mx_finb, hvr, Bool.and_eq_true, beq_iff_eq] at hfin
  obtain ⟨hS, hfc, kC, hkC, hkind⟩ := hK.1.1 c1 _ hvr
  have hj : j < vr.2.2 := by rw [hN]; exact hcj.2
  have hap := va_apart (own := mx_rc o) hts hin (mx_ty c1) hty hnm hK.1 (show vwCl[c1]? = some (vr.1, vr.2.1, vr.2.2) from hvr)
  obtain ⟨cf, kf, fi, f, hif, hsl⟩ := hS j hj
  have h2 : (kd k).2 = mx_nf.getD c1 0 := by rw [← mx_kd9 k (mx_kdlt (by omega)) (by omega), hkc]
  rw [h2, ← hN] at q4
  have hst := (u_facts hfc hkC (u_lays hts hin hj) hif).1
  have hz : mx_ad G k = G.1.size + k := mx_adk hH hk
  rw [← hz] at q1
  have hw := hts _ (mx_fl_in _ hq)
  simp only [mx_wfl, hvr] at hw
  have hlay := hts _ (hin _ (u_in_lay hj))
  have fin : ∀ H' : Heap, H'[mx_ad G k]? = some (cell.setSlot f.slot (mx_cv G v)) → H'.size = H.size → (∀ q, q ≠ mx_ad G k → H'[q]? = H[q]?) → W p l e R s m args below meth c H' (locs ++ [⟨mx_ad G k, f.slot⟩]) (n - n0) (mx_sz n - mx_sz n0) Q (F0 m (pc + 3) ls (r.map (mx_cv G))) := by
    intro H' e1 e2 e3
    refine K hL hn H' _ ls (hH.put (k := k) (fun q hq => mx_wr_ne hq) e2 (fun q hq => e3 q (by rw [hz]; exact hq)) ?_) (fun q hq => ?_) hls
    · unfold mx_cell
      rw [if_pos (by omega), hkc, h2, ← hN]
      rw [hsl, hz] at e1
      refine t_OB.to (V := updV (fun j => mx_cv G (mx_sv md (ft c1 j) k (M k j))) j (mx_cv G v)) ⟨_, e1, q2, q3, t_set q4 hap hj _⟩ (fun i hi => ?_)
      by_cases hij : i = j
      · subst hij
        rw [mx_wr_self]
        simp [updV, hv]
      · rw [mx_wr_self]
        simp [updV, hij]
    · rcases List.mem_append.mp hq with h | h
      · exact hlo q h
      · rw [List.mem_singleton.mp h]
        show G.1.size ≤ mx_ad G k
        omega
  by_cases hf2 : (ft c1 j).1 < 2
  · unfold u_lay at hlay
    rw [if_neg (by rw [hfin.1]; simp; omega)] at hlay
    have h6 := u_store hfc hkC hkind hlay hif (hty j hj) hna hfi
    exact W.putK hx hb (f := f) ⟨ho, hw, ⟨_, _, _, hif⟩, hst⟩ (by rw [q2]; exact h6) q1 q3 (by rw [hsl]; exact k2_hasslot (q4 j hj)) rfl rfl hd fin
  · obtain ⟨hoc, hmd⟩ := hf.resolve_left hf2
    unfold u_lay at hlay
    rw [if_pos (by rw [hfin.1]; simp; omega)] at hlay
    have hcf : m.cls = cf := by
      obtain ⟨_, _, c', _, _, _, -, -, hf', -, -, -, hown2, -⟩ := Cond.laysFinal_spec hlay
      have e1 : c' = cf := by have := hif.symm.trans hf'; simp at this; exact this.1.symm
      rw [hfin.2, hrc, ← hoc] at hown2
      rw [← e1]; exact Option.some.inj (ho.symm.trans hown2)
    have h6 := u_fits hfc hkC hkind (Or.inr hlay) hif (hty j hj) hna hfi
    exact W.putFinK hx hb ho hw hif hst hcf (hini hmd (by omega)) (by rw [q2]; exact h6) q1 q3 (by rw [hsl]; exact k2_hasslot (q4 j hj)) rfl rfl hd fin
end MX
