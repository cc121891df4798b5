section MX
variable {p : Program} {l : Launch} {e : Env} {s : State} {m : MethodId} {args : Array Value} {below : List Frame} {meth : Method} {c : Code} {Q : State → Prop} {G : Gt} {n0 nL o : Nat} {cc : ByteArray}
theorem mx_instw : ∀ q ∈ [0, 1, 2, 3, 4, 5, 6, 7, 8], Cond.instantiable (mx_rc q) (mx_nf.getD q 0) ∈ gw ∧ Cond.initialized (mx_rc q) ∈ gw := by
  have h1 := mx_gwz (fun q : Nat => Cond.instantiable (mx_rc q) (mx_nf.getD q 0)) [166, 86, 80, 238, 142, 160, 230, 72, 890] [0, 1, 2, 3, 4, 5, 6, 7, 8] (by decide +kernel) (by decide +kernel)
  have h2 := mx_gwz (fun q : Nat => Cond.initialized (mx_rc q)) [60, 57, 56, 62, 58, 59, 61, 55, 63] [0, 1, 2, 3, 4, 5, 6, 7, 8] (by decide +kernel) (by decide +kernel)
  exact fun q hq => ⟨h1 q hq, h2 q hq⟩
theorem mx_arrw : Cond.arrayClass .int ∈ gw ∧ Cond.arrayClass .byte ∈ gw ∧ Cond.arrayClass .char ∈ gw ∧ Cond.arrayClass .boolean ∈ gw := ⟨mx_gw (i := 111) (by decide +kernel), mx_gw (i := 110) (by decide +kernel), mx_gw (i := 1001) (by decide +kernel), mx_gw (i := 1002) (by decide +kernel)⟩
def mx_deft (c j : Nat) : Bool := decide (defaultValue (mx_ty c j) = mx_sv false (ft c j) 0 0)
theorem mx_def : ∀ c, c < 9 → ∀ j, j < mx_nf.getD c 0 → mx_deft c j = true := by decide +kernel
theorem mx_svk {t : Nat × Nat} {k k' : Nat} {x : Int32} : mx_sv false t k x = mx_sv false t k' x := by
  obtain ⟨a, b⟩ := t
  match a with
  | 0 => rfl
  | 1 => rfl
  | 2 => rfl
  | n + 3 => rfl
theorem mx_cv0 {t : Nat × Nat} {k : Nat} : mx_cv G (mx_sv false t k 0) = mx_sv false t k 0 := by
  obtain ⟨a, b⟩ := t
  match a with
  | 0 => rfl
  | 1 => rfl
  | 2 => rfl
  | n + 3 => rfl
theorem mx_H.push {n : Nat} {M : Mm} {H H1 : Heap} (hH : mx_H G false n M H) (hn : n < mx_NT) (hz : H1.size = H.size + 1) (ho : ∀ q, q < H.size → H1[q]? = H[q]?) (hc : mx_cell G false n (fun _ => 0) H1) : mx_H G false (n + 1) (mx_z M n) H1 := by
  obtain ⟨h1, h2, h3, h4, h5⟩ := hH
  refine ⟨by omega, by omega, fun h => absurd h (by decide), fun q hq => (ho q (by omega)).trans (h4 q hq), fun q hq => ?_⟩
  by_cases e : q = n
  · subst e
    rw [show mx_z M q q = fun _ => 0 by simp [mx_z]]
    exact hc
  · rw [show mx_z M n q = M q by simp [mx_z, e]]
    exact (h5 q (by omega)).kept (ho _ (by omega))
theorem mx_room1 {d n nE : Nat} (hn : n0 ≤ n) (hE : n + 1 ≤ nE) : n - n0 + 1 ≤ (mx_rm d n0 nE).cells ∧ mx_sz n - mx_sz n0 + (kd n).2 ≤ (mx_rm d n0 nE).slots ∧ n - n0 + 1 = n + 1 - n0 ∧ mx_sz n - mx_sz n0 + (kd n).2 = mx_sz (n + 1) - mx_sz n0 := by
  have h1 := mx_szm hn
  have h2 := mx_szm hE
  rw [mx_szs] at h2
  refine ⟨?_, ?_, by omega, by rw [mx_szs]; omega⟩
  · show n - n0 + 1 ≤ nE - n0
    omega
  · show _ ≤ mx_sz nE - mx_sz n0
    omega
theorem mx_newS {d nE pc i c1 n : Nat} {M : Mm} {L : Lv} {S : Sk} (C : mx_C p s m args meth c G false nL o cc) (hd : decode cc pc = .ok (.new i, 3)) (hl : (o, i, c1) ∈ mx_cl) (hc : c1 < 9) (hkd : (kd n).1 = c1) (hE : n + 1 ≤ nE)
    (K : mx_X p l e (mx_rm d n0 nE) s m args below meth c Q G false n0 nL (n + 1) (mx_z M n) (pc + 3) L (.ref n :: S)) : mx_X p l e (mx_rm d n0 nE) s m args below meth c Q G false n0 nL n M pc L S := by
  intro hL hn H locs ls hH hlo hls
  obtain ⟨hx, hb, hml, ho, hts, hK, -⟩ := C
  have hn1 : n < 127 := mx_kdlt (by omega)
  obtain ⟨vr, hvr⟩ := mx_vw hc
  obtain ⟨-, hrc, hN, hin, hnm, hty⟩ := mx_cls c1 vr hvr
  have hKn := hK.1.1 c1 _ hvr
  have hm9 : c1 ∈ [0, 1, 2, 3, 4, 5, 6, 7, 8] := by simp; omega
  have hkn : (kd n).2 = mx_nf.getD c1 0 := by rw [← mx_kd9 n hn1 (by omega), hkd]
  obtain ⟨r1, r2, r3, r4⟩ := mx_room1 (d := d) hn hE
  rw [hkn] at r2 r4
  refine W.newcK (C := mx_rc c1) hx hb ho (hts _ (mx_cl_in _ hl)) (hts _ (mx_instw c1 hm9).1) (hts _ (mx_instw c1 hm9).2) rfl hd r1 r2 (by rw [← hrc]; exact hKn.2.1) rfl fun H1 kC hkC e1 z1 o1 => ?_
  rw [r3, r4]
  have hadn : mx_cv G (.ref n) = .ref H.size := by
    show Value.ref (mx_ad G n) = _
    rw [mx_ad, if_pos (by omega), hH.1]
  have K := K hL (by omega) H1 locs ls (hH.push (by unfold mx_NT; omega) z1 o1 ?_) hlo hls
  · rw [List.map_cons, hadn] at K
    exact K
  · unfold mx_cell
    rw [if_pos (by omega), hkd, hkn, ← hN]
    rw [hH.1] at e1
    refine (u_born (mx_ty c1) hts hin hKn hkC e1 hty).to (fun j hj => ?_)
    have hdj := mx_def c1 hc j (by rw [← hN]; exact hj)
    simp only [mx_deft, decide_eq_true_eq] at hdj
    rw [hdj, mx_cv0]
    exact mx_svk
theorem mx_cb {a b : Nat} (ha : a ≤ 100000) (hb : b ≤ 8) : a * b ≤ 536870912 := Nat.le_trans (Nat.mul_le_mul ha hb) (by decide)
theorem mx_newa1 {d nE pc n k1 : Nat} {aty : ArrayType} {M : Mm} {L : Lv} {r : Sk} {x : Int32} (C : mx_C p s m args meth c G false nL o cc) (hd : decode cc pc = .ok (.newarray aty, 2)) (haw : Cond.arrayClass (newarray.typeOf aty) ∈ gw) (hk1 : k1 = (kd n).1) (h9 : 9 ≤ k1) (h13 : k1 < 13) (hty : s.vm.findClass ("[" ++ (newarray.typeOf aty).toString) = some (G.2.2.1 k1)) (hdv : defaultValue (newarray.typeOf aty) = .int 0) (hx0 : ¬ x < 0) (hxn : x.toNatClampNeg = (kd n).2) (hby : (kd n).2 * componentBytes (newarray.typeOf aty) ≤ 536870912) (hE : n + 1 ≤ nE)
    (K : mx_X p l e (mx_rm d n0 nE) s m args below meth c Q G false n0 nL (n + 1) (mx_z M n) (pc + 2) L (.ref n :: r)) : mx_X p l e (mx_rm d n0 nE) s m args below meth c Q G false n0 nL n M pc L (.int x :: r) := by
  intro hL hn H locs ls hH hlo hls
  obtain ⟨hx, hb, hml, ho, hts, hK, -⟩ := C
  have hn1 : n < 127 := mx_kdlt (by omega)
  obtain ⟨r1, r2, r3, r4⟩ := mx_room1 (d := d) hn hE
  refine va_newaK hx hb (hts _ haw) rfl hd rfl hx0 hxn hby r1 r2 rfl fun H1 cA e1 z1 o1 hAr hNm => ?_
  rw [r3, r4]
  have hcA : cA = G.2.2.1 k1 := Option.some.inj (hNm.symm.trans hty)
  subst hcA
  have hadn : mx_cv G (.ref n) = .ref H.size := by
    show Value.ref (mx_ad G n) = _
    rw [mx_ad, if_pos (by omega), hH.1]
  have K := K hL (by omega) H1 locs ls (hH.push (by unfold mx_NT; omega) z1 o1 ?_) hlo hls
  · rw [List.map_cons, hadn] at K
    exact K
  · unfold mx_cell
    rw [if_neg (by omega), ← hk1]
    rw [hH.1, hdv] at e1
    rw [e1]
    congr 2
    funext j
    simp [mx_ev, h13, mx_cv]
theorem mx_newaS {d nE pc n : Nat} {aty : ArrayType} {M : Mm} {L : Lv} {r : Sk} {x : Int32} (C : mx_C p s m args meth c G false nL o cc) (hd : decode cc pc = .ok (.newarray aty, 2)) (hk : (kd n).1 = mx_aty aty ∧ mx_aty aty ≠ 0) (hx0 : ¬ x < 0) (hxn : x.toNatClampNeg = (kd n).2) (hby : (kd n).2 ≤ 100000) (hE : n + 1 ≤ nE)
    (K : mx_X p l e (mx_rm d n0 nE) s m args below meth c Q G false n0 nL (n + 1) (mx_z M n) (pc + 2) L (.ref n :: r)) : mx_X p l e (mx_rm d n0 nE) s m args below meth c Q G false n0 nL n M pc L (.int x :: r) := by
  obtain ⟨hk, hk0⟩ := hk
  obtain ⟨w1, w2, w3, w4⟩ := mx_arrw
  have hK := (id C).2.2.2.2.2.1
  cases aty <;> first | exact absurd rfl hk0 | skip
  case int => exact mx_newa1 C hd w1 hk.symm (by decide) (by decide) (hK.1.2 2 _ rfl).2 rfl hx0 hxn (mx_cb hby (show componentBytes (newarray.typeOf .int) ≤ 8 by decide)) hE K
  case byte => exact mx_newa1 C hd w2 hk.symm (by decide) (by decide) (hK.1.2 0 _ rfl).2 rfl hx0 hxn (mx_cb hby (show componentBytes (newarray.typeOf .byte) ≤ 8 by decide)) hE K
  case char => exact mx_newa1 C hd w3 hk.symm (by decide) (by decide) (hK.1.2 1 _ rfl).2 rfl hx0 hxn (mx_cb hby (show componentBytes (newarray.typeOf .char) ≤ 8 by decide)) hE K
  case boolean => exact mx_newa1 C hd w4 hk.symm (by decide) (by decide) (hK.1.2 3 _ rfl).2 rfl hx0 hxn (mx_cb hby (show componentBytes (newarray.typeOf .boolean) ≤ 8 by decide)) hE K
theorem mx_tyR {k1 : Nat} (h13 : 13 ≤ k1) (h17 : k1 < 17) (hK : mx_K G s) : va_AO (mx_rc (mx_ec k1)) s ∧ va_RA s (G.2.2.1 k1) (.object (mx_rc (mx_ec k1))) ∧ ArrOfT s (G.2.2.1 k1) (.object (mx_rc (mx_ec k1))) := by
  rcases (show k1 = 13 ∨ k1 = 14 ∨ k1 = 15 ∨ k1 = 16 by omega) with rfl | rfl | rfl | rfl
  · exact ⟨hK.2.2.1.1, (hK.1.2 4 _ rfl).2, (hK.1.2 4 _ rfl).1⟩
  · exact ⟨hK.2.2.1.2.1, (hK.1.2 5 _ rfl).2, (hK.1.2 5 _ rfl).1⟩
  · exact ⟨hK.2.2.1.2.2.1, (hK.1.2 6 _ rfl).2, (hK.1.2 6 _ rfl).1⟩
  · exact ⟨hK.2.2.1.2.2.2, (hK.1.2 7 _ rfl).2, (hK.1.2 7 _ rfl).1⟩
theorem mx_anewS {d nE pc i n k1 : Nat} {M : Mm} {L : Lv} {r : Sk} {x : Int32} (C : mx_C p s m args meth c G false nL o cc) (hd : decode cc pc = .ok (.anewarray i, 3)) (hl : (o, i, mx_ec k1) ∈ mx_cl) (hk1 : (kd n).1 = k1) (h13 : 13 ≤ k1) (h17 : k1 < 17) (hx0 : ¬ x < 0) (hxn : x.toNatClampNeg = (kd n).2) (hby : (kd n).2 ≤ 100000) (hE : n + 1 ≤ nE)
    (K : mx_X p l e (mx_rm d n0 nE) s m args below meth c Q G false n0 nL (n + 1) (mx_z M n) (pc + 3) L (.ref n :: r)) : mx_X p l e (mx_rm d n0 nE) s m args below meth c Q G false n0 nL n M pc L (.int x :: r) := by
  intro hL hn H locs ls hH hlo hls
  obtain ⟨hx, hb, hml, ho, hts, hK, -⟩ := C
  have hn1 : n < 127 := mx_kdlt (by omega)
  obtain ⟨r1, r2, r3, r4⟩ := mx_room1 (d := d) hn hE
  rw [← hxn] at r2 r4 hby
  obtain ⟨w1, w2, w3⟩ := mx_tyR h13 h17 hK
  refine W.anew hx hb ho (hts _ (mx_cl_in _ hl)) (va_AO.use w1) rfl hd rfl hx0 (by omega) r1 r2 fun cA kA comp f1 f2 f3 f4 => ?_
  rw [r3, r4]
  obtain ⟨kA', comp', g1, g2, g3, g4⟩ := w2
  have hcA : cA = G.2.2.1 k1 := Option.some.inj (f1.symm.trans g4)
  subst hcA
  generalize hH1 : H.push ({ cls := G.2.2.1 k1, slots := Array.replicate x.toNatClampNeg .null, vm := .none } : Cell) = H1
  have z1 : H1.size = H.size + 1 := by rw [← hH1, Array.size_push]
  have e1 : H1[H.size]? = some (arrV (G.2.2.1 k1) x.toNatClampNeg (fun _ => .null)) := by rw [← hH1, Array.getElem?_push_size, ← arrV_new]
  have o1 : ∀ q : Nat, q < H.size → H1[q]? = H[q]? := fun q hq => by rw [← hH1, Array.getElem?_push, if_neg (Nat.ne_of_lt hq)]
  have hadn : mx_cv G (.ref n) = .ref H.size := by
    show Value.ref (mx_ad G n) = _
    rw [mx_ad, if_pos (by omega), hH.1]
  have K := K hL (by omega) H1 locs ls (hH.push (by unfold mx_NT; omega) z1 o1 ?_) hlo hls
  · rw [List.map_cons, hadn] at K
    exact K
  · unfold mx_cell
    rw [if_neg (by omega), hk1]
    rw [hH.1, hxn] at e1
    rw [e1]
    congr 2
    funext j
    have : ¬ k1 < 13 := by omega
    simp [mx_ev, this, mx_rv, mx_cv]
theorem mx_aastS {d nE pc n k1 k t : Nat} {M : Mm} {L : Lv} {r : Sk} {i : Int32} (C : mx_C p s m args meth c G false nL o cc) (hd : decode cc pc = .ok (.aastore, 1)) (hk : (kd k).1 = k1 ∧ k < n) (h13 : 13 ≤ k1) (h17 : k1 < 17) (ht : (kd t).1 = mx_ec k1 ∧ t < n ∧ 0 < t) (hr : vp_in i (kd k).2)
    (K : mx_X p l e (mx_rm d n0 nE) s m args below meth c Q G false n0 nL n (mx_wr M k i.toNatClampNeg (nI t)) (pc + 1) L r) : mx_X p l e (mx_rm d n0 nE) s m args below meth c Q G false n0 nL n M pc L (.ref t :: .int i :: .ref k :: r) := by
  intro hL hn H locs ls hH hlo hls
  obtain ⟨hx, hb, hml, ho, hts, hK, -⟩ := C
  obtain ⟨hkn, hkc, hcell⟩ := mx_arr (md := false) hH (show mx_in false k1 k n from hk) (by omega) h17
  have hz : mx_ad G k = G.1.size + k := mx_adk hH hkn
  have hec : mx_ec k1 < 9 := by
    rcases (show k1 = 13 ∨ k1 = 14 ∨ k1 = 15 ∨ k1 = 16 by omega) with rfl | rfl | rfl | rfl <;> decide
  obtain ⟨w1, ⟨kA, comp, g1, g2, g3, g4⟩, w3⟩ := mx_tyR h13 h17 hK
  have hct := hH.2.2.2.2 t ht.2.1
  unfold mx_cell at hct
  rw [if_pos (by rw [ht.1]; exact hec), ht.1] at hct
  obtain ⟨cellV, v1, v2, v3, -⟩ := hct
  rw [← mx_adk hH ht.2.1] at v1
  obtain ⟨vr, hvr⟩ := mx_vw hec
  obtain ⟨-, hrc, -⟩ := mx_cls _ vr hvr
  have hcls := (hK.1.1 _ _ hvr).2
  rw [hrc] at hcls
  have hcomp : comp = G.2.1.1 (mx_ec k1) := Option.some.inj (g3.symm.trans hcls.1)
  subst hcomp
  obtain ⟨kC, hkC, -⟩ := hcls.2
  have hlt : i.toNatClampNeg < (kd k).2 := Nat.not_le.mp fun q => hr (Or.inr q)
  refine W.aast hx hb hcell (fun q h => by cases h) (fun h => by cases h) g1 g2 rfl hkC ⟨fun q => hr (Or.inl q), by rw [arrV_size]; exact hlt⟩ v1 (fun q h => by rw [v3] at h; cases h) (by rw [v2]; exact hkC) (by rw [v2]; exact va_assign hcls) rfl rfl hd fun H1 e z oq => ?_
  refine K hL hn H1 _ ls (hH.put (k := k) (fun q hq => mx_wr_ne hq) z (fun q hq => oq q (by rw [hz]; exact hq)) ?_) (fun q hq => ?_) hls
  · unfold mx_cell
    rw [if_neg (by omega), hkc]
    rw [arrV_store, hz] at e
    rw [e]
    congr 2
    funext q
    rw [mx_wr_self]
    have h13' : ¬ k1 < 13 := by omega
    have ht31 : t < 2 ^ 31 := by
      have h1 := hH.2.1
      unfold mx_NT at h1
      omega
    by_cases hq : q = i.toNatClampNeg
    · subst hq
      have h0 : ¬ nI t = 0 := nI_ne0 ht.2.2 ht31
      simp [updV, mx_ev, h13', mx_rv, h0, nI_clamp ht31, mx_cv]
    · simp [updV, hq]
  · rcases List.mem_append.mp hq with h | h
    · exact hlo q h
    · rw [List.mem_singleton.mp h]
      show G.1.size ≤ mx_ad G k
      omega
theorem mx_oiw : Cond.instanceMethod Lib.objectInit ∈ gw ∧ Cond.code Lib.objectInit ⟨#[0xb1]⟩ 1 none ∈ gw := ⟨mx_gw (i := 77) (by decide +kernel), mx_gw (i := 78) (by decide +kernel)⟩
theorem mx_objS {md : Bool} {d nE pc i n b : Nat} {M : Mm} {L : Lv} {r : Sk} (C : mx_C p s m args meth c G md nL o cc) (hd : decode cc pc = .ok (.invokespecial i, 3)) (hl : Cond.methodLink (mx_rc o) i Lib.objectInit ∈ gw) (h1d : 1 ≤ d) (hr : (r.map fun v => v.category).sum ≤ 8)
    (K : mx_X p l e (mx_rm d n0 nE) s m args below meth c Q G md n0 nL n M (pc + 3) L r) : mx_X p l e (mx_rm d n0 nE) s m args below meth c Q G md n0 nL n M pc L (.ref b :: r) := by
  intro hL hn H locs ls hH hlo hls
  obtain ⟨hx, hb, hml, ho, hts, hK, -⟩ := C
  refine W.objInit hx hb ho (hts _ hl) (hts _ mx_oiw.1) (hts _ mx_oiw.2) rfl (by rw [hml]; exact hls.1) (rest := r.map (mx_cv G)) rfl hd h1d ?_ (K hL hn H locs ls hH hlo hls)
  rw [mx_catm]
  show 2 * 0 + _ + 12 ≤ 100 * d
  omega
end MX
