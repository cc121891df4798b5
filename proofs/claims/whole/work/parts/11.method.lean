theorem mx_isr_of {t : FieldType} (h : mx_isr t = true) : (∃ n, t = .object n) ∨ ∃ u, t = .array u := by
  cases t <;> simp [mx_isr] at h
  · exact Or.inl ⟨_, rfl⟩
  · exact Or.inr ⟨_, rfl⟩
section MX
variable {p : Program} {l : Launch} {e : Env} {s : State} {m : MethodId} {args : Array Value} {below : List Frame} {meth : Method} {c : Code} {G : Gt} {md : Bool} {n0 : Nat}
theorem mx_sound {D : Md} {d nE : Nat} {P : Option Value → Mm → Prop} {Qc : Array Value → State → Outcome → State → Prop} (C : mx_C p s m args meth c G md D.2.2.1 D.2.2.2.2 D.2.1) (hr : meth.sig.returnType = D.2.2.2.1) (hQ : ∀ (v : Option Value) (M' : Mm) (t : State), P v M' → mx_H G md nE M' t.heap → Qc args s (.returned (v.map (mx_cv G))) t) :
    mx_Rl l G md D d nE P (mx_X p l e (mx_rm d n0 nE) s m args below meth c (MQ below Qc args s (nE - n0) (mx_sz nE - mx_sz n0) (mx_A G)) G md n0 D.2.2.1) := by
  obtain ⟨hx, hb, hml, ho, hts, hK, hini, hlk⟩ := id C
  refine ⟨fun pc is pc' n M L S h k => mx_blkS C is pc pc' n M L S h k, fun pc t n M L S h k => mx_jmpS C h k, fun pc br t f n M L S h k => mx_brS C h k, fun pc tb df n M L S h k => mx_swS C h k,
    fun pc i E k n n' M L S r as v hd hE hc hk hnn hnE hR hS hr K => mx_callS C hd hE hc hk hnn hnE hR hS hr K,
    fun pc i E k n n' b c1 M L S r as v hd hE hc hk hnn hnE hc1 hi hR hS hr K => mx_callV C hd hE hc hk hnn hnE hc1 hi hR hS hr K,
    fun pc i E k n n' b M L S r as v hd hE hc hk hnn hnE hR hS hr K => mx_callI C hd hE hc hk hnn hnE hR hS hr K, ?_, ?_, ?_, ?_, fun pc w len n M L S S' hd h h1 h2 K => mx_oddS C hd h h1 h2 K, fun pc i n k1 k2 M L r sp dp cnt hd hl h1d hi1 hi2 h1 h2 h3 h4 h5 hr K => mx_cpyS C hd hl h1d hi1 hi2 h1 h2 h3 h4 h5 hr K, fun pc i E k n j M L S r as v hd hE hc hk hnE hj hR hS hr K => mx_callT C hd hE hc hk hnE hj hR hS hr K, fun pc i c1 n M L S hmd hd hl hc hkd hE K => by subst hmd; exact mx_newS C hd hl hc hkd hE K, fun pc n aty M L r x hmd hd hk hx0 hxn hby hE K => by subst hmd; exact mx_newaS C hd hk hx0 hxn hby hE K, fun pc i n k1 M L r x hmd hd hl hk1 h13 h17 hx0 hxn hby hE K => by subst hmd; exact mx_anewS C hd hl hk1 h13 h17 hx0 hxn hby hE K, fun pc n k1 k t M L r i hmd hd hk h13 h17 ht hr K => by subst hmd; exact mx_aastS C hd hk h13 h17 ht hr K, fun pc i n b M L r hd hl h1d hr K => mx_objS C hd hl h1d hr K⟩
  · intro pc M L x ty hd hty hna hP hL hn H locs ls hH hlo hls
    exact W.zret hx hb (hr.trans hty) hna (fun t ht _ => hQ _ M t hP (by rw [ht]; exact hH)) hlo hd hlk
  · intro pc M L hd hty hP hL hn H locs ls hH hlo hls
    exact W.vret hx hb (hr.trans hty) (fun t ht _ => hQ _ M t hP (by rw [ht]; exact hH)) hlo hd hlk
  · intro pc M L x hd hty hP hL hn H locs ls hH hlo hls
    exact W.lret hx hb (hr.trans hty) (fun t ht _ => hQ _ M t hP (by rw [ht]; exact hH)) hlo hd hlk
  · intro pc M L x ty hd hty hir hxr hP hL hn H locs ls hH hlo hls
    exact W.aret hx hb (hr.trans hty) (mx_isr_of hir) (by
      rcases hxr with rfl | ⟨a, rfl⟩
      · exact Or.inl rfl
      · exact Or.inr ⟨_, rfl⟩) (fun t ht _ => hQ _ M t hP (by rw [ht]; exact hH)) hlo hd hlk
end MX
theorem mx_sl : ∀ (vs : List Value), (∀ v ∈ vs, v.category = 1) → (lg_sl vs).length = vs.length
  | [], _ => rfl
  | v :: vs, h => by
    have h1 := mx_sl vs (fun v hv => h v (List.mem_cons_of_mem _ hv))
    have h2 := h v List.mem_cons_self
    unfold lg_sl at h1 ⊢
    rw [List.flatMap_cons, List.length_append, h1, h2]
    simp
    omega
theorem mx_alE {G : Gt} {k : Nat} : ∀ (as : List Value) (i : Nat), (∀ v ∈ as, v.category = 1) → mx_al G i (as.map some ++ List.replicate k none) = lv_args i (as.map (mx_cv G))
  | [], i, _ => by
    simp only [List.map_nil, List.nil_append]
    induction k generalizing i with
    | zero => rfl
    | succ k ih => exact ih (i + 1)
  | v :: as, i, h => by
    have h1 := mx_alE (G := G) (k := k) as (i + 1) (fun v hv => h v (List.mem_cons_of_mem _ hv))
    have h2 : (mx_cv G v).category = 1 := by rw [mx_cv_cat]; exact h v List.mem_cons_self
    show (i, mx_cv G v) :: mx_al G (i + 1) (as.map some ++ List.replicate k none) = (i, mx_cv G v) :: lv_args (if (mx_cv G v).category = 2 then i + 2 else i + 1) (as.map (mx_cv G))
    rw [h1, h2]
    rfl
/-- the locals at a method's start -/
def mx_L0 (D : Md) (as : List Value) : Lv := as.map some ++ List.replicate (D.2.2.1 - as.length) none
/-- a method's own part: plain facts of its name -/
def mx_own (D : Md) : Prop := plainName D.1.cls = true ∧ mx_rc D.2.2.2.2 = D.1.cls
theorem mx_met {l : Launch} {G : Gt} {md : Bool} {D : Md} {d n0 nE : Nat} {as : List Value} {M : Mm} {P : Option Value → Mm → Prop} (hD : mx_own D) (hini : md = false → D.1.name = "<init>") (has : ∀ v ∈ as, v.category = 1) (hla : as.length ≤ D.2.2.1) (hn : n0 ≤ nE)
    (body : ∀ X : Nat → Mm → Nat → Lv → Sk → Prop, mx_Rl l G md D d nE P X → X n0 M 0 (mx_L0 D as) []) : Rn l G md d D n0 as M nE P := by
  unfold Rn
  refine Met.ofW (cc := D.2.1) (maxL := D.2.2.1) (ret := D.2.2.2.1) hD.1 rfl ?_
  intro p e s m args below meth c s₁ B hml hv
  obtain ⟨rfl, hH, hK⟩ := hv
  have hts0 := atoms_spec (ws := mx_wT D) B.pre
  have hown : s.vm.findClass D.1.cls = some m.cls := findClass_of_methodNamed B.named
  have hname : meth.name = D.1.name := (name_of_methodNamed B.named B.method).1
  have C : mx_C p s m ((as.map (mx_cv G)).toArray) meth c G md D.2.2.1 D.2.2.2.2 D.2.1 := ⟨B.exec, B.bytes, hml, by rw [hD.2]; exact hown, fun w hw => hts0 w (List.mem_cons_of_mem _ hw), hK, fun h _ => hname.trans (hini h), B.notSynchronized⟩
  have h := body _ (mx_sound (l := l) (e := e) (below := below) (n0 := n0) (d := d) (nE := nE) (P := P) (Qc := fun _ _ oc t => ∃ (v : Option Value) (M' : Mm), oc = .returned (v.map (mx_cv G)) ∧ P v M' ∧ mx_H G md nE M' t.heap) C B.returns (fun v' M2 t hP hH' => ⟨v', M2, rfl, hP, hH'⟩))
  have hc1 : ∀ v ∈ as.map (mx_cv G), v.category = 1 := fun w hw => by
    obtain ⟨u, hu, rfl⟩ := List.mem_map.mp hw
    rw [mx_cv_cat]
    exact has u hu
  have hl := lv_entry (as.map (mx_cv G)) (n := D.2.2.1) (by rw [mx_sl _ hc1, List.length_map]; exact hla)
  rw [lg_entry_eq]
  have h2 := h (by simp [mx_L0]; omega) (Nat.le_refl _) s.heap [] _ hH (fun q hq => absurd hq List.not_mem_nil) (by
    rw [show mx_al G 0 (mx_L0 D as) = lv_args 0 (as.map (mx_cv G)) from mx_alE as 0 has]
    exact hl)
  rw [Nat.sub_self, Nat.sub_self] at h2
  exact h2
