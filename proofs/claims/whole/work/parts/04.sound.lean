/-! the small machine is the machine's -/
def mx_nw : List Cond := lw_tbl.filter (fun w => match w with | .fieldLinkNest _ _ _ _ _ _ => true | .methodLinkNest _ _ _ _ => true | _ => false)
/-- what stands below the law's start: free of our writing -/
def mx_A (G : Gt) : Nat → Prop := fun q => G.1.size ≤ q
def mx_above (i : Nat) : Value := .int (([-1, 0, 0, 1, 2, 0] : List Int32).getD i 0)
/-- the class's String constants, by their places; their bytes -/
def mx_si : List Nat := [108, 114, 116, 102, 104, 106]
def mx_sl_ : List Nat := [5, 4, 4, 3, 2, 2]
def mx_sb : List (List Int32) := [[98, 105, 114, 116, 104], [119, 97, 103, 101], [102, 105, 110, 101], [120, 108, 112], [108, 119], [100, 98]]
def mx_st_ : List String := ["birth", "wage", "fine", "xlp", "lw", "db"]
def mx_adK (G : Gt) (j : Nat) : Nat := mx_ad G (1001 + j)
def mx_adV (G : Gt) (j : Nat) : Nat := mx_ad G (1011 + j)
def mx_Ks (G : Gt) (U : State) : Prop := vk_S 6 mx_sl_ mx_sb (mx_adK G) (mx_adV G) (mx_A G) U G.1 ∧ (∀ j, j < 6 → vk_R RX2 (mx_si.getD j 0) (mx_st_.getD j "") (mx_adK G j) U) ∧ va_Z "java/lang/String" "COMPACT_STRINGS" "Z" (.int 1) (mx_A G) U G.1 ∧ ∃ v : Value, (v = .null ∨ ∃ a, v = .ref a) ∧ va_Z "jdk/internal/util/Preconditions" "SIOOBE_FORMATTER" "Ljava/util/function/BiFunction;" v (mx_A G) U G.1
def mx_Ka (G : Gt) (U : State) : Prop := (va_Z RX7 "ABOVE" "[I" (.ref (mx_ad G 1000)) (mx_A G) U G.1 ∧ va_T .int (mx_ad G 1000) 6 mx_above (mx_A G) U G.1) ∧ mx_Ks G U
theorem mx_Ka.moved {G : Gt} {s U : State} (hvm : s.vm.Alike U.vm) (hr : ∀ j, j < 6 → vk_R RX2 (mx_si.getD j 0) (mx_st_.getD j "") (mx_adK G j) U) (h : mx_Ka G s) : mx_Ka G U :=
  ⟨⟨va_Z.moved hvm h.1.1, va_T.moved hvm h.1.2⟩, vk_S.moved hvm h.2.1, hr, va_Z.moved hvm h.2.2.2.1, by
    obtain ⟨v, h1, h2⟩ := h.2.2.2.2
    exact ⟨v, h1, va_Z.moved hvm h2⟩⟩
def mx_Ko (U : State) : Prop := va_AO RX0 U ∧ va_AO RX1 U ∧ va_AO RX4 U ∧ va_AO RX5 U
theorem mx_Ko.moved {s U : State} (hvm : s.vm.Alike U.vm) (h : mx_Ko s) : mx_Ko U := ⟨va_AO.moved hvm h.1, va_AO.moved hvm h.2.1, va_AO.moved hvm h.2.2.1, va_AO.moved hvm h.2.2.2⟩
def mx_K (G : Gt) (U : State) : Prop := va_K G.2.1 vwCl (mx_tys G) U ∧ (∀ w ∈ mx_nw, va_Nw w U) ∧ mx_Ko U ∧ mx_Ka G U
theorem mx_nw_warm {s U : State} (hW : s.WarmedH U.vm) (h : ∀ w ∈ mx_nw, va_Nw w s) : ∀ w ∈ mx_nw, va_Nw w U := by
  intro w hw
  have h1 := h w hw
  have h2 := (List.mem_filter.mp hw).2
  cases w <;> simp at h2
  · exact va_Nw.warmM hW h1
  · exact va_Nw.warmF hW h1
theorem mx_K.warm {G : Gt} {s U : State} (hW : s.WarmedH U.vm) (h : mx_K G s) : mx_K G U := ⟨va_K.moved hW.alike h.1, mx_nw_warm hW h.2.1, mx_Ko.moved hW.alike h.2.2.1, mx_Ka.moved hW.alike (fun j hj => vk_R.warm hW (h.2.2.2.2.2.1 j hj)) h.2.2.2⟩
theorem mx_nw_same {s U : State} (e : s.vm = U.vm) (h : ∀ w ∈ mx_nw, va_Nw w s) : ∀ w ∈ mx_nw, va_Nw w U := by
  intro w hw
  have h1 := h w hw
  have h2 := (List.mem_filter.mp hw).2
  cases w <;> simp at h2
  · exact va_Nw.same rfl e h1
  · exact va_Nw.same rfl e h1
theorem mx_K.calling {G : Gt} {U : State} {g : JFrame} {mk : MethodId} {a : Array Value} (h : mx_K G U) : mx_K G (U.calling g mk a) := ⟨va_K.moved (u := U) (U := U.calling g mk a) (Vm.Alike.refl U.vm) h.1, mx_nw_same (s := U) (U := U.calling g mk a) rfl h.2.1, mx_Ko.moved (s := U) (U := U.calling g mk a) (Vm.Alike.refl U.vm) h.2.2.1, mx_Ka.moved (s := U) (U := U.calling g mk a) (Vm.Alike.refl U.vm) (fun j hj => vk_R.same (u := U) (U := U.calling g mk a) rfl (h.2.2.2.2.2.1 j hj)) h.2.2.2⟩
/-- the classes' tables -/
def mx_nf : List Nat := [8, 4, 7, 1, 3, 4, 11, 15, 35]
theorem mx_cls : ∀ (c : Nat) (r : vw_C), vwCl[c]? = some r → c < 9 ∧ r.1 = mx_rc c ∧ r.2.2 = mx_nf.getD c 0 ∧ (∀ w ∈ u_ws r.1 r.2.1 r.2.2, w ∈ gw) ∧ (∀ a, a < r.2.2 → ∀ b, b < r.2.2 → a ≠ b → (r.2.1 a).2.1 ≠ (r.2.1 b).2.1) ∧ (∀ k, k < r.2.2 → parseFieldDescriptor (r.2.1 k).2.2.1 = some (mx_ty c k)) := by
  intro c r h
  match c, h with
  | 0, h => cases h; exact ⟨by decide, rfl, rfl, inX0, nmX0, tyX0_ok⟩
  | 1, h => cases h; exact ⟨by decide, rfl, rfl, inX1, nmX1, tyX1_ok⟩
  | 2, h => cases h; exact ⟨by decide, rfl, rfl, inX2, nmX2, tyX2_ok⟩
  | 3, h => cases h; exact ⟨by decide, rfl, rfl, inX3, nmX3, tyX3_ok⟩
  | 4, h => cases h; exact ⟨by decide, rfl, rfl, inX4, nmX4, tyX4_ok⟩
  | 5, h => cases h; exact ⟨by decide, rfl, rfl, inX5, nmX5, tyX5_ok⟩
  | 6, h => cases h; exact ⟨by decide, rfl, rfl, inX6, nmX6, tyX6_ok⟩
  | 7, h => cases h; exact ⟨by decide, rfl, rfl, inX7, nmX7, tyX7_ok⟩
  | 8, h => cases h; exact ⟨by decide, rfl, rfl, inX8, nmX8, tyX8_ok⟩
  | c + 9, h => simp [vwCl] at h
theorem mx_vw {c : Nat} (h : c < 9) : ∃ r : vw_C, vwCl[c]? = some r := ⟨vwCl[c], List.getElem?_eq_getElem h⟩
theorem mx_kd9 : ∀ k, k < 127 → (kd k).1 < 9 → mx_nf.getD (kd k).1 0 = (kd k).2 := by decide +kernel
theorem mx_kdlt {k : Nat} (h : (kd k).1 < 99) : k < 127 := by
  rcases Nat.lt_or_ge k 127 with q | q
  · exact q
  · have : kd k = (99, 0) := by
      unfold kd
      rw [List.getD_eq_getElem?_getD, List.getElem?_eq_none (by exact q)]
      rfl
    rw [this] at h
    exact absurd h (by decide)
theorem mx_flj : ∀ q ∈ mx_fl, q.2.2.1 < 9 ∧ q.2.2.2 < mx_nf.getD q.2.2.1 0 := by decide +kernel
theorem mx_fnj : ∀ q ∈ mx_fn, q.2.2.1 < 9 ∧ q.2.2.2 < mx_nf.getD q.2.2.1 0 ∧ mx_wfn q ∈ mx_nw := by decide +kernel
theorem mx_lt {G : Gt} {md : Bool} {n c k : Nat} {M : Mm} {H : Heap} (hH : mx_H G md n M H) (h : mx_in md c k n) (hc : c < 99) : k < n ∧ (kd k).1 = c := by
  cases md with
  | true =>
    have h1 : (kd k).1 = c := h
    exact ⟨by rw [hH.2.2.1 rfl]; exact mx_kdlt (by omega), h1⟩
  | false => exact ⟨h.2, h.1⟩
theorem mx_adk {G : Gt} {md : Bool} {n k : Nat} {M : Mm} {H : Heap} (hH : mx_H G md n M H) (h : k < n) : mx_ad G k = G.1.size + k := by
  have := hH.2.1
  unfold mx_NT at this
  simp [mx_ad, show k < 1000 by omega]
def mx_al (G : Gt) : Nat → Lv → List (Nat × Value)
  | _, [] => []
  | i, a :: l => match a with
    | some v => (i, mx_cv G v) :: mx_al G (i + 1) l
    | none => mx_al G (i + 1) l
theorem mx_al_mem {G : Gt} : ∀ (L : Lv) (j i : Nat) (v : Value), L[i]? = some (some v) → (j + i, mx_cv G v) ∈ mx_al G j L
  | [], j, i, v, h => by simp at h
  | a :: l, j, 0, v, h => by
    simp at h
    subst h
    exact List.mem_cons_self
  | a :: l, j, i + 1, v, h => by
    have h1 := mx_al_mem (G := G) l (j + 1) i v (by simpa using h)
    rw [show j + 1 + i = j + (i + 1) by omega] at h1
    cases a with
    | none => exact h1
    | some w => exact List.mem_cons_of_mem _ h1
theorem mx_al_inv {G : Gt} : ∀ (L : Lv) (j : Nat) (q : Nat × Value), q ∈ mx_al G j L → ∃ (i : Nat) (v : Value), L[i]? = some (some v) ∧ q = (j + i, mx_cv G v)
  | [], j, q, h => by simp [mx_al] at h
  | a :: l, j, q, h => by
    cases a with
    | none =>
      obtain ⟨i, v, h1, h2⟩ := mx_al_inv (G := G) l (j + 1) q h
      exact ⟨i + 1, v, by simpa using h1, by rw [h2, show j + 1 + i = j + (i + 1) by omega]⟩
    | some w =>
      rcases List.mem_cons.mp h with h | h
      · exact ⟨0, w, rfl, h⟩
      · obtain ⟨i, v, h1, h2⟩ := mx_al_inv (G := G) l (j + 1) q h
        exact ⟨i + 1, v, by simpa using h1, by rw [h2, show j + 1 + i = j + (i + 1) by omega]⟩
theorem mx_get_inv : ∀ {L : Lv} {i : Nat} {K : Value → Prop}, mx_get L i K → ∃ v, L[i]? = some (some v) ∧ K v
  | [], _, _, h => h.elim
  | a :: l, 0, K, h => by
    cases a with
    | none => exact h.elim
    | some v => exact ⟨v, rfl, h⟩
  | a :: l, i + 1, K, h => by
    obtain ⟨v, h1, h2⟩ := mx_get_inv (L := l) h
    exact ⟨v, by simpa using h1, h2⟩
theorem mx_set_inv : ∀ {L : Lv} {i : Nat} {v : Option Value} {K : Lv → Prop}, mx_set L i v K → i < L.length ∧ (∀ (j : Nat) (x : Value), j + 1 = i → L[j]? = some (some x) → x.category = 1) ∧ K (L.set i v)
  | [], _, _, _, h => h.elim
  | a :: l, 0, v, K, h => ⟨by simp, fun j x e => by omega, h⟩
  | a :: l, i + 1, v, K, h => by
    have h1 : mx_set l i v (fun l' => K (a :: l')) ∧ (i = 0 → mx_lg a = false) := by
      unfold mx_set at h
      split at h
      · exact h.elim
      · rename_i hn
        exact ⟨h, fun e => by
          cases hb : mx_lg a with
          | false => rfl
          | true => exact (hn e hb).elim⟩
    obtain ⟨h2, h3, h4⟩ := mx_set_inv h1.1
    refine ⟨by simpa using h2, fun j x e q => ?_, h4⟩
    cases j with
    | zero =>
      have hq : a = some x := by simpa using q
      have := h1.2 (by omega)
      rw [hq] at this
      cases x <;> first | rfl | cases this
    | succ j => exact h3 j x (by omega) (by simpa using q)
theorem mx_cv_cat {G : Gt} (v : Value) : (mx_cv G v).category = v.category := by cases v <;> rfl
/-- a store of one word into a local -/
theorem mx_store1 {G : Gt} {ls : Array Slot} {nL i : Nat} {L : Lv} {v : Value} (h : lv_has ls nL ((i, mx_cv G v) :: (mx_al G 0 L).filter (fun q => !(q.1 == i) && !(q.1 + 1 == i && q.2.category == 2)))) (hb : ∀ (j : Nat) (x : Value), j + 1 = i → L[j]? = some (some x) → x.category = 1) : lv_has ls nL (mx_al G 0 (L.set i (some v))) := by
  refine ⟨h.1, h.2.1, fun q hq => h.2.2 q ?_⟩
  obtain ⟨j, w, h1, h2⟩ := mx_al_inv _ _ _ hq
  rw [Nat.zero_add] at h2
  subst h2
  by_cases hj : i = j
  · subst hj
    by_cases hl : i < L.length
    · rw [List.getElem?_set_self hl] at h1
      cases h1
      exact List.mem_cons_self
    · rw [List.getElem?_eq_none (by simp; omega)] at h1
      cases h1
  · rw [List.getElem?_set_ne hj] at h1
    refine List.mem_cons_of_mem _ (List.mem_filter.mpr ⟨by simpa using mx_al_mem (G := G) L 0 j w h1, ?_⟩)
    have e1 : (j == i) = false := by simp; omega
    simp only [e1, Bool.not_false, Bool.true_and, Bool.not_eq_true', Bool.and_eq_false_iff]
    by_cases hji : j + 1 = i
    · right
      rw [mx_cv_cat, hb j w hji h1]
      rfl
    · left
      simp [hji]
theorem mx_store2 {G : Gt} {ls : Array Slot} {nL i : Nat} {L : Lv} {v : Value} (h : lv_has ls nL ((i, mx_cv G v) :: (mx_al G 0 L).filter (fun q => !(q.1 == i) && (!(q.1 == i + 1) && !(q.1 + 1 == i && q.2.category == 2))))) (hb : ∀ (j : Nat) (x : Value), j + 1 = i → L[j]? = some (some x) → x.category = 1) : lv_has ls nL (mx_al G 0 ((L.set (i + 1) none).set i (some v))) := by
  refine ⟨h.1, h.2.1, fun q hq => h.2.2 q ?_⟩
  obtain ⟨j, w, h1, h2⟩ := mx_al_inv _ _ _ hq
  rw [Nat.zero_add] at h2
  subst h2
  by_cases hj : i = j
  · subst hj
    by_cases hl : i < L.length
    · rw [List.getElem?_set_self (by simpa using hl)] at h1
      cases h1
      exact List.mem_cons_self
    · rw [List.getElem?_eq_none (by simp; omega)] at h1
      cases h1
  · rw [List.getElem?_set_ne hj] at h1
    by_cases hj2 : i + 1 = j
    · subst hj2
      by_cases hl : i + 1 < L.length
      · rw [List.getElem?_set_self hl] at h1
        cases h1
      · rw [List.getElem?_eq_none (by simp; omega)] at h1
        cases h1
    · rw [List.getElem?_set_ne hj2] at h1
      refine List.mem_cons_of_mem _ (List.mem_filter.mpr ⟨by simpa using mx_al_mem (G := G) L 0 j w h1, ?_⟩)
      have e1 : (j == i) = false := by simp; omega
      have e2 : (j == i + 1) = false := by simp; omega
      simp only [e1, e2, Bool.not_false, Bool.true_and, Bool.not_eq_true', Bool.and_eq_false_iff]
      by_cases hji : j + 1 = i
      · right
        rw [mx_cv_cat, hb j w hji h1]
        rfl
      · left
        simp [hji]
