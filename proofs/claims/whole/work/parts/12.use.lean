/-! the rules, as they are used (all made: 127 cells; md = true) -/
def Pi (Q : Int32 → Mm → Prop) : Option Value → Mm → Prop := fun v M => ∃ x, v = some (.int x) ∧ Q x M
def Pv (Q : Mm → Prop) : Option Value → Mm → Prop := fun v M => v = none ∧ Q M
def Pl (Q : Int64 → Mm → Prop) : Option Value → Mm → Prop := fun v M => ∃ x, v = some (.long x) ∧ Q x M
def Pa (Q : Value → Mm → Prop) : Option Value → Mm → Prop := fun v M => ∃ x, v = some x ∧ Q x M
def mx_few (r : Sk) : Bool := Nat.ble (r.map fun v => v.category).sum 8
theorem mx_few_ok {r : Sk} (h : mx_few r = true) : (r.map fun v => v.category).sum ≤ 8 := Nat.le_of_ble_eq_true h
/-- a call's place: static, on an object of class c, a constructor -/
def mx_kS (D : Md) (pc : Nat) (E : Md) (na : Nat) : Prop := ∃ i, decode D.2.1 pc = .ok (.invokestatic i, 3) ∧ mx_D E na ∧ (mx_cS D.2.2.2.2 i E ∨ mx_cN D.2.2.2.2 i E)
def mx_kV (D : Md) (pc : Nat) (E : Md) (c na : Nat) : Prop := ∃ i, decode D.2.1 pc = .ok (.invokevirtual i, 3) ∧ mx_D E na ∧ mx_cV D.2.2.2.2 i E ∧ c < 9 ∧ mx_rc c = E.1.cls
def mx_kI (D : Md) (pc : Nat) (E : Md) (na : Nat) : Prop := ∃ i, decode D.2.1 pc = .ok (.invokespecial i, 3) ∧ mx_D E na ∧ mx_cI D.2.2.2.2 i E
/-- a return's place -/
def mx_kr (D : Md) (pc : Nat) (ty : FieldType) : Prop := decode D.2.1 pc = .ok (.ireturn, 1) ∧ D.2.2.2.1 = some ty
def mx_kv (D : Md) (pc : Nat) : Prop := decode D.2.1 pc = .ok (.return_, 1) ∧ D.2.2.2.1 = none
def mx_kl (D : Md) (pc : Nat) : Prop := decode D.2.1 pc = .ok (.lreturn, 1) ∧ D.2.2.2.1 = some .long
def mx_ka (D : Md) (pc : Nat) : Prop := decode D.2.1 pc = .ok (.areturn, 1) ∧ ∃ ty, D.2.2.2.1 = some ty ∧ mx_isr ty = true
def mx_kn (D : Md) (pc c : Nat) : Prop := ∃ i, decode D.2.1 pc = .ok (.new i, 3) ∧ (D.2.2.2.2, i, c) ∈ mx_cl ∧ c < 9
def mx_kq (D : Md) (pc k1 : Nat) : Prop := ∃ i, decode D.2.1 pc = .ok (.anewarray i, 3) ∧ (D.2.2.2.2, i, mx_ec k1) ∈ mx_cl ∧ 13 ≤ k1 ∧ k1 < 17
def mx_ko (D : Md) (pc : Nat) : Prop := ∃ i, decode D.2.1 pc = .ok (.invokespecial i, 3) ∧ Cond.methodLink (mx_rc D.2.2.2.2) i Lib.objectInit ∈ gw
section RL
variable {l : Launch} {G : Gt} {md : Bool} {D : Md} {d nE : Nat} {P : Option Value → Mm → Prop} {X : Nat → Mm → Nat → Lv → Sk → Prop}
theorem mx_Rl.b (R : mx_Rl l G md D d nE P X) {pc : Nat} {is : List Ai} {pc' n : Nat} {M : Mm} {L : Lv} {S : Sk} (h : mx_blk D.2.2.2.2 D.2.1 pc is pc' = true) (k : mx_b md is n M L S (fun n' M' L' S' => X n' M' pc' L' S')) : X n M pc L S := R.1 pc is pc' n M L S h k
theorem mx_Rl.j (R : mx_Rl l G md D d nE P X) {pc t n : Nat} {M : Mm} {L : Lv} {S : Sk} (h : mx_jmp D.2.1 pc t = true) (k : X n M t L S) : X n M pc L S := R.2.1 pc t n M L S h k
theorem mx_Rl.c (R : mx_Rl l G md D d nE P X) {pc : Nat} {br : Instr} {t f n : Nat} {M : Mm} {L : Lv} {S : Sk} (h : mx_brk D.2.1 pc br t f = true) (k : mx_br br S (fun r => X n M t L r) (fun r => X n M f L r)) : X n M pc L S := R.2.2.1 pc br t f n M L S h k
theorem mx_Rl.s (R : mx_Rl l G md D d nE P X) {pc : Nat} {tb : List (Int32 × Nat)} {df n : Nat} {M : Mm} {L : Lv} {x : Int32} {r : Sk} (h : mx_swk D.2.1 pc tb df = true) (k : mx_sw x tb df (fun t => X n M t L r)) : X n M pc L (.int x :: r) := R.2.2.2.1 pc tb df n M L (.int x :: r) h k
theorem mx_Rl.ri (R : mx_Rl l G md D d nE P X) {pc : Nat} {M : Mm} {L : Lv} {x : Int32} {ty : FieldType} (h : mx_kr D pc ty) (hn : narrow ty (.int x) = .int x) (k : P (some (.int x)) M) : X nE M pc L [.int x] := R.2.2.2.2.2.2.2.1 pc M L x ty h.1 h.2 hn k
theorem mx_Rl.rv (R : mx_Rl l G md D d nE P X) {pc : Nat} {M : Mm} {L : Lv} (h : mx_kv D pc) (k : P none M) : X nE M pc L [] := R.2.2.2.2.2.2.2.2.1 pc M L h.1 h.2 k
theorem mx_Rl.rl (R : mx_Rl l G md D d nE P X) {pc : Nat} {M : Mm} {L : Lv} {x : Int64} (h : mx_kl D pc) (k : P (some (.long x)) M) : X nE M pc L [.long x] := R.2.2.2.2.2.2.2.2.2.1 pc M L x h.1 h.2 k
theorem mx_Rl.ra (R : mx_Rl l G md D d nE P X) {pc : Nat} {M : Mm} {L : Lv} {a : Nat} (h : mx_ka D pc) (k : P (some (.ref a)) M) : X nE M pc L [.ref a] := by
  obtain ⟨h1, ty, h2, h3⟩ := h
  exact R.2.2.2.2.2.2.2.2.2.2.1 pc M L (.ref a) ty h1 h2 h3 (Or.inr ⟨a, rfl⟩) k
theorem mx_Rl.rn (R : mx_Rl l G md D d nE P X) {pc : Nat} {M : Mm} {L : Lv} (h : mx_ka D pc) (k : P (some .null) M) : X nE M pc L [.null] := by
  obtain ⟨h1, ty, h2, h3⟩ := h
  exact R.2.2.2.2.2.2.2.2.2.2.1 pc M L .null ty h1 h2 h3 (Or.inl rfl) k
theorem mx_Rl.S0i (R : mx_Rl l G md D d nE P X) {pc k n n' : Nat} {E : Md} {M : Mm} {L : Lv} {r : Sk} {Q : Int32 → Mm → Prop} (h : mx_kS D pc E 0) (hR : Runs l G md E k n [] M n' (Pi Q)) (hk : k < d) (hr : mx_few r = true) (hn : n ≤ n' ∧ n' ≤ nE) (K : ∀ (x : Int32) (M' : Mm), Q x M' → X n' M' (pc + 3) L (.int x :: r)) : X n M pc L (r) := by
  obtain ⟨i, h1, h2, h3⟩ := h
  refine R.2.2.2.2.1 pc i E k n n' M L _ r [] _ h1 h2 h3 hk hn.1 hn.2 hR rfl (mx_few_ok hr) (fun v M' hv => ?_)
  · obtain ⟨x, rfl, hq⟩ := hv
    exact K x M' hq
theorem mx_Rl.V0i (R : mx_Rl l G md D d nE P X) {pc k n n' b c : Nat} {E : Md} {M : Mm} {L : Lv} {r : Sk} {Q : Int32 → Mm → Prop} (h : mx_kV D pc E c 0) (hi : mx_in md c b n) (hR : Runs l G md E k n [.ref b] M n' (Pi Q)) (hk : k < d) (hr : mx_few r = true) (hn : n ≤ n' ∧ n' ≤ nE) (K : ∀ (x : Int32) (M' : Mm), Q x M' → X n' M' (pc + 3) L (.int x :: r)) : X n M pc L (.ref b :: r) := by
  obtain ⟨i, h1, h2, h3, h4⟩ := h
  refine R.2.2.2.2.2.1 pc i E k n n' b c M L _ r [] _ h1 h2 h3 hk hn.1 hn.2 h4 hi hR rfl (mx_few_ok hr) (fun v M' hv => ?_)
  · obtain ⟨x, rfl, hq⟩ := hv
    exact K x M' hq
theorem mx_Rl.S0v (R : mx_Rl l G md D d nE P X) {pc k n n' : Nat} {E : Md} {M : Mm} {L : Lv} {r : Sk} {Q : Mm → Prop} (h : mx_kS D pc E 0) (hR : Runs l G md E k n [] M n' (Pv Q)) (hk : k < d) (hr : mx_few r = true) (hn : n ≤ n' ∧ n' ≤ nE) (K : ∀ (M' : Mm), Q M' → X n' M' (pc + 3) L r) : X n M pc L (r) := by
  obtain ⟨i, h1, h2, h3⟩ := h
  refine R.2.2.2.2.1 pc i E k n n' M L _ r [] _ h1 h2 h3 hk hn.1 hn.2 hR rfl (mx_few_ok hr) (fun v M' hv => ?_)
  · obtain ⟨rfl, hq⟩ := hv
    exact K M' hq
theorem mx_Rl.V0v (R : mx_Rl l G md D d nE P X) {pc k n n' b c : Nat} {E : Md} {M : Mm} {L : Lv} {r : Sk} {Q : Mm → Prop} (h : mx_kV D pc E c 0) (hi : mx_in md c b n) (hR : Runs l G md E k n [.ref b] M n' (Pv Q)) (hk : k < d) (hr : mx_few r = true) (hn : n ≤ n' ∧ n' ≤ nE) (K : ∀ (M' : Mm), Q M' → X n' M' (pc + 3) L r) : X n M pc L (.ref b :: r) := by
  obtain ⟨i, h1, h2, h3, h4⟩ := h
  refine R.2.2.2.2.2.1 pc i E k n n' b c M L _ r [] _ h1 h2 h3 hk hn.1 hn.2 h4 hi hR rfl (mx_few_ok hr) (fun v M' hv => ?_)
  · obtain ⟨rfl, hq⟩ := hv
    exact K M' hq
theorem mx_Rl.S0l (R : mx_Rl l G md D d nE P X) {pc k n n' : Nat} {E : Md} {M : Mm} {L : Lv} {r : Sk} {Q : Int64 → Mm → Prop} (h : mx_kS D pc E 0) (hR : Runs l G md E k n [] M n' (Pl Q)) (hk : k < d) (hr : mx_few r = true) (hn : n ≤ n' ∧ n' ≤ nE) (K : ∀ (x : Int64) (M' : Mm), Q x M' → X n' M' (pc + 3) L (.long x :: r)) : X n M pc L (r) := by
  obtain ⟨i, h1, h2, h3⟩ := h
  refine R.2.2.2.2.1 pc i E k n n' M L _ r [] _ h1 h2 h3 hk hn.1 hn.2 hR rfl (mx_few_ok hr) (fun v M' hv => ?_)
  · obtain ⟨x, rfl, hq⟩ := hv
    exact K x M' hq
theorem mx_Rl.V0l (R : mx_Rl l G md D d nE P X) {pc k n n' b c : Nat} {E : Md} {M : Mm} {L : Lv} {r : Sk} {Q : Int64 → Mm → Prop} (h : mx_kV D pc E c 0) (hi : mx_in md c b n) (hR : Runs l G md E k n [.ref b] M n' (Pl Q)) (hk : k < d) (hr : mx_few r = true) (hn : n ≤ n' ∧ n' ≤ nE) (K : ∀ (x : Int64) (M' : Mm), Q x M' → X n' M' (pc + 3) L (.long x :: r)) : X n M pc L (.ref b :: r) := by
  obtain ⟨i, h1, h2, h3, h4⟩ := h
  refine R.2.2.2.2.2.1 pc i E k n n' b c M L _ r [] _ h1 h2 h3 hk hn.1 hn.2 h4 hi hR rfl (mx_few_ok hr) (fun v M' hv => ?_)
  · obtain ⟨x, rfl, hq⟩ := hv
    exact K x M' hq
theorem mx_Rl.S0a (R : mx_Rl l G md D d nE P X) {pc k n n' : Nat} {E : Md} {M : Mm} {L : Lv} {r : Sk} {Q : Value → Mm → Prop} (h : mx_kS D pc E 0) (hR : Runs l G md E k n [] M n' (Pa Q)) (hk : k < d) (hr : mx_few r = true) (hn : n ≤ n' ∧ n' ≤ nE) (K : ∀ (x : Value) (M' : Mm), Q x M' → X n' M' (pc + 3) L (x :: r)) : X n M pc L (r) := by
  obtain ⟨i, h1, h2, h3⟩ := h
  refine R.2.2.2.2.1 pc i E k n n' M L _ r [] _ h1 h2 h3 hk hn.1 hn.2 hR rfl (mx_few_ok hr) (fun v M' hv => ?_)
  · obtain ⟨x, rfl, hq⟩ := hv
    exact K x M' hq
theorem mx_Rl.V0a (R : mx_Rl l G md D d nE P X) {pc k n n' b c : Nat} {E : Md} {M : Mm} {L : Lv} {r : Sk} {Q : Value → Mm → Prop} (h : mx_kV D pc E c 0) (hi : mx_in md c b n) (hR : Runs l G md E k n [.ref b] M n' (Pa Q)) (hk : k < d) (hr : mx_few r = true) (hn : n ≤ n' ∧ n' ≤ nE) (K : ∀ (x : Value) (M' : Mm), Q x M' → X n' M' (pc + 3) L (x :: r)) : X n M pc L (.ref b :: r) := by
  obtain ⟨i, h1, h2, h3, h4⟩ := h
  refine R.2.2.2.2.2.1 pc i E k n n' b c M L _ r [] _ h1 h2 h3 hk hn.1 hn.2 h4 hi hR rfl (mx_few_ok hr) (fun v M' hv => ?_)
  · obtain ⟨x, rfl, hq⟩ := hv
    exact K x M' hq
theorem mx_Rl.I0 (R : mx_Rl l G md D d nE P X) {pc k n n' b : Nat} {E : Md} {M : Mm} {L : Lv} {r : Sk} {Q : Mm → Prop} (h : mx_kI D pc E 0) (hR : Runs l G md E k n [.ref b] M n' (Pv Q)) (hk : k < d) (hr : mx_few r = true) (hn : n ≤ n' ∧ n' ≤ nE) (K : ∀ (M' : Mm), Q M' → X n' M' (pc + 3) L r) : X n M pc L (.ref b :: r) := by
  obtain ⟨i, h1, h2, h3⟩ := h
  refine R.2.2.2.2.2.2.1 pc i E k n n' b M L _ r [] _ h1 h2 h3 hk hn.1 hn.2 hR rfl (mx_few_ok hr) (fun v M' hv => ?_)
  · obtain ⟨rfl, hq⟩ := hv
    exact K M' hq
theorem mx_Rl.S1i (R : mx_Rl l G md D d nE P X) {pc k n n' : Nat} {E : Md} {M : Mm} {L : Lv} {r : Sk} {a1 : Value} {Q : Int32 → Mm → Prop} (h : mx_kS D pc E 1) (hR : Runs l G md E k n [a1] M n' (Pi Q)) (hk : k < d) (hr : mx_few r = true) (hn : n ≤ n' ∧ n' ≤ nE) (K : ∀ (x : Int32) (M' : Mm), Q x M' → X n' M' (pc + 3) L (.int x :: r)) : X n M pc L (a1 :: r) := by
  obtain ⟨i, h1, h2, h3⟩ := h
  refine R.2.2.2.2.1 pc i E k n n' M L _ r [a1] _ h1 h2 h3 hk hn.1 hn.2 hR rfl (mx_few_ok hr) (fun v M' hv => ?_)
  · obtain ⟨x, rfl, hq⟩ := hv
    exact K x M' hq
theorem mx_Rl.V1i (R : mx_Rl l G md D d nE P X) {pc k n n' b c : Nat} {E : Md} {M : Mm} {L : Lv} {r : Sk} {a1 : Value} {Q : Int32 → Mm → Prop} (h : mx_kV D pc E c 1) (hi : mx_in md c b n) (hR : Runs l G md E k n [.ref b, a1] M n' (Pi Q)) (hk : k < d) (hr : mx_few r = true) (hn : n ≤ n' ∧ n' ≤ nE) (K : ∀ (x : Int32) (M' : Mm), Q x M' → X n' M' (pc + 3) L (.int x :: r)) : X n M pc L (a1 :: .ref b :: r) := by
  obtain ⟨i, h1, h2, h3, h4⟩ := h
  refine R.2.2.2.2.2.1 pc i E k n n' b c M L _ r [a1] _ h1 h2 h3 hk hn.1 hn.2 h4 hi hR rfl (mx_few_ok hr) (fun v M' hv => ?_)
  · obtain ⟨x, rfl, hq⟩ := hv
    exact K x M' hq
theorem mx_Rl.S1v (R : mx_Rl l G md D d nE P X) {pc k n n' : Nat} {E : Md} {M : Mm} {L : Lv} {r : Sk} {a1 : Value} {Q : Mm → Prop} (h : mx_kS D pc E 1) (hR : Runs l G md E k n [a1] M n' (Pv Q)) (hk : k < d) (hr : mx_few r = true) (hn : n ≤ n' ∧ n' ≤ nE) (K : ∀ (M' : Mm), Q M' → X n' M' (pc + 3) L r) : X n M pc L (a1 :: r) := by
  obtain ⟨i, h1, h2, h3⟩ := h
  refine R.2.2.2.2.1 pc i E k n n' M L _ r [a1] _ h1 h2 h3 hk hn.1 hn.2 hR rfl (mx_few_ok hr) (fun v M' hv => ?_)
  · obtain ⟨rfl, hq⟩ := hv
    exact K M' hq
theorem mx_Rl.V1v (R : mx_Rl l G md D d nE P X) {pc k n n' b c : Nat} {E : Md} {M : Mm} {L : Lv} {r : Sk} {a1 : Value} {Q : Mm → Prop} (h : mx_kV D pc E c 1) (hi : mx_in md c b n) (hR : Runs l G md E k n [.ref b, a1] M n' (Pv Q)) (hk : k < d) (hr : mx_few r = true) (hn : n ≤ n' ∧ n' ≤ nE) (K : ∀ (M' : Mm), Q M' → X n' M' (pc + 3) L r) : X n M pc L (a1 :: .ref b :: r) := by
  obtain ⟨i, h1, h2, h3, h4⟩ := h
  refine R.2.2.2.2.2.1 pc i E k n n' b c M L _ r [a1] _ h1 h2 h3 hk hn.1 hn.2 h4 hi hR rfl (mx_few_ok hr) (fun v M' hv => ?_)
  · obtain ⟨rfl, hq⟩ := hv
    exact K M' hq
theorem mx_Rl.S1l (R : mx_Rl l G md D d nE P X) {pc k n n' : Nat} {E : Md} {M : Mm} {L : Lv} {r : Sk} {a1 : Value} {Q : Int64 → Mm → Prop} (h : mx_kS D pc E 1) (hR : Runs l G md E k n [a1] M n' (Pl Q)) (hk : k < d) (hr : mx_few r = true) (hn : n ≤ n' ∧ n' ≤ nE) (K : ∀ (x : Int64) (M' : Mm), Q x M' → X n' M' (pc + 3) L (.long x :: r)) : X n M pc L (a1 :: r) := by
  obtain ⟨i, h1, h2, h3⟩ := h
  refine R.2.2.2.2.1 pc i E k n n' M L _ r [a1] _ h1 h2 h3 hk hn.1 hn.2 hR rfl (mx_few_ok hr) (fun v M' hv => ?_)
  · obtain ⟨x, rfl, hq⟩ := hv
    exact K x M' hq
theorem mx_Rl.V1l (R : mx_Rl l G md D d nE P X) {pc k n n' b c : Nat} {E : Md} {M : Mm} {L : Lv} {r : Sk} {a1 : Value} {Q : Int64 → Mm → Prop} (h : mx_kV D pc E c 1) (hi : mx_in md c b n) (hR : Runs l G md E k n [.ref b, a1] M n' (Pl Q)) (hk : k < d) (hr : mx_few r = true) (hn : n ≤ n' ∧ n' ≤ nE) (K : ∀ (x : Int64) (M' : Mm), Q x M' → X n' M' (pc + 3) L (.long x :: r)) : X n M pc L (a1 :: .ref b :: r) := by
  obtain ⟨i, h1, h2, h3, h4⟩ := h
  refine R.2.2.2.2.2.1 pc i E k n n' b c M L _ r [a1] _ h1 h2 h3 hk hn.1 hn.2 h4 hi hR rfl (mx_few_ok hr) (fun v M' hv => ?_)
  · obtain ⟨x, rfl, hq⟩ := hv
    exact K x M' hq
theorem mx_Rl.S1a (R : mx_Rl l G md D d nE P X) {pc k n n' : Nat} {E : Md} {M : Mm} {L : Lv} {r : Sk} {a1 : Value} {Q : Value → Mm → Prop} (h : mx_kS D pc E 1) (hR : Runs l G md E k n [a1] M n' (Pa Q)) (hk : k < d) (hr : mx_few r = true) (hn : n ≤ n' ∧ n' ≤ nE) (K : ∀ (x : Value) (M' : Mm), Q x M' → X n' M' (pc + 3) L (x :: r)) : X n M pc L (a1 :: r) := by
  obtain ⟨i, h1, h2, h3⟩ := h
  refine R.2.2.2.2.1 pc i E k n n' M L _ r [a1] _ h1 h2 h3 hk hn.1 hn.2 hR rfl (mx_few_ok hr) (fun v M' hv => ?_)
  · obtain ⟨x, rfl, hq⟩ := hv
    exact K x M' hq
theorem mx_Rl.V1a (R : mx_Rl l G md D d nE P X) {pc k n n' b c : Nat} {E : Md} {M : Mm} {L : Lv} {r : Sk} {a1 : Value} {Q : Value → Mm → Prop} (h : mx_kV D pc E c 1) (hi : mx_in md c b n) (hR : Runs l G md E k n [.ref b, a1] M n' (Pa Q)) (hk : k < d) (hr : mx_few r = true) (hn : n ≤ n' ∧ n' ≤ nE) (K : ∀ (x : Value) (M' : Mm), Q x M' → X n' M' (pc + 3) L (x :: r)) : X n M pc L (a1 :: .ref b :: r) := by
  obtain ⟨i, h1, h2, h3, h4⟩ := h
  refine R.2.2.2.2.2.1 pc i E k n n' b c M L _ r [a1] _ h1 h2 h3 hk hn.1 hn.2 h4 hi hR rfl (mx_few_ok hr) (fun v M' hv => ?_)
  · obtain ⟨x, rfl, hq⟩ := hv
    exact K x M' hq
theorem mx_Rl.I1 (R : mx_Rl l G md D d nE P X) {pc k n n' b : Nat} {E : Md} {M : Mm} {L : Lv} {r : Sk} {a1 : Value} {Q : Mm → Prop} (h : mx_kI D pc E 1) (hR : Runs l G md E k n [.ref b, a1] M n' (Pv Q)) (hk : k < d) (hr : mx_few r = true) (hn : n ≤ n' ∧ n' ≤ nE) (K : ∀ (M' : Mm), Q M' → X n' M' (pc + 3) L r) : X n M pc L (a1 :: .ref b :: r) := by
  obtain ⟨i, h1, h2, h3⟩ := h
  refine R.2.2.2.2.2.2.1 pc i E k n n' b M L _ r [a1] _ h1 h2 h3 hk hn.1 hn.2 hR rfl (mx_few_ok hr) (fun v M' hv => ?_)
  · obtain ⟨rfl, hq⟩ := hv
    exact K M' hq
theorem mx_Rl.S2i (R : mx_Rl l G md D d nE P X) {pc k n n' : Nat} {E : Md} {M : Mm} {L : Lv} {r : Sk} {a1 a2 : Value} {Q : Int32 → Mm → Prop} (h : mx_kS D pc E 2) (hR : Runs l G md E k n [a1, a2] M n' (Pi Q)) (hk : k < d) (hr : mx_few r = true) (hn : n ≤ n' ∧ n' ≤ nE) (K : ∀ (x : Int32) (M' : Mm), Q x M' → X n' M' (pc + 3) L (.int x :: r)) : X n M pc L (a2 :: a1 :: r) := by
  obtain ⟨i, h1, h2, h3⟩ := h
  refine R.2.2.2.2.1 pc i E k n n' M L _ r [a1, a2] _ h1 h2 h3 hk hn.1 hn.2 hR rfl (mx_few_ok hr) (fun v M' hv => ?_)
  · obtain ⟨x, rfl, hq⟩ := hv
    exact K x M' hq
theorem mx_Rl.V2i (R : mx_Rl l G md D d nE P X) {pc k n n' b c : Nat} {E : Md} {M : Mm} {L : Lv} {r : Sk} {a1 a2 : Value} {Q : Int32 → Mm → Prop} (h : mx_kV D pc E c 2) (hi : mx_in md c b n) (hR : Runs l G md E k n [.ref b, a1, a2] M n' (Pi Q)) (hk : k < d) (hr : mx_few r = true) (hn : n ≤ n' ∧ n' ≤ nE) (K : ∀ (x : Int32) (M' : Mm), Q x M' → X n' M' (pc + 3) L (.int x :: r)) : X n M pc L (a2 :: a1 :: .ref b :: r) := by
  obtain ⟨i, h1, h2, h3, h4⟩ := h
  refine R.2.2.2.2.2.1 pc i E k n n' b c M L _ r [a1, a2] _ h1 h2 h3 hk hn.1 hn.2 h4 hi hR rfl (mx_few_ok hr) (fun v M' hv => ?_)
  · obtain ⟨x, rfl, hq⟩ := hv
    exact K x M' hq
theorem mx_Rl.S2v (R : mx_Rl l G md D d nE P X) {pc k n n' : Nat} {E : Md} {M : Mm} {L : Lv} {r : Sk} {a1 a2 : Value} {Q : Mm → Prop} (h : mx_kS D pc E 2) (hR : Runs l G md E k n [a1, a2] M n' (Pv Q)) (hk : k < d) (hr : mx_few r = true) (hn : n ≤ n' ∧ n' ≤ nE) (K : ∀ (M' : Mm), Q M' → X n' M' (pc + 3) L r) : X n M pc L (a2 :: a1 :: r) := by
  obtain ⟨i, h1, h2, h3⟩ := h
  refine R.2.2.2.2.1 pc i E k n n' M L _ r [a1, a2] _ h1 h2 h3 hk hn.1 hn.2 hR rfl (mx_few_ok hr) (fun v M' hv => ?_)
  · obtain ⟨rfl, hq⟩ := hv
    exact K M' hq
theorem mx_Rl.V2v (R : mx_Rl l G md D d nE P X) {pc k n n' b c : Nat} {E : Md} {M : Mm} {L : Lv} {r : Sk} {a1 a2 : Value} {Q : Mm → Prop} (h : mx_kV D pc E c 2) (hi : mx_in md c b n) (hR : Runs l G md E k n [.ref b, a1, a2] M n' (Pv Q)) (hk : k < d) (hr : mx_few r = true) (hn : n ≤ n' ∧ n' ≤ nE) (K : ∀ (M' : Mm), Q M' → X n' M' (pc + 3) L r) : X n M pc L (a2 :: a1 :: .ref b :: r) := by
  obtain ⟨i, h1, h2, h3, h4⟩ := h
  refine R.2.2.2.2.2.1 pc i E k n n' b c M L _ r [a1, a2] _ h1 h2 h3 hk hn.1 hn.2 h4 hi hR rfl (mx_few_ok hr) (fun v M' hv => ?_)
  · obtain ⟨rfl, hq⟩ := hv
    exact K M' hq
theorem mx_Rl.S2l (R : mx_Rl l G md D d nE P X) {pc k n n' : Nat} {E : Md} {M : Mm} {L : Lv} {r : Sk} {a1 a2 : Value} {Q : Int64 → Mm → Prop} (h : mx_kS D pc E 2) (hR : Runs l G md E k n [a1, a2] M n' (Pl Q)) (hk : k < d) (hr : mx_few r = true) (hn : n ≤ n' ∧ n' ≤ nE) (K : ∀ (x : Int64) (M' : Mm), Q x M' → X n' M' (pc + 3) L (.long x :: r)) : X n M pc L (a2 :: a1 :: r) := by
  obtain ⟨i, h1, h2, h3⟩ := h
  refine R.2.2.2.2.1 pc i E k n n' M L _ r [a1, a2] _ h1 h2 h3 hk hn.1 hn.2 hR rfl (mx_few_ok hr) (fun v M' hv => ?_)
  · obtain ⟨x, rfl, hq⟩ := hv
    exact K x M' hq
theorem mx_Rl.V2l (R : mx_Rl l G md D d nE P X) {pc k n n' b c : Nat} {E : Md} {M : Mm} {L : Lv} {r : Sk} {a1 a2 : Value} {Q : Int64 → Mm → Prop} (h : mx_kV D pc E c 2) (hi : mx_in md c b n) (hR : Runs l G md E k n [.ref b, a1, a2] M n' (Pl Q)) (hk : k < d) (hr : mx_few r = true) (hn : n ≤ n' ∧ n' ≤ nE) (K : ∀ (x : Int64) (M' : Mm), Q x M' → X n' M' (pc + 3) L (.long x :: r)) : X n M pc L (a2 :: a1 :: .ref b :: r) := by
  obtain ⟨i, h1, h2, h3, h4⟩ := h
  refine R.2.2.2.2.2.1 pc i E k n n' b c M L _ r [a1, a2] _ h1 h2 h3 hk hn.1 hn.2 h4 hi hR rfl (mx_few_ok hr) (fun v M' hv => ?_)
  · obtain ⟨x, rfl, hq⟩ := hv
    exact K x M' hq
theorem mx_Rl.S2a (R : mx_Rl l G md D d nE P X) {pc k n n' : Nat} {E : Md} {M : Mm} {L : Lv} {r : Sk} {a1 a2 : Value} {Q : Value → Mm → Prop} (h : mx_kS D pc E 2) (hR : Runs l G md E k n [a1, a2] M n' (Pa Q)) (hk : k < d) (hr : mx_few r = true) (hn : n ≤ n' ∧ n' ≤ nE) (K : ∀ (x : Value) (M' : Mm), Q x M' → X n' M' (pc + 3) L (x :: r)) : X n M pc L (a2 :: a1 :: r) := by
  obtain ⟨i, h1, h2, h3⟩ := h
  refine R.2.2.2.2.1 pc i E k n n' M L _ r [a1, a2] _ h1 h2 h3 hk hn.1 hn.2 hR rfl (mx_few_ok hr) (fun v M' hv => ?_)
  · obtain ⟨x, rfl, hq⟩ := hv
    exact K x M' hq
theorem mx_Rl.V2a (R : mx_Rl l G md D d nE P X) {pc k n n' b c : Nat} {E : Md} {M : Mm} {L : Lv} {r : Sk} {a1 a2 : Value} {Q : Value → Mm → Prop} (h : mx_kV D pc E c 2) (hi : mx_in md c b n) (hR : Runs l G md E k n [.ref b, a1, a2] M n' (Pa Q)) (hk : k < d) (hr : mx_few r = true) (hn : n ≤ n' ∧ n' ≤ nE) (K : ∀ (x : Value) (M' : Mm), Q x M' → X n' M' (pc + 3) L (x :: r)) : X n M pc L (a2 :: a1 :: .ref b :: r) := by
  obtain ⟨i, h1, h2, h3, h4⟩ := h
  refine R.2.2.2.2.2.1 pc i E k n n' b c M L _ r [a1, a2] _ h1 h2 h3 hk hn.1 hn.2 h4 hi hR rfl (mx_few_ok hr) (fun v M' hv => ?_)
  · obtain ⟨x, rfl, hq⟩ := hv
    exact K x M' hq
theorem mx_Rl.S3i (R : mx_Rl l G md D d nE P X) {pc k n n' : Nat} {E : Md} {M : Mm} {L : Lv} {r : Sk} {a1 a2 a3 : Value} {Q : Int32 → Mm → Prop} (h : mx_kS D pc E 3) (hR : Runs l G md E k n [a1, a2, a3] M n' (Pi Q)) (hk : k < d) (hr : mx_few r = true) (hn : n ≤ n' ∧ n' ≤ nE) (K : ∀ (x : Int32) (M' : Mm), Q x M' → X n' M' (pc + 3) L (.int x :: r)) : X n M pc L (a3 :: a2 :: a1 :: r) := by
  obtain ⟨i, h1, h2, h3⟩ := h
  refine R.2.2.2.2.1 pc i E k n n' M L _ r [a1, a2, a3] _ h1 h2 h3 hk hn.1 hn.2 hR rfl (mx_few_ok hr) (fun v M' hv => ?_)
  · obtain ⟨x, rfl, hq⟩ := hv
    exact K x M' hq
theorem mx_Rl.V3i (R : mx_Rl l G md D d nE P X) {pc k n n' b c : Nat} {E : Md} {M : Mm} {L : Lv} {r : Sk} {a1 a2 a3 : Value} {Q : Int32 → Mm → Prop} (h : mx_kV D pc E c 3) (hi : mx_in md c b n) (hR : Runs l G md E k n [.ref b, a1, a2, a3] M n' (Pi Q)) (hk : k < d) (hr : mx_few r = true) (hn : n ≤ n' ∧ n' ≤ nE) (K : ∀ (x : Int32) (M' : Mm), Q x M' → X n' M' (pc + 3) L (.int x :: r)) : X n M pc L (a3 :: a2 :: a1 :: .ref b :: r) := by
  obtain ⟨i, h1, h2, h3, h4⟩ := h
  refine R.2.2.2.2.2.1 pc i E k n n' b c M L _ r [a1, a2, a3] _ h1 h2 h3 hk hn.1 hn.2 h4 hi hR rfl (mx_few_ok hr) (fun v M' hv => ?_)
  · obtain ⟨x, rfl, hq⟩ := hv
    exact K x M' hq
theorem mx_Rl.S3v (R : mx_Rl l G md D d nE P X) {pc k n n' : Nat} {E : Md} {M : Mm} {L : Lv} {r : Sk} {a1 a2 a3 : Value} {Q : Mm → Prop} (h : mx_kS D pc E 3) (hR : Runs l G md E k n [a1, a2, a3] M n' (Pv Q)) (hk : k < d) (hr : mx_few r = true) (hn : n ≤ n' ∧ n' ≤ nE) (K : ∀ (M' : Mm), Q M' → X n' M' (pc + 3) L r) : X n M pc L (a3 :: a2 :: a1 :: r) := by
  obtain ⟨i, h1, h2, h3⟩ := h
  refine R.2.2.2.2.1 pc i E k n n' M L _ r [a1, a2, a3] _ h1 h2 h3 hk hn.1 hn.2 hR rfl (mx_few_ok hr) (fun v M' hv => ?_)
  · obtain ⟨rfl, hq⟩ := hv
    exact K M' hq
theorem mx_Rl.V3v (R : mx_Rl l G md D d nE P X) {pc k n n' b c : Nat} {E : Md} {M : Mm} {L : Lv} {r : Sk} {a1 a2 a3 : Value} {Q : Mm → Prop} (h : mx_kV D pc E c 3) (hi : mx_in md c b n) (hR : Runs l G md E k n [.ref b, a1, a2, a3] M n' (Pv Q)) (hk : k < d) (hr : mx_few r = true) (hn : n ≤ n' ∧ n' ≤ nE) (K : ∀ (M' : Mm), Q M' → X n' M' (pc + 3) L r) : X n M pc L (a3 :: a2 :: a1 :: .ref b :: r) := by
  obtain ⟨i, h1, h2, h3, h4⟩ := h
  refine R.2.2.2.2.2.1 pc i E k n n' b c M L _ r [a1, a2, a3] _ h1 h2 h3 hk hn.1 hn.2 h4 hi hR rfl (mx_few_ok hr) (fun v M' hv => ?_)
  · obtain ⟨rfl, hq⟩ := hv
    exact K M' hq
theorem mx_Rl.S3l (R : mx_Rl l G md D d nE P X) {pc k n n' : Nat} {E : Md} {M : Mm} {L : Lv} {r : Sk} {a1 a2 a3 : Value} {Q : Int64 → Mm → Prop} (h : mx_kS D pc E 3) (hR : Runs l G md E k n [a1, a2, a3] M n' (Pl Q)) (hk : k < d) (hr : mx_few r = true) (hn : n ≤ n' ∧ n' ≤ nE) (K : ∀ (x : Int64) (M' : Mm), Q x M' → X n' M' (pc + 3) L (.long x :: r)) : X n M pc L (a3 :: a2 :: a1 :: r) := by
  obtain ⟨i, h1, h2, h3⟩ := h
  refine R.2.2.2.2.1 pc i E k n n' M L _ r [a1, a2, a3] _ h1 h2 h3 hk hn.1 hn.2 hR rfl (mx_few_ok hr) (fun v M' hv => ?_)
  · obtain ⟨x, rfl, hq⟩ := hv
    exact K x M' hq
theorem mx_Rl.V3l (R : mx_Rl l G md D d nE P X) {pc k n n' b c : Nat} {E : Md} {M : Mm} {L : Lv} {r : Sk} {a1 a2 a3 : Value} {Q : Int64 → Mm → Prop} (h : mx_kV D pc E c 3) (hi : mx_in md c b n) (hR : Runs l G md E k n [.ref b, a1, a2, a3] M n' (Pl Q)) (hk : k < d) (hr : mx_few r = true) (hn : n ≤ n' ∧ n' ≤ nE) (K : ∀ (x : Int64) (M' : Mm), Q x M' → X n' M' (pc + 3) L (.long x :: r)) : X n M pc L (a3 :: a2 :: a1 :: .ref b :: r) := by
  obtain ⟨i, h1, h2, h3, h4⟩ := h
  refine R.2.2.2.2.2.1 pc i E k n n' b c M L _ r [a1, a2, a3] _ h1 h2 h3 hk hn.1 hn.2 h4 hi hR rfl (mx_few_ok hr) (fun v M' hv => ?_)
  · obtain ⟨x, rfl, hq⟩ := hv
    exact K x M' hq
theorem mx_Rl.S3a (R : mx_Rl l G md D d nE P X) {pc k n n' : Nat} {E : Md} {M : Mm} {L : Lv} {r : Sk} {a1 a2 a3 : Value} {Q : Value → Mm → Prop} (h : mx_kS D pc E 3) (hR : Runs l G md E k n [a1, a2, a3] M n' (Pa Q)) (hk : k < d) (hr : mx_few r = true) (hn : n ≤ n' ∧ n' ≤ nE) (K : ∀ (x : Value) (M' : Mm), Q x M' → X n' M' (pc + 3) L (x :: r)) : X n M pc L (a3 :: a2 :: a1 :: r) := by
  obtain ⟨i, h1, h2, h3⟩ := h
  refine R.2.2.2.2.1 pc i E k n n' M L _ r [a1, a2, a3] _ h1 h2 h3 hk hn.1 hn.2 hR rfl (mx_few_ok hr) (fun v M' hv => ?_)
  · obtain ⟨x, rfl, hq⟩ := hv
    exact K x M' hq
theorem mx_Rl.V3a (R : mx_Rl l G md D d nE P X) {pc k n n' b c : Nat} {E : Md} {M : Mm} {L : Lv} {r : Sk} {a1 a2 a3 : Value} {Q : Value → Mm → Prop} (h : mx_kV D pc E c 3) (hi : mx_in md c b n) (hR : Runs l G md E k n [.ref b, a1, a2, a3] M n' (Pa Q)) (hk : k < d) (hr : mx_few r = true) (hn : n ≤ n' ∧ n' ≤ nE) (K : ∀ (x : Value) (M' : Mm), Q x M' → X n' M' (pc + 3) L (x :: r)) : X n M pc L (a3 :: a2 :: a1 :: .ref b :: r) := by
  obtain ⟨i, h1, h2, h3, h4⟩ := h
  refine R.2.2.2.2.2.1 pc i E k n n' b c M L _ r [a1, a2, a3] _ h1 h2 h3 hk hn.1 hn.2 h4 hi hR rfl (mx_few_ok hr) (fun v M' hv => ?_)
  · obtain ⟨x, rfl, hq⟩ := hv
    exact K x M' hq
theorem mx_Rl.S4i (R : mx_Rl l G md D d nE P X) {pc k n n' : Nat} {E : Md} {M : Mm} {L : Lv} {r : Sk} {a1 a2 a3 a4 : Value} {Q : Int32 → Mm → Prop} (h : mx_kS D pc E 4) (hR : Runs l G md E k n [a1, a2, a3, a4] M n' (Pi Q)) (hk : k < d) (hr : mx_few r = true) (hn : n ≤ n' ∧ n' ≤ nE) (K : ∀ (x : Int32) (M' : Mm), Q x M' → X n' M' (pc + 3) L (.int x :: r)) : X n M pc L (a4 :: a3 :: a2 :: a1 :: r) := by
  obtain ⟨i, h1, h2, h3⟩ := h
  refine R.2.2.2.2.1 pc i E k n n' M L _ r [a1, a2, a3, a4] _ h1 h2 h3 hk hn.1 hn.2 hR rfl (mx_few_ok hr) (fun v M' hv => ?_)
  · obtain ⟨x, rfl, hq⟩ := hv
    exact K x M' hq
theorem mx_Rl.V4i (R : mx_Rl l G md D d nE P X) {pc k n n' b c : Nat} {E : Md} {M : Mm} {L : Lv} {r : Sk} {a1 a2 a3 a4 : Value} {Q : Int32 → Mm → Prop} (h : mx_kV D pc E c 4) (hi : mx_in md c b n) (hR : Runs l G md E k n [.ref b, a1, a2, a3, a4] M n' (Pi Q)) (hk : k < d) (hr : mx_few r = true) (hn : n ≤ n' ∧ n' ≤ nE) (K : ∀ (x : Int32) (M' : Mm), Q x M' → X n' M' (pc + 3) L (.int x :: r)) : X n M pc L (a4 :: a3 :: a2 :: a1 :: .ref b :: r) := by
  obtain ⟨i, h1, h2, h3, h4⟩ := h
  refine R.2.2.2.2.2.1 pc i E k n n' b c M L _ r [a1, a2, a3, a4] _ h1 h2 h3 hk hn.1 hn.2 h4 hi hR rfl (mx_few_ok hr) (fun v M' hv => ?_)
  · obtain ⟨x, rfl, hq⟩ := hv
    exact K x M' hq
theorem mx_Rl.S4v (R : mx_Rl l G md D d nE P X) {pc k n n' : Nat} {E : Md} {M : Mm} {L : Lv} {r : Sk} {a1 a2 a3 a4 : Value} {Q : Mm → Prop} (h : mx_kS D pc E 4) (hR : Runs l G md E k n [a1, a2, a3, a4] M n' (Pv Q)) (hk : k < d) (hr : mx_few r = true) (hn : n ≤ n' ∧ n' ≤ nE) (K : ∀ (M' : Mm), Q M' → X n' M' (pc + 3) L r) : X n M pc L (a4 :: a3 :: a2 :: a1 :: r) := by
  obtain ⟨i, h1, h2, h3⟩ := h
  refine R.2.2.2.2.1 pc i E k n n' M L _ r [a1, a2, a3, a4] _ h1 h2 h3 hk hn.1 hn.2 hR rfl (mx_few_ok hr) (fun v M' hv => ?_)
  · obtain ⟨rfl, hq⟩ := hv
    exact K M' hq
theorem mx_Rl.V4v (R : mx_Rl l G md D d nE P X) {pc k n n' b c : Nat} {E : Md} {M : Mm} {L : Lv} {r : Sk} {a1 a2 a3 a4 : Value} {Q : Mm → Prop} (h : mx_kV D pc E c 4) (hi : mx_in md c b n) (hR : Runs l G md E k n [.ref b, a1, a2, a3, a4] M n' (Pv Q)) (hk : k < d) (hr : mx_few r = true) (hn : n ≤ n' ∧ n' ≤ nE) (K : ∀ (M' : Mm), Q M' → X n' M' (pc + 3) L r) : X n M pc L (a4 :: a3 :: a2 :: a1 :: .ref b :: r) := by
  obtain ⟨i, h1, h2, h3, h4⟩ := h
  refine R.2.2.2.2.2.1 pc i E k n n' b c M L _ r [a1, a2, a3, a4] _ h1 h2 h3 hk hn.1 hn.2 h4 hi hR rfl (mx_few_ok hr) (fun v M' hv => ?_)
  · obtain ⟨rfl, hq⟩ := hv
    exact K M' hq
theorem mx_Rl.S4l (R : mx_Rl l G md D d nE P X) {pc k n n' : Nat} {E : Md} {M : Mm} {L : Lv} {r : Sk} {a1 a2 a3 a4 : Value} {Q : Int64 → Mm → Prop} (h : mx_kS D pc E 4) (hR : Runs l G md E k n [a1, a2, a3, a4] M n' (Pl Q)) (hk : k < d) (hr : mx_few r = true) (hn : n ≤ n' ∧ n' ≤ nE) (K : ∀ (x : Int64) (M' : Mm), Q x M' → X n' M' (pc + 3) L (.long x :: r)) : X n M pc L (a4 :: a3 :: a2 :: a1 :: r) := by
  obtain ⟨i, h1, h2, h3⟩ := h
  refine R.2.2.2.2.1 pc i E k n n' M L _ r [a1, a2, a3, a4] _ h1 h2 h3 hk hn.1 hn.2 hR rfl (mx_few_ok hr) (fun v M' hv => ?_)
  · obtain ⟨x, rfl, hq⟩ := hv
    exact K x M' hq
theorem mx_Rl.V4l (R : mx_Rl l G md D d nE P X) {pc k n n' b c : Nat} {E : Md} {M : Mm} {L : Lv} {r : Sk} {a1 a2 a3 a4 : Value} {Q : Int64 → Mm → Prop} (h : mx_kV D pc E c 4) (hi : mx_in md c b n) (hR : Runs l G md E k n [.ref b, a1, a2, a3, a4] M n' (Pl Q)) (hk : k < d) (hr : mx_few r = true) (hn : n ≤ n' ∧ n' ≤ nE) (K : ∀ (x : Int64) (M' : Mm), Q x M' → X n' M' (pc + 3) L (.long x :: r)) : X n M pc L (a4 :: a3 :: a2 :: a1 :: .ref b :: r) := by
  obtain ⟨i, h1, h2, h3, h4⟩ := h
  refine R.2.2.2.2.2.1 pc i E k n n' b c M L _ r [a1, a2, a3, a4] _ h1 h2 h3 hk hn.1 hn.2 h4 hi hR rfl (mx_few_ok hr) (fun v M' hv => ?_)
  · obtain ⟨x, rfl, hq⟩ := hv
    exact K x M' hq
theorem mx_Rl.S4a (R : mx_Rl l G md D d nE P X) {pc k n n' : Nat} {E : Md} {M : Mm} {L : Lv} {r : Sk} {a1 a2 a3 a4 : Value} {Q : Value → Mm → Prop} (h : mx_kS D pc E 4) (hR : Runs l G md E k n [a1, a2, a3, a4] M n' (Pa Q)) (hk : k < d) (hr : mx_few r = true) (hn : n ≤ n' ∧ n' ≤ nE) (K : ∀ (x : Value) (M' : Mm), Q x M' → X n' M' (pc + 3) L (x :: r)) : X n M pc L (a4 :: a3 :: a2 :: a1 :: r) := by
  obtain ⟨i, h1, h2, h3⟩ := h
  refine R.2.2.2.2.1 pc i E k n n' M L _ r [a1, a2, a3, a4] _ h1 h2 h3 hk hn.1 hn.2 hR rfl (mx_few_ok hr) (fun v M' hv => ?_)
  · obtain ⟨x, rfl, hq⟩ := hv
    exact K x M' hq
theorem mx_Rl.V4a (R : mx_Rl l G md D d nE P X) {pc k n n' b c : Nat} {E : Md} {M : Mm} {L : Lv} {r : Sk} {a1 a2 a3 a4 : Value} {Q : Value → Mm → Prop} (h : mx_kV D pc E c 4) (hi : mx_in md c b n) (hR : Runs l G md E k n [.ref b, a1, a2, a3, a4] M n' (Pa Q)) (hk : k < d) (hr : mx_few r = true) (hn : n ≤ n' ∧ n' ≤ nE) (K : ∀ (x : Value) (M' : Mm), Q x M' → X n' M' (pc + 3) L (x :: r)) : X n M pc L (a4 :: a3 :: a2 :: a1 :: .ref b :: r) := by
  obtain ⟨i, h1, h2, h3, h4⟩ := h
  refine R.2.2.2.2.2.1 pc i E k n n' b c M L _ r [a1, a2, a3, a4] _ h1 h2 h3 hk hn.1 hn.2 h4 hi hR rfl (mx_few_ok hr) (fun v M' hv => ?_)
  · obtain ⟨x, rfl, hq⟩ := hv
    exact K x M' hq
theorem mx_Rl.S5i (R : mx_Rl l G md D d nE P X) {pc k n n' : Nat} {E : Md} {M : Mm} {L : Lv} {r : Sk} {a1 a2 a3 a4 a5 : Value} {Q : Int32 → Mm → Prop} (h : mx_kS D pc E 5) (hR : Runs l G md E k n [a1, a2, a3, a4, a5] M n' (Pi Q)) (hk : k < d) (hr : mx_few r = true) (hn : n ≤ n' ∧ n' ≤ nE) (K : ∀ (x : Int32) (M' : Mm), Q x M' → X n' M' (pc + 3) L (.int x :: r)) : X n M pc L (a5 :: a4 :: a3 :: a2 :: a1 :: r) := by
  obtain ⟨i, h1, h2, h3⟩ := h
  refine R.2.2.2.2.1 pc i E k n n' M L _ r [a1, a2, a3, a4, a5] _ h1 h2 h3 hk hn.1 hn.2 hR rfl (mx_few_ok hr) (fun v M' hv => ?_)
  · obtain ⟨x, rfl, hq⟩ := hv
    exact K x M' hq
theorem mx_Rl.V5i (R : mx_Rl l G md D d nE P X) {pc k n n' b c : Nat} {E : Md} {M : Mm} {L : Lv} {r : Sk} {a1 a2 a3 a4 a5 : Value} {Q : Int32 → Mm → Prop} (h : mx_kV D pc E c 5) (hi : mx_in md c b n) (hR : Runs l G md E k n [.ref b, a1, a2, a3, a4, a5] M n' (Pi Q)) (hk : k < d) (hr : mx_few r = true) (hn : n ≤ n' ∧ n' ≤ nE) (K : ∀ (x : Int32) (M' : Mm), Q x M' → X n' M' (pc + 3) L (.int x :: r)) : X n M pc L (a5 :: a4 :: a3 :: a2 :: a1 :: .ref b :: r) := by
  obtain ⟨i, h1, h2, h3, h4⟩ := h
  refine R.2.2.2.2.2.1 pc i E k n n' b c M L _ r [a1, a2, a3, a4, a5] _ h1 h2 h3 hk hn.1 hn.2 h4 hi hR rfl (mx_few_ok hr) (fun v M' hv => ?_)
  · obtain ⟨x, rfl, hq⟩ := hv
    exact K x M' hq
theorem mx_Rl.S5v (R : mx_Rl l G md D d nE P X) {pc k n n' : Nat} {E : Md} {M : Mm} {L : Lv} {r : Sk} {a1 a2 a3 a4 a5 : Value} {Q : Mm → Prop} (h : mx_kS D pc E 5) (hR : Runs l G md E k n [a1, a2, a3, a4, a5] M n' (Pv Q)) (hk : k < d) (hr : mx_few r = true) (hn : n ≤ n' ∧ n' ≤ nE) (K : ∀ (M' : Mm), Q M' → X n' M' (pc + 3) L r) : X n M pc L (a5 :: a4 :: a3 :: a2 :: a1 :: r) := by
  obtain ⟨i, h1, h2, h3⟩ := h
  refine R.2.2.2.2.1 pc i E k n n' M L _ r [a1, a2, a3, a4, a5] _ h1 h2 h3 hk hn.1 hn.2 hR rfl (mx_few_ok hr) (fun v M' hv => ?_)
  · obtain ⟨rfl, hq⟩ := hv
    exact K M' hq
theorem mx_Rl.V5v (R : mx_Rl l G md D d nE P X) {pc k n n' b c : Nat} {E : Md} {M : Mm} {L : Lv} {r : Sk} {a1 a2 a3 a4 a5 : Value} {Q : Mm → Prop} (h : mx_kV D pc E c 5) (hi : mx_in md c b n) (hR : Runs l G md E k n [.ref b, a1, a2, a3, a4, a5] M n' (Pv Q)) (hk : k < d) (hr : mx_few r = true) (hn : n ≤ n' ∧ n' ≤ nE) (K : ∀ (M' : Mm), Q M' → X n' M' (pc + 3) L r) : X n M pc L (a5 :: a4 :: a3 :: a2 :: a1 :: .ref b :: r) := by
  obtain ⟨i, h1, h2, h3, h4⟩ := h
  refine R.2.2.2.2.2.1 pc i E k n n' b c M L _ r [a1, a2, a3, a4, a5] _ h1 h2 h3 hk hn.1 hn.2 h4 hi hR rfl (mx_few_ok hr) (fun v M' hv => ?_)
  · obtain ⟨rfl, hq⟩ := hv
    exact K M' hq
theorem mx_Rl.S5l (R : mx_Rl l G md D d nE P X) {pc k n n' : Nat} {E : Md} {M : Mm} {L : Lv} {r : Sk} {a1 a2 a3 a4 a5 : Value} {Q : Int64 → Mm → Prop} (h : mx_kS D pc E 5) (hR : Runs l G md E k n [a1, a2, a3, a4, a5] M n' (Pl Q)) (hk : k < d) (hr : mx_few r = true) (hn : n ≤ n' ∧ n' ≤ nE) (K : ∀ (x : Int64) (M' : Mm), Q x M' → X n' M' (pc + 3) L (.long x :: r)) : X n M pc L (a5 :: a4 :: a3 :: a2 :: a1 :: r) := by
  obtain ⟨i, h1, h2, h3⟩ := h
  refine R.2.2.2.2.1 pc i E k n n' M L _ r [a1, a2, a3, a4, a5] _ h1 h2 h3 hk hn.1 hn.2 hR rfl (mx_few_ok hr) (fun v M' hv => ?_)
  · obtain ⟨x, rfl, hq⟩ := hv
    exact K x M' hq
theorem mx_Rl.V5l (R : mx_Rl l G md D d nE P X) {pc k n n' b c : Nat} {E : Md} {M : Mm} {L : Lv} {r : Sk} {a1 a2 a3 a4 a5 : Value} {Q : Int64 → Mm → Prop} (h : mx_kV D pc E c 5) (hi : mx_in md c b n) (hR : Runs l G md E k n [.ref b, a1, a2, a3, a4, a5] M n' (Pl Q)) (hk : k < d) (hr : mx_few r = true) (hn : n ≤ n' ∧ n' ≤ nE) (K : ∀ (x : Int64) (M' : Mm), Q x M' → X n' M' (pc + 3) L (.long x :: r)) : X n M pc L (a5 :: a4 :: a3 :: a2 :: a1 :: .ref b :: r) := by
  obtain ⟨i, h1, h2, h3, h4⟩ := h
  refine R.2.2.2.2.2.1 pc i E k n n' b c M L _ r [a1, a2, a3, a4, a5] _ h1 h2 h3 hk hn.1 hn.2 h4 hi hR rfl (mx_few_ok hr) (fun v M' hv => ?_)
  · obtain ⟨x, rfl, hq⟩ := hv
    exact K x M' hq
theorem mx_Rl.S5a (R : mx_Rl l G md D d nE P X) {pc k n n' : Nat} {E : Md} {M : Mm} {L : Lv} {r : Sk} {a1 a2 a3 a4 a5 : Value} {Q : Value → Mm → Prop} (h : mx_kS D pc E 5) (hR : Runs l G md E k n [a1, a2, a3, a4, a5] M n' (Pa Q)) (hk : k < d) (hr : mx_few r = true) (hn : n ≤ n' ∧ n' ≤ nE) (K : ∀ (x : Value) (M' : Mm), Q x M' → X n' M' (pc + 3) L (x :: r)) : X n M pc L (a5 :: a4 :: a3 :: a2 :: a1 :: r) := by
  obtain ⟨i, h1, h2, h3⟩ := h
  refine R.2.2.2.2.1 pc i E k n n' M L _ r [a1, a2, a3, a4, a5] _ h1 h2 h3 hk hn.1 hn.2 hR rfl (mx_few_ok hr) (fun v M' hv => ?_)
  · obtain ⟨x, rfl, hq⟩ := hv
    exact K x M' hq
theorem mx_Rl.V5a (R : mx_Rl l G md D d nE P X) {pc k n n' b c : Nat} {E : Md} {M : Mm} {L : Lv} {r : Sk} {a1 a2 a3 a4 a5 : Value} {Q : Value → Mm → Prop} (h : mx_kV D pc E c 5) (hi : mx_in md c b n) (hR : Runs l G md E k n [.ref b, a1, a2, a3, a4, a5] M n' (Pa Q)) (hk : k < d) (hr : mx_few r = true) (hn : n ≤ n' ∧ n' ≤ nE) (K : ∀ (x : Value) (M' : Mm), Q x M' → X n' M' (pc + 3) L (x :: r)) : X n M pc L (a5 :: a4 :: a3 :: a2 :: a1 :: .ref b :: r) := by
  obtain ⟨i, h1, h2, h3, h4⟩ := h
  refine R.2.2.2.2.2.1 pc i E k n n' b c M L _ r [a1, a2, a3, a4, a5] _ h1 h2 h3 hk hn.1 hn.2 h4 hi hR rfl (mx_few_ok hr) (fun v M' hv => ?_)
  · obtain ⟨x, rfl, hq⟩ := hv
    exact K x M' hq
theorem mx_Rl.o (R : mx_Rl l G md D d nE P X) {pc : Nat} {w : Instr} {len n : Nat} {M : Mm} {L : Lv} {S S' : Sk} (hd : decode D.2.1 pc = .ok (w, len)) (h : mx_odd D.2.2.2.2 w len S S') (h1 : 1 ≤ d) (hn : n ≤ nE) (K : X n M (pc + len) L S') : X n M pc L S := R.2.2.2.2.2.2.2.2.2.2.2.1 pc w len n M L S S' hd h h1 hn K
def mx_km (D : Md) (pc : Nat) (y : MethodName) : Prop := ∃ i, decode D.2.1 pc = .ok (.invokestatic i, 3) ∧ Cond.methodLink (mx_rc D.2.2.2.2) i y ∈ gw
theorem mx_Rl.max (R : mx_Rl l G md D d nE P X) {pc n : Nat} {M : Mm} {L : Lv} {r : Sk} {x y : Int32} (h : mx_km D pc Lib.Math.max.name) (h1 : 1 ≤ d) (hr : mx_few r = true) (hn : n ≤ nE) (K : X n M (pc + 3) L (.int (if x < y then y else x) :: r)) : X n M pc L (.int y :: .int x :: r) := by
  obtain ⟨i, h2, h3⟩ := h
  exact R.o h2 (Or.inr (Or.inr (Or.inr (Or.inl ⟨i, r, x, y, rfl, rfl, h3, mx_few_ok hr, rfl, rfl⟩)))) h1 hn K
theorem mx_Rl.min (R : mx_Rl l G md D d nE P X) {pc n : Nat} {M : Mm} {L : Lv} {r : Sk} {x y : Int32} (h : mx_km D pc Lib.Math.min.name) (h1 : 1 ≤ d) (hr : mx_few r = true) (hn : n ≤ nE) (K : X n M (pc + 3) L (.int (if y < x then y else x) :: r)) : X n M pc L (.int y :: .int x :: r) := by
  obtain ⟨i, h2, h3⟩ := h
  exact R.o h2 (Or.inr (Or.inr (Or.inr (Or.inr (Or.inl ⟨i, r, x, y, rfl, rfl, h3, mx_few_ok hr, rfl, rfl⟩))))) h1 hn K
theorem mx_Rl.abs (R : mx_Rl l G md D d nE P X) {pc n : Nat} {M : Mm} {L : Lv} {r : Sk} {x : Int32} (h : mx_km D pc Lib.Math.abs.name) (h1 : 1 ≤ d) (hr : mx_few r = true) (hn : n ≤ nE) (K : X n M (pc + 3) L (.int (if 0 ≤ x then x else 0 - x) :: r)) : X n M pc L (.int x :: r) := by
  obtain ⟨i, h2, h3⟩ := h
  exact R.o h2 (Or.inr (Or.inr (Or.inr (Or.inr (Or.inr (Or.inl ⟨i, r, x, rfl, rfl, h3, mx_few_ok hr, rfl, rfl⟩)))))) h1 hn K
theorem mx_Rl.copy (R : mx_Rl l G md D d nE P X) {pc n k1 k2 : Nat} {M : Mm} {L : Lv} {r : Sk} {sp dp cnt : Int32} (h : mx_km D pc arraycopyName) (h1 : 1 ≤ d) (hr : mx_few r = true) (hi1 : mx_in md 11 k1 n) (hi2 : mx_in md 11 k2 n) (h0 : ¬ sp < 0 ∧ ¬ dp < 0 ∧ ¬ cnt < 0) (h4 : sp.toNatClampNeg + cnt.toNatClampNeg ≤ (kd k1).2 ∧ dp.toNatClampNeg + cnt.toNatClampNeg ≤ (kd k2).2) (K : X n (mx_cpy M k1 sp.toNatClampNeg k2 dp.toNatClampNeg cnt.toNatClampNeg) (pc + 3) L r) : X n M pc L (.int cnt :: .int dp :: .ref k2 :: .int sp :: .ref k1 :: r) := by
  obtain ⟨i, h2, h3⟩ := h
  exact R.2.2.2.2.2.2.2.2.2.2.2.2.1 pc i n k1 k2 M L r sp dp cnt h2 h3 h1 hi1 hi2 h0.1 h0.2.1 h0.2.2 h4.1 h4.2 (mx_few_ok hr) K
/-- a call on a String constant -/
def mx_kT (D : Md) (pc : Nat) (E : Md) (na : Nat) : Prop := ∃ i, decode D.2.1 pc = .ok (.invokevirtual i, 3) ∧ mx_D E na ∧ mx_cV D.2.2.2.2 i E ∧ E.1.cls = "java/lang/String"
theorem mx_Rl.T0i (R : mx_Rl l G md D d nE P X) {pc k n j : Nat} {E : Md} {M : Mm} {L : Lv} {r : Sk} {Q : Int32 → Mm → Prop} (h : mx_kT D pc E 0) (hj : j < 6) (hR : Runs l G md E k n [.ref (1001 + j)] M n (Pi Q)) (hk : k < d) (hr : mx_few r = true) (hn : n ≤ nE) (K : ∀ (x : Int32) (M' : Mm), Q x M' → X n M' (pc + 3) L (.int x :: r)) : X n M pc L (.ref (1001 + j) :: r) := by
  obtain ⟨i, h1, h2, h3, h4⟩ := h
  refine R.2.2.2.2.2.2.2.2.2.2.2.2.2.1 pc i E k n j M L _ r [] _ h1 h2 h3 hk hn ⟨h4, hj⟩ hR rfl (mx_few_ok hr) (fun v M' hv => ?_)
  obtain ⟨x, rfl, hq⟩ := hv
  exact K x M' hq
theorem mx_Rl.T1i (R : mx_Rl l G md D d nE P X) {pc k n j : Nat} {E : Md} {M : Mm} {L : Lv} {r : Sk} {a1 : Value} {Q : Int32 → Mm → Prop} (h : mx_kT D pc E 1) (hj : j < 6) (hR : Runs l G md E k n [.ref (1001 + j), a1] M n (Pi Q)) (hk : k < d) (hr : mx_few r = true) (hn : n ≤ nE) (K : ∀ (x : Int32) (M' : Mm), Q x M' → X n M' (pc + 3) L (.int x :: r)) : X n M pc L (a1 :: .ref (1001 + j) :: r) := by
  obtain ⟨i, h1, h2, h3, h4⟩ := h
  refine R.2.2.2.2.2.2.2.2.2.2.2.2.2.1 pc i E k n j M L _ r [a1] _ h1 h2 h3 hk hn ⟨h4, hj⟩ hR rfl (mx_few_ok hr) (fun v M' hv => ?_)
  obtain ⟨x, rfl, hq⟩ := hv
  exact K x M' hq
theorem mx_Rl.T2i (R : mx_Rl l G md D d nE P X) {pc k n j : Nat} {E : Md} {M : Mm} {L : Lv} {r : Sk} {a1 a2 : Value} {Q : Int32 → Mm → Prop} (h : mx_kT D pc E 2) (hj : j < 6) (hR : Runs l G md E k n [.ref (1001 + j), a1, a2] M n (Pi Q)) (hk : k < d) (hr : mx_few r = true) (hn : n ≤ nE) (K : ∀ (x : Int32) (M' : Mm), Q x M' → X n M' (pc + 3) L (.int x :: r)) : X n M pc L (a2 :: a1 :: .ref (1001 + j) :: r) := by
  obtain ⟨i, h1, h2, h3, h4⟩ := h
  refine R.2.2.2.2.2.2.2.2.2.2.2.2.2.1 pc i E k n j M L _ r [a1, a2] _ h1 h2 h3 hk hn ⟨h4, hj⟩ hR rfl (mx_few_ok hr) (fun v M' hv => ?_)
  obtain ⟨x, rfl, hq⟩ := hv
  exact K x M' hq
theorem mx_Rl.nw (R : mx_Rl l G false D d nE P X) {pc c n : Nat} {M : Mm} {L : Lv} {S : Sk} (h : mx_kn D pc c) (hkd : (kd n).1 = c) (hE : n + 1 ≤ nE) (K : X (n + 1) (mx_z M n) (pc + 3) L (.ref n :: S)) : X n M pc L S := by
  obtain ⟨i, h1, h2, h3⟩ := h
  exact R.2.2.2.2.2.2.2.2.2.2.2.2.2.2.1 pc i c n M L S rfl h1 h2 h3 hkd hE K
theorem mx_Rl.na (R : mx_Rl l G false D d nE P X) {pc n : Nat} {aty : ArrayType} {M : Mm} {L : Lv} {r : Sk} {x : Int32} (h : decode D.2.1 pc = .ok (.newarray aty, 2)) (hk : (kd n).1 = mx_aty aty ∧ mx_aty aty ≠ 0) (hx : ¬ x < 0 ∧ x.toNatClampNeg = (kd n).2 ∧ (kd n).2 ≤ 100000) (hE : n + 1 ≤ nE) (K : X (n + 1) (mx_z M n) (pc + 2) L (.ref n :: r)) : X n M pc L (.int x :: r) := R.2.2.2.2.2.2.2.2.2.2.2.2.2.2.2.1 pc n aty M L r x rfl h hk hx.1 hx.2.1 hx.2.2 hE K
theorem mx_Rl.an (R : mx_Rl l G false D d nE P X) {pc n k1 : Nat} {M : Mm} {L : Lv} {r : Sk} {x : Int32} (h : mx_kq D pc k1) (hk1 : (kd n).1 = k1) (hx : ¬ x < 0 ∧ x.toNatClampNeg = (kd n).2 ∧ (kd n).2 ≤ 100000) (hE : n + 1 ≤ nE) (K : X (n + 1) (mx_z M n) (pc + 3) L (.ref n :: r)) : X n M pc L (.int x :: r) := by
  obtain ⟨i, h1, h2, h3, h4⟩ := h
  exact R.2.2.2.2.2.2.2.2.2.2.2.2.2.2.2.2.1 pc i n k1 M L r x rfl h1 h2 hk1 h3 h4 hx.1 hx.2.1 hx.2.2 hE K
theorem mx_Rl.as (R : mx_Rl l G false D d nE P X) {pc n k1 k t : Nat} {M : Mm} {L : Lv} {r : Sk} {i : Int32} (h : decode D.2.1 pc = .ok (.aastore, 1)) (hk : (kd k).1 = k1 ∧ k < n) (h13 : 13 ≤ k1 ∧ k1 < 17) (ht : (kd t).1 = mx_ec k1 ∧ t < n ∧ 0 < t) (hr : vp_in i (kd k).2) (K : X n (mx_wr M k i.toNatClampNeg (nI t)) (pc + 1) L r) : X n M pc L (.ref t :: .int i :: .ref k :: r) := R.2.2.2.2.2.2.2.2.2.2.2.2.2.2.2.2.2.1 pc n k1 k t M L r i rfl h hk h13.1 h13.2 ht hr K
theorem mx_Rl.oi (R : mx_Rl l G md D d nE P X) {pc n b : Nat} {M : Mm} {L : Lv} {r : Sk} (h : mx_ko D pc) (h1 : 1 ≤ d) (hr : mx_few r = true) (K : X n M (pc + 3) L r) : X n M pc L (.ref b :: r) := by
  obtain ⟨i, h2, h3⟩ := h
  exact R.2.2.2.2.2.2.2.2.2.2.2.2.2.2.2.2.2.2 pc i n b M L r h2 h3 h1 (mx_few_ok hr) K
end RL
/-- a method of all that is made -/
theorem mx_run {l : Launch} {G : Gt} {D : Md} {k : Nat} {as : List Value} {M : Mm} {P : Option Value → Mm → Prop} (hD : mx_own D) (has : as.all (fun v => v.category == 1) = true) (hla : Nat.ble as.length D.2.2.1 = true)
    (body : ∀ (d : Nat) (X : Nat → Mm → Nat → Lv → Sk → Prop), k ≤ d → mx_Rl l G true D d 127 P X → X 127 M 0 (mx_L0 D as) []) : Runs l G true D k 127 as M 127 P := by
  intro d hd
  refine mx_met hD (fun h => by cases h) (fun v hv => ?_) (Nat.le_of_ble_eq_true hla) (Nat.le_refl _) (fun X R => body d X hd R)
  have := List.all_eq_true.mp has v hv
  simpa using this
theorem mx_runs_mono {l : Launch} {G : Gt} {md : Bool} {D : Md} {k k' n n' : Nat} {as : List Value} {M : Mm} {P : Option Value → Mm → Prop} (h : Runs l G md D k n as M n' P) (hk : k ≤ k') : Runs l G md D k' n as M n' P := fun d hd => h d (Nat.le_trans hk hd)
