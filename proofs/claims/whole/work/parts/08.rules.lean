/-! a method: its name, code, locals, what it returns, its class -/
abbrev Md : Type := MethodName × ByteArray × Nat × Option FieldType × Nat
def mx_rm (d n n' : Nat) : Room := { frames := d, cells := n' - n, slots := mx_sz n' - mx_sz n, locals := 100 * d }
def mx_wT (D : Md) : List Cond := Cond.code D.1 D.2.1 D.2.2.1 D.2.2.2.1 :: gw
/-- the contract of a method: from the store M (n cells made), with these values, it comes back with a value and a store (n' cells) of which P holds -/
def Rn (l : Launch) (G : Gt) (md : Bool) (d : Nat) (D : Md) (n : Nat) (as : List Value) (M : Mm) (n' : Nat) (P : Option Value → Mm → Prop) : Prop :=
  Met l D.1 (mx_wT D) (mx_rm d n n') (va_Pc (as.map (mx_cv G)) (fun U => mx_H G md n M U.heap ∧ mx_K G U)) (fun _ _ oc t => ∃ (v : Option Value) (M' : Mm), oc = .returned (v.map (mx_cv G)) ∧ P v M' ∧ mx_H G md n' M' t.heap) (n' - n) (mx_sz n' - mx_sz n) (mx_A G)
/-- at every depth from k on -/
def Runs (l : Launch) (G : Gt) (md : Bool) (D : Md) (k n : Nat) (as : List Value) (M : Mm) (n' : Nat) (P : Option Value → Mm → Prop) : Prop := ∀ d, k ≤ d → Rn l G md d D n as M n' P
def mx_br (br : Instr) (S : Sk) (Kt Kf : Sk → Prop) : Prop := match br with
  | .ifCond .eq _ => mx_p1 S (fun x r => (x = 0 → Kt r) ∧ (¬ x = 0 → Kf r))
  | .ifCond .ne _ => mx_p1 S (fun x r => (¬ x = 0 → Kt r) ∧ (x = 0 → Kf r))
  | .ifCond .lt _ => mx_p1 S (fun x r => (x < 0 → Kt r) ∧ (¬ x < 0 → Kf r))
  | .ifCond .ge _ => mx_p1 S (fun x r => (0 ≤ x → Kt r) ∧ (¬ 0 ≤ x → Kf r))
  | .ifCond .gt _ => mx_p1 S (fun x r => (0 < x → Kt r) ∧ (¬ 0 < x → Kf r))
  | .ifCond .le _ => mx_p1 S (fun x r => (x ≤ 0 → Kt r) ∧ (¬ x ≤ 0 → Kf r))
  | .if_icmp .eq _ => mx_p2 S (fun x y r => (x = y → Kt r) ∧ (¬ x = y → Kf r))
  | .if_icmp .ne _ => mx_p2 S (fun x y r => (¬ x = y → Kt r) ∧ (x = y → Kf r))
  | .if_icmp .lt _ => mx_p2 S (fun x y r => (x < y → Kt r) ∧ (¬ x < y → Kf r))
  | .if_icmp .ge _ => mx_p2 S (fun x y r => (y ≤ x → Kt r) ∧ (¬ y ≤ x → Kf r))
  | .if_icmp .gt _ => mx_p2 S (fun x y r => (y < x → Kt r) ∧ (¬ y < x → Kf r))
  | .if_icmp .le _ => mx_p2 S (fun x y r => (x ≤ y → Kt r) ∧ (¬ x ≤ y → Kf r))
  | .ifnonnull _ => (match S with
    | .ref _ :: r => Kt r
    | .null :: r => Kf r
    | _ => False)
  | _ => False
def mx_brk (cc : ByteArray) (pc : Nat) (br : Instr) (t f : Nat) : Bool := match decode cc pc with
  | .ok (w, len) => decide (w = br) && (len == 3) && (f == pc + 3) && (match br with
    | .ifCond _ off => decide ((pc : Int) + off = (t : Int))
    | .if_icmp _ off => decide ((pc : Int) + off = (t : Int))
    | .ifnonnull off => decide ((pc : Int) + off = (t : Int))
    | _ => false)
  | .error _ => false
def mx_jmp (cc : ByteArray) (pc t : Nat) : Bool := match decode cc pc with
  | .ok (.goto off, len) => (len == 3) && decide ((pc : Int) + off = (t : Int))
  | _ => false
def mx_sw (x : Int32) : List (Int32 × Nat) → Nat → (Nat → Prop) → Prop
  | [], d, K => K d
  | (v, t) :: r, d, K => (x = v → K t) ∧ (¬ x = v → mx_sw x r d K)
def mx_swk (cc : ByteArray) (pc : Nat) (tb : List (Int32 × Nat)) (d : Nat) : Bool := match decode cc pc with
  | .ok (.tableswitch dflt lo hi offs, _) => decide ((pc : Int) + dflt = (d : Int)) && decide (tb.map (fun q => ((q.1.toInt : Int), (q.2 : Int) - (pc : Int))) = offs.toList.zipIdx.map (fun q => (lo + (q.2 : Int), q.1))) && decide (hi - lo + 1 = (offs.size : Int))
  | .ok (.lookupswitch dflt ps, _) => decide ((pc : Int) + dflt = (d : Int)) && decide (tb.map (fun q => ((q.1.toInt : Int), (q.2 : Int) - (pc : Int))) = ps.toList) && (ps.toList.zip (ps.toList.drop 1)).all (fun (a, next) => a.1 < next.1)
  | _ => false
/-- how a method is called: static, on an object, a constructor; of a nest mate too -/
def mx_cS (o : Nat) (i : Nat) (D : Md) : Prop := Cond.methodLink (mx_rc o) i D.1 ∈ gw ∧ Cond.static D.1 ∈ gw
def mx_cN (o : Nat) (i : Nat) (D : Md) : Prop := Cond.methodLinkNest (mx_rc o) i D.1 RX7 ∈ mx_nw ∧ Cond.static D.1 ∈ gw
def mx_cV (o : Nat) (i : Nat) (D : Md) : Prop := Cond.methodLink (mx_rc o) i D.1 ∈ gw ∧ Cond.instanceMethod D.1 ∈ gw ∧ Cond.selects D.1.cls D.1 D.1 ∈ gw
def mx_cI (o : Nat) (i : Nat) (D : Md) : Prop := (Cond.methodLink (mx_rc o) i D.1 ∈ gw ∨ Cond.methodLinkNest (mx_rc o) i D.1 RX7 ∈ mx_nw) ∧ D.1.name = "<init>" ∧ Cond.instanceMethod D.1 ∈ gw ∧ D.2.2.2.1 = none
/-- a method that can be called at all -/
def mx_D (D : Md) (na : Nat) : Prop := Cond.code D.1 D.2.1 D.2.2.1 D.2.2.2.1 ∈ gw ∧ Cond.initialized D.1.cls ∈ gw ∧ (D.1.cls ≠ "java/lang/invoke/MethodHandle" ∧ D.1.cls ≠ "java/lang/invoke/VarHandle" ∧ (parseMethodDescriptor D.1.desc).map (fun d => d.parameters.length) = some na) ∧ D.2.2.1 ≤ 80
def mx_abv (i : Nat) : Int32 := ([-1, 0, 0, 1, 2, 0] : List Int32).getD i 0
def mx_mth (o i : Nat) (y : MethodName) : Prop := Cond.methodLink (mx_rc o) i y ∈ gw
/-- instructions that read what stood there before: the static row, String constants, Math -/
def mx_odd (o : Nat) (w : Instr) (len : Nat) (S S' : Sk) : Prop :=
  (∃ i, w = .getstatic i ∧ len = 3 ∧ (Cond.fieldLink (mx_rc o) i RX7 "ABOVE" "[I" ∈ gw ∨ Cond.fieldLinkNest (mx_rc o) i RX7 "ABOVE" "[I" RX7 ∈ mx_nw) ∧ S' = .ref 1000 :: S) ∨
  (∃ r, w = .arraylength ∧ len = 1 ∧ S = .ref 1000 :: r ∧ S' = .int 6 :: r) ∨
  (∃ (i : Int32) (r : Sk), w = .iaload ∧ len = 1 ∧ vp_in i 6 ∧ S = .int i :: .ref 1000 :: r ∧ S' = .int (mx_abv i.toNatClampNeg) :: r) ∨
  (∃ (i : Nat) (r : Sk) (x y : Int32), w = .invokestatic i ∧ len = 3 ∧ mx_mth o i Lib.Math.max.name ∧ (r.map fun v => v.category).sum ≤ 8 ∧ S = .int y :: .int x :: r ∧ S' = .int (if x < y then y else x) :: r) ∨
  (∃ (i : Nat) (r : Sk) (x y : Int32), w = .invokestatic i ∧ len = 3 ∧ mx_mth o i Lib.Math.min.name ∧ (r.map fun v => v.category).sum ≤ 8 ∧ S = .int y :: .int x :: r ∧ S' = .int (if y < x then y else x) :: r) ∨
  (∃ (i : Nat) (r : Sk) (x : Int32), w = .invokestatic i ∧ len = 3 ∧ mx_mth o i Lib.Math.abs.name ∧ (r.map fun v => v.category).sum ≤ 8 ∧ S = .int x :: r ∧ S' = .int (if 0 ≤ x then x else 0 - x) :: r) ∨
  (∃ j : Nat, w = .ldc (mx_si.getD j 0) ∧ len = 2 ∧ o = 2 ∧ j < 6 ∧ S' = .ref (1001 + j) :: S) ∨
  (∃ (i j : Nat) (r : Sk), w = .getfield i ∧ len = 3 ∧ Cond.fieldLink (mx_rc o) i "java/lang/String" "value" "[B" ∈ gw ∧ j < 6 ∧ S = .ref (1001 + j) :: r ∧ S' = .ref (1011 + j) :: r) ∨
  (∃ (i j : Nat) (r : Sk), w = .getfield i ∧ len = 3 ∧ Cond.fieldLink (mx_rc o) i "java/lang/String" "coder" "B" ∈ gw ∧ j < 6 ∧ S = .ref (1001 + j) :: r ∧ S' = .int 0 :: r) ∨
  (∃ (j : Nat) (r : Sk), w = .arraylength ∧ len = 1 ∧ j < 6 ∧ S = .ref (1011 + j) :: r ∧ S' = .int (nI (mx_sl_.getD j 0)) :: r) ∨
  (∃ (j : Nat) (i : Int32) (r : Sk), w = .baload ∧ len = 1 ∧ j < 6 ∧ vp_in i (mx_sl_.getD j 0) ∧ S = .int i :: .ref (1011 + j) :: r ∧ S' = .int ((mx_sb.getD j []).getD i.toNatClampNeg 0) :: r) ∨
  (∃ i, w = .getstatic i ∧ len = 3 ∧ Cond.fieldLink (mx_rc o) i "java/lang/String" "COMPACT_STRINGS" "Z" ∈ gw ∧ S' = .int 1 :: S)
def mx_cpy (M : Mm) (k1 sp k2 dp cnt : Nat) : Mm := fun q => if q = k2 then va_cpy (M k1) (M k2) sp dp cnt else M q
/-- the kinds of arrays that newarray makes -/
def mx_aty (aty : ArrayType) : Nat := match aty with
  | .int => 11
  | .byte => 9
  | .char => 10
  | .boolean => 12
  | _ => 0
/-- the class of an array's entries -/
def mx_ec (k : Nat) : Nat := match k with
  | 13 => 0
  | 14 => 1
  | 15 => 4
  | _ => 5
/-- a new cell, all 0 -/
def mx_z (M : Mm) (n : Nat) : Mm := fun q => if q = n then (fun _ => 0) else M q
/-- what a predicate X on the places of a method's body owes: the rules of the small machine -/
def mx_Rl (l : Launch) (G : Gt) (md : Bool) (D : Md) (d : Nat) (nE : Nat) (P : Option Value → Mm → Prop) (X : Nat → Mm → Nat → Lv → Sk → Prop) : Prop :=
  (∀ (pc : Nat) (is : List Ai) (pc' n : Nat) (M : Mm) (L : Lv) (S : Sk), mx_blk D.2.2.2.2 D.2.1 pc is pc' = true → mx_b md is n M L S (fun n' M' L' S' => X n' M' pc' L' S') → X n M pc L S) ∧
  (∀ (pc t n : Nat) (M : Mm) (L : Lv) (S : Sk), mx_jmp D.2.1 pc t = true → X n M t L S → X n M pc L S) ∧
  (∀ (pc : Nat) (br : Instr) (t f n : Nat) (M : Mm) (L : Lv) (S : Sk), mx_brk D.2.1 pc br t f = true → mx_br br S (fun r => X n M t L r) (fun r => X n M f L r) → X n M pc L S) ∧
  (∀ (pc : Nat) (tb : List (Int32 × Nat)) (df n : Nat) (M : Mm) (L : Lv) (S : Sk), mx_swk D.2.1 pc tb df = true → mx_p1 S (fun x r => mx_sw x tb df (fun t => X n M t L r)) → X n M pc L S) ∧
  (∀ (pc i : Nat) (E : Md) (k n n' : Nat) (M : Mm) (L : Lv) (S r : Sk) (as : List Value) (PE : Option Value → Mm → Prop), decode D.2.1 pc = .ok (.invokestatic i, 3) → mx_D E as.length → mx_cS D.2.2.2.2 i E ∨ mx_cN D.2.2.2.2 i E → k < d → n ≤ n' → n' ≤ nE → Runs l G md E k n as M n' PE → S = as.reverse ++ r → (r.map fun v => v.category).sum ≤ 8 → (∀ (v : Option Value) (M' : Mm), PE v M' → X n' M' (pc + 3) L (v.toList ++ r)) → X n M pc L S) ∧
  (∀ (pc i : Nat) (E : Md) (k n n' b c : Nat) (M : Mm) (L : Lv) (S r : Sk) (as : List Value) (PE : Option Value → Mm → Prop), decode D.2.1 pc = .ok (.invokevirtual i, 3) → mx_D E as.length → mx_cV D.2.2.2.2 i E → k < d → n ≤ n' → n' ≤ nE → (c < 9 ∧ mx_rc c = E.1.cls) → mx_in md c b n → Runs l G md E k n (.ref b :: as) M n' PE → S = as.reverse ++ .ref b :: r → (r.map fun v => v.category).sum ≤ 8 → (∀ (v : Option Value) (M' : Mm), PE v M' → X n' M' (pc + 3) L (v.toList ++ r)) → X n M pc L S) ∧
  (∀ (pc i : Nat) (E : Md) (k n n' b : Nat) (M : Mm) (L : Lv) (S r : Sk) (as : List Value) (PE : Option Value → Mm → Prop), decode D.2.1 pc = .ok (.invokespecial i, 3) → mx_D E as.length → mx_cI D.2.2.2.2 i E → k < d → n ≤ n' → n' ≤ nE → Runs l G md E k n (.ref b :: as) M n' PE → S = as.reverse ++ .ref b :: r → (r.map fun v => v.category).sum ≤ 8 → (∀ (v : Option Value) (M' : Mm), PE v M' → X n' M' (pc + 3) L (v.toList ++ r)) → X n M pc L S) ∧
  (∀ (pc : Nat) (M : Mm) (L : Lv) (x : Int32) (ty : FieldType), decode D.2.1 pc = .ok (.ireturn, 1) → D.2.2.2.1 = some ty → narrow ty (.int x) = .int x → P (some (.int x)) M → X nE M pc L [.int x]) ∧
  (∀ (pc : Nat) (M : Mm) (L : Lv), decode D.2.1 pc = .ok (.return_, 1) → D.2.2.2.1 = none → P none M → X nE M pc L []) ∧
  (∀ (pc : Nat) (M : Mm) (L : Lv) (x : Int64), decode D.2.1 pc = .ok (.lreturn, 1) → D.2.2.2.1 = some .long → P (some (.long x)) M → X nE M pc L [.long x]) ∧
  (∀ (pc : Nat) (M : Mm) (L : Lv) (x : Value) (ty : FieldType), decode D.2.1 pc = .ok (.areturn, 1) → D.2.2.2.1 = some ty → mx_isr ty = true → (x = .null ∨ ∃ a, x = .ref a) → P (some x) M → X nE M pc L [x]) ∧
  (∀ (pc : Nat) (w : Instr) (len n : Nat) (M : Mm) (L : Lv) (S S' : Sk), decode D.2.1 pc = .ok (w, len) → mx_odd D.2.2.2.2 w len S S' → 1 ≤ d → n ≤ nE → X n M (pc + len) L S' → X n M pc L S) ∧
  (∀ (pc i n k1 k2 : Nat) (M : Mm) (L : Lv) (r : Sk) (sp dp cnt : Int32), decode D.2.1 pc = .ok (.invokestatic i, 3) → Cond.methodLink (mx_rc D.2.2.2.2) i arraycopyName ∈ gw → 1 ≤ d → mx_in md 11 k1 n → mx_in md 11 k2 n → ¬ sp < 0 → ¬ dp < 0 → ¬ cnt < 0 → sp.toNatClampNeg + cnt.toNatClampNeg ≤ (kd k1).2 → dp.toNatClampNeg + cnt.toNatClampNeg ≤ (kd k2).2 → (r.map fun v => v.category).sum ≤ 8 → X n (mx_cpy M k1 sp.toNatClampNeg k2 dp.toNatClampNeg cnt.toNatClampNeg) (pc + 3) L r → X n M pc L (.int cnt :: .int dp :: .ref k2 :: .int sp :: .ref k1 :: r)) ∧
  (∀ (pc i : Nat) (E : Md) (k n j : Nat) (M : Mm) (L : Lv) (S r : Sk) (as : List Value) (PE : Option Value → Mm → Prop), decode D.2.1 pc = .ok (.invokevirtual i, 3) → mx_D E as.length → mx_cV D.2.2.2.2 i E → k < d → n ≤ nE → E.1.cls = "java/lang/String" ∧ j < 6 → Runs l G md E k n (.ref (1001 + j) :: as) M n PE → S = as.reverse ++ .ref (1001 + j) :: r → (r.map fun v => v.category).sum ≤ 8 → (∀ (v : Option Value) (M' : Mm), PE v M' → X n M' (pc + 3) L (v.toList ++ r)) → X n M pc L S) ∧
  (∀ (pc i c n : Nat) (M : Mm) (L : Lv) (S : Sk), md = false → decode D.2.1 pc = .ok (.new i, 3) → (D.2.2.2.2, i, c) ∈ mx_cl → c < 9 → (kd n).1 = c → n + 1 ≤ nE → X (n + 1) (mx_z M n) (pc + 3) L (.ref n :: S) → X n M pc L S) ∧
  (∀ (pc n : Nat) (aty : ArrayType) (M : Mm) (L : Lv) (r : Sk) (x : Int32), md = false → decode D.2.1 pc = .ok (.newarray aty, 2) → (kd n).1 = mx_aty aty ∧ mx_aty aty ≠ 0 → ¬ x < 0 → x.toNatClampNeg = (kd n).2 → (kd n).2 ≤ 100000 → n + 1 ≤ nE → X (n + 1) (mx_z M n) (pc + 2) L (.ref n :: r) → X n M pc L (.int x :: r)) ∧
  (∀ (pc i n k1 : Nat) (M : Mm) (L : Lv) (r : Sk) (x : Int32), md = false → decode D.2.1 pc = .ok (.anewarray i, 3) → (D.2.2.2.2, i, mx_ec k1) ∈ mx_cl → (kd n).1 = k1 → 13 ≤ k1 → k1 < 17 → ¬ x < 0 → x.toNatClampNeg = (kd n).2 → (kd n).2 ≤ 100000 → n + 1 ≤ nE → X (n + 1) (mx_z M n) (pc + 3) L (.ref n :: r) → X n M pc L (.int x :: r)) ∧
  (∀ (pc n k1 k t : Nat) (M : Mm) (L : Lv) (r : Sk) (i : Int32), md = false → decode D.2.1 pc = .ok (.aastore, 1) → (kd k).1 = k1 ∧ k < n → 13 ≤ k1 → k1 < 17 → (kd t).1 = mx_ec k1 ∧ t < n ∧ 0 < t → vp_in i (kd k).2 → X n (mx_wr M k i.toNatClampNeg (nI t)) (pc + 1) L r → X n M pc L (.ref t :: .int i :: .ref k :: r)) ∧
  (∀ (pc i n b : Nat) (M : Mm) (L : Lv) (r : Sk), decode D.2.1 pc = .ok (.invokespecial i, 3) → Cond.methodLink (mx_rc D.2.2.2.2) i Lib.objectInit ∈ gw → 1 ≤ d → (r.map fun v => v.category).sum ≤ 8 → X n M (pc + 3) L r → X n M pc L (.ref b :: r))
