/-! THE SMALL MACHINE: a method's body over the store M, its locals L and its stack S; 'mx_i' says what one instruction does, as a condition on what comes behind it -/
abbrev Mm : Type := Nat → Nat → Int32
abbrev Lv : Type := List (Option Value)
abbrev Sk : Type := List Value
/-- the heap at the law's start; class numbers and slots; array classes; addresses of what stood there before -/
abbrev Gt : Type := Heap × va_G × (Nat → ClassId) × (Nat → Nat)
def mx_wr (M : Mm) (k j : Nat) (x : Int32) : Mm := fun q => if q = k then (fun i => if i = j then x else M k i) else M q
def mx_NT : Nat := 127
def mx_ad (G : Gt) (k : Nat) : Nat := if k < 1000 then G.1.size + k else G.2.2.2 k
def mx_cv (G : Gt) : Value → Value
  | .ref k => .ref (mx_ad G k)
  | v => v
def mx_rv (x : Int32) : Value := if x = 0 then .null else .ref x.toNatClampNeg
def mx_sv (md : Bool) (t : Nat × Nat) (k : Nat) (x : Int32) : Value := match t with
  | (0, _) => .int x
  | (1, _) => (match md with | true => .ref x.toNatClampNeg | false => mx_rv x)
  | (2, a) => (match md with | true => .ref (k + a) | false => mx_rv x)
  | (_, a) => (match md with | true => .ref a | false => mx_rv x)
/-- where an array of references points, once all is made -/
def mx_el (c k i : Nat) : Nat := match c with
  | 13 => k + 4 + i
  | 14 => 14 + 2 * i
  | 15 => 42 + 2 * i
  | _ => 50 + 4 * i
def mx_ev (md : Bool) (c k j : Nat) (x : Int32) : Value := if c < 13 then .int x else match md with | true => .ref (mx_el c k j) | false => mx_rv x
def mx_cell (G : Gt) (md : Bool) (k : Nat) (r : Nat → Int32) (H : Heap) : Prop :=
  if (kd k).1 < 9 then t_OB (G.1.size + k) (G.2.1.1 (kd k).1) (kd k).2 (G.2.1.2 (kd k).1) H (fun j => mx_cv G (mx_sv md (ft (kd k).1 j) k (r j)))
  else H[G.1.size + k]? = some (arrV (G.2.2.1 (kd k).1) (kd k).2 (fun j => mx_cv G (mx_ev md (kd k).1 k j (r j))))
def mx_H (G : Gt) (md : Bool) (n : Nat) (M : Mm) (H : Heap) : Prop :=
  H.size = G.1.size + n ∧ n ≤ mx_NT ∧ (md = true → n = mx_NT) ∧ (∀ q, q < G.1.size → H[q]? = G.1[q]?) ∧ ∀ k, k < n → mx_cell G md k (M k) H
def mx_tys (G : Gt) : List (ClassId × FieldType) := [(G.2.2.1 9, .byte), (G.2.2.1 10, .char), (G.2.2.1 11, .int), (G.2.2.1 12, .boolean), (G.2.2.1 13, .object RX0), (G.2.2.1 14, .object RX1), (G.2.2.1 15, .object RX4), (G.2.2.1 16, .object RX5)]
/-- a kind of cell: that of k, which is made -/
def mx_in (md : Bool) (c k n : Nat) : Prop := match md with
  | true => (kd k).1 = c
  | false => (kd k).1 = c ∧ k < n
def mx_get : Lv → Nat → (Value → Prop) → Prop
  | [], _, _ => False
  | a :: _, 0, K => (match a with | some v => K v | none => False)
  | _ :: l, i + 1, K => mx_get l i K
def mx_lg (a : Option Value) : Bool := match a with
  | some (.long _) => true
  | some (.double _) => true
  | _ => false
/-- a new list of locals; not behind a long -/
def mx_set : Lv → Nat → Option Value → (Lv → Prop) → Prop
  | [], _, _, _ => False
  | _ :: l, 0, v, K => K (v :: l)
  | a :: l, i + 1, v, K => (match i, mx_lg a with | 0, true => False | _, _ => mx_set l i v (fun l' => K (a :: l')))
def mx_p1 (S : Sk) (K : Int32 → Sk → Prop) : Prop := match S with
  | .int x :: r => K x r
  | _ => False
def mx_p2 (S : Sk) (K : Int32 → Int32 → Sk → Prop) : Prop := match S with
  | .int y :: .int x :: r => K x y r
  | _ => False
def mx_l1 (S : Sk) (K : Int64 → Sk → Prop) : Prop := match S with
  | .long x :: r => K x r
  | _ => False
def mx_l2 (S : Sk) (K : Int64 → Int64 → Sk → Prop) : Prop := match S with
  | .long y :: .long x :: r => K x y r
  | _ => False
def mx_pr (S : Sk) (K : Nat → Sk → Prop) : Prop := match S with
  | .ref x :: r => K x r
  | _ => False
/-- an array and an index on the stack -/
def mx_pa (S : Sk) (K : Nat → Int32 → Sk → Prop) : Prop := match S with
  | .int i :: .ref k :: r => K k i r
  | _ => False
def mx_pb (S : Sk) (K : Nat → Int32 → Int32 → Sk → Prop) : Prop := match S with
  | .int x :: .int i :: .ref k :: r => K k i x r
  | _ => False
abbrev Kt : Type := Nat → Mm → Lv → Sk → Prop
def mx_ld (md : Bool) (c n : Nat) (M : Mm) (S : Sk) (K : Sk → Prop) : Prop := mx_pa S (fun k i r => mx_in md c k n ∧ vp_in i (kd k).2 ∧ K (.int (M k i.toNatClampNeg) :: r))
def mx_st (md : Bool) (c n : Nat) (M : Mm) (S : Sk) (f : Int32 → Int32) (K : Mm → Sk → Prop) : Prop := mx_pb S (fun k i x r => mx_in md c k n ∧ vp_in i (kd k).2 ∧ K (mx_wr M k i.toNatClampNeg (f x)) r)
def mx_ty (c j : Nat) : FieldType := match c with
  | 0 => tyX0 j
  | 1 => tyX1 j
  | 2 => tyX2 j
  | 3 => tyX3 j
  | 4 => tyX4 j
  | 5 => tyX5 j
  | 6 => tyX6 j
  | 7 => tyX7 j
  | _ => tyX8 j
/-- a field is written: a number, or a reference that moves (while all is being made: any) -/
def mx_pf (md : Bool) (c j n : Nat) (M : Mm) (S : Sk) (K : Mm → Sk → Prop) : Prop := match S with
  | .int x :: .ref k :: r => mx_in md c k n ∧ (ft c j).1 = 0 ∧ narrow (mx_ty c j) (.int x) = .int x ∧ K (mx_wr M k j x) r
  | .ref t :: .ref k :: r => mx_in md c k n ∧ ((ft c j).1 = 1 ∨ md = false ∧ (ft c j).1 ≠ 0) ∧ (0 < t ∧ t < 1000) ∧ K (mx_wr M k j (nI t)) r
  | _ => False
abbrev Ai : Type := Instr ⊕ Value
/-- one instruction, in its plain form: constants as .inr; fields by (64 * class + slot); aaload as .anewarray kind; boolean arrays as .daload, .dastore; new as .new class; new arrays as .ldc2_w kind -/
def mx_i (md : Bool) (a : Ai) (n : Nat) (M : Mm) (L : Lv) (S : Sk) (K : Kt) : Prop := match a with
  | .inr v => K n M L (v :: S)
  | .inl i => match i with
    | .iload j => mx_get L j (fun v => match v with | .int x => K n M L (.int x :: S) | _ => False)
    | .lload j => mx_get L j (fun v => match v with | .long x => K n M L (.long x :: S) | _ => False)
    | .aload j => mx_get L j (fun v => match v with | .ref x => K n M L (.ref x :: S) | .null => K n M L (.null :: S) | _ => False)
    | .istore j => mx_p1 S (fun x r => mx_set L j (some (.int x)) (fun L' => K n M L' r))
    | .astore j => (match S with
      | .ref x :: r => mx_set L j (some (.ref x)) (fun L' => K n M L' r)
      | .null :: r => mx_set L j (some .null) (fun L' => K n M L' r)
      | _ => False)
    | .lstore j => mx_l1 S (fun x r => mx_set L j none (fun L0 => mx_set L0 (j + 1) none (fun L1 => mx_set L1 j (some (.long x)) (fun L' => K n M L' r))))
    | .iinc j d => mx_get L j (fun v => match v with | .int x => mx_set L j (some (.int (x + Int32.ofInt d))) (fun L' => K n M L' S) | _ => False)
    | .iadd => mx_p2 S (fun x y r => K n M L (.int (x + y) :: r))
    | .isub => mx_p2 S (fun x y r => K n M L (.int (x - y) :: r))
    | .imul => mx_p2 S (fun x y r => K n M L (.int (x * y) :: r))
    | .iand => mx_p2 S (fun x y r => K n M L (.int (x &&& y) :: r))
    | .ior => mx_p2 S (fun x y r => K n M L (.int (x ||| y) :: r))
    | .idiv => mx_p2 S (fun x y r => ¬ y = 0 ∧ K n M L (.int (x / y) :: r))
    | .irem => mx_p2 S (fun x y r => ¬ y = 0 ∧ K n M L (.int (x - x / y * y) :: r))
    | .ishl => mx_p2 S (fun x y r => K n M L (.int (x <<< (y &&& 31)) :: r))
    | .ishr => mx_p2 S (fun x y r => K n M L (.int (x >>> (y &&& 31)) :: r))
    | .iushr => mx_p2 S (fun x y r => K n M L (.int (x.toUInt32 >>> (y.toUInt32 &&& Int32.toUInt32 31)).toInt32 :: r))
    | .ineg => mx_p1 S (fun x r => K n M L (.int (-x) :: r))
    | .i2l => mx_p1 S (fun x r => K n M L (.long x.toInt64 :: r))
    | .i2b => mx_p1 S (fun x r => K n M L (.int x.toInt8.toInt32 :: r))
    | .i2s => mx_p1 S (fun x r => K n M L (.int x.toInt16.toInt32 :: r))
    | .i2c => mx_p1 S (fun x r => K n M L (.int (x.toUInt32 % 65536).toInt32 :: r))
    | .l2i => mx_l1 S (fun x r => K n M L (.int x.toInt32 :: r))
    | .lneg => mx_l1 S (fun x r => K n M L (.long (-x) :: r))
    | .ladd => mx_l2 S (fun x y r => K n M L (.long (x + y) :: r))
    | .lsub => mx_l2 S (fun x y r => K n M L (.long (x - y) :: r))
    | .lcmp => mx_l2 S (fun x y r => K n M L (.int (lg_cmp x y) :: r))
    | .dup => (match S with
      | .int x :: r => K n M L (.int x :: .int x :: r)
      | .ref x :: r => K n M L (.ref x :: .ref x :: r)
      | _ => False)
    | .dup2 => mx_pa S (fun k i r => K n M L (.int i :: .ref k :: .int i :: .ref k :: r))
    | .pop => mx_p1 S (fun _ r => K n M L r)
    | .getfield q => mx_pr S (fun k r => mx_in md (q / 64) k n ∧ K n M L (mx_sv md (ft (q / 64) (q % 64)) k (M k (q % 64)) :: r))
    | .putfield q => mx_pf md (q / 64) (q % 64) n M S (fun M' r => K n M' L r)
    | .iaload => mx_ld md 11 n M S (fun S' => K n M L S')
    | .baload => mx_ld md 9 n M S (fun S' => K n M L S')
    | .caload => mx_ld md 10 n M S (fun S' => K n M L S')
    | .daload => mx_ld md 12 n M S (fun S' => K n M L S')
    | .anewarray c => mx_pa S (fun k i r => (13 ≤ c ∧ c < 17 ∧ md = true) ∧ mx_in md c k n ∧ vp_in i (kd k).2 ∧ K n M L (.ref (mx_el c k i.toNatClampNeg) :: r))
    | .iastore => mx_st md 11 n M S (fun x => x) (fun M' r => K n M' L r)
    | .bastore => mx_st md 9 n M S (fun x => vp_nar .byte x) (fun M' r => K n M' L r)
    | .castore => mx_st md 10 n M S (fun x => vp_nar .char x) (fun M' r => K n M' L r)
    | .dastore => mx_st md 12 n M S (fun x => vp_nar .boolean x) (fun M' r => K n M' L r)
    | .arraylength => mx_pr S (fun k r => (∃ c, 9 ≤ c ∧ c < 17 ∧ mx_in md c k n) ∧ K n M L (.int (nI (kd k).2) :: r))
    | _ => False
/-- a row of them -/
def mx_b (md : Bool) : List Ai → Nat → Mm → Lv → Sk → Kt → Prop
  | [], n, M, L, S, K => K n M L S
  | a :: r, n, M, L, S, K => mx_i md a n M L S (fun n' M' L' S' => mx_b md r n' M' L' S' K)
/-- the plain form of an instruction of class o -/
def mx_ok (o : Nat) (w : Instr) (a : Ai) : Bool := match w with
  | .iconst v => decide (a = .inr (.int (Int32.ofInt v)))
  | .bipush v => decide (a = .inr (.int (Int8.ofInt v).toInt32))
  | .sipush v => decide (a = .inr (.int (Int16.ofInt v).toInt32))
  | .lconst v => decide (a = .inr (.long (Int64.ofNat (v : Nat))))
  | .aconst_null => decide (a = .inr .null)
  | .ldc q => (match a with | .inr (.int v) => mx_ct.contains (o, q, v) | _ => false)
  | .ldc_w q => (match a with | .inr (.int v) => mx_ct.contains (o, q, v) | _ => false)
  | .iload j => decide (a = .inl (.iload j))
  | .iload_n j => decide (a = .inl (.iload j.val))
  | .lload j => decide (a = .inl (.lload j))
  | .lload_n j => decide (a = .inl (.lload j.val))
  | .aload j => decide (a = .inl (.aload j))
  | .aload_n j => decide (a = .inl (.aload j.val))
  | .istore j => decide (a = .inl (.istore j))
  | .istore_n j => decide (a = .inl (.istore j.val))
  | .astore j => decide (a = .inl (.astore j))
  | .astore_n j => decide (a = .inl (.astore j.val))
  | .lstore j => decide (a = .inl (.lstore j))
  | .lstore_n j => decide (a = .inl (.lstore j.val))
  | .iinc j d => decide (a = .inl (.iinc j d))
  | .iadd => decide (a = .inl .iadd)
  | .isub => decide (a = .inl .isub)
  | .imul => decide (a = .inl .imul)
  | .iand => decide (a = .inl .iand)
  | .ior => decide (a = .inl .ior)
  | .idiv => decide (a = .inl .idiv)
  | .irem => decide (a = .inl .irem)
  | .ishl => decide (a = .inl .ishl)
  | .ishr => decide (a = .inl .ishr)
  | .iushr => decide (a = .inl .iushr)
  | .ineg => decide (a = .inl .ineg)
  | .i2l => decide (a = .inl .i2l)
  | .i2b => decide (a = .inl .i2b)
  | .i2s => decide (a = .inl .i2s)
  | .i2c => decide (a = .inl .i2c)
  | .l2i => decide (a = .inl .l2i)
  | .lneg => decide (a = .inl .lneg)
  | .ladd => decide (a = .inl .ladd)
  | .lsub => decide (a = .inl .lsub)
  | .lcmp => decide (a = .inl .lcmp)
  | .dup => decide (a = .inl .dup)
  | .dup2 => decide (a = .inl .dup2)
  | .pop => decide (a = .inl .pop)
  | .getfield q => (match a with | .inl (.getfield z) => mx_fl.contains (o, q, z / 64, z % 64) || mx_fn.contains (o, q, z / 64, z % 64) | _ => false)
  | .putfield q => (match a with | .inl (.putfield z) => mx_fl.contains (o, q, z / 64, z % 64) && (decide ((ft (z / 64) (z % 64)).1 < 2) || o == z / 64) | _ => false)
  | .iaload => decide (a = .inl .iaload)
  | .baload => decide (a = .inl .baload) || decide (a = .inl .daload)
  | .caload => decide (a = .inl .caload)
  | .aaload => (match a with | .inl (.anewarray _) => true | _ => false)
  | .iastore => decide (a = .inl .iastore)
  | .bastore => decide (a = .inl .bastore) || decide (a = .inl .dastore)
  | .castore => decide (a = .inl .castore)
  | .arraylength => decide (a = .inl .arraylength)
  | _ => false
def mx_len (w : Instr) : Nat := match w with
  | .bipush _ => 2
  | .sipush _ => 3
  | .ldc _ => 2
  | .ldc_w _ => 3
  | .iload _ => 2
  | .lload _ => 2
  | .aload _ => 2
  | .istore _ => 2
  | .lstore _ => 2
  | .astore _ => 2
  | .iinc _ _ => 3
  | .getfield _ => 3
  | .putfield _ => 3
  | _ => 1
/-- the code from pc on is that row, up to pc' -/
def mx_blk (o : Nat) (cc : ByteArray) : Nat → List Ai → Nat → Bool
  | pc, [], pc' => pc == pc'
  | pc, a :: r, pc' => match decode cc pc with
    | .ok (w, len) => mx_ok o w a && (len == mx_len w) && mx_blk o cc (pc + len) r pc'
    | .error _ => false
