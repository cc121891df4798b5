theorem mx_getm : ∀ {L : Lv} {i : Nat} {K1 K2 : Value → Prop}, (∀ v, K1 v → K2 v) → mx_get L i K1 → mx_get L i K2
  | [], _, _, _, _, h => h
  | a :: l, 0, K1, K2, hk, h => by
    cases a with
    | none => exact h
    | some v => exact hk v h
  | a :: l, i + 1, K1, K2, hk, h => mx_getm (L := l) (i := i) hk h
theorem mx_setm : ∀ {L : Lv} {i : Nat} {v : Option Value} {K1 K2 : Lv → Prop}, (∀ v, K1 v → K2 v) → mx_set L i v K1 → mx_set L i v K2
  | [], _, _, _, _, _, h => h
  | a :: l, 0, v, K1, K2, hk, h => hk _ h
  | a :: l, i + 1, v, K1, K2, hk, h => by
    have ih : mx_set l i v (fun l' => K1 (a :: l')) → mx_set l i v (fun l' => K2 (a :: l')) := mx_setm (L := l) (i := i) (fun l' => hk (a :: l'))
    unfold mx_set at h ⊢
    cases hb : mx_lg a with
    | false =>
      rw [hb] at h
      cases i <;> exact ih h
    | true =>
      rw [hb] at h
      cases i with
      | zero => exact h
      | succ i => exact ih h
theorem mx_imono {md : Bool} {a : Ai} {n : Nat} {M : Mm} {L : Lv} {S : Sk} {K1 K2 : Kt} (hk : ∀ n M L S, K1 n M L S → K2 n M L S) (h : mx_i md a n M L S K1) : mx_i md a n M L S K2 := by
  cases a with
  | inr v => exact hk _ _ _ _ h
  | inl w =>
    cases w <;> first | exact h.elim | skip
    case iload j =>
      refine mx_getm (fun v hv => ?_) h
      cases v <;> first | exact hk _ _ _ _ hv | exact hv.elim
    case lload j =>
      refine mx_getm (fun v hv => ?_) h
      cases v <;> first | exact hk _ _ _ _ hv | exact hv.elim
    case aload j =>
      refine mx_getm (fun v hv => ?_) h
      cases v <;> first | exact hk _ _ _ _ hv | exact hv.elim
    case istore j =>
      obtain ⟨x, r, rfl, h⟩ := mx_p1_inv h
      exact mx_setm (fun L1 h1 => hk _ _ _ _ h1) h
    case lstore j =>
      obtain ⟨x, r, rfl, h⟩ := mx_l1_inv h
      exact mx_setm (fun L0 h0 => mx_setm (fun L1 h1 => mx_setm (fun L2 h2 => hk _ _ _ _ h2) h1) h0) h
    case astore j =>
      dsimp only [mx_i] at h ⊢
      split at h
      · exact mx_setm (fun L1 h1 => hk _ _ _ _ h1) h
      · exact mx_setm (fun L1 h1 => hk _ _ _ _ h1) h
      · exact h.elim
    case iinc j d =>
      refine mx_getm (fun v hv => ?_) h
      cases v <;> first | exact mx_setm (fun L1 h1 => hk _ _ _ _ h1) hv | exact hv.elim
    case iadd =>
      obtain ⟨x, y, r, rfl, h⟩ := mx_p2_inv h
      exact hk _ _ _ _ h
    case isub =>
      obtain ⟨x, y, r, rfl, h⟩ := mx_p2_inv h
      exact hk _ _ _ _ h
    case imul =>
      obtain ⟨x, y, r, rfl, h⟩ := mx_p2_inv h
      exact hk _ _ _ _ h
    case iand =>
      obtain ⟨x, y, r, rfl, h⟩ := mx_p2_inv h
      exact hk _ _ _ _ h
    case ior =>
      obtain ⟨x, y, r, rfl, h⟩ := mx_p2_inv h
      exact hk _ _ _ _ h
    case ishl =>
      obtain ⟨x, y, r, rfl, h⟩ := mx_p2_inv h
      exact hk _ _ _ _ h
    case ishr =>
      obtain ⟨x, y, r, rfl, h⟩ := mx_p2_inv h
      exact hk _ _ _ _ h
    case iushr =>
      obtain ⟨x, y, r, rfl, h⟩ := mx_p2_inv h
      exact hk _ _ _ _ h
    case idiv =>
      obtain ⟨x, y, r, rfl, h0, h⟩ := mx_p2_inv h
      exact ⟨h0, hk _ _ _ _ h⟩
    case irem =>
      obtain ⟨x, y, r, rfl, h0, h⟩ := mx_p2_inv h
      exact ⟨h0, hk _ _ _ _ h⟩
    case ineg =>
      obtain ⟨x, r, rfl, h⟩ := mx_p1_inv h
      exact hk _ _ _ _ h
    case i2l =>
      obtain ⟨x, r, rfl, h⟩ := mx_p1_inv h
      exact hk _ _ _ _ h
    case i2b =>
      obtain ⟨x, r, rfl, h⟩ := mx_p1_inv h
      exact hk _ _ _ _ h
    case i2s =>
      obtain ⟨x, r, rfl, h⟩ := mx_p1_inv h
      exact hk _ _ _ _ h
    case i2c =>
      obtain ⟨x, r, rfl, h⟩ := mx_p1_inv h
      exact hk _ _ _ _ h
    case pop =>
      obtain ⟨x, r, rfl, h⟩ := mx_p1_inv h
      exact hk _ _ _ _ h
    case l2i =>
      obtain ⟨x, r, rfl, h⟩ := mx_l1_inv h
      exact hk _ _ _ _ h
    case lneg =>
      obtain ⟨x, r, rfl, h⟩ := mx_l1_inv h
      exact hk _ _ _ _ h
    case ladd =>
      obtain ⟨x, y, r, rfl, h⟩ := mx_l2_inv h
      exact hk _ _ _ _ h
    case lsub =>
      obtain ⟨x, y, r, rfl, h⟩ := mx_l2_inv h
      exact hk _ _ _ _ h
    case lcmp =>
      obtain ⟨x, y, r, rfl, h⟩ := mx_l2_inv h
      exact hk _ _ _ _ h
    case dup =>
      dsimp only [mx_i] at h ⊢
      split at h
      · exact hk _ _ _ _ h
      · exact hk _ _ _ _ h
      · exact h.elim
    case dup2 =>
      obtain ⟨k, i, r, rfl, h⟩ := mx_pa_inv h
      exact hk _ _ _ _ h
    case getfield q =>
      obtain ⟨k, r, rfl, h1, h⟩ := mx_pr_inv h
      exact ⟨h1, hk _ _ _ _ h⟩
    case arraylength =>
      obtain ⟨k, r, rfl, h1, h⟩ := mx_pr_inv h
      exact ⟨h1, hk _ _ _ _ h⟩
    case putfield q =>
      dsimp only [mx_i, mx_pf] at h ⊢
      split at h
      · exact ⟨h.1, h.2.1, h.2.2.1, hk _ _ _ _ h.2.2.2⟩
      · exact ⟨h.1, h.2.1, h.2.2.1, hk _ _ _ _ h.2.2.2⟩
      · exact h.elim
    case iaload =>
      obtain ⟨k, i, r, rfl, h1, h2, h⟩ := mx_pa_inv h
      exact ⟨h1, h2, hk _ _ _ _ h⟩
    case baload =>
      obtain ⟨k, i, r, rfl, h1, h2, h⟩ := mx_pa_inv h
      exact ⟨h1, h2, hk _ _ _ _ h⟩
    case caload =>
      obtain ⟨k, i, r, rfl, h1, h2, h⟩ := mx_pa_inv h
      exact ⟨h1, h2, hk _ _ _ _ h⟩
    case daload =>
      obtain ⟨k, i, r, rfl, h1, h2, h⟩ := mx_pa_inv h
      exact ⟨h1, h2, hk _ _ _ _ h⟩
    case anewarray c1 =>
      obtain ⟨k, i, r, rfl, h0, h1, h2, h⟩ := mx_pa_inv h
      exact ⟨h0, h1, h2, hk _ _ _ _ h⟩
    case iastore =>
      obtain ⟨k, i, x, r, rfl, h1, h2, h⟩ := mx_pb_inv h
      exact ⟨h1, h2, hk _ _ _ _ h⟩
    case bastore =>
      obtain ⟨k, i, x, r, rfl, h1, h2, h⟩ := mx_pb_inv h
      exact ⟨h1, h2, hk _ _ _ _ h⟩
    case castore =>
      obtain ⟨k, i, x, r, rfl, h1, h2, h⟩ := mx_pb_inv h
      exact ⟨h1, h2, hk _ _ _ _ h⟩
    case dastore =>
      obtain ⟨k, i, x, r, rfl, h1, h2, h⟩ := mx_pb_inv h
      exact ⟨h1, h2, hk _ _ _ _ h⟩
theorem mx_szs (n : Nat) : mx_sz (n + 1) = mx_sz n + (kd n).2 := by
  unfold mx_sz kd
  by_cases h : n < kdL.length
  · rw [List.take_add_one, List.getElem?_eq_getElem h, List.getD_eq_getElem?_getD, List.getElem?_eq_getElem h]
    simp only [List.map_append, Option.toList, List.map_cons, List.map_nil, List.sum_append, List.sum_cons, List.sum_nil, Option.getD_some, Nat.add_zero]
  · have h1 : kdL.length ≤ n := by omega
    rw [List.take_of_length_le (by omega), List.take_of_length_le h1, List.getD_eq_getElem?_getD, List.getElem?_eq_none h1]
    simp only [Option.getD_none, Nat.add_zero]
theorem mx_szm {a b : Nat} (h : a ≤ b) : mx_sz a ≤ mx_sz b := by
  induction b with
  | zero =>
    have : a = 0 := by omega
    rw [this]
    exact Nat.le_refl _
  | succ b ih =>
    by_cases e : a = b + 1
    · rw [e]
      exact Nat.le_refl _
    · rw [mx_szs]
      exact Nat.le_trans (ih (by omega)) (Nat.le_add_right _ _)
theorem mx_sw_inv {x : Int32} {d : Nat} {K : Nat → Prop} : ∀ {tb : List (Int32 × Nat)}, mx_sw x tb d K → (∃ (i : Nat) (t : Nat), tb[i]? = some (x, t) ∧ K t) ∨ ((∀ q ∈ tb, x ≠ q.1) ∧ K d)
  | [], h => Or.inr ⟨fun q hq => absurd hq List.not_mem_nil, h⟩
  | (v, t) :: r, h => by
    by_cases e : x = v
    · subst e
      exact Or.inl ⟨0, t, rfl, h.1 rfl⟩
    · rcases mx_sw_inv (h.2 e) with ⟨i, t2, h1, h2⟩ | ⟨h1, h2⟩
      · exact Or.inl ⟨i + 1, t2, by simpa using h1, h2⟩
      · exact Or.inr ⟨fun q hq => by
          rcases List.mem_cons.mp hq with rfl | hq
          · exact e
          · exact h1 q hq, h2⟩
section MX
variable {p : Program} {l : Launch} {e : Env} {R : Room} {s : State} {m : MethodId} {args : Array Value} {below : List Frame} {meth : Method} {c : Code} {Q : State → Prop} {G : Gt} {md : Bool} {n0 nL o : Nat} {cc : ByteArray}
theorem mx_blkS (C : mx_C p s m args meth c G md nL o cc) : ∀ (is : List Ai) (pc pc' n : Nat) (M : Mm) (L : Lv) (S : Sk), mx_blk o cc pc is pc' = true → mx_b md is n M L S (fun n' M' L' S' => mx_X p l e R s m args below meth c Q G md n0 nL n' M' pc' L' S') → mx_X p l e R s m args below meth c Q G md n0 nL n M pc L S
  | [], pc, pc', n, M, L, S, h, k => by
    simp only [mx_blk, beq_iff_eq] at h
    subst h
    exact k
  | a :: r, pc, pc', n, M, L, S, h, k => by
    unfold mx_blk at h
    split at h
    · rename_i w len hd
      simp only [Bool.and_eq_true, beq_iff_eq] at h
      obtain ⟨⟨h1, h2⟩, h3⟩ := h
      refine mx_one C hd h1 ?_ h2
      have mono : ∀ (K1 K2 : Kt), (∀ n M L S, K1 n M L S → K2 n M L S) → mx_i md a n M L S K1 → mx_i md a n M L S K2 := fun K1 K2 hk h => mx_imono hk h
      exact mono _ _ (fun n' M' L' S' hb => mx_blkS C r (pc + len) pc' n' M' L' S' h3 hb) k
    · cases h
theorem mx_jmpS {pc t n : Nat} {M : Mm} {L : Lv} {S : Sk} (C : mx_C p s m args meth c G md nL o cc) (h : mx_jmp cc pc t = true) (k : mx_X p l e R s m args below meth c Q G md n0 nL n M t L S) : mx_X p l e R s m args below meth c Q G md n0 nL n M pc L S := by
  intro hL hn H locs ls hH hlo hls
  obtain ⟨hx, hb, -⟩ := C
  unfold mx_jmp at h
  split at h
  · rename_i off len hd
    simp only [Bool.and_eq_true, beq_iff_eq, decide_eq_true_eq] at h
    obtain ⟨rfl, h2⟩ := h
    exact lv_goto hx hb hd h2 (k hL hn H locs ls hH hlo hls)
  · cases h
theorem mx_brS {pc t f n : Nat} {br : Instr} {M : Mm} {L : Lv} {S : Sk} (C : mx_C p s m args meth c G md nL o cc) (h : mx_brk cc pc br t f = true) (k : mx_br br S (fun r => mx_X p l e R s m args below meth c Q G md n0 nL n M t L r) (fun r => mx_X p l e R s m args below meth c Q G md n0 nL n M f L r)) : mx_X p l e R s m args below meth c Q G md n0 nL n M pc L S := by
  intro hL hn H locs ls hH hlo hls
  obtain ⟨hx, hb, -⟩ := C
  unfold mx_brk at h
  split at h
  · rename_i w len hd
    simp only [Bool.and_eq_true, beq_iff_eq, decide_eq_true_eq] at h
    obtain ⟨⟨⟨rfl, rfl⟩, rfl⟩, h4⟩ := h
    cases w <;> first | exact Bool.noConfusion (show false = true from h4) | skip
    case if_icmp cd off =>
      have h5 : (pc : Int) + off = (t : Int) := by simpa using h4
      cases cd <;> obtain ⟨x, y, r, rfl, k1, k2⟩ := mx_p2_inv k
      case eq => exact lv_icmp_eq hx hb hd h5 (fun q => k1 q hL hn H locs ls hH hlo hls) (fun q => k2 q hL hn H locs ls hH hlo hls)
      case ne => exact lv_icmp_ne hx hb hd h5 (fun q => k1 q hL hn H locs ls hH hlo hls) (fun q => k2 q hL hn H locs ls hH hlo hls)
      case lt => exact lv_icmp_lt hx hb hd h5 (fun q => k1 q hL hn H locs ls hH hlo hls) (fun q => k2 q hL hn H locs ls hH hlo hls)
      case ge => exact lv_icmp_ge hx hb hd h5 (fun q => k1 q hL hn H locs ls hH hlo hls) (fun q => k2 q hL hn H locs ls hH hlo hls)
      case gt => exact lv_icmp_gt hx hb hd h5 (fun q => k1 q hL hn H locs ls hH hlo hls) (fun q => k2 q hL hn H locs ls hH hlo hls)
      case le => exact lv_icmp_le hx hb hd h5 (fun q => k1 q hL hn H locs ls hH hlo hls) (fun q => k2 q hL hn H locs ls hH hlo hls)
    case ifCond cd off =>
      have h5 : (pc : Int) + off = (t : Int) := by simpa using h4
      cases cd <;> obtain ⟨x, r, rfl, k1, k2⟩ := mx_p1_inv k
      case eq => exact lv_if_eq hx hb hd h5 (fun q => k1 q hL hn H locs ls hH hlo hls) (fun q => k2 q hL hn H locs ls hH hlo hls)
      case ne => exact lv_if_ne hx hb hd h5 (fun q => k1 q hL hn H locs ls hH hlo hls) (fun q => k2 q hL hn H locs ls hH hlo hls)
      case lt => exact lv_if_lt hx hb hd h5 (fun q => k1 q hL hn H locs ls hH hlo hls) (fun q => k2 q hL hn H locs ls hH hlo hls)
      case ge => exact lv_if_ge hx hb hd h5 (fun q => k1 q hL hn H locs ls hH hlo hls) (fun q => k2 q hL hn H locs ls hH hlo hls)
      case gt => exact lv_if_gt hx hb hd h5 (fun q => k1 q hL hn H locs ls hH hlo hls) (fun q => k2 q hL hn H locs ls hH hlo hls)
      case le => exact lv_if_le hx hb hd h5 (fun q => k1 q hL hn H locs ls hH hlo hls) (fun q => k2 q hL hn H locs ls hH hlo hls)
    case ifnonnull off =>
      have h5 : (pc : Int) + off = (t : Int) := by simpa using h4
      dsimp only [mx_br] at k
      split at k
      · exact lv_ifnonnull hx hb hd h5 (k hL hn H locs ls hH hlo hls)
      · exact lv_ifnonnullN hx hb hd (k hL hn H locs ls hH hlo hls)
      · exact k.elim
  · cases h
theorem mx_lk {x : Int32} {pc d : Nat} {K : Nat → Prop} {dflt : Int} : ∀ {tb : List (Int32 × Nat)} {ps : List (Int × Int)}, tb.map (fun q => ((q.1.toInt : Int), (q.2 : Int) - (pc : Int))) = ps → (pc : Int) + dflt = (d : Int) → mx_sw x tb d K → ∃ t : Nat, (pc : Int) + Op.lookupswitch.offset ps dflt x.toInt = (t : Int) ∧ K t
  | [], ps, h, hd, k => by
    subst h
    exact ⟨d, hd, k⟩
  | (v, t) :: r, ps, h, hd, k => by
    subst h
    by_cases e : x = v
    · subst e
      refine ⟨t, ?_, k.1 rfl⟩
      rw [List.map_cons, Op.lookupswitch.offset_cons, if_pos rfl]
      omega
    · obtain ⟨t2, h1, h2⟩ := mx_lk (tb := r) rfl hd (k.2 e)
      refine ⟨t2, ?_, h2⟩
      rw [List.map_cons, lv_osw e rfl]
      exact h1
theorem mx_swS {pc d n : Nat} {tb : List (Int32 × Nat)} {M : Mm} {L : Lv} {S : Sk} (C : mx_C p s m args meth c G md nL o cc) (h : mx_swk cc pc tb d = true) (k : mx_p1 S (fun x r => mx_sw x tb d (fun t => mx_X p l e R s m args below meth c Q G md n0 nL n M t L r))) : mx_X p l e R s m args below meth c Q G md n0 nL n M pc L S := by
  obtain ⟨x, r, rfl, k⟩ := mx_p1_inv k
  obtain ⟨hx, hb, -⟩ := C
  unfold mx_swk at h
  split at h
  · rename_i dflt lo hi offs len hd
    simp only [Bool.and_eq_true, decide_eq_true_eq] at h
    obtain ⟨⟨h1, h2⟩, h3⟩ := h
    have at' : ∀ (i : Nat) (v : Int32) (t : Nat), tb[i]? = some (v, t) → i < offs.size ∧ ∃ off, offs[i]? = some off ∧ v.toInt = lo + (i : Int) ∧ (pc : Int) + off = (t : Int) := by
      intro i v t hi
      have e1 : (tb.map (fun q => ((q.1.toInt : Int), (q.2 : Int) - (pc : Int))))[i]? = some (v.toInt, (t : Int) - (pc : Int)) := by rw [List.getElem?_map, hi]; rfl
      rw [h2, List.getElem?_map] at e1
      have e2 : (offs.toList.zipIdx)[i]? = offs.toList[i]?.map (fun a => (a, i)) := by
        rw [List.getElem?_zipIdx]
        simp
      rw [e2] at e1
      cases ho : offs.toList[i]? with
      | none => rw [ho] at e1; cases e1
      | some off =>
        rw [ho] at e1
        simp at e1
        have hlt : i < offs.toList.length := (List.getElem?_eq_some_iff.mp ho).1
        exact ⟨by simpa using hlt, off, by rw [← Array.getElem?_toList]; exact ho, e1.1.symm, by omega⟩
    rcases mx_sw_inv k with ⟨i, t, hi, k⟩ | ⟨hn, k⟩
    · obtain ⟨h4, off, h5, h6, h7⟩ := at' i x t hi
      intro hL hn H locs ls hH hlo hls
      refine lv_tableIn hx hb hd (by omega) (by omega) (off := off) (tgt := t) ?_ h7 (k hL hn H locs ls hH hlo hls)
      rw [show (x.toInt - lo).toNat = i by omega]
      exact h5
    · intro hL hn' H locs ls hH hlo hls
      refine lv_tableOut hx hb hd ?_ h1 (k hL hn' H locs ls hH hlo hls)
      apply Classical.byContradiction
      intro hc
      have hlen : tb.length = offs.size := by
        have := congrArg List.length h2
        simpa using this
      have hlt : (x.toInt - lo).toNat < tb.length := by omega
      obtain ⟨-, off, -, h6, -⟩ := at' (x.toInt - lo).toNat tb[(x.toInt - lo).toNat].1 tb[(x.toInt - lo).toNat].2 (List.getElem?_eq_getElem hlt)
      refine hn _ (List.getElem_mem hlt) (Int32.toInt_inj.mp ?_)
      rw [h6]
      omega
  · rename_i dflt ps len hd
    simp only [Bool.and_eq_true, decide_eq_true_eq] at h
    obtain ⟨⟨h1, h2⟩, h3⟩ := h
    obtain ⟨t, h4, k⟩ := mx_lk h2 h1 k
    intro hL hn H locs ls hH hlo hls
    exact lv_lookup hx hb hd h3 rfl h4 (k hL hn H locs ls hH hlo hls)
  · cases h
end MX
