section MX
variable {p : Program} {l : Launch} {e : Env} {R : Room} {s : State} {m : MethodId} {args : Array Value} {below : List Frame} {meth : Method} {c : Code} {Q : State → Prop} {G : Gt} {md : Bool} {n0 nL o : Nat} {cc : ByteArray}
theorem mx_setL {L : Lv} {i nL : Nat} {v : Option Value} (h : L.length = nL) : (L.set i v).length = nL := by rw [List.length_set]; exact h
/-- one instruction -/
theorem mx_one {n pc len : Nat} {M : Mm} {L : Lv} {S : Sk} {w : Instr} {a : Ai} (C : mx_C p s m args meth c G md nL o cc) (hd : decode cc pc = .ok (w, len)) (hok : mx_ok o w a = true) (h : mx_i md a n M L S (fun n' M' L' S' => mx_X p l e R s m args below meth c Q G md n0 nL n' M' (pc + len) L' S')) : len = mx_len w → mx_X p l e R s m args below meth c Q G md n0 nL n M pc L S := by
  intro hlen
  obtain ⟨hx, hb, hml, ho, hts, hK, hini, hlk⟩ := id C
  cases w <;> first | exact Bool.noConfusion (show false = true from hok) | skip
  case iconst v =>
    simp only [mx_ok, decide_eq_true_eq] at hok
    subst hok
    subst hlen
    intro hL hn H locs ls hH hlo hls
    exact lv_iconst hx hb hd rfl (h hL hn H locs ls hH hlo hls)
  case bipush v =>
    simp only [mx_ok, decide_eq_true_eq] at hok
    subst hok
    subst hlen
    intro hL hn H locs ls hH hlo hls
    exact lv_bipush hx hb hd rfl (h hL hn H locs ls hH hlo hls)
  case sipush v =>
    simp only [mx_ok, decide_eq_true_eq] at hok
    subst hok
    subst hlen
    intro hL hn H locs ls hH hlo hls
    exact lv_sipush hx hb hd rfl (h hL hn H locs ls hH hlo hls)
  case lconst v =>
    simp only [mx_ok, decide_eq_true_eq] at hok
    subst hok
    subst hlen
    intro hL hn H locs ls hH hlo hls
    exact lv_lconst hx hb hd rfl (h hL hn H locs ls hH hlo hls)
  case aconst_null =>
    simp only [mx_ok, decide_eq_true_eq] at hok
    subst hok
    subst hlen
    intro hL hn H locs ls hH hlo hls
    exact lv_null hx hb hd (h hL hn H locs ls hH hlo hls)
  case ldc q =>
    simp only [mx_ok] at hok
    split at hok
    · rename_i v
      subst hlen
      have hq := List.contains_iff_mem.mp hok
      intro hL hn H locs ls hH hlo hls
      exact lv_ldc hx hb ho (hts _ (mx_ct_in _ hq)) hd (h hL hn H locs ls hH hlo hls)
    · cases hok
  case ldc_w q =>
    simp only [mx_ok] at hok
    split at hok
    · rename_i v
      subst hlen
      have hq := List.contains_iff_mem.mp hok
      intro hL hn H locs ls hH hlo hls
      exact lv_ldcw hx hb ho (hts _ (mx_ct_in _ hq)) hd (h hL hn H locs ls hH hlo hls)
    · cases hok
  case iload j =>
    simp only [mx_ok, decide_eq_true_eq] at hok
    subst hok
    subst hlen
    obtain ⟨v, h1, h2⟩ := mx_get_inv h
    cases v <;> first | exact h2.elim | skip
    intro hL hn H locs ls hH hlo hls
    exact lv_iload hx hb hd (mx_lat hls h1) (h2 hL hn H locs ls hH hlo hls)
  case iload_n j =>
    simp only [mx_ok, decide_eq_true_eq] at hok
    subst hok
    subst hlen
    obtain ⟨v, h1, h2⟩ := mx_get_inv h
    cases v <;> first | exact h2.elim | skip
    intro hL hn H locs ls hH hlo hls
    exact lv_iload_n hx hb hd rfl (mx_lat hls h1) (h2 hL hn H locs ls hH hlo hls)
  case lload j =>
    simp only [mx_ok, decide_eq_true_eq] at hok
    subst hok
    subst hlen
    obtain ⟨v, h1, h2⟩ := mx_get_inv h
    cases v <;> first | exact h2.elim | skip
    intro hL hn H locs ls hH hlo hls
    exact lv_lload hx hb hd (mx_lat hls h1) (h2 hL hn H locs ls hH hlo hls)
  case lload_n j =>
    simp only [mx_ok, decide_eq_true_eq] at hok
    subst hok
    subst hlen
    obtain ⟨v, h1, h2⟩ := mx_get_inv h
    cases v <;> first | exact h2.elim | skip
    intro hL hn H locs ls hH hlo hls
    exact lv_lload_n hx hb hd rfl (mx_lat hls h1) (h2 hL hn H locs ls hH hlo hls)
  case aload j =>
    simp only [mx_ok, decide_eq_true_eq] at hok
    subst hok
    subst hlen
    obtain ⟨v, h1, h2⟩ := mx_get_inv h
    cases v <;> first | exact h2.elim | skip
    · intro hL hn H locs ls hH hlo hls
      exact lv_aloadN hx hb hd (mx_lat hls h1) (h2 hL hn H locs ls hH hlo hls)
    · intro hL hn H locs ls hH hlo hls
      exact lv_aload hx hb hd (mx_lat hls h1) (h2 hL hn H locs ls hH hlo hls)
  case aload_n j =>
    simp only [mx_ok, decide_eq_true_eq] at hok
    subst hok
    subst hlen
    obtain ⟨v, h1, h2⟩ := mx_get_inv h
    cases v <;> first | exact h2.elim | skip
    · intro hL hn H locs ls hH hlo hls
      exact lv_aload_nN hx hb hd rfl (mx_lat hls h1) (h2 hL hn H locs ls hH hlo hls)
    · intro hL hn H locs ls hH hlo hls
      exact lv_aload_n hx hb hd rfl (mx_lat hls h1) (h2 hL hn H locs ls hH hlo hls)
  case istore j =>
    simp only [mx_ok, decide_eq_true_eq] at hok
    subst hok
    subst hlen
    obtain ⟨x, r, rfl, h⟩ := mx_p1_inv h
    obtain ⟨h1, h2, h3⟩ := mx_set_inv h
    intro hL hn H locs ls hH hlo hls
    exact lv_istore hx hb hd hls (by rw [← hL]; exact h1) rfl (fun ls2 hl2 => h3 (mx_setL hL) hn H locs ls2 hH hlo (mx_store1 (v := .int x) hl2 h2))
  case istore_n j =>
    simp only [mx_ok, decide_eq_true_eq] at hok
    subst hok
    subst hlen
    obtain ⟨x, r, rfl, h⟩ := mx_p1_inv h
    obtain ⟨h1, h2, h3⟩ := mx_set_inv h
    intro hL hn H locs ls hH hlo hls
    exact lv_istore_n hx hb hd rfl hls (by rw [← hL]; exact h1) rfl (fun ls2 hl2 => h3 (mx_setL hL) hn H locs ls2 hH hlo (mx_store1 (v := .int x) hl2 h2))
  case astore j =>
    simp only [mx_ok, decide_eq_true_eq] at hok
    subst hok
    subst hlen
    dsimp only [mx_i] at h
    split at h
    · rename_i x r
      obtain ⟨h1, h2, h3⟩ := mx_set_inv h
      intro hL hn H locs ls hH hlo hls
      exact lv_astore hx hb hd hls (by rw [← hL]; exact h1) rfl (fun ls2 hl2 => h3 (mx_setL hL) hn H locs ls2 hH hlo (mx_store1 (v := .ref x) hl2 h2))
    · rename_i r
      obtain ⟨h1, h2, h3⟩ := mx_set_inv h
      intro hL hn H locs ls hH hlo hls
      exact lv_astoreN hx hb hd hls (by rw [← hL]; exact h1) rfl (fun ls2 hl2 => h3 (mx_setL hL) hn H locs ls2 hH hlo (mx_store1 (v := .null) hl2 h2))
    · exact h.elim
  case astore_n j =>
    simp only [mx_ok, decide_eq_true_eq] at hok
    subst hok
    subst hlen
    dsimp only [mx_i] at h
    split at h
    · rename_i x r
      obtain ⟨h1, h2, h3⟩ := mx_set_inv h
      intro hL hn H locs ls hH hlo hls
      exact lv_astore_n hx hb hd rfl hls (by rw [← hL]; exact h1) rfl (fun ls2 hl2 => h3 (mx_setL hL) hn H locs ls2 hH hlo (mx_store1 (v := .ref x) hl2 h2))
    · rename_i r
      obtain ⟨h1, h2, h3⟩ := mx_set_inv h
      intro hL hn H locs ls hH hlo hls
      exact lv_astore_nN hx hb hd rfl hls (by rw [← hL]; exact h1) rfl (fun ls2 hl2 => h3 (mx_setL hL) hn H locs ls2 hH hlo (mx_store1 (v := .null) hl2 h2))
    · exact h.elim
  case lstore j =>
    simp only [mx_ok, decide_eq_true_eq] at hok
    subst hok
    subst hlen
    obtain ⟨x, r, rfl, h⟩ := mx_l1_inv h
    obtain ⟨-, g2, g3⟩ := mx_set_inv h
    obtain ⟨h1, -, h3⟩ := mx_set_inv g3
    obtain ⟨-, -, h6⟩ := mx_set_inv h3
    rw [List.length_set] at h1
    rw [List.set_comm _ _ (by omega), List.set_set, List.set_comm _ _ (by omega)] at h6
    intro hL hn H locs ls hH hlo hls
    exact lv_lstore hx hb hd hls (by rw [← hL]; exact h1) rfl (fun ls2 hl2 => h6 (mx_setL (mx_setL hL)) hn H locs ls2 hH hlo (mx_store2 (v := .long x) hl2 g2))
  case lstore_n j =>
    simp only [mx_ok, decide_eq_true_eq] at hok
    subst hok
    subst hlen
    obtain ⟨x, r, rfl, h⟩ := mx_l1_inv h
    obtain ⟨-, g2, g3⟩ := mx_set_inv h
    obtain ⟨h1, -, h3⟩ := mx_set_inv g3
    obtain ⟨-, -, h6⟩ := mx_set_inv h3
    rw [List.length_set] at h1
    rw [List.set_comm _ _ (by omega), List.set_set, List.set_comm _ _ (by omega)] at h6
    intro hL hn H locs ls hH hlo hls
    exact lv_lstore_n hx hb hd rfl hls (by rw [← hL]; exact h1) rfl (fun ls2 hl2 => h6 (mx_setL (mx_setL hL)) hn H locs ls2 hH hlo (mx_store2 (v := .long x) hl2 g2))
  case iinc j d =>
    simp only [mx_ok, decide_eq_true_eq] at hok
    subst hok
    subst hlen
    obtain ⟨v, h1, h2⟩ := mx_get_inv h
    cases v <;> first | exact h2.elim | skip
    rename_i x
    obtain ⟨h3, h4, h5⟩ := mx_set_inv h2
    intro hL hn H locs ls hH hlo hls
    obtain ⟨k, hk⟩ := List.getElem?_of_mem (mx_al_mem (G := G) L 0 j _ h1)
    rw [Nat.zero_add] at hk
    exact lv_iinc hx hb hd hls hk rfl (by rw [← hL]; exact h3) rfl (fun ls2 hl2 => h5 (mx_setL hL) hn H locs ls2 hH hlo (mx_store1 (v := .int (x + Int32.ofInt d)) hl2 h4))
  case iadd =>
    simp only [mx_ok, decide_eq_true_eq] at hok
    subst hok
    subst hlen
    obtain ⟨x, y, r, rfl, h⟩ := mx_p2_inv h
    intro hL hn H locs ls hH hlo hls
    exact lv_iadd hx hb hd (h hL hn H locs ls hH hlo hls)
  case isub =>
    simp only [mx_ok, decide_eq_true_eq] at hok
    subst hok
    subst hlen
    obtain ⟨x, y, r, rfl, h⟩ := mx_p2_inv h
    intro hL hn H locs ls hH hlo hls
    exact lv_isub hx hb hd (h hL hn H locs ls hH hlo hls)
  case imul =>
    simp only [mx_ok, decide_eq_true_eq] at hok
    subst hok
    subst hlen
    obtain ⟨x, y, r, rfl, h⟩ := mx_p2_inv h
    intro hL hn H locs ls hH hlo hls
    exact lv_imul hx hb hd (h hL hn H locs ls hH hlo hls)
  case iand =>
    simp only [mx_ok, decide_eq_true_eq] at hok
    subst hok
    subst hlen
    obtain ⟨x, y, r, rfl, h⟩ := mx_p2_inv h
    intro hL hn H locs ls hH hlo hls
    exact lv_iand hx hb hd (h hL hn H locs ls hH hlo hls)
  case ior =>
    simp only [mx_ok, decide_eq_true_eq] at hok
    subst hok
    subst hlen
    obtain ⟨x, y, r, rfl, h⟩ := mx_p2_inv h
    intro hL hn H locs ls hH hlo hls
    exact lv_ior hx hb hd (h hL hn H locs ls hH hlo hls)
  case ishl =>
    simp only [mx_ok, decide_eq_true_eq] at hok
    subst hok
    subst hlen
    obtain ⟨x, y, r, rfl, h⟩ := mx_p2_inv h
    intro hL hn H locs ls hH hlo hls
    exact lv_ishl hx hb hd (h hL hn H locs ls hH hlo hls)
  case ishr =>
    simp only [mx_ok, decide_eq_true_eq] at hok
    subst hok
    subst hlen
    obtain ⟨x, y, r, rfl, h⟩ := mx_p2_inv h
    intro hL hn H locs ls hH hlo hls
    exact lv_ishr hx hb hd (h hL hn H locs ls hH hlo hls)
  case iushr =>
    simp only [mx_ok, decide_eq_true_eq] at hok
    subst hok
    subst hlen
    obtain ⟨x, y, r, rfl, h⟩ := mx_p2_inv h
    intro hL hn H locs ls hH hlo hls
    exact lv_iushr hx hb hd rfl (h hL hn H locs ls hH hlo hls)
  case idiv =>
    simp only [mx_ok, decide_eq_true_eq] at hok
    subst hok
    subst hlen
    obtain ⟨x, y, r, rfl, h0, h⟩ := mx_p2_inv h
    intro hL hn H locs ls hH hlo hls
    exact lv_idiv hx hb hd h0 (h hL hn H locs ls hH hlo hls)
  case irem =>
    simp only [mx_ok, decide_eq_true_eq] at hok
    subst hok
    subst hlen
    obtain ⟨x, y, r, rfl, h0, h⟩ := mx_p2_inv h
    intro hL hn H locs ls hH hlo hls
    exact lv_irem hx hb hd h0 (h hL hn H locs ls hH hlo hls)
  case ineg =>
    simp only [mx_ok, decide_eq_true_eq] at hok
    subst hok
    subst hlen
    obtain ⟨x, r, rfl, h⟩ := mx_p1_inv h
    intro hL hn H locs ls hH hlo hls
    exact lv_ineg hx hb hd (h hL hn H locs ls hH hlo hls)
  case i2l =>
    simp only [mx_ok, decide_eq_true_eq] at hok
    subst hok
    subst hlen
    obtain ⟨x, r, rfl, h⟩ := mx_p1_inv h
    intro hL hn H locs ls hH hlo hls
    exact lv_i2l hx hb hd rfl (h hL hn H locs ls hH hlo hls)
  case i2b =>
    simp only [mx_ok, decide_eq_true_eq] at hok
    subst hok
    subst hlen
    obtain ⟨x, r, rfl, h⟩ := mx_p1_inv h
    intro hL hn H locs ls hH hlo hls
    exact lv_i2b hx hb hd rfl (h hL hn H locs ls hH hlo hls)
  case i2s =>
    simp only [mx_ok, decide_eq_true_eq] at hok
    subst hok
    subst hlen
    obtain ⟨x, r, rfl, h⟩ := mx_p1_inv h
    intro hL hn H locs ls hH hlo hls
    exact lv_i2s hx hb hd rfl (h hL hn H locs ls hH hlo hls)
  case i2c =>
    simp only [mx_ok, decide_eq_true_eq] at hok
    subst hok
    subst hlen
    obtain ⟨x, r, rfl, h⟩ := mx_p1_inv h
    intro hL hn H locs ls hH hlo hls
    exact lv_i2c hx hb hd rfl (h hL hn H locs ls hH hlo hls)
  case l2i =>
    simp only [mx_ok, decide_eq_true_eq] at hok
    subst hok
    subst hlen
    obtain ⟨x, r, rfl, h⟩ := mx_l1_inv h
    intro hL hn H locs ls hH hlo hls
    exact lv_l2i hx hb hd rfl (h hL hn H locs ls hH hlo hls)
  case lneg =>
    simp only [mx_ok, decide_eq_true_eq] at hok
    subst hok
    subst hlen
    obtain ⟨x, r, rfl, h⟩ := mx_l1_inv h
    intro hL hn H locs ls hH hlo hls
    exact lv_lneg hx hb hd (h hL hn H locs ls hH hlo hls)
  case ladd =>
    simp only [mx_ok, decide_eq_true_eq] at hok
    subst hok
    subst hlen
    obtain ⟨x, y, r, rfl, h⟩ := mx_l2_inv h
    intro hL hn H locs ls hH hlo hls
    exact lv_ladd hx hb hd (h hL hn H locs ls hH hlo hls)
  case lsub =>
    simp only [mx_ok, decide_eq_true_eq] at hok
    subst hok
    subst hlen
    obtain ⟨x, y, r, rfl, h⟩ := mx_l2_inv h
    intro hL hn H locs ls hH hlo hls
    exact lv_lsub hx hb hd (h hL hn H locs ls hH hlo hls)
  case lcmp =>
    simp only [mx_ok, decide_eq_true_eq] at hok
    subst hok
    subst hlen
    obtain ⟨x, y, r, rfl, h⟩ := mx_l2_inv h
    intro hL hn H locs ls hH hlo hls
    exact W.lcmp hx hb hd (h hL hn H locs ls hH hlo hls)
  case dup =>
    simp only [mx_ok, decide_eq_true_eq] at hok
    subst hok
    subst hlen
    dsimp only [mx_i] at h
    split at h
    · intro hL hn H locs ls hH hlo hls
      exact lv_dup hx hb hd rfl (h hL hn H locs ls hH hlo hls)
    · intro hL hn H locs ls hH hlo hls
      exact lv_dup hx hb hd rfl (h hL hn H locs ls hH hlo hls)
    · exact h.elim
  case dup2 =>
    simp only [mx_ok, decide_eq_true_eq] at hok
    subst hok
    subst hlen
    obtain ⟨k, i, r, rfl, h⟩ := mx_pa_inv h
    intro hL hn H locs ls hH hlo hls
    exact lv_dup2_11 hx hb hd rfl rfl (h hL hn H locs ls hH hlo hls)
  case pop =>
    simp only [mx_ok, decide_eq_true_eq] at hok
    subst hok
    subst hlen
    obtain ⟨x, r, rfl, h⟩ := mx_p1_inv h
    intro hL hn H locs ls hH hlo hls
    exact lv_pop hx hb hd rfl (h hL hn H locs ls hH hlo hls)
  case getfield q =>
    simp only [mx_ok] at hok
    split at hok
    · rename_i z
      subst hlen
      obtain ⟨k, r, rfl, h1, h2⟩ := mx_pr_inv h
      refine mx_getf C hd ?_ h1 h2
      rcases (Bool.or_eq_true _ _).mp hok with h3 | h3
      · exact Or.inl (List.contains_iff_mem.mp h3)
      · exact Or.inr (List.contains_iff_mem.mp h3)
    · cases hok
  case putfield q =>
    simp only [mx_ok] at hok
    split at hok
    · rename_i z
      subst hlen
      simp only [Bool.and_eq_true, Bool.or_eq_true, decide_eq_true_eq, beq_iff_eq] at hok
      have hq := List.contains_iff_mem.mp hok.1
      have hty := mx_tyq _ hq
      dsimp only at hty
      dsimp only [mx_i, mx_pf] at h
      split at h
      · rename_i x k r
        obtain ⟨h1, h2, h3, h4⟩ := h
        refine mx_putf C hd hq (Or.inl (by omega)) h1 (x := x) (mx_sv0 h2) h3 ?_ h4
        rcases hty.1 h2 with ht | ht
        · rw [ht]; rfl
        · rw [ht] at h3 ⊢
          rcases mx_bool h3 with rfl | rfl <;> rfl
      · rename_i t k r
        obtain ⟨h1, h2, h3, h4⟩ := h
        have hne : (ft (z / 64) (z % 64)).1 ≠ 0 := by omega
        have hr := mx_isr_ok (a := mx_ad G t) (hty.2 hne)
        refine mx_putf C hd hq ?_ h1 (x := nI t) ?_ hr.1 hr.2 h4
        · rcases hok.2 with h5 | h5
          · exact Or.inl h5
          · rcases h2 with h6 | h6
            · exact Or.inl (by omega)
            · exact Or.inr ⟨h5, h6.1⟩
        · have h31 : 0 < t := h3.1
          have h32 : t < 1000 := h3.2
          have h33 : t < 2 ^ 31 := Nat.lt_trans h32 (by decide)
          have ht : (nI t).toNatClampNeg = t := nI_clamp h33
          have h0 : ¬ nI t = 0 := nI_ne0 h31 h33
          have hv : mx_rv (nI t) = .ref t := by simp [mx_rv, h0, ht]
          cases md with
          | false =>
            exact mx_svN hne hv
          | true =>
            have h7 : (ft (z / 64) (z % 64)).1 = 1 := h2.resolve_right (fun h => by cases h.1)
            exact mx_sv1 h7 ht
      · exact h.elim
    · cases hok
  case iaload =>
    simp only [mx_ok, decide_eq_true_eq] at hok
    subst hok
    subst hlen
    obtain ⟨k, i, r, rfl, h1, h2, h3⟩ := mx_pa_inv h
    exact mx_iald C hd h1 h2 h3
  case caload =>
    simp only [mx_ok, decide_eq_true_eq] at hok
    subst hok
    subst hlen
    obtain ⟨k, i, r, rfl, h1, h2, h3⟩ := mx_pa_inv h
    exact mx_cald C hd h1 h2 h3
  case baload =>
    simp only [mx_ok, Bool.or_eq_true, decide_eq_true_eq] at hok
    subst hlen
    rcases hok with rfl | rfl
    · obtain ⟨k, i, r, rfl, h1, h2, h3⟩ := mx_pa_inv h
      exact mx_bald C hd h1 h2 h3
    · obtain ⟨k, i, r, rfl, h1, h2, h3⟩ := mx_pa_inv h
      exact mx_zald C hd h1 h2 h3
  case aaload =>
    simp only [mx_ok] at hok
    split at hok
    · rename_i c1
      subst hlen
      obtain ⟨k, i, r, rfl, h0, h1, h2, h3⟩ := mx_pa_inv h
      exact mx_aald C hd h0 h1 h2 h3
    · cases hok
  case iastore =>
    simp only [mx_ok, decide_eq_true_eq] at hok
    subst hok
    subst hlen
    obtain ⟨k, i, x, r, rfl, h1, h2, h3⟩ := mx_pb_inv h
    exact mx_iast C hd h1 h2 h3
  case castore =>
    simp only [mx_ok, decide_eq_true_eq] at hok
    subst hok
    subst hlen
    obtain ⟨k, i, x, r, rfl, h1, h2, h3⟩ := mx_pb_inv h
    exact mx_cast C hd h1 h2 h3
  case bastore =>
    simp only [mx_ok, Bool.or_eq_true, decide_eq_true_eq] at hok
    subst hlen
    rcases hok with rfl | rfl
    · obtain ⟨k, i, x, r, rfl, h1, h2, h3⟩ := mx_pb_inv h
      exact mx_bast C hd h1 h2 h3
    · obtain ⟨k, i, x, r, rfl, h1, h2, h3⟩ := mx_pb_inv h
      exact mx_zast C hd h1 h2 h3
  case arraylength =>
    simp only [mx_ok, decide_eq_true_eq] at hok
    subst hok
    subst hlen
    obtain ⟨k, r, rfl, h1, h2⟩ := mx_pr_inv h
    exact mx_alen C hd h1 h2
end MX
