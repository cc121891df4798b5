/-! String constants of the class: length, charAt, indexOf -/
def dm_J0_checkIndex : Md := (yJ0_checkIndex_df160, cJ0_checkIndex_df160, 2, none, 10)
def dm_J3_checkIndex : Md := (yJ3_checkIndex_8e157, cJ3_checkIndex_8e157, 3, some .int, 0)
theorem md_J0_checkIndex : mx_D dm_J0_checkIndex 2 := ⟨mx_gw (i := 646) (by decide +kernel), mx_gw (i := 65) (by decide +kernel), by decide +kernel, by decide⟩
theorem md_J3_checkIndex : mx_D dm_J3_checkIndex 3 := ⟨mx_gw (i := 651) (by decide +kernel), mx_gw (i := 67) (by decide +kernel), by decide +kernel, by decide⟩
theorem kc_J1_charAt_3b067_3 : mx_kS dm_J1_charAt_3b067 3 dm_J0_checkIndex 2 := ⟨9, by decide +kernel, md_J0_checkIndex, Or.inl ⟨mx_gw (i := 644) (by decide +kernel), mx_gw (i := 645) (by decide +kernel)⟩⟩
theorem ow_J0_checkIndex : mx_own dm_J0_checkIndex := ⟨by decide +kernel, by decide +kernel⟩
theorem ci3_0 : decode cJ3_checkIndex_8e157 0 = .ok (.iload_n 0, 1) := by decide +kernel
theorem ci3_1 : decode cJ3_checkIndex_8e157 1 = .ok (.ifCond .lt 8, 3) := by decide +kernel
theorem ci3_4 : decode cJ3_checkIndex_8e157 4 = .ok (.iload_n 0, 1) := by decide +kernel
theorem ci3_5 : decode cJ3_checkIndex_8e157 5 = .ok (.iload_n 1, 1) := by decide +kernel
theorem ci3_6 : decode cJ3_checkIndex_8e157 6 = .ok (.if_icmp .lt 10, 3) := by decide +kernel
theorem ci3_16 : decode cJ3_checkIndex_8e157 16 = .ok (.iload_n 0, 1) := by decide +kernel
theorem ci3_17 : decode cJ3_checkIndex_8e157 17 = .ok (.ireturn, 1) := by decide +kernel
theorem ci0_2 : decode cJ0_checkIndex_df160 2 = .ok (.getstatic 1053, 3) := by decide +kernel
theorem ci0_5 : decode cJ0_checkIndex_df160 5 = .ok (.invokestatic 1059, 3) := by decide +kernel
theorem bk_J0_checkIndex_0 : mx_blk 10 cJ0_checkIndex_df160 0 [.inl (.iload 0), .inl (.iload 1)] 2 = true := by decide +kernel
theorem bk_J0_checkIndex_8 : mx_blk 10 cJ0_checkIndex_df160 8 [.inl .pop] 9 = true := by decide +kernel
theorem rt_J0_checkIndex_9 : mx_kv dm_J0_checkIndex 9 := ⟨by decide +kernel, rfl⟩
/-- Preconditions.checkIndex, with anything as its third -/
theorem c_J3_checkIndex {l : Launch} {G : Gt} {md : Bool} {d n : Nat} {M : Mm} {x y : Int32} {v : Value} (hv : v = .null ∨ ∃ a, v = .ref a) (h0 : ¬ x < 0) (h1 : x < y) : Met l yJ3_checkIndex_8e157 (mx_wT dm_J3_checkIndex) (mx_rm d n n) (va_Pc [.int x, .int y, v] (fun U => mx_H G md n M U.heap ∧ mx_K G U)) (fun _ _ oc t => ∃ (v : Option Value) (M' : Mm), oc = .returned (v.map (mx_cv G)) ∧ (v = some (.int x) ∧ M' = M) ∧ mx_H G md n M' t.heap) (n - n) (mx_sz n - mx_sz n) (mx_A G) := by
  refine Met.ofW (cc := cJ3_checkIndex_8e157) (maxL := 3) (ret := some .int) (by decide) rfl ?_
  intro p e s m args below meth c s₁ B hml hv1
  obtain ⟨rfl, hH, hK⟩ := hv1
  have hx := B.exec
  have hb := B.bytes
  have hr := B.returns
  have hlocks := B.notSynchronized
  have hcat : v.category = 1 := by rcases hv with rfl | ⟨a, rfl⟩ <;> rfl
  have hl := lv_entry ([.int x, .int y, v]) (n := 3) (by
    rw [mx_sl _ (fun w hw => by
      rcases List.mem_cons.mp hw with rfl | hw
      · rfl
      · rcases List.mem_cons.mp hw with rfl | hw
        · rfl
        · rcases List.mem_cons.mp hw with rfl | hw
          · exact hcat
          · exact absurd hw List.not_mem_nil)]
    exact Nat.le_refl 3)
  rw [lg_entry_eq]
  generalize (lg_sl ([.int x, .int y, v]) ++ List.replicate (3 - (lg_sl ([.int x, .int y, v])).length) Slot.unset).toArray = ls at hl ⊢
  have hl2 : lv_has ls 3 [(0, .int x), (1, .int y), (2, v)] := hl
  rw [Nat.sub_self, Nat.sub_self]
  refine lv_iload_n hx hb ci3_0 rfl (lv_at hl2 0 rfl) ?_
  refine lv_if_lt hx hb ci3_1 (tgt := 9) rfl (fun q => absurd q h0) (fun _ => ?_)
  refine lv_iload_n hx hb ci3_4 rfl (lv_at hl2 0 rfl) ?_
  refine lv_iload_n hx hb ci3_5 rfl (lv_at hl2 1 rfl) ?_
  refine lv_icmp_lt hx hb ci3_6 (tgt := 16) rfl (fun _ => ?_) (fun q => absurd h1 q)
  refine lv_iload_n hx hb ci3_16 rfl (lv_at hl2 0 rfl) ?_
  exact W.zret hx hb hr rfl (fun t ht _ => ⟨some (.int x), M, rfl, ⟨rfl, rfl⟩, by rw [ht]; exact hH⟩) (fun q hq => absurd hq List.not_mem_nil) ci3_17 hlocks
section MX
variable {p : Program} {l : Launch} {e : Env} {s : State} {m : MethodId} {args : Array Value} {below : List Frame} {meth : Method} {c : Code} {Q : State → Prop} {G : Gt} {md : Bool} {n0 nL : Nat}
theorem mx_ciS {d nE n : Nat} {M : Mm} {L : Lv} {x y : Int32} (C : mx_C p s m args meth c G md nL 10 cJ0_checkIndex_df160) (h0 : ¬ x < 0) (h1 : x < y) (hk : 0 < d) (hnE : n ≤ nE) (K : mx_X p l e (mx_rm d n0 nE) s m args below meth c Q G md n0 nL n M 8 L [.int x]) : mx_X p l e (mx_rm d n0 nE) s m args below meth c Q G md n0 nL n M 2 L [.int y, .int x] := by
  intro hL hn H locs ls hH hlo hls
  obtain ⟨hx, hb, hml, ho, hts, hK, hrest⟩ := id C
  obtain ⟨v, hv, hZ⟩ := hK.2.2.2.2.2.2.2
  obtain ⟨cf, kf, fi, f, a, cell, z1, z2, z3, z4, z5, z6, z7, z8⟩ := hZ.kept (mx_old hH)
  refine W.gets hx hb ho (hts (Cond.fieldLink RJ0 1053 "jdk/internal/util/Preconditions" "SIOOBE_FORMATTER" "Ljava/util/function/BiFunction;") (mx_gw (i := 647) (by decide +kernel))) z1 z2 z3 z4 z5 (fun e => by rw [e] at z6; cases z6) z7 rfl ci0_2 ?_
  have hE := md_J3_checkIndex
  have hpre : PreS s H (va_Pc [.int x, .int y, v] (fun U => mx_H G md n M U.heap ∧ mx_K G U)) [.int x, .int y, v] := ⟨fun a U g mk q => ⟨q.1, q.2.1, q.2.2.calling⟩, fun U hU hW => ⟨rfl, by rw [hU]; exact hH, hK.warm hW⟩⟩
  have hcB := mx_callB (n0 := n0) (n := n) (n' := n) (nE := nE) (na := 3) (o := 10) (E := dm_J3_checkIndex) (i := 1059) hts hE hk (mx_gw (i := 649) (by decide +kernel))
  refine mx_behind (PE := fun v M' => v = some (.int x) ∧ M' = M) (r := []) (pc := 5) (S := [v, .int y, .int x]) (a := #[]) hL hn (Nat.le_refl n) hlo hls (va_runS (As := [.int x, .int y, v]) (rest := []) ⟨hx, hb, hml, ho, hts⟩ (c_J3_checkIndex (d := d - 1) hv h0 h1) ⟨hcB, hts _ (mx_gw (i := 650) (by decide +kernel))⟩ hpre rfl rfl hls.1 rfl (lv_room (by decide)) ci0_5 (mx_fit hn (Nat.le_refl n) hnE)) ?_
  rintro v' M' ⟨rfl, rfl⟩
  exact K
end MX
theorem c_J0_checkIndex {l : Launch} {G : Gt} {M : Mm} {x y : Int32} (h0 : ¬ x < 0) (h1 : x < y) : Runs l G true dm_J0_checkIndex 1 127 [.int x, .int y] M 127 (Pv (fun M1 => M1 = M)) := by
  intro d hd
  unfold Rn
  refine Met.ofW (cc := cJ0_checkIndex_df160) (maxL := 2) (ret := none) ow_J0_checkIndex.1 rfl ?_
  intro p e s m args below meth c s₁ B hml hv
  obtain ⟨rfl, hH, hK⟩ := hv
  have hts0 := atoms_spec (ws := mx_wT dm_J0_checkIndex) B.pre
  have hown : s.vm.findClass dm_J0_checkIndex.1.cls = some m.cls := findClass_of_methodNamed B.named
  have C : mx_C p s m ([Value.int x, .int y].toArray) meth c G true 2 10 cJ0_checkIndex_df160 := ⟨B.exec, B.bytes, hml, by rw [show mx_rc 10 = dm_J0_checkIndex.1.cls from ow_J0_checkIndex.2]; exact hown, fun w hw => hts0 w (List.mem_cons_of_mem _ hw), hK, fun h => (by cases h), B.notSynchronized⟩
  have R := mx_sound (D := dm_J0_checkIndex) (l := l) (e := e) (below := below) (n0 := 127) (d := d) (nE := 127) (P := Pv (fun M1 => M1 = M)) (Qc := fun _ _ oc t => ∃ (v : Option Value) (M' : Mm), oc = .returned (v.map (mx_cv G)) ∧ (Pv (fun M1 => M1 = M)) v M' ∧ mx_H G true 127 M' t.heap) C B.returns (fun v' M2 t hP hH' => ⟨v', M2, rfl, hP, hH'⟩)
  have hl := lv_entry ([Value.int x, .int y]) (n := 2) (Nat.le_of_ble_eq_true rfl)
  rw [lg_entry_eq]
  have h := R.b (n := 127) (M := M) (L := [some (.int x), some (.int y)]) (S := []) bk_J0_checkIndex_0 (mx_ciS C h0 h1 (by omega) (Nat.le_refl _) (R.b bk_J0_checkIndex_8 (R.rv rt_J0_checkIndex_9 ⟨rfl, rfl⟩)))
  have h2 := h rfl (Nat.le_refl _) s.heap [] _ hH (fun q hq => absurd hq List.not_mem_nil) hl
  rw [Nat.sub_self, Nat.sub_self] at h2 ⊢
  exact h2
def s_len (j : Nat) : Nat := mx_sl_.getD j 0
def s_at (j i : Nat) : Int32 := (mx_sb.getD j []).getD i 0
theorem s_len_le (j : Nat) : s_len j ≤ 5 := by
  unfold s_len
  by_cases h : j < 6
  · have h2 : ∀ j, j < 6 → mx_sl_.getD j 0 ≤ 5 := by decide
    exact h2 j h
  · rw [List.getD_eq_getElem?_getD, List.getElem?_eq_none (by simp [mx_sl_]; omega)]
    simp
theorem s_at_ok {j i : Nat} (hj : j < 6) (hi : i < s_len j) : ∃ b, 97 ≤ b ∧ b ≤ 122 ∧ s_at j i = nI b := by
  have h2 : ∀ j, j < 6 → ∀ i, i < 5 → i < s_len j → 97 ≤ (s_at j i).toNatClampNeg ∧ (s_at j i).toNatClampNeg ≤ 122 ∧ s_at j i = nI (s_at j i).toNatClampNeg := by decide +kernel
  have := s_len_le j
  exact ⟨_, h2 j hj i (by omega) hi⟩
theorem c_J0_coder_7d493 {l : Launch} {G : Gt} {M : Mm} {j : Nat} (hj : j < 6) : Runs l G true dm_J0_coder_7d493 1 127 [.ref (1001 + j)] M 127 (Pi (fun r M1 => r = 0 ∧ M1 = M)) := by
  refine mx_run ow_J0_coder_7d493 rfl rfl (fun dp X hdp R => ?_)
  refine R.o dd_J0_coder_7d493_0 (Or.inr (Or.inr (Or.inr (Or.inr (Or.inr (Or.inr (Or.inr (Or.inr (Or.inr (Or.inr (Or.inr ⟨_, rfl, rfl, (by decide +kernel), rfl⟩))))))))))) (by omega) (Nat.le_refl _) ?_
  refine R.c br_J0_coder_7d493_3 (And.intro (fun h3 => absurd h3 (by decide)) (fun h3 => ?_))
  refine R.b bk_J0_coder_7d493_6 ?_
  refine R.o dd_J0_coder_7d493_7 (Or.inr (Or.inr (Or.inr (Or.inr (Or.inr (Or.inr (Or.inr (Or.inr (Or.inl ⟨_, j, _, rfl, rfl, (by decide +kernel), hj, rfl, rfl⟩))))))))) (by omega) (Nat.le_refl _) ?_
  refine R.j gt_J0_coder_7d493_10 ?_
  refine R.ri rt_J0_coder_7d493_14 rfl ⟨_, rfl, ?_⟩
  exact ⟨rfl, rfl⟩
theorem c_J0_isLatin1_aae02 {l : Launch} {G : Gt} {M : Mm} {j : Nat} (hj : j < 6) : Runs l G true dm_J0_isLatin1_aae02 1 127 [.ref (1001 + j)] M 127 (Pi (fun r M1 => r = 1 ∧ M1 = M)) := by
  refine mx_run ow_J0_isLatin1_aae02 rfl rfl (fun dp X hdp R => ?_)
  refine R.o dd_J0_isLatin1_aae02_0 (Or.inr (Or.inr (Or.inr (Or.inr (Or.inr (Or.inr (Or.inr (Or.inr (Or.inr (Or.inr (Or.inr ⟨_, rfl, rfl, (by decide +kernel), rfl⟩))))))))))) (by omega) (Nat.le_refl _) ?_
  refine R.c br_J0_isLatin1_aae02_3 (And.intro (fun h3 => absurd h3 (by decide)) (fun h3 => ?_))
  refine R.b bk_J0_isLatin1_aae02_6 ?_
  refine R.o dd_J0_isLatin1_aae02_7 (Or.inr (Or.inr (Or.inr (Or.inr (Or.inr (Or.inr (Or.inr (Or.inr (Or.inl ⟨_, j, _, rfl, rfl, (by decide +kernel), hj, rfl, rfl⟩))))))))) (by omega) (Nat.le_refl _) ?_
  refine R.c br_J0_isLatin1_aae02_10 (And.intro (fun h10 => absurd rfl h10) (fun h10 => ?_))
  refine R.b bk_J0_isLatin1_aae02_13 ?_
  refine R.j gt_J0_isLatin1_aae02_14 ?_
  refine R.ri rt_J0_isLatin1_aae02_18 rfl ⟨_, rfl, ?_⟩
  exact ⟨rfl, rfl⟩
theorem c_J0_length_8abf5 {l : Launch} {G : Gt} {M : Mm} {j : Nat} (hj : j < 6) : Runs l G true dm_J0_length_8abf5 2 127 [.ref (1001 + j)] M 127 (Pi (fun r M1 => r = nI (s_len j) ∧ M1 = M)) := by
  refine mx_run ow_J0_length_8abf5 rfl rfl (fun dp X hdp R => ?_)
  refine R.b bk_J0_length_8abf5_0 ?_
  refine R.o dd_J0_length_8abf5_1 (Or.inr (Or.inr (Or.inr (Or.inr (Or.inr (Or.inr (Or.inr (Or.inl ⟨_, j, _, rfl, rfl, (by decide +kernel), hj, rfl, rfl⟩)))))))) (by omega) (Nat.le_refl _) ?_
  refine R.o dd_J0_length_8abf5_4 (Or.inr (Or.inr (Or.inr (Or.inr (Or.inr (Or.inr (Or.inr (Or.inr (Or.inr (Or.inl ⟨j, _, rfl, rfl, hj, rfl, rfl⟩)))))))))) (by omega) (Nat.le_refl _) ?_
  refine R.b bk_J0_length_8abf5_5 ?_
  refine R.T0i kc_J0_length_8abf5_6 hj (c_J0_coder_7d493 hj) (by omega) rfl (Nat.le_refl _) (fun x6 M6 q6 => ?_)
  obtain ⟨rfl, q6⟩ := q6
  replace q6 := q6.symm
  subst q6
  refine R.b bk_J0_length_8abf5_9 ?_
  refine R.ri rt_J0_length_8abf5_10 rfl ⟨_, rfl, ?_⟩
  refine ⟨?_, rfl⟩
  show nI (s_len j) >>> ((0 : Int32) &&& 31) = nI (s_len j)
  exact pk_shrN (by have := s_len_le j; omega) _ 0 (by decide) |>.trans (by simp)
theorem kd_J1 : True := trivial
theorem c_J1_charAt_3b067 {l : Launch} {G : Gt} {M : Mm} {j : Nat} (hj : j < 6) {i : Nat} (hi : i < s_len j) : Runs l G true dm_J1_charAt_3b067 2 127 [.ref (1011 + j), .int (nI i)] M 127 (Pi (fun r M1 => r = s_at j i ∧ M1 = M)) := by
  refine mx_run ow_J1_charAt_3b067 rfl rfl (fun dp X hdp R => ?_)
  refine R.b bk_J1_charAt_3b067_0 ?_
  refine R.o dd_J1_charAt_3b067_2 (Or.inr (Or.inr (Or.inr (Or.inr (Or.inr (Or.inr (Or.inr (Or.inr (Or.inr (Or.inl ⟨j, _, rfl, rfl, hj, rfl, rfl⟩)))))))))) (by omega) (Nat.le_refl _) ?_
  refine R.S2v kc_J1_charAt_3b067_3 (c_J0_checkIndex (nI_pos (by have := s_len_le j; omega)) (nI_lt hi (show s_len j < 2 ^ 31 by have := s_len_le j; omega))) (by omega) rfl ⟨Nat.le_refl _, Nat.le_refl _⟩ (fun M3 q3 => ?_)
  replace q3 := q3.symm
  subst q3
  refine R.b bk_J1_charAt_3b067_6 ?_
  refine R.o dd_J1_charAt_3b067_8 (Or.inr (Or.inr (Or.inr (Or.inr (Or.inr (Or.inr (Or.inr (Or.inr (Or.inr (Or.inr (Or.inl ⟨j, _, _, rfl, rfl, hj, vp_in_nI hi (show s_len j < 2 ^ 31 by have := s_len_le j; omega), rfl, rfl⟩))))))))))) (by omega) (Nat.le_refl _) ?_
  refine R.b bk_J1_charAt_3b067_9 ?_
  refine R.ri rt_J1_charAt_3b067_14 (pk_nc _) ⟨_, rfl, ?_⟩
  refine ⟨?_, rfl⟩
  obtain ⟨b, hb1, hb2, hb⟩ := s_at_ok hj hi
  have e : (mx_sb.getD j []).getD (nI i).toNatClampNeg 0 = nI b := by
    rw [nI_clamp (by have := s_len_le j; omega)]
    exact hb
  rw [e, hb, pk_andN (by omega) 8 (by decide), pk_char, pk_tn (by omega)]
  congr 1
  omega
theorem c_J0_charAt_5068e {l : Launch} {G : Gt} {M : Mm} {j : Nat} (hj : j < 6) {i : Nat} (hi : i < s_len j) : Runs l G true dm_J0_charAt_5068e 3 127 [.ref (1001 + j), .int (nI i)] M 127 (Pi (fun r M1 => r = s_at j i ∧ M1 = M)) := by
  refine mx_run ow_J0_charAt_5068e rfl rfl (fun dp X hdp R => ?_)
  refine R.b bk_J0_charAt_5068e_0 ?_
  refine R.T0i kc_J0_charAt_5068e_1 hj (c_J0_isLatin1_aae02 hj) (by omega) rfl (Nat.le_refl _) (fun x1 M1 q1 => ?_)
  obtain ⟨rfl, q1⟩ := q1
  replace q1 := q1.symm
  subst q1
  refine R.c br_J0_charAt_5068e_4 (And.intro (fun h4 => absurd h4 (by decide)) (fun h4 => ?_))
  refine R.b bk_J0_charAt_5068e_7 ?_
  refine R.o dd_J0_charAt_5068e_8 (Or.inr (Or.inr (Or.inr (Or.inr (Or.inr (Or.inr (Or.inr (Or.inl ⟨_, j, _, rfl, rfl, (by decide +kernel), hj, rfl, rfl⟩)))))))) (by omega) (Nat.le_refl _) ?_
  refine R.b bk_J0_charAt_5068e_11 ?_
  refine R.S2i kc_J0_charAt_5068e_12 (c_J1_charAt_3b067 hj hi) (by omega) rfl ⟨Nat.le_refl _, Nat.le_refl _⟩ (fun x12 M12 q12 => ?_)
  obtain ⟨rfl, q12⟩ := q12
  replace q12 := q12.symm
  subst q12
  refine R.ri rt_J0_charAt_5068e_15 (by obtain ⟨b, hb1, hb2, hb⟩ := s_at_ok hj hi; rw [hb]; exact (pk_charN (by omega)).1) ⟨_, rfl, ?_⟩
  exact ⟨rfl, rfl⟩
theorem c_J1_canEncode_9a6ad {l : Launch} {G : Gt} {M : Mm} {b : Nat} (hb : b < 256) : Runs l G true dm_J1_canEncode_9a6ad 0 127 [.int (nI b)] M 127 (Pi (fun r M1 => r = 1 ∧ M1 = M)) := by
  refine mx_run ow_J1_canEncode_9a6ad rfl rfl (fun dp X hdp R => ?_)
  refine R.b bk_J1_canEncode_9a6ad_0 ?_
  refine R.c br_J1_canEncode_9a6ad_1 (And.intro (fun h1 => absurd h1 (nI_pos (by omega))) (fun h1 => ?_))
  refine R.b bk_J1_canEncode_9a6ad_4 ?_
  refine R.c br_J1_canEncode_9a6ad_8 (And.intro (fun h8 => absurd h8 (nI_nlt (a := 255) (by omega) (by decide))) (fun h8 => ?_))
  refine R.b bk_J1_canEncode_9a6ad_11 ?_
  refine R.j gt_J1_canEncode_9a6ad_12 ?_
  refine R.ri rt_J1_canEncode_9a6ad_16 rfl ⟨_, rfl, ?_⟩
  exact ⟨rfl, rfl⟩
/-- the place of a letter in a text, from i on -/
def s_ix (j : Nat) (b : Int32) : Nat → Nat → Int32
  | 0, _ => -1
  | f + 1, i => if s_at j i = b then nI i else s_ix j b f (i + 1)
theorem i8_low {b : Nat} (hb : b < 128) : (nI b).toInt8.toInt32 = nI b := by
  have h : ∀ b, b < 128 → (nI b).toInt8.toInt32 = nI b := by decide +kernel
  exact h b hb
theorem i8_high {b : Nat} (hb : b < 256) (h : 128 ≤ b) : (nI b).toInt8.toInt32 < 0 := by
  have h2 : ∀ b, b < 256 → 128 ≤ b → (nI b).toInt8.toInt32 < 0 := by decide +kernel
  exact h2 b hb h
theorem i8_eq {j i b : Nat} (hj : j < 6) (hi : i < s_len j) (hb : b < 256) : (s_at j i = (nI b).toInt8.toInt32) ↔ s_at j i = nI b := by
  obtain ⟨a, h1, h2, h3⟩ := s_at_ok hj hi
  rw [h3]
  by_cases h : b < 128
  · rw [i8_low h]
  · have hn := i8_high hb (by omega)
    refine ⟨fun e => ?_, fun e => ?_⟩
    · rw [← e] at hn
      exact absurd hn (nI_pos (by omega))
    · have := (nI_eq (by omega) (by omega)).mp e
      omega
theorem c_J1_indexOfChar_4cfef {l : Launch} {G : Gt} {M : Mm} {j : Nat} (hj : j < 6) {b : Nat} (hb : b < 256) : Runs l G true dm_J1_indexOfChar_4cfef 1 127 [.ref (1011 + j), .int (nI b), .int 0, .int (nI (s_len j))] M 127 (Pi (fun r M1 => r = s_ix j (nI b) (s_len j) 0 ∧ M1 = M)) := by
  refine mx_run ow_J1_indexOfChar_4cfef rfl rfl (fun dp X hdp R => ?_)
  have hl5 := s_len_le j
  have hA : ∀ (fu i : Nat) , (s_len j) - i = fu → i ≤ (s_len j) → (s_ix j (nI b) (s_len j) 0 = s_ix j (nI b) (s_len j - i) i) → X 127 M 7 [some (.ref (1011 + j)), some (.int (nI b)), some (.int 0), some (.int (nI (s_len j))), some (.int (nI b).toInt8.toInt32), some (.int (nI i))] [] := by
    intro fu
    induction fu with
    | zero =>
      intro i  hfu hi hI1
      have hiN : i = (s_len j) := by omega
      refine R.b bk_J1_indexOfChar_4cfef_7 ?_
      refine R.c br_J1_indexOfChar_4cfef_10 (And.intro (fun h10 => ?_) (fun h10 => absurd (by rw [hiN]; exact nI_le (Nat.le_refl _) (by omega)) h10))
      refine R.b bk_J1_indexOfChar_4cfef_31 ?_
      refine R.ri rt_J1_indexOfChar_4cfef_32 rfl ⟨_, rfl, ?_⟩
      refine ⟨?_, rfl⟩
      rw [hI1, hiN, Nat.sub_self, s_ix]
    | succ fu ih =>
      intro i  hfu hi hI1
      have hlt : i < (s_len j) := by omega
      refine R.b bk_J1_indexOfChar_4cfef_7 ?_
      refine R.c br_J1_indexOfChar_4cfef_10 (And.intro (fun h10 => absurd h10 (nI_ge hlt (by omega))) (fun h10 => ?_))
      refine R.b bk_J1_indexOfChar_4cfef_13 ?_
      refine R.o dd_J1_indexOfChar_4cfef_16 (Or.inr (Or.inr (Or.inr (Or.inr (Or.inr (Or.inr (Or.inr (Or.inr (Or.inr (Or.inr (Or.inl ⟨j, _, _, rfl, rfl, hj, vp_in_nI hlt (show s_len j < 2 ^ 31 by omega), rfl, rfl⟩))))))))))) (by omega) (Nat.le_refl _) ?_
      refine R.b bk_J1_indexOfChar_4cfef_17 ?_
      have e : (mx_sb.getD j []).getD (nI i).toNatClampNeg 0 = s_at j i := by rw [nI_clamp (by omega)]; rfl
      rw [e]
      refine R.c br_J1_indexOfChar_4cfef_19 (And.intro (fun h19 => ?_) (fun h19 => ?_))
      · refine R.b bk_J1_indexOfChar_4cfef_25 ?_
        refine R.j gt_J1_indexOfChar_4cfef_28 ?_
        rw [nI_inc]
        refine ih (i + 1) (by omega) (by omega) ?_
        rw [hI1, show s_len j - i = (s_len j - (i + 1)) + 1 by omega, s_ix, if_neg (fun q => h19 ((i8_eq hj hlt hb).mpr q))]
      · refine R.b bk_J1_indexOfChar_4cfef_22 ?_
        refine R.ri rt_J1_indexOfChar_4cfef_24 rfl ⟨_, rfl, ?_⟩
        refine ⟨?_, rfl⟩
        rw [hI1, show s_len j - i = (s_len j - (i + 1)) + 1 by omega, s_ix, if_pos ((i8_eq hj hlt hb).mp h19)]
  refine R.b bk_J1_indexOfChar_4cfef_0 ?_
  exact hA (s_len j) 0 rfl (Nat.zero_le _) rfl
theorem c_J1_indexOf_4cfef {l : Launch} {G : Gt} {M : Mm} {j : Nat} (hj : j < 6) {b : Nat} (hb : b < 256) : Runs l G true dm_J1_indexOf_4cfef 2 127 [.ref (1011 + j), .int (nI b), .int 0, .int (nI (s_len j))] M 127 (Pi (fun r M1 => r = s_ix j (nI b) (s_len j) 0 ∧ M1 = M)) := by
  refine mx_run ow_J1_indexOf_4cfef rfl rfl (fun dp X hdp R => ?_)
  have hl5 := s_len_le j
  have hl1 : 0 < s_len j := by
    have h2 : ∀ j, j < 6 → 0 < s_len j := by decide
    exact h2 j hj
  refine R.b bk_J1_indexOf_4cfef_0 ?_
  refine R.S1i kc_J1_indexOf_4cfef_1 (c_J1_canEncode_9a6ad hb) (by omega) rfl ⟨Nat.le_refl _, Nat.le_refl _⟩ (fun x1 M1 q1 => ?_)
  obtain ⟨rfl, q1⟩ := q1
  replace q1 := q1.symm
  subst q1
  refine R.c br_J1_indexOf_4cfef_4 (And.intro (fun h4 => ?_) (fun h4 => absurd h4 (by decide)))
  refine R.b bk_J1_indexOf_4cfef_9 ?_
  refine R.max kc_J1_indexOf_4cfef_11 (by omega) rfl (Nat.le_refl _) ?_
  refine R.b bk_J1_indexOf_4cfef_14 ?_
  refine R.o dd_J1_indexOf_4cfef_17 (Or.inr (Or.inr (Or.inr (Or.inr (Or.inr (Or.inr (Or.inr (Or.inr (Or.inr (Or.inl ⟨j, _, rfl, rfl, hj, rfl, rfl⟩)))))))))) (by omega) (Nat.le_refl _) ?_
  refine R.min kc_J1_indexOf_4cfef_18 (by omega) rfl (Nat.le_refl _) ?_
  have em : (if nI (mx_sl_.getD j 0) < nI (s_len j) then nI (mx_sl_.getD j 0) else nI (s_len j)) = nI (s_len j) := by
    show (if nI (s_len j) < nI (s_len j) then nI (s_len j) else nI (s_len j)) = nI (s_len j)
    split <;> rfl
  rw [em]
  show X 127 M 21 [some (.ref (1011 + j)), some (.int (nI b)), some (.int 0), some (.int (nI (s_len j)))] [.int (nI (s_len j))]
  refine R.b bk_J1_indexOf_4cfef_21 ?_
  refine R.c br_J1_indexOf_4cfef_24 (And.intro (fun h24 => ?_) (fun h24 => absurd (nI_lt (a := 0) hl1 (by omega)) h24))
  refine R.b bk_J1_indexOf_4cfef_29 ?_
  refine R.S4i kc_J1_indexOf_4cfef_33 (c_J1_indexOfChar_4cfef hj hb) (by omega) rfl ⟨Nat.le_refl _, Nat.le_refl _⟩ (fun x33 M33 q33 => ?_)
  obtain ⟨rfl, q33⟩ := q33
  replace q33 := q33.symm
  subst q33
  refine R.ri rt_J1_indexOf_4cfef_36 rfl ⟨_, rfl, ?_⟩
  exact ⟨rfl, rfl⟩
theorem c_J0_indexOf_7cf53 {l : Launch} {G : Gt} {M : Mm} {j : Nat} (hj : j < 6) {b : Nat} (hb : b < 256) : Runs l G true dm_J0_indexOf_7cf53 3 127 [.ref (1001 + j), .int (nI b), .int 0] M 127 (Pi (fun r M1 => r = s_ix j (nI b) (s_len j) 0 ∧ M1 = M)) := by
  refine mx_run ow_J0_indexOf_7cf53 rfl rfl (fun dp X hdp R => ?_)
  refine R.b bk_J0_indexOf_7cf53_0 ?_
  refine R.T0i kc_J0_indexOf_7cf53_1 hj (c_J0_isLatin1_aae02 hj) (by omega) rfl (Nat.le_refl _) (fun x1 M1 q1 => ?_)
  obtain ⟨rfl, q1⟩ := q1
  replace q1 := q1.symm
  subst q1
  refine R.c br_J0_indexOf_7cf53_4 (And.intro (fun h4 => absurd h4 (by decide)) (fun h4 => ?_))
  refine R.b bk_J0_indexOf_7cf53_7 ?_
  refine R.o dd_J0_indexOf_7cf53_8 (Or.inr (Or.inr (Or.inr (Or.inr (Or.inr (Or.inr (Or.inr (Or.inl ⟨_, j, _, rfl, rfl, (by decide +kernel), hj, rfl, rfl⟩)))))))) (by omega) (Nat.le_refl _) ?_
  refine R.b bk_J0_indexOf_7cf53_11 ?_
  refine R.T0i kc_J0_indexOf_7cf53_14 hj (c_J0_length_8abf5 hj) (by omega) rfl (Nat.le_refl _) (fun x14 M14 q14 => ?_)
  obtain ⟨rfl, q14⟩ := q14
  replace q14 := q14.symm
  subst q14
  refine R.S4i kc_J0_indexOf_7cf53_17 (c_J1_indexOf_4cfef hj hb) (by omega) rfl ⟨Nat.le_refl _, Nat.le_refl _⟩ (fun x17 M17 q17 => ?_)
  obtain ⟨rfl, q17⟩ := q17
  replace q17 := q17.symm
  subst q17
  refine R.j gt_J0_indexOf_7cf53_20 ?_
  refine R.ri rt_J0_indexOf_7cf53_36 rfl ⟨_, rfl, ?_⟩
  exact ⟨rfl, rfl⟩
theorem c_J0_indexOf_0f7a4 {l : Launch} {G : Gt} {M : Mm} {j : Nat} (hj : j < 6) {b : Nat} (hb : b < 256) : Runs l G true dm_J0_indexOf_0f7a4 4 127 [.ref (1001 + j), .int (nI b)] M 127 (Pi (fun r M1 => r = s_ix j (nI b) (s_len j) 0 ∧ M1 = M)) := by
  refine mx_run ow_J0_indexOf_0f7a4 rfl rfl (fun dp X hdp R => ?_)
  refine R.b bk_J0_indexOf_0f7a4_0 ?_
  refine R.T2i kc_J0_indexOf_0f7a4_3 hj (c_J0_indexOf_7cf53 hj hb) (by omega) rfl (Nat.le_refl _) (fun x3 M3 q3 => ?_)
  obtain ⟨rfl, q3⟩ := q3
  replace q3 := q3.symm
  subst q3
  refine R.ri rt_J0_indexOf_0f7a4_6 rfl ⟨_, rfl, ?_⟩
  exact ⟨rfl, rfl⟩
