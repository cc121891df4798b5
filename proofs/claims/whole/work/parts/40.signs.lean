/-! signs, names, settling -/
def f_rank (s : Int32) : Int32 := if s = -1 then 1 else if s = -2 then 2 else if ¬ s < -5 then 3 else if ¬ s < -7 then 4 else if ¬ s < -9 then 5 else 6
def f_sign (v : Int32) : Int32 := if v = 38 then -2 else if v = 42 then -8 else if v = 43 then -6 else if v = 45 then -7 else if v = 47 then -9 else if v = 60 then -3 else if v = 61 then -4 else if v = 62 then -5 else if v = 124 then -1 else 0
def f_name (key c : Int32) : Int32 := if key = 0 then (if c = 120 then 0 else if c = 108 then 1 else if c = 112 then 2 else -1) else if key = 1 then (if c = 108 then 0 else if c = 119 then 1 else -1) else (if c = 100 then 0 else if c = 98 then 1 else -1)
theorem c_X8_rank {l : Launch} {G : Gt} {M : Mm} {s : Int32} : Runs l G true dm_X8_rank 0 127 [.int s] M 127 (Pi (fun x M1 => x = f_rank s ∧ M1 = M)) := by
  refine mx_run ow_X8_rank rfl rfl (fun dp X hdp R => ?_)
  refine R.b bk_X8_rank_0 ?_
  refine R.c br_X8_rank_2 (And.intro (fun h2 => ?_) (fun h2 => ?_))
  · refine R.b bk_X8_rank_9 ?_
    refine R.c br_X8_rank_12 (And.intro (fun h12 => ?_) (fun h12 => ?_))
    · refine R.b bk_X8_rank_19 ?_
      refine R.c br_X8_rank_22 (And.intro (fun h22 => ?_) (fun h22 => ?_))
      · refine R.b bk_X8_rank_29 ?_
        refine R.c br_X8_rank_32 (And.intro (fun h32 => ?_) (fun h32 => ?_))
        · refine R.b bk_X8_rank_39 ?_
          refine R.c br_X8_rank_42 (And.intro (fun h42 => ?_) (fun h42 => ?_))
          · refine R.b bk_X8_rank_49 ?_
            refine R.ri rt_X8_rank_51 rfl ⟨_, rfl, ?_⟩
            exact ⟨by simp_all [f_rank], rfl⟩
          · refine R.b bk_X8_rank_45 ?_
            refine R.j gt_X8_rank_46 ?_
            refine R.ri rt_X8_rank_51 rfl ⟨_, rfl, ?_⟩
            exact ⟨by simp_all [f_rank], rfl⟩
        · refine R.b bk_X8_rank_35 ?_
          refine R.j gt_X8_rank_36 ?_
          refine R.ri rt_X8_rank_51 rfl ⟨_, rfl, ?_⟩
          exact ⟨by simp_all [f_rank], rfl⟩
      · refine R.b bk_X8_rank_25 ?_
        refine R.j gt_X8_rank_26 ?_
        refine R.ri rt_X8_rank_51 rfl ⟨_, rfl, ?_⟩
        exact ⟨by simp_all [f_rank], rfl⟩
    · refine R.b bk_X8_rank_15 ?_
      refine R.j gt_X8_rank_16 ?_
      refine R.ri rt_X8_rank_51 rfl ⟨_, rfl, ?_⟩
      exact ⟨by simp_all [f_rank], rfl⟩
  · refine R.b bk_X8_rank_5 ?_
    refine R.j gt_X8_rank_6 ?_
    refine R.ri rt_X8_rank_51 rfl ⟨_, rfl, ?_⟩
    exact ⟨by simp_all [f_rank], rfl⟩
theorem c_X8_signHere {l : Launch} {G : Gt} {M : Mm}  : Runs l G true dm_X8_signHere 0 127 [.ref 103] M 127 (Pi (fun x M1 => x = (if M 103 11 = 3 then f_sign (M 103 12) else 0) ∧ M1 = M)) := by
  refine mx_run ow_X8_signHere rfl rfl (fun dp X hdp R => ?_)
  refine R.b bk_X8_signHere_0 (And.intro (by first | rfl | assumption) ?_)
  refine R.c br_X8_signHere_5 (And.intro (fun h5 => ?_) (fun h5 => ?_))
  · refine R.b bk_X8_signHere_10 (And.intro (by first | rfl | assumption) ?_)
    refine R.s sw_X8_signHere_14 (And.intro (fun h14_0 => ?_) (fun h14_0 => And.intro (fun h14_1 => ?_) (fun h14_1 => And.intro (fun h14_2 => ?_) (fun h14_2 => And.intro (fun h14_3 => ?_) (fun h14_3 => And.intro (fun h14_4 => ?_) (fun h14_4 => And.intro (fun h14_5 => ?_) (fun h14_5 => And.intro (fun h14_6 => ?_) (fun h14_6 => And.intro (fun h14_7 => ?_) (fun h14_7 => And.intro (fun h14_8 => ?_) (fun h14_8 => ?_))))))))))
    · refine R.b bk_X8_signHere_98 ?_
      refine R.ri rt_X8_signHere_100 rfl ⟨_, rfl, ?_⟩
      refine ⟨?_, rfl⟩
      rw [if_pos (show M 103 11 = 3 from h5)]
      show _ = f_sign (M 103 (524 % 64))
      simp only [f_sign, *]
      try rfl
    · refine R.b bk_X8_signHere_116 ?_
      refine R.ri rt_X8_signHere_118 rfl ⟨_, rfl, ?_⟩
      refine ⟨?_, rfl⟩
      rw [if_pos (show M 103 11 = 3 from h5)]
      show _ = f_sign (M 103 (524 % 64))
      simp only [f_sign, *]
      try rfl
    · refine R.b bk_X8_signHere_110 ?_
      refine R.ri rt_X8_signHere_112 rfl ⟨_, rfl, ?_⟩
      refine ⟨?_, rfl⟩
      rw [if_pos (show M 103 11 = 3 from h5)]
      show _ = f_sign (M 103 (524 % 64))
      simp only [f_sign, *]
      try rfl
    · refine R.b bk_X8_signHere_113 ?_
      refine R.ri rt_X8_signHere_115 rfl ⟨_, rfl, ?_⟩
      refine ⟨?_, rfl⟩
      rw [if_pos (show M 103 11 = 3 from h5)]
      show _ = f_sign (M 103 (524 % 64))
      simp only [f_sign, *]
      try rfl
    · refine R.b bk_X8_signHere_119 ?_
      refine R.ri rt_X8_signHere_121 rfl ⟨_, rfl, ?_⟩
      refine ⟨?_, rfl⟩
      rw [if_pos (show M 103 11 = 3 from h5)]
      show _ = f_sign (M 103 (524 % 64))
      simp only [f_sign, *]
      try rfl
    · refine R.b bk_X8_signHere_101 ?_
      refine R.ri rt_X8_signHere_103 rfl ⟨_, rfl, ?_⟩
      refine ⟨?_, rfl⟩
      rw [if_pos (show M 103 11 = 3 from h5)]
      show _ = f_sign (M 103 (524 % 64))
      simp only [f_sign, *]
      try rfl
    · refine R.b bk_X8_signHere_104 ?_
      refine R.ri rt_X8_signHere_106 rfl ⟨_, rfl, ?_⟩
      refine ⟨?_, rfl⟩
      rw [if_pos (show M 103 11 = 3 from h5)]
      show _ = f_sign (M 103 (524 % 64))
      simp only [f_sign, *]
      try rfl
    · refine R.b bk_X8_signHere_107 ?_
      refine R.ri rt_X8_signHere_109 rfl ⟨_, rfl, ?_⟩
      refine ⟨?_, rfl⟩
      rw [if_pos (show M 103 11 = 3 from h5)]
      show _ = f_sign (M 103 (524 % 64))
      simp only [f_sign, *]
      try rfl
    · refine R.b bk_X8_signHere_96 ?_
      refine R.ri rt_X8_signHere_97 rfl ⟨_, rfl, ?_⟩
      refine ⟨?_, rfl⟩
      rw [if_pos (show M 103 11 = 3 from h5)]
      show _ = f_sign (M 103 (524 % 64))
      simp only [f_sign, *]
      try rfl
    · refine R.b bk_X8_signHere_122 ?_
      refine R.ri rt_X8_signHere_123 rfl ⟨_, rfl, ?_⟩
      refine ⟨?_, rfl⟩
      rw [if_pos (show M 103 11 = 3 from h5)]
      show _ = f_sign (M 103 (524 % 64))
      simp only [f_sign, *]
      try rfl
  · refine R.b bk_X8_signHere_8 ?_
    refine R.ri rt_X8_signHere_9 rfl ⟨_, rfl, ?_⟩
    exact ⟨(if_neg h5).symm, rfl⟩
theorem c_X8_nameOf {l : Launch} {G : Gt} {M : Mm} {c : Int32} : Runs l G true dm_X8_nameOf 0 127 [.ref 103, .int c] M 127 (Pi (fun x M1 => x = f_name (M 103 14) c ∧ M1 = M)) := by
  refine mx_run ow_X8_nameOf rfl rfl (fun dp X hdp R => ?_)
  refine R.b bk_X8_nameOf_0 (And.intro (by first | rfl | assumption) ?_)
  refine R.s sw_X8_nameOf_4 (And.intro (fun h4_0 => ?_) (fun h4_0 => And.intro (fun h4_1 => ?_) (fun h4_1 => ?_)))
  · refine R.b bk_X8_nameOf_32 ?_
    refine R.c br_X8_nameOf_35 (And.intro (fun h35 => ?_) (fun h35 => ?_))
    · refine R.b bk_X8_nameOf_42 ?_
      refine R.c br_X8_nameOf_45 (And.intro (fun h45 => ?_) (fun h45 => ?_))
      · refine R.b bk_X8_nameOf_52 ?_
        refine R.c br_X8_nameOf_55 (And.intro (fun h55 => ?_) (fun h55 => ?_))
        · refine R.b bk_X8_nameOf_62 ?_
          refine R.ri rt_X8_nameOf_63 rfl ⟨_, rfl, ?_⟩
          refine ⟨?_, rfl⟩
          show _ = f_name (M 103 (526 % 64)) c
          simp only [f_name, *]
          try rfl
        · refine R.b bk_X8_nameOf_58 ?_
          refine R.j gt_X8_nameOf_59 ?_
          refine R.ri rt_X8_nameOf_63 rfl ⟨_, rfl, ?_⟩
          refine ⟨?_, rfl⟩
          show _ = f_name (M 103 (526 % 64)) c
          simp only [f_name, *]
          try rfl
      · refine R.b bk_X8_nameOf_48 ?_
        refine R.j gt_X8_nameOf_49 ?_
        refine R.ri rt_X8_nameOf_63 rfl ⟨_, rfl, ?_⟩
        refine ⟨?_, rfl⟩
        show _ = f_name (M 103 (526 % 64)) c
        simp only [f_name, *]
        try rfl
    · refine R.b bk_X8_nameOf_38 ?_
      refine R.j gt_X8_nameOf_39 ?_
      refine R.ri rt_X8_nameOf_63 rfl ⟨_, rfl, ?_⟩
      refine ⟨?_, rfl⟩
      show _ = f_name (M 103 (526 % 64)) c
      simp only [f_name, *]
      try rfl
  · refine R.b bk_X8_nameOf_64 ?_
    refine R.c br_X8_nameOf_67 (And.intro (fun h67 => ?_) (fun h67 => ?_))
    · refine R.b bk_X8_nameOf_74 ?_
      refine R.c br_X8_nameOf_77 (And.intro (fun h77 => ?_) (fun h77 => ?_))
      · refine R.b bk_X8_nameOf_84 ?_
        refine R.ri rt_X8_nameOf_85 rfl ⟨_, rfl, ?_⟩
        refine ⟨?_, rfl⟩
        show _ = f_name (M 103 (526 % 64)) c
        simp only [f_name, *]
        try rfl
      · refine R.b bk_X8_nameOf_80 ?_
        refine R.j gt_X8_nameOf_81 ?_
        refine R.ri rt_X8_nameOf_85 rfl ⟨_, rfl, ?_⟩
        refine ⟨?_, rfl⟩
        show _ = f_name (M 103 (526 % 64)) c
        simp only [f_name, *]
        try rfl
    · refine R.b bk_X8_nameOf_70 ?_
      refine R.j gt_X8_nameOf_71 ?_
      refine R.ri rt_X8_nameOf_85 rfl ⟨_, rfl, ?_⟩
      refine ⟨?_, rfl⟩
      show _ = f_name (M 103 (526 % 64)) c
      simp only [f_name, *]
      try rfl
  · refine R.b bk_X8_nameOf_86 ?_
    refine R.c br_X8_nameOf_89 (And.intro (fun h89 => ?_) (fun h89 => ?_))
    · refine R.b bk_X8_nameOf_96 ?_
      refine R.c br_X8_nameOf_99 (And.intro (fun h99 => ?_) (fun h99 => ?_))
      · refine R.b bk_X8_nameOf_106 ?_
        refine R.ri rt_X8_nameOf_107 rfl ⟨_, rfl, ?_⟩
        refine ⟨?_, rfl⟩
        show _ = f_name (M 103 (526 % 64)) c
        simp only [f_name, *]
        try rfl
      · refine R.b bk_X8_nameOf_102 ?_
        refine R.j gt_X8_nameOf_103 ?_
        refine R.ri rt_X8_nameOf_107 rfl ⟨_, rfl, ?_⟩
        refine ⟨?_, rfl⟩
        show _ = f_name (M 103 (526 % 64)) c
        simp only [f_name, *]
        try rfl
    · refine R.b bk_X8_nameOf_92 ?_
      refine R.j gt_X8_nameOf_93 ?_
      refine R.ri rt_X8_nameOf_107 rfl ⟨_, rfl, ?_⟩
      refine ⟨?_, rfl⟩
      show _ = f_name (M 103 (526 % 64)) c
      simp only [f_name, *]
      try rfl
