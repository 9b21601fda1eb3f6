set_option maxRecDepth 20000 in
theorem r_Md_isIn {x0 : Int32} {x1 : Int32} {x2 : Int32} {mem : mj_Mem} {v : Int32} (h : f_Md_isIn x0 x1 x2 = some v) : mj_R M_Md_isIn 0 (mj_lv M_Md_isIn.2.2.1 [.int x0, .int x1, .int x2]) [] mem (some (.int v)) mem := by
  show mj_R M_Md_isIn 0 [some (.int x0), some (.int x1), some (.int x2)] [] _ _ _
  unfold f_Md_isIn at h
  refine mj_iload_n (pc := 0) (i := 0) d_Md_isIn_0 rfl rfl ?_
  refine mj_iload_n (pc := 1) (i := 1) d_Md_isIn_1 rfl rfl ?_
  have k3 : mj_R M_Md_isIn 15 [none, none, none] [.int (if x0 < x1 then 0 else (if x2 < x0 then 0 else 1 : Int32) : Int32)] mem (some (.int v)) mem := by
    obtain e_1 := inj1 h
    subst e_1
    exact mj_zret (pc := 15) (ty := .boolean) d_Md_isIn_15 rfl (mj_b01 (by (repeat' split) <;> simp))
  refine mj_icmp_lt (pc := 2) (tgt := 14) d_Md_isIn_2 (by decide) mj_hn (fun hc1 => ?_) (fun hc1 => ?_)
  · refine mj_iconst (pc := 14) (v := 0) d_Md_isIn_14 (by decide) ?_
    try simp only [if_pos hc1] at k3
    exact mj_wk k3 trivial
  · refine mj_iload_n (pc := 5) (i := 0) d_Md_isIn_5 rfl rfl ?_
    refine mj_iload_n (pc := 6) (i := 2) d_Md_isIn_6 rfl rfl ?_
    refine mj_icmp_gt (pc := 7) (tgt := 14) d_Md_isIn_7 (by decide) mj_hn (fun hc2 => ?_) (fun hc2 => ?_)
    · refine mj_iconst (pc := 14) (v := 0) d_Md_isIn_14 (by decide) ?_
      try simp only [if_neg hc1, if_pos hc2] at k3
      exact mj_wk k3 trivial
    · refine mj_iconst (pc := 10) (v := 1) d_Md_isIn_10 (by decide) ?_
      refine mj_goto (pc := 11) (tgt := 15) d_Md_isIn_11 (by decide) ?_
      try simp only [if_neg hc1, if_neg hc2] at k3
      exact mj_wk k3 trivial
set_option maxRecDepth 20000 in
theorem r_Md_agent {x1 : Int32} {x2 : Int32} {C C0 : St} {v : Int32} {C' : St} (h : f_Md_agent x1 x2 C0 = some (v, C')) : mj_R M_Md_agent 0 (mj_lv M_Md_agent.2.2.1 [.ref 88, .int x1, .int x2]) [] (SH, jn C C0) (some (.int v)) (SH, jn C (C')) := by
  show mj_R M_Md_agent 0 [some (.ref 88), some (.int x1), some (.int x2), none] [] _ _ _
  unfold f_Md_agent at h
  refine mj_iload_n (pc := 0) (i := 1) d_Md_agent_0 rfl rfl ?_
  refine mj_iconst (pc := 1) (v := 0) d_Md_agent_1 (by decide) ?_
  refine mj_iconst (pc := 2) (v := 5) d_Md_agent_2 (by decide) ?_
  obtain ⟨v1, hb2, h⟩ := bd1_some h
  refine mj_callS (pc := 3) (vs := [.int x1, .int 0, .int 5]) (st := []) d_Md_agent_3 bB_Md_agent_Md_isIn lk_Md_53 st_Md_isIn rfl (Nat.le_of_ble_eq_true rfl) (Nat.le_of_ble_eq_true rfl) (r_Md_isIn hb2) ?_
  show mj_R M_Md_agent 6 [some (.ref 88), some (.int x1), some (.int x2), none] [.int v1] (SH, jn C C0) (some (.int v)) (SH, jn C (C'))
  refine mj_if_eq (y := 0) (pc := 6) (tgt := 19) d_Md_agent_6 (by decide) mj_hs (fun hc3 => ?_) (fun hc3 => ?_)
  · rw [if_pos hc3] at h
    refine mj_ldc (pc := 19) (v := -1000000001) d_Md_agent_19 k_Md_66 ?_
    obtain ⟨e_1, e_2⟩ := inj2 h
    subst e_1
    subst e_2
    exact mj_iret (pc := 21) d_Md_agent_21 rfl
  · rw [if_neg hc3] at h
    refine mj_iload_n (pc := 9) (i := 2) d_Md_agent_9 rfl rfl ?_
    refine mj_iconst (pc := 10) (v := 0) d_Md_agent_10 (by decide) ?_
    refine mj_ldc (pc := 11) (v := 100000) d_Md_agent_11 k_Md_65 ?_
    obtain ⟨v4, hb5, h⟩ := bd1_some h
    refine mj_callS (pc := 13) (vs := [.int x2, .int 0, .int 100000]) (st := []) d_Md_agent_13 bB_Md_agent_Md_isIn lk_Md_53 st_Md_isIn rfl (Nat.le_of_ble_eq_true rfl) (Nat.le_of_ble_eq_true rfl) (r_Md_isIn hb5) ?_
    show mj_R M_Md_agent 16 [some (.ref 88), some (.int x1), some (.int x2), none] [.int v4] (SH, jn C C0) (some (.int v)) (SH, jn C (C'))
    refine mj_if_ne (y := 0) (pc := 16) (tgt := 22) d_Md_agent_16 (by decide) mj_hs (fun hc6 => ?_) (fun hc6 => ?_)
    · rw [if_neg hc6] at h
      refine mj_aload_n (pc := 22) (i := 0) d_Md_agent_22 rfl rfl (by decide) ?_
      refine mj_getR (pc := 23) d_Md_agent_23 fl_Md_7 sh_88 rfl rfl (by decide) (by decide) (by decide) ?_
      refine mj_sipush (pc := 26) (v := 2163) d_Md_agent_26 (by decide) ?_
      refine dj_iald (pc := 29) d_Md_agent_29 sh_89 (by decide) (by decide) (by decide) ?_
      show mj_R M_Md_agent 30 [some (.ref 88), some (.int x1), some (.int x2), none] [.int (C0 89 2163)] (SH, jn C C0) (some (.int v)) (SH, jn C (C'))
      refine mj_istore_n (pc := 30) (i := 3) d_Md_agent_30 rfl rfl (by decide) ?_
      refine mj_iload_n (pc := 31) (i := 3) d_Md_agent_31 rfl rfl ?_
      refine mj_bipush (pc := 32) (v := 12) d_Md_agent_32 (by decide) ?_
      refine mj_icmp_ne (pc := 34) (tgt := 40) d_Md_agent_34 (by decide) mj_hs (fun hc8 => ?_) (fun hc8 => ?_)
      · rw [if_neg hc8] at h
        refine mj_aload_n (pc := 40) (i := 0) d_Md_agent_40 rfl rfl (by decide) ?_
        refine mj_getR (pc := 41) d_Md_agent_41 fl_Md_7 sh_88 rfl rfl (by decide) (by decide) (by decide) ?_
        refine mj_iconst (pc := 44) (v := 0) d_Md_agent_44 (by decide) ?_
        refine mj_iconst (pc := 45) (v := 5) d_Md_agent_45 (by decide) ?_
        refine mj_iload_n (pc := 46) (i := 3) d_Md_agent_46 rfl rfl ?_
        refine mj_imul (pc := 47) d_Md_agent_47 ?_
        refine mj_iadd (pc := 48) d_Md_agent_48 ?_
        refine mj_iload_n (pc := 49) (i := 1) d_Md_agent_49 rfl rfl ?_
        obtain ⟨hg9, h⟩ := mj_gd h
        refine dj_iast (pc := 50) d_Md_agent_50 sh_89 (by decide) hg9 (by decide) ?_
        refine mj_aload_n (pc := 51) (i := 0) d_Md_agent_51 rfl rfl (by decide) ?_
        refine mj_getR (pc := 52) d_Md_agent_52 fl_Md_7 sh_88 rfl rfl (by decide) (by decide) (by decide) ?_
        refine mj_iconst (pc := 55) (v := 0) d_Md_agent_55 (by decide) ?_
        refine mj_iconst (pc := 56) (v := 5) d_Md_agent_56 (by decide) ?_
        refine mj_iload_n (pc := 57) (i := 3) d_Md_agent_57 rfl rfl ?_
        refine mj_imul (pc := 58) d_Md_agent_58 ?_
        refine mj_iadd (pc := 59) d_Md_agent_59 ?_
        refine mj_iconst (pc := 60) (v := 1) d_Md_agent_60 (by decide) ?_
        refine mj_iadd (pc := 61) d_Md_agent_61 ?_
        refine mj_iload_n (pc := 62) (i := 2) d_Md_agent_62 rfl rfl ?_
        obtain ⟨hg10, h⟩ := mj_gd h
        refine dj_iast (pc := 63) d_Md_agent_63 sh_89 (by decide) hg10 (by decide) ?_
        refine mj_aload_n (pc := 64) (i := 0) d_Md_agent_64 rfl rfl (by decide) ?_
        refine mj_getR (pc := 65) d_Md_agent_65 fl_Md_7 sh_88 rfl rfl (by decide) (by decide) (by decide) ?_
        refine mj_iconst (pc := 68) (v := 0) d_Md_agent_68 (by decide) ?_
        refine mj_iconst (pc := 69) (v := 5) d_Md_agent_69 (by decide) ?_
        refine mj_iload_n (pc := 70) (i := 3) d_Md_agent_70 rfl rfl ?_
        refine mj_imul (pc := 71) d_Md_agent_71 ?_
        refine mj_iadd (pc := 72) d_Md_agent_72 ?_
        refine mj_iconst (pc := 73) (v := 2) d_Md_agent_73 (by decide) ?_
        refine mj_iadd (pc := 74) d_Md_agent_74 ?_
        refine mj_iconst (pc := 75) (v := 0) d_Md_agent_75 (by decide) ?_
        obtain ⟨hg11, h⟩ := mj_gd h
        refine dj_iast (pc := 76) d_Md_agent_76 sh_89 (by decide) hg11 (by decide) ?_
        refine mj_aload_n (pc := 77) (i := 0) d_Md_agent_77 rfl rfl (by decide) ?_
        refine mj_getR (pc := 78) d_Md_agent_78 fl_Md_7 sh_88 rfl rfl (by decide) (by decide) (by decide) ?_
        refine mj_iconst (pc := 81) (v := 0) d_Md_agent_81 (by decide) ?_
        refine mj_iconst (pc := 82) (v := 5) d_Md_agent_82 (by decide) ?_
        refine mj_iload_n (pc := 83) (i := 3) d_Md_agent_83 rfl rfl ?_
        refine mj_imul (pc := 84) d_Md_agent_84 ?_
        refine mj_iadd (pc := 85) d_Md_agent_85 ?_
        refine mj_iconst (pc := 86) (v := 3) d_Md_agent_86 (by decide) ?_
        refine mj_iadd (pc := 87) d_Md_agent_87 ?_
        refine mj_ldc (pc := 88) (v := -1000000005) d_Md_agent_88 k_Md_68 ?_
        obtain ⟨hg12, h⟩ := mj_gd h
        refine dj_iast (pc := 90) d_Md_agent_90 sh_89 (by decide) hg12 (by decide) ?_
        refine mj_aload_n (pc := 91) (i := 0) d_Md_agent_91 rfl rfl (by decide) ?_
        refine mj_getR (pc := 92) d_Md_agent_92 fl_Md_7 sh_88 rfl rfl (by decide) (by decide) (by decide) ?_
        refine mj_iconst (pc := 95) (v := 0) d_Md_agent_95 (by decide) ?_
        refine mj_iconst (pc := 96) (v := 5) d_Md_agent_96 (by decide) ?_
        refine mj_iload_n (pc := 97) (i := 3) d_Md_agent_97 rfl rfl ?_
        refine mj_imul (pc := 98) d_Md_agent_98 ?_
        refine mj_iadd (pc := 99) d_Md_agent_99 ?_
        refine mj_iconst (pc := 100) (v := 4) d_Md_agent_100 (by decide) ?_
        refine mj_iadd (pc := 101) d_Md_agent_101 ?_
        refine mj_iconst (pc := 102) (v := 0) d_Md_agent_102 (by decide) ?_
        obtain ⟨hg13, h⟩ := mj_gd h
        refine dj_iast (pc := 103) d_Md_agent_103 sh_89 (by decide) hg13 (by decide) ?_
        refine mj_aload_n (pc := 104) (i := 0) d_Md_agent_104 rfl rfl (by decide) ?_
        refine mj_getR (pc := 105) d_Md_agent_105 fl_Md_7 sh_88 rfl rfl (by decide) (by decide) (by decide) ?_
        refine mj_sipush (pc := 108) (v := 2163) d_Md_agent_108 (by decide) ?_
        refine mj_dup2 (pc := 111) d_Md_agent_111 rfl rfl ?_
        refine dj_iald (pc := 112) d_Md_agent_112 sh_89 (by decide) (by decide) (by decide) ?_
        show mj_R M_Md_agent 113 [some (.ref 88), some (.int x1), some (.int x2), some (.int (C0 89 2163))] [.int (mj_wr (mj_wr (mj_wr (mj_wr (mj_wr C0 89 ((0 + (5 * (C0 89 2163))).toNatClampNeg) x1) 89 (((0 + (5 * (C0 89 2163))) + 1).toNatClampNeg) x2) 89 (((0 + (5 * (C0 89 2163))) + 2).toNatClampNeg) 0) 89 (((0 + (5 * (C0 89 2163))) + 3).toNatClampNeg) (-1000000005)) 89 (((0 + (5 * (C0 89 2163))) + 4).toNatClampNeg) 0 89 2163), .int 2163, .ref 89] (SH, jn C (mj_wr (mj_wr (mj_wr (mj_wr (mj_wr C0 89 ((0 + (5 * (C0 89 2163))).toNatClampNeg) x1) 89 (((0 + (5 * (C0 89 2163))) + 1).toNatClampNeg) x2) 89 (((0 + (5 * (C0 89 2163))) + 2).toNatClampNeg) 0) 89 (((0 + (5 * (C0 89 2163))) + 3).toNatClampNeg) (-1000000005)) 89 (((0 + (5 * (C0 89 2163))) + 4).toNatClampNeg) 0)) (some (.int v)) (SH, jn C (C'))
        refine mj_iconst (pc := 113) (v := 1) d_Md_agent_113 (by decide) ?_
        refine mj_iadd (pc := 114) d_Md_agent_114 ?_
        refine dj_iast (pc := 115) d_Md_agent_115 sh_89 (by decide) (by decide) (by decide) ?_
        show mj_R M_Md_agent 116 [some (.ref 88), some (.int x1), some (.int x2), some (.int (C0 89 2163))] [] (SH, jn C (mj_wr (mj_wr (mj_wr (mj_wr (mj_wr (mj_wr C0 89 ((0 + (5 * (C0 89 2163))).toNatClampNeg) x1) 89 (((0 + (5 * (C0 89 2163))) + 1).toNatClampNeg) x2) 89 (((0 + (5 * (C0 89 2163))) + 2).toNatClampNeg) 0) 89 (((0 + (5 * (C0 89 2163))) + 3).toNatClampNeg) (-1000000005)) 89 (((0 + (5 * (C0 89 2163))) + 4).toNatClampNeg) 0) 89 2163 ((mj_wr (mj_wr (mj_wr (mj_wr (mj_wr C0 89 ((0 + (5 * (C0 89 2163))).toNatClampNeg) x1) 89 (((0 + (5 * (C0 89 2163))) + 1).toNatClampNeg) x2) 89 (((0 + (5 * (C0 89 2163))) + 2).toNatClampNeg) 0) 89 (((0 + (5 * (C0 89 2163))) + 3).toNatClampNeg) (-1000000005)) 89 (((0 + (5 * (C0 89 2163))) + 4).toNatClampNeg) 0 89 2163) + 1))) (some (.int v)) (SH, jn C (C'))
        refine mj_iload_n (pc := 116) (i := 3) d_Md_agent_116 rfl rfl ?_
        obtain ⟨e_1, e_2⟩ := inj2 h
        subst e_1
        subst e_2
        exact mj_iret (pc := 117) d_Md_agent_117 rfl
      · rw [if_pos hc8] at h
        refine mj_ldc (pc := 37) (v := -1000000003) d_Md_agent_37 k_Md_67 ?_
        obtain ⟨e_1, e_2⟩ := inj2 h
        subst e_1
        subst e_2
        exact mj_iret (pc := 39) d_Md_agent_39 rfl
    · rw [if_pos hc6] at h
      refine mj_ldc (pc := 19) (v := -1000000001) d_Md_agent_19 k_Md_66 ?_
      obtain ⟨e_1, e_2⟩ := inj2 h
      subst e_1
      subst e_2
      exact mj_iret (pc := 21) d_Md_agent_21 rfl
set_option maxRecDepth 20000 in
theorem r_Md_isAgent {x1 : Int32} {C C0 : St} {v : Int32} (h : f_Md_isAgent x1 C0 = some v) : mj_R M_Md_isAgent 0 (mj_lv M_Md_isAgent.2.2.1 [.ref 88, .int x1]) [] (SH, jn C C0) (some (.int v)) (SH, jn C C0) := by
  show mj_R M_Md_isAgent 0 [some (.ref 88), some (.int x1)] [] _ _ _
  unfold f_Md_isAgent at h
  refine mj_iload_n (pc := 0) (i := 1) d_Md_isAgent_0 rfl rfl ?_
  refine mj_iconst (pc := 1) (v := 0) d_Md_isAgent_1 (by decide) ?_
  refine mj_aload_n (pc := 2) (i := 0) d_Md_isAgent_2 rfl rfl (by decide) ?_
  refine mj_getR (pc := 3) d_Md_isAgent_3 fl_Md_7 sh_88 rfl rfl (by decide) (by decide) (by decide) ?_
  refine mj_sipush (pc := 6) (v := 2163) d_Md_isAgent_6 (by decide) ?_
  refine dj_iald (pc := 9) d_Md_isAgent_9 sh_89 (by decide) (by decide) (by decide) ?_
  show mj_R M_Md_isAgent 10 [some (.ref 88), some (.int x1)] [.int (C0 89 2163), .int 0, .int x1] (SH, jn C C0) (some (.int v)) (SH, jn C C0)
  refine mj_iconst (pc := 10) (v := 1) d_Md_isAgent_10 (by decide) ?_
  refine mj_isub (pc := 11) d_Md_isAgent_11 ?_
  obtain ⟨v2, hb3, h⟩ := bd1_some h
  refine mj_callS (pc := 12) (vs := [.int x1, .int 0, .int ((C0 89 2163) - 1)]) (st := []) d_Md_isAgent_12 bB_Md_isAgent_Md_isIn lk_Md_53 st_Md_isIn rfl (Nat.le_of_ble_eq_true rfl) (Nat.le_of_ble_eq_true rfl) (r_Md_isIn hb3) ?_
  show mj_R M_Md_isAgent 15 [some (.ref 88), some (.int x1)] [.int v2] (SH, jn C C0) (some (.int v)) (SH, jn C C0)
  obtain ⟨hg4, h⟩ := mj_gd h
  obtain e_1 := inj1 h
  subst e_1
  exact mj_zret (pc := 15) (ty := .boolean) d_Md_isAgent_15 rfl (mj_b01 hg4)
set_option maxRecDepth 20000 in
theorem r_Md_isGood {x0 : Int32} {mem : mj_Mem} {v : Int32} (h : f_Md_isGood x0 = some v) : mj_R M_Md_isGood 0 (mj_lv M_Md_isGood.2.2.1 [.int x0]) [] mem (some (.int v)) mem := by
  show mj_R M_Md_isGood 0 [some (.int x0)] [] _ _ _
  unfold f_Md_isGood at h
  refine mj_iload_n (pc := 0) (i := 0) d_Md_isGood_0 rfl rfl ?_
  refine mj_iconst (pc := 1) (v := 0) d_Md_isGood_1 (by decide) ?_
  refine mj_iconst (pc := 2) (v := 4) d_Md_isGood_2 (by decide) ?_
  obtain ⟨v1, hb2, h⟩ := bd1_some h
  refine mj_callS (pc := 3) (vs := [.int x0, .int 0, .int 4]) (st := []) d_Md_isGood_3 bB_Md_isGood_Md_isIn lk_Md_53 st_Md_isIn rfl (Nat.le_of_ble_eq_true rfl) (Nat.le_of_ble_eq_true rfl) (r_Md_isIn hb2) ?_
  show mj_R M_Md_isGood 6 [some (.int x0)] [.int v1] mem (some (.int v)) mem
  obtain ⟨hg3, h⟩ := mj_gd h
  obtain e_1 := inj1 h
  subst e_1
  exact mj_zret (pc := 6) (ty := .boolean) d_Md_isGood_6 rfl (mj_b01 hg3)
set_option maxRecDepth 20000 in
theorem r_Md_ageAt {x0 : Int32} {x1 : Int32} {x2 : Int32} {mem : mj_Mem} {v : Int32} (h : f_Md_ageAt x0 x1 x2 = some v) : mj_R M_Md_ageAt 0 (mj_lv M_Md_ageAt.2.2.1 [.int x0, .int x1, .int x2]) [] mem (some (.int v)) mem := by
  show mj_R M_Md_ageAt 0 [some (.int x0), some (.int x1), some (.int x2)] [] _ _ _
  unfold f_Md_ageAt at h
  refine mj_bipush (pc := 0) (v := 60) d_Md_ageAt_0 (by decide) ?_
  refine mj_bipush (pc := 2) (v := 10) d_Md_ageAt_2 (by decide) ?_
  refine mj_iconst (pc := 4) (v := 5) d_Md_ageAt_4 (by decide) ?_
  refine mj_iload_n (pc := 5) (i := 0) d_Md_ageAt_5 rfl rfl ?_
  refine mj_imul (pc := 6) d_Md_ageAt_6 ?_
  refine mj_iload_n (pc := 7) (i := 1) d_Md_ageAt_7 rfl rfl ?_
  refine mj_iadd (pc := 8) d_Md_ageAt_8 ?_
  refine mj_imul (pc := 9) d_Md_ageAt_9 ?_
  refine mj_iadd (pc := 10) d_Md_ageAt_10 ?_
  refine mj_iload_n (pc := 11) (i := 2) d_Md_ageAt_11 rfl rfl ?_
  refine mj_iadd (pc := 12) d_Md_ageAt_12 ?_
  obtain e_1 := inj1 h
  subst e_1
  exact mj_iret (pc := 13) d_Md_ageAt_13 rfl
set_option maxRecDepth 20000 in
theorem l_Md_hasAll_5 {r : Option Value} {X y : St} : ∀ (n : Nat) (y1 : Int32) (y2 : Int32) (y3 : Int32) (y4 : Int32) (C : St) (o3_ : Int32), L_Md_hasAll_5 n y1 y2 y3 y4 C = some o3_ → mj_R M_Md_hasAll 33 [none, none, none, some (.int o3_), none] [] (SH, jn X C) r (SH, y) → mj_R M_Md_hasAll 5 [some (.ref 88), some (.int y1), some (.int y2), some (.int y3), some (.int y4)] [] (SH, jn X C) r (SH, y) := by
  intro n
  induction n with
  | zero => intro y1 y2 y3 y4 C o3_ h; cases h
  | succ n ih =>
    intro y1 y2 y3 y4 C o3_ h hX
    unfold L_Md_hasAll_5 at h
    refine mj_iload (pc := 5) (i := 4) d_Md_hasAll_5 rfl ?_
    refine mj_bipush (pc := 7) (v := 10) d_Md_hasAll_7 (by decide) ?_
    refine mj_icmp_ge (pc := 9) (tgt := 33) d_Md_hasAll_9 (by decide) mj_hs (fun hc1 => ?_) (fun hc1 => ?_)
    · rw [if_pos hc1] at h
      obtain e_1 := inj1 h
      subst e_1
      exact mj_wk hX (And.intro rfl trivial)
    · rw [if_neg hc1] at h
      refine mj_iload_n (pc := 12) (i := 3) d_Md_hasAll_12 rfl rfl ?_
      refine mj_aload_n (pc := 13) (i := 0) d_Md_hasAll_13 rfl rfl (by decide) ?_
      refine mj_getR (pc := 14) d_Md_hasAll_14 fl_Md_7 sh_88 rfl rfl (by decide) (by decide) (by decide) ?_
      refine mj_iload_n (pc := 17) (i := 1) d_Md_hasAll_17 rfl rfl ?_
      refine mj_iload_n (pc := 18) (i := 2) d_Md_hasAll_18 rfl rfl ?_
      refine mj_iload (pc := 19) (i := 4) d_Md_hasAll_19 rfl ?_
      obtain ⟨v2, hb3, h⟩ := bd1_some h
      refine mj_callS (pc := 21) (vs := [.int y1, .int y2, .int y4]) (st := [.ref 89, .int y3]) d_Md_hasAll_21 bB_Md_hasAll_Md_ageAt lk_Md_57 st_Md_ageAt rfl (Nat.le_of_ble_eq_true rfl) (Nat.le_of_ble_eq_true rfl) (r_Md_ageAt hb3) ?_
      show mj_R M_Md_hasAll 24 [some (.ref 88), some (.int y1), some (.int y2), some (.int y3), some (.int y4)] [.int v2, .ref 89, .int y3] (SH, jn X C) r (SH, y)
      obtain ⟨hg4, h⟩ := mj_gd h
      refine dj_iald (pc := 24) d_Md_hasAll_24 sh_89 (by decide) hg4 (by decide) ?_
      refine mj_iadd (pc := 25) d_Md_hasAll_25 ?_
      refine mj_istore_n (pc := 26) (i := 3) d_Md_hasAll_26 rfl rfl (by decide) ?_
      refine mj_iinc (pc := 27) (i := 4) (v := y4 + 1) d_Md_hasAll_27 rfl (by rfl) rfl (by decide) ?_
      refine mj_goto (pc := 30) (tgt := 5) d_Md_hasAll_30 (by decide) ?_
      exact mj_weak [some (.ref 88), some (.int y1), some (.int y2), some (.int (y3 + (C 89 v2.toNatClampNeg))), some (.int (y4 + 1))] (And.intro rfl (And.intro rfl (And.intro rfl (And.intro rfl (And.intro rfl trivial))))) (ih _ _ _ _ _ _ h hX)
set_option maxRecDepth 20000 in
theorem r_Md_hasAll {x1 : Int32} {x2 : Int32} {C C0 : St} {v : Int32} (h : f_Md_hasAll x1 x2 C0 = some v) : mj_R M_Md_hasAll 0 (mj_lv M_Md_hasAll.2.2.1 [.ref 88, .int x1, .int x2]) [] (SH, jn C C0) (some (.int v)) (SH, jn C C0) := by
  show mj_R M_Md_hasAll 0 [some (.ref 88), some (.int x1), some (.int x2), none, none] [] _ _ _
  unfold f_Md_hasAll at h
  refine mj_iconst (pc := 0) (v := 0) d_Md_hasAll_0 (by decide) ?_
  refine mj_istore_n (pc := 1) (i := 3) d_Md_hasAll_1 rfl rfl (by decide) ?_
  refine mj_iconst (pc := 2) (v := 0) d_Md_hasAll_2 (by decide) ?_
  refine mj_istore (pc := 3) (i := 4) d_Md_hasAll_3 rfl (by decide) ?_
  obtain ⟨o5, hl6, h⟩ := bd1_some h
  refine mj_weak [some (.ref 88), some (.int x1), some (.int x2), some (.int 0), some (.int 0)] (And.intro rfl (And.intro rfl (And.intro rfl (And.intro rfl (And.intro rfl trivial))))) (l_Md_hasAll_5 3000 _ _ _ _ _ _ hl6 ?_)
  refine mj_iload_n (pc := 33) (i := 3) d_Md_hasAll_33 rfl rfl ?_
  obtain e_1 := inj1 h
  subst e_1
  exact mj_iret (pc := 34) d_Md_hasAll_34 rfl
set_option maxRecDepth 20000 in
theorem r_Md_give {x1 : Int32} {x2 : Int32} {x3 : Int32} {C C0 : St} {v : Int32} {C' : St} (h : f_Md_give x1 x2 x3 C0 = some (v, C')) : mj_R M_Md_give 0 (mj_lv M_Md_give.2.2.1 [.ref 88, .int x1, .int x2, .int x3]) [] (SH, jn C C0) (some (.int v)) (SH, jn C (C')) := by
  show mj_R M_Md_give 0 [some (.ref 88), some (.int x1), some (.int x2), some (.int x3)] [] _ _ _
  unfold f_Md_give at h
  refine mj_aload_n (pc := 0) (i := 0) d_Md_give_0 rfl rfl (by decide) ?_
  refine mj_iload_n (pc := 1) (i := 1) d_Md_give_1 rfl rfl ?_
  obtain ⟨v1, hb2, h⟩ := bd1_some h
  refine mj_callV (pc := 2) (b := 88) (vs := [.int x1]) (st := []) d_Md_give_2 bB_Md_give_Md_isAgent lk_Md_69 iv_Md_isAgent rc_88 rfl (Nat.le_of_ble_eq_true rfl) (Nat.le_of_ble_eq_true rfl) (r_Md_isAgent hb2) ?_
  show mj_R M_Md_give 5 [some (.ref 88), some (.int x1), some (.int x2), some (.int x3)] [.int v1] (SH, jn C C0) (some (.int v)) (SH, jn C (C'))
  refine mj_if_eq (y := 0) (pc := 5) (tgt := 26) d_Md_give_5 (by decide) mj_hs (fun hc3 => ?_) (fun hc3 => ?_)
  · rw [if_pos hc3] at h
    refine mj_ldc (pc := 26) (v := -1000000001) d_Md_give_26 k_Md_66 ?_
    obtain ⟨e_1, e_2⟩ := inj2 h
    subst e_1
    subst e_2
    exact mj_iret (pc := 28) d_Md_give_28 rfl
  · rw [if_neg hc3] at h
    refine mj_iload_n (pc := 8) (i := 2) d_Md_give_8 rfl rfl ?_
    obtain ⟨v4, hb5, h⟩ := bd1_some h
    refine mj_callS (pc := 9) (vs := [.int x2]) (st := []) d_Md_give_9 bB_Md_give_Md_isGood lk_Md_73 st_Md_isGood rfl (Nat.le_of_ble_eq_true rfl) (Nat.le_of_ble_eq_true rfl) (r_Md_isGood hb5) ?_
    show mj_R M_Md_give 12 [some (.ref 88), some (.int x1), some (.int x2), some (.int x3)] [.int v4] (SH, jn C C0) (some (.int v)) (SH, jn C (C'))
    refine mj_if_eq (y := 0) (pc := 12) (tgt := 26) d_Md_give_12 (by decide) mj_hs (fun hc6 => ?_) (fun hc6 => ?_)
    · rw [if_pos hc6] at h
      refine mj_ldc (pc := 26) (v := -1000000001) d_Md_give_26 k_Md_66 ?_
      obtain ⟨e_1, e_2⟩ := inj2 h
      subst e_1
      subst e_2
      exact mj_iret (pc := 28) d_Md_give_28 rfl
    · rw [if_neg hc6] at h
      refine mj_iload_n (pc := 15) (i := 3) d_Md_give_15 rfl rfl ?_
      refine mj_iconst (pc := 16) (v := 1) d_Md_give_16 (by decide) ?_
      refine mj_sipush (pc := 17) (v := 999) d_Md_give_17 (by decide) ?_
      obtain ⟨v7, hb8, h⟩ := bd1_some h
      refine mj_callS (pc := 20) (vs := [.int x3, .int 1, .int 999]) (st := []) d_Md_give_20 bB_Md_give_Md_isIn lk_Md_53 st_Md_isIn rfl (Nat.le_of_ble_eq_true rfl) (Nat.le_of_ble_eq_true rfl) (r_Md_isIn hb8) ?_
      show mj_R M_Md_give 23 [some (.ref 88), some (.int x1), some (.int x2), some (.int x3)] [.int v7] (SH, jn C C0) (some (.int v)) (SH, jn C (C'))
      refine mj_if_ne (y := 0) (pc := 23) (tgt := 29) d_Md_give_23 (by decide) mj_hs (fun hc9 => ?_) (fun hc9 => ?_)
      · rw [if_neg hc9] at h
        refine mj_aload_n (pc := 29) (i := 0) d_Md_give_29 rfl rfl (by decide) ?_
        refine mj_getR (pc := 30) d_Md_give_30 fl_Md_7 sh_88 rfl rfl (by decide) (by decide) (by decide) ?_
        refine mj_iload_n (pc := 33) (i := 1) d_Md_give_33 rfl rfl ?_
        refine mj_iload_n (pc := 34) (i := 2) d_Md_give_34 rfl rfl ?_
        refine mj_iconst (pc := 35) (v := 0) d_Md_give_35 (by decide) ?_
        obtain ⟨v10, hb11, h⟩ := bd1_some h
        refine mj_callS (pc := 36) (vs := [.int x1, .int x2, .int 0]) (st := [.ref 89]) d_Md_give_36 bB_Md_give_Md_ageAt lk_Md_57 st_Md_ageAt rfl (Nat.le_of_ble_eq_true rfl) (Nat.le_of_ble_eq_true rfl) (r_Md_ageAt hb11) ?_
        show mj_R M_Md_give 39 [some (.ref 88), some (.int x1), some (.int x2), some (.int x3)] [.int v10, .ref 89] (SH, jn C C0) (some (.int v)) (SH, jn C (C'))
        refine mj_dup2 (pc := 39) d_Md_give_39 rfl rfl ?_
        obtain ⟨hg12, h⟩ := mj_gd h
        refine dj_iald (pc := 40) d_Md_give_40 sh_89 (by decide) hg12 (by decide) ?_
        refine mj_iload_n (pc := 41) (i := 3) d_Md_give_41 rfl rfl ?_
        refine mj_iadd (pc := 42) d_Md_give_42 ?_
        refine dj_iast (pc := 43) d_Md_give_43 sh_89 (by decide) hg12 (by decide) ?_
        refine mj_aload_n (pc := 44) (i := 0) d_Md_give_44 rfl rfl (by decide) ?_
        refine mj_iload_n (pc := 45) (i := 1) d_Md_give_45 rfl rfl ?_
        refine mj_iload_n (pc := 46) (i := 2) d_Md_give_46 rfl rfl ?_
        obtain ⟨v13, hb14, h⟩ := bd1_some h
        refine mj_callV (pc := 47) (b := 88) (vs := [.int x1, .int x2]) (st := []) d_Md_give_47 bB_Md_give_Md_hasAll lk_Md_76 iv_Md_hasAll rc_88 rfl (Nat.le_of_ble_eq_true rfl) (Nat.le_of_ble_eq_true rfl) (r_Md_hasAll hb14) ?_
        show mj_R M_Md_give 50 [some (.ref 88), some (.int x1), some (.int x2), some (.int x3)] [.int v13] (SH, jn C (mj_wr C0 89 (v10.toNatClampNeg) ((C0 89 v10.toNatClampNeg) + x3))) (some (.int v)) (SH, jn C (C'))
        obtain ⟨e_1, e_2⟩ := inj2 h
        subst e_1
        subst e_2
        exact mj_iret (pc := 50) d_Md_give_50 rfl
      · rw [if_pos hc9] at h
        refine mj_ldc (pc := 26) (v := -1000000001) d_Md_give_26 k_Md_66 ?_
        obtain ⟨e_1, e_2⟩ := inj2 h
        subst e_1
        subst e_2
        exact mj_iret (pc := 28) d_Md_give_28 rfl
set_option maxRecDepth 20000 in
theorem r_Md_good {x1 : Int32} {x2 : Int32} {x3 : Int32} {C C0 : St} {v : Int32} {C' : St} (h : f_Md_good x1 x2 x3 C0 = some (v, C')) : mj_R M_Md_good 0 (mj_lv M_Md_good.2.2.1 [.ref 88, .int x1, .int x2, .int x3]) [] (SH, jn C C0) (some (.int v)) (SH, jn C (C')) := by
  show mj_R M_Md_good 0 [some (.ref 88), some (.int x1), some (.int x2), some (.int x3)] [] _ _ _
  unfold f_Md_good at h
  refine mj_iload_n (pc := 0) (i := 1) d_Md_good_0 rfl rfl ?_
  obtain ⟨v1, hb2, h⟩ := bd1_some h
  refine mj_callS (pc := 1) (vs := [.int x1]) (st := []) d_Md_good_1 bB_Md_good_Md_isGood lk_Md_73 st_Md_isGood rfl (Nat.le_of_ble_eq_true rfl) (Nat.le_of_ble_eq_true rfl) (r_Md_isGood hb2) ?_
  show mj_R M_Md_good 4 [some (.ref 88), some (.int x1), some (.int x2), some (.int x3)] [.int v1] (SH, jn C C0) (some (.int v)) (SH, jn C (C'))
  refine mj_if_eq (y := 0) (pc := 4) (tgt := 26) d_Md_good_4 (by decide) mj_hs (fun hc3 => ?_) (fun hc3 => ?_)
  · rw [if_pos hc3] at h
    refine mj_ldc (pc := 26) (v := -1000000001) d_Md_good_26 k_Md_66 ?_
    obtain ⟨e_1, e_2⟩ := inj2 h
    subst e_1
    subst e_2
    exact mj_iret (pc := 28) d_Md_good_28 rfl
  · rw [if_neg hc3] at h
    refine mj_iload_n (pc := 7) (i := 2) d_Md_good_7 rfl rfl ?_
    refine mj_iconst (pc := 8) (v := 0) d_Md_good_8 (by decide) ?_
    refine mj_bipush (pc := 9) (v := 9) d_Md_good_9 (by decide) ?_
    obtain ⟨v4, hb5, h⟩ := bd1_some h
    refine mj_callS (pc := 11) (vs := [.int x2, .int 0, .int 9]) (st := []) d_Md_good_11 bB_Md_good_Md_isIn lk_Md_53 st_Md_isIn rfl (Nat.le_of_ble_eq_true rfl) (Nat.le_of_ble_eq_true rfl) (r_Md_isIn hb5) ?_
    show mj_R M_Md_good 14 [some (.ref 88), some (.int x1), some (.int x2), some (.int x3)] [.int v4] (SH, jn C C0) (some (.int v)) (SH, jn C (C'))
    refine mj_if_eq (y := 0) (pc := 14) (tgt := 26) d_Md_good_14 (by decide) mj_hs (fun hc6 => ?_) (fun hc6 => ?_)
    · rw [if_pos hc6] at h
      refine mj_ldc (pc := 26) (v := -1000000001) d_Md_good_26 k_Md_66 ?_
      obtain ⟨e_1, e_2⟩ := inj2 h
      subst e_1
      subst e_2
      exact mj_iret (pc := 28) d_Md_good_28 rfl
    · rw [if_neg hc6] at h
      refine mj_iload_n (pc := 17) (i := 3) d_Md_good_17 rfl rfl ?_
      refine mj_iconst (pc := 18) (v := 0) d_Md_good_18 (by decide) ?_
      refine mj_iconst (pc := 19) (v := 2) d_Md_good_19 (by decide) ?_
      obtain ⟨v7, hb8, h⟩ := bd1_some h
      refine mj_callS (pc := 20) (vs := [.int x3, .int 0, .int 2]) (st := []) d_Md_good_20 bB_Md_good_Md_isIn lk_Md_53 st_Md_isIn rfl (Nat.le_of_ble_eq_true rfl) (Nat.le_of_ble_eq_true rfl) (r_Md_isIn hb8) ?_
      show mj_R M_Md_good 23 [some (.ref 88), some (.int x1), some (.int x2), some (.int x3)] [.int v7] (SH, jn C C0) (some (.int v)) (SH, jn C (C'))
      refine mj_if_ne (y := 0) (pc := 23) (tgt := 29) d_Md_good_23 (by decide) mj_hs (fun hc9 => ?_) (fun hc9 => ?_)
      · rw [if_neg hc9] at h
        refine mj_aload_n (pc := 29) (i := 0) d_Md_good_29 rfl rfl (by decide) ?_
        refine mj_getR (pc := 30) d_Md_good_30 fl_Md_7 sh_88 rfl rfl (by decide) (by decide) (by decide) ?_
        refine mj_sipush (pc := 33) (v := 1308) d_Md_good_33 (by decide) ?_
        refine mj_bipush (pc := 36) (v := 11) d_Md_good_36 (by decide) ?_
        refine mj_iload_n (pc := 38) (i := 1) d_Md_good_38 rfl rfl ?_
        refine mj_imul (pc := 39) d_Md_good_39 ?_
        refine mj_iadd (pc := 40) d_Md_good_40 ?_
        refine mj_iload_n (pc := 41) (i := 2) d_Md_good_41 rfl rfl ?_
        obtain ⟨hg10, h⟩ := mj_gd h
        refine dj_iast (pc := 42) d_Md_good_42 sh_89 (by decide) hg10 (by decide) ?_
        refine mj_aload_n (pc := 43) (i := 0) d_Md_good_43 rfl rfl (by decide) ?_
        refine mj_getR (pc := 44) d_Md_good_44 fl_Md_7 sh_88 rfl rfl (by decide) (by decide) (by decide) ?_
        refine mj_sipush (pc := 47) (v := 1308) d_Md_good_47 (by decide) ?_
        refine mj_bipush (pc := 50) (v := 11) d_Md_good_50 (by decide) ?_
        refine mj_iload_n (pc := 52) (i := 1) d_Md_good_52 rfl rfl ?_
        refine mj_imul (pc := 53) d_Md_good_53 ?_
        refine mj_iadd (pc := 54) d_Md_good_54 ?_
        refine mj_iconst (pc := 55) (v := 1) d_Md_good_55 (by decide) ?_
        refine mj_iadd (pc := 56) d_Md_good_56 ?_
        refine mj_iload_n (pc := 57) (i := 3) d_Md_good_57 rfl rfl ?_
        obtain ⟨hg11, h⟩ := mj_gd h
        refine dj_iast (pc := 58) d_Md_good_58 sh_89 (by decide) hg11 (by decide) ?_
        refine mj_iconst (pc := 59) (v := 0) d_Md_good_59 (by decide) ?_
        obtain ⟨e_1, e_2⟩ := inj2 h
        subst e_1
        subst e_2
        exact mj_iret (pc := 60) d_Md_good_60 rfl
      · rw [if_pos hc9] at h
        refine mj_ldc (pc := 26) (v := -1000000001) d_Md_good_26 k_Md_66 ?_
        obtain ⟨e_1, e_2⟩ := inj2 h
        subst e_1
        subst e_2
        exact mj_iret (pc := 28) d_Md_good_28 rfl
set_option maxRecDepth 20000 in
theorem r_Md_recipe {x1 : Int32} {x2 : Int32} {x3 : Int32} {x4 : Int32} {x5 : Int32} {C C0 : St} {v : Int32} {C' : St} (h : f_Md_recipe x1 x2 x3 x4 x5 C0 = some (v, C')) : mj_R M_Md_recipe 0 (mj_lv M_Md_recipe.2.2.1 [.ref 88, .int x1, .int x2, .int x3, .int x4, .int x5]) [] (SH, jn C C0) (some (.int v)) (SH, jn C (C')) := by
  show mj_R M_Md_recipe 0 [some (.ref 88), some (.int x1), some (.int x2), some (.int x3), some (.int x4), some (.int x5)] [] _ _ _
  unfold f_Md_recipe at h
  refine mj_iload_n (pc := 0) (i := 1) d_Md_recipe_0 rfl rfl ?_
  obtain ⟨v1, hb2, h⟩ := bd1_some h
  refine mj_callS (pc := 1) (vs := [.int x1]) (st := []) d_Md_recipe_1 bB_Md_recipe_Md_isGood lk_Md_73 st_Md_isGood rfl (Nat.le_of_ble_eq_true rfl) (Nat.le_of_ble_eq_true rfl) (r_Md_isGood hb2) ?_
  show mj_R M_Md_recipe 4 [some (.ref 88), some (.int x1), some (.int x2), some (.int x3), some (.int x4), some (.int x5)] [.int v1] (SH, jn C C0) (some (.int v)) (SH, jn C (C'))
  refine mj_if_eq (y := 0) (pc := 4) (tgt := 43) d_Md_recipe_4 (by decide) mj_hs (fun hc3 => ?_) (fun hc3 => ?_)
  · rw [if_pos hc3] at h
    refine mj_ldc (pc := 43) (v := -1000000001) d_Md_recipe_43 k_Md_66 ?_
    obtain ⟨e_1, e_2⟩ := inj2 h
    subst e_1
    subst e_2
    exact mj_iret (pc := 45) d_Md_recipe_45 rfl
  · rw [if_neg hc3] at h
    refine mj_iload_n (pc := 7) (i := 2) d_Md_recipe_7 rfl rfl ?_
    obtain ⟨v4, hb5, h⟩ := bd1_some h
    refine mj_callS (pc := 8) (vs := [.int x2]) (st := []) d_Md_recipe_8 bB_Md_recipe_Md_isGood lk_Md_73 st_Md_isGood rfl (Nat.le_of_ble_eq_true rfl) (Nat.le_of_ble_eq_true rfl) (r_Md_isGood hb5) ?_
    show mj_R M_Md_recipe 11 [some (.ref 88), some (.int x1), some (.int x2), some (.int x3), some (.int x4), some (.int x5)] [.int v4] (SH, jn C C0) (some (.int v)) (SH, jn C (C'))
    refine mj_if_eq (y := 0) (pc := 11) (tgt := 43) d_Md_recipe_11 (by decide) mj_hs (fun hc6 => ?_) (fun hc6 => ?_)
    · rw [if_pos hc6] at h
      refine mj_ldc (pc := 43) (v := -1000000001) d_Md_recipe_43 k_Md_66 ?_
      obtain ⟨e_1, e_2⟩ := inj2 h
      subst e_1
      subst e_2
      exact mj_iret (pc := 45) d_Md_recipe_45 rfl
    · rw [if_neg hc6] at h
      refine mj_iload (pc := 14) (i := 4) d_Md_recipe_14 rfl ?_
      obtain ⟨v7, hb8, h⟩ := bd1_some h
      refine mj_callS (pc := 16) (vs := [.int x4]) (st := []) d_Md_recipe_16 bB_Md_recipe_Md_isGood lk_Md_73 st_Md_isGood rfl (Nat.le_of_ble_eq_true rfl) (Nat.le_of_ble_eq_true rfl) (r_Md_isGood hb8) ?_
      show mj_R M_Md_recipe 19 [some (.ref 88), some (.int x1), some (.int x2), some (.int x3), some (.int x4), some (.int x5)] [.int v7] (SH, jn C C0) (some (.int v)) (SH, jn C (C'))
      refine mj_if_eq (y := 0) (pc := 19) (tgt := 43) d_Md_recipe_19 (by decide) mj_hs (fun hc9 => ?_) (fun hc9 => ?_)
      · rw [if_pos hc9] at h
        refine mj_ldc (pc := 43) (v := -1000000001) d_Md_recipe_43 k_Md_66 ?_
        obtain ⟨e_1, e_2⟩ := inj2 h
        subst e_1
        subst e_2
        exact mj_iret (pc := 45) d_Md_recipe_45 rfl
      · rw [if_neg hc9] at h
        refine mj_iload_n (pc := 22) (i := 3) d_Md_recipe_22 rfl rfl ?_
        refine mj_iconst (pc := 23) (v := -1) d_Md_recipe_23 (by decide) ?_
        refine mj_bipush (pc := 24) (v := 9) d_Md_recipe_24 (by decide) ?_
        obtain ⟨v10, hb11, h⟩ := bd1_some h
        refine mj_callS (pc := 26) (vs := [.int x3, .int (-1), .int 9]) (st := []) d_Md_recipe_26 bB_Md_recipe_Md_isIn lk_Md_53 st_Md_isIn rfl (Nat.le_of_ble_eq_true rfl) (Nat.le_of_ble_eq_true rfl) (r_Md_isIn hb11) ?_
        show mj_R M_Md_recipe 29 [some (.ref 88), some (.int x1), some (.int x2), some (.int x3), some (.int x4), some (.int x5)] [.int v10] (SH, jn C C0) (some (.int v)) (SH, jn C (C'))
        refine mj_if_eq (y := 0) (pc := 29) (tgt := 43) d_Md_recipe_29 (by decide) mj_hs (fun hc12 => ?_) (fun hc12 => ?_)
        · rw [if_pos hc12] at h
          refine mj_ldc (pc := 43) (v := -1000000001) d_Md_recipe_43 k_Md_66 ?_
          obtain ⟨e_1, e_2⟩ := inj2 h
          subst e_1
          subst e_2
          exact mj_iret (pc := 45) d_Md_recipe_45 rfl
        · rw [if_neg hc12] at h
          refine mj_iload (pc := 32) (i := 5) d_Md_recipe_32 rfl ?_
          refine mj_iconst (pc := 34) (v := 0) d_Md_recipe_34 (by decide) ?_
          refine mj_bipush (pc := 35) (v := 9) d_Md_recipe_35 (by decide) ?_
          obtain ⟨v13, hb14, h⟩ := bd1_some h
          refine mj_callS (pc := 37) (vs := [.int x5, .int 0, .int 9]) (st := []) d_Md_recipe_37 bB_Md_recipe_Md_isIn lk_Md_53 st_Md_isIn rfl (Nat.le_of_ble_eq_true rfl) (Nat.le_of_ble_eq_true rfl) (r_Md_isIn hb14) ?_
          show mj_R M_Md_recipe 40 [some (.ref 88), some (.int x1), some (.int x2), some (.int x3), some (.int x4), some (.int x5)] [.int v13] (SH, jn C C0) (some (.int v)) (SH, jn C (C'))
          refine mj_if_ne (y := 0) (pc := 40) (tgt := 46) d_Md_recipe_40 (by decide) mj_hs (fun hc15 => ?_) (fun hc15 => ?_)
          · rw [if_neg hc15] at h
            refine mj_aload_n (pc := 46) (i := 0) d_Md_recipe_46 rfl rfl (by decide) ?_
            refine mj_getR (pc := 47) d_Md_recipe_47 fl_Md_7 sh_88 rfl rfl (by decide) (by decide) (by decide) ?_
            refine mj_sipush (pc := 50) (v := 1308) d_Md_recipe_50 (by decide) ?_
            refine mj_bipush (pc := 53) (v := 11) d_Md_recipe_53 (by decide) ?_
            refine mj_iload_n (pc := 55) (i := 1) d_Md_recipe_55 rfl rfl ?_
            refine mj_imul (pc := 56) d_Md_recipe_56 ?_
            refine mj_iadd (pc := 57) d_Md_recipe_57 ?_
            refine mj_bipush (pc := 58) (v := 7) d_Md_recipe_58 (by decide) ?_
            refine mj_iadd (pc := 60) d_Md_recipe_60 ?_
            refine mj_iload_n (pc := 61) (i := 2) d_Md_recipe_61 rfl rfl ?_
            obtain ⟨hg16, h⟩ := mj_gd h
            refine dj_iast (pc := 62) d_Md_recipe_62 sh_89 (by decide) hg16 (by decide) ?_
            refine mj_aload_n (pc := 63) (i := 0) d_Md_recipe_63 rfl rfl (by decide) ?_
            refine mj_getR (pc := 64) d_Md_recipe_64 fl_Md_7 sh_88 rfl rfl (by decide) (by decide) (by decide) ?_
            refine mj_sipush (pc := 67) (v := 1308) d_Md_recipe_67 (by decide) ?_
            refine mj_bipush (pc := 70) (v := 11) d_Md_recipe_70 (by decide) ?_
            refine mj_iload_n (pc := 72) (i := 1) d_Md_recipe_72 rfl rfl ?_
            refine mj_imul (pc := 73) d_Md_recipe_73 ?_
            refine mj_iadd (pc := 74) d_Md_recipe_74 ?_
            refine mj_bipush (pc := 75) (v := 8) d_Md_recipe_75 (by decide) ?_
            refine mj_iadd (pc := 77) d_Md_recipe_77 ?_
            refine mj_iload_n (pc := 78) (i := 3) d_Md_recipe_78 rfl rfl ?_
            obtain ⟨hg17, h⟩ := mj_gd h
            refine dj_iast (pc := 79) d_Md_recipe_79 sh_89 (by decide) hg17 (by decide) ?_
            refine mj_aload_n (pc := 80) (i := 0) d_Md_recipe_80 rfl rfl (by decide) ?_
            refine mj_getR (pc := 81) d_Md_recipe_81 fl_Md_7 sh_88 rfl rfl (by decide) (by decide) (by decide) ?_
            refine mj_sipush (pc := 84) (v := 1308) d_Md_recipe_84 (by decide) ?_
            refine mj_bipush (pc := 87) (v := 11) d_Md_recipe_87 (by decide) ?_
            refine mj_iload_n (pc := 89) (i := 1) d_Md_recipe_89 rfl rfl ?_
            refine mj_imul (pc := 90) d_Md_recipe_90 ?_
            refine mj_iadd (pc := 91) d_Md_recipe_91 ?_
            refine mj_bipush (pc := 92) (v := 9) d_Md_recipe_92 (by decide) ?_
            refine mj_iadd (pc := 94) d_Md_recipe_94 ?_
            refine mj_iload (pc := 95) (i := 4) d_Md_recipe_95 rfl ?_
            obtain ⟨hg18, h⟩ := mj_gd h
            refine dj_iast (pc := 97) d_Md_recipe_97 sh_89 (by decide) hg18 (by decide) ?_
            refine mj_aload_n (pc := 98) (i := 0) d_Md_recipe_98 rfl rfl (by decide) ?_
            refine mj_getR (pc := 99) d_Md_recipe_99 fl_Md_7 sh_88 rfl rfl (by decide) (by decide) (by decide) ?_
            refine mj_sipush (pc := 102) (v := 1308) d_Md_recipe_102 (by decide) ?_
            refine mj_bipush (pc := 105) (v := 11) d_Md_recipe_105 (by decide) ?_
            refine mj_iload_n (pc := 107) (i := 1) d_Md_recipe_107 rfl rfl ?_
            refine mj_imul (pc := 108) d_Md_recipe_108 ?_
            refine mj_iadd (pc := 109) d_Md_recipe_109 ?_
            refine mj_bipush (pc := 110) (v := 10) d_Md_recipe_110 (by decide) ?_
            refine mj_iadd (pc := 112) d_Md_recipe_112 ?_
            refine mj_iload (pc := 113) (i := 5) d_Md_recipe_113 rfl ?_
            obtain ⟨hg19, h⟩ := mj_gd h
            refine dj_iast (pc := 115) d_Md_recipe_115 sh_89 (by decide) hg19 (by decide) ?_
            refine mj_iconst (pc := 116) (v := 0) d_Md_recipe_116 (by decide) ?_
            obtain ⟨e_1, e_2⟩ := inj2 h
            subst e_1
            subst e_2
            exact mj_iret (pc := 117) d_Md_recipe_117 rfl
          · rw [if_pos hc15] at h
            refine mj_ldc (pc := 43) (v := -1000000001) d_Md_recipe_43 k_Md_66 ?_
            obtain ⟨e_1, e_2⟩ := inj2 h
            subst e_1
            subst e_2
            exact mj_iret (pc := 45) d_Md_recipe_45 rfl
set_option maxRecDepth 20000 in
theorem r_Md_policy {x1 : Int32} {x2 : Int32} {C C0 : St} {v : Int32} {C' : St} (h : f_Md_policy x1 x2 C0 = some (v, C')) : mj_R M_Md_policy 0 (mj_lv M_Md_policy.2.2.1 [.ref 88, .int x1, .int x2]) [] (SH, jn C C0) (some (.int v)) (SH, jn C (C')) := by
  show mj_R M_Md_policy 0 [some (.ref 88), some (.int x1), some (.int x2)] [] _ _ _
  unfold f_Md_policy at h
  refine mj_iload_n (pc := 0) (i := 1) d_Md_policy_0 rfl rfl ?_
  refine mj_iconst (pc := 1) (v := 0) d_Md_policy_1 (by decide) ?_
  refine mj_sipush (pc := 2) (v := 1000) d_Md_policy_2 (by decide) ?_
  obtain ⟨v1, hb2, h⟩ := bd1_some h
  refine mj_callS (pc := 5) (vs := [.int x1, .int 0, .int 1000]) (st := []) d_Md_policy_5 bB_Md_policy_Md_isIn lk_Md_53 st_Md_isIn rfl (Nat.le_of_ble_eq_true rfl) (Nat.le_of_ble_eq_true rfl) (r_Md_isIn hb2) ?_
  show mj_R M_Md_policy 8 [some (.ref 88), some (.int x1), some (.int x2)] [.int v1] (SH, jn C C0) (some (.int v)) (SH, jn C (C'))
  refine mj_if_eq (y := 0) (pc := 8) (tgt := 21) d_Md_policy_8 (by decide) mj_hs (fun hc3 => ?_) (fun hc3 => ?_)
  · rw [if_pos hc3] at h
    refine mj_ldc (pc := 21) (v := -1000000001) d_Md_policy_21 k_Md_66 ?_
    obtain ⟨e_1, e_2⟩ := inj2 h
    subst e_1
    subst e_2
    exact mj_iret (pc := 23) d_Md_policy_23 rfl
  · rw [if_neg hc3] at h
    refine mj_iload_n (pc := 11) (i := 2) d_Md_policy_11 rfl rfl ?_
    refine mj_iconst (pc := 12) (v := 0) d_Md_policy_12 (by decide) ?_
    refine mj_bipush (pc := 13) (v := 100) d_Md_policy_13 (by decide) ?_
    obtain ⟨v4, hb5, h⟩ := bd1_some h
    refine mj_callS (pc := 15) (vs := [.int x2, .int 0, .int 100]) (st := []) d_Md_policy_15 bB_Md_policy_Md_isIn lk_Md_53 st_Md_isIn rfl (Nat.le_of_ble_eq_true rfl) (Nat.le_of_ble_eq_true rfl) (r_Md_isIn hb5) ?_
    show mj_R M_Md_policy 18 [some (.ref 88), some (.int x1), some (.int x2)] [.int v4] (SH, jn C C0) (some (.int v)) (SH, jn C (C'))
    refine mj_if_ne (y := 0) (pc := 18) (tgt := 24) d_Md_policy_18 (by decide) mj_hs (fun hc6 => ?_) (fun hc6 => ?_)
    · rw [if_neg hc6] at h
      refine mj_aload_n (pc := 24) (i := 0) d_Md_policy_24 rfl rfl (by decide) ?_
      refine mj_getR (pc := 25) d_Md_policy_25 fl_Md_7 sh_88 rfl rfl (by decide) (by decide) (by decide) ?_
      refine mj_sipush (pc := 28) (v := 2166) d_Md_policy_28 (by decide) ?_
      refine mj_iload_n (pc := 31) (i := 1) d_Md_policy_31 rfl rfl ?_
      refine dj_iast (pc := 32) d_Md_policy_32 sh_89 (by decide) (by decide) (by decide) ?_
      show mj_R M_Md_policy 33 [some (.ref 88), some (.int x1), some (.int x2)] [] (SH, jn C (mj_wr C0 89 2166 x1)) (some (.int v)) (SH, jn C (C'))
      refine mj_aload_n (pc := 33) (i := 0) d_Md_policy_33 rfl rfl (by decide) ?_
      refine mj_getR (pc := 34) d_Md_policy_34 fl_Md_7 sh_88 rfl rfl (by decide) (by decide) (by decide) ?_
      refine mj_sipush (pc := 37) (v := 2167) d_Md_policy_37 (by decide) ?_
      refine mj_iload_n (pc := 40) (i := 2) d_Md_policy_40 rfl rfl ?_
      refine dj_iast (pc := 41) d_Md_policy_41 sh_89 (by decide) (by decide) (by decide) ?_
      show mj_R M_Md_policy 42 [some (.ref 88), some (.int x1), some (.int x2)] [] (SH, jn C (mj_wr (mj_wr C0 89 2166 x1) 89 2167 x2)) (some (.int v)) (SH, jn C (C'))
      refine mj_iconst (pc := 42) (v := 0) d_Md_policy_42 (by decide) ?_
      obtain ⟨e_1, e_2⟩ := inj2 h
      subst e_1
      subst e_2
      exact mj_iret (pc := 43) d_Md_policy_43 rfl
    · rw [if_pos hc6] at h
      refine mj_ldc (pc := 21) (v := -1000000001) d_Md_policy_21 k_Md_66 ?_
      obtain ⟨e_1, e_2⟩ := inj2 h
      subst e_1
      subst e_2
      exact mj_iret (pc := 23) d_Md_policy_23 rfl
set_option maxRecDepth 20000 in
theorem r_Md_lots {x1 : Int32} {C C0 : St} {v : Int32} {C' : St} (h : f_Md_lots x1 C0 = some (v, C')) : mj_R M_Md_lots 0 (mj_lv M_Md_lots.2.2.1 [.ref 88, .int x1]) [] (SH, jn C C0) (some (.int v)) (SH, jn C (C')) := by
  show mj_R M_Md_lots 0 [some (.ref 88), some (.int x1)] [] _ _ _
  unfold f_Md_lots at h
  refine mj_iload_n (pc := 0) (i := 1) d_Md_lots_0 rfl rfl ?_
  refine mj_if_ge (y := 0) (pc := 1) (tgt := 7) d_Md_lots_1 (by decide) mj_hs (fun hc1 => ?_) (fun hc1 => ?_)
  · rw [if_pos hc1] at h
    refine mj_aload_n (pc := 7) (i := 0) d_Md_lots_7 rfl rfl (by decide) ?_
    refine mj_getR (pc := 8) d_Md_lots_8 fl_Md_7 sh_88 rfl rfl (by decide) (by decide) (by decide) ?_
    refine mj_sipush (pc := 11) (v := 2165) d_Md_lots_11 (by decide) ?_
    refine mj_iload_n (pc := 14) (i := 1) d_Md_lots_14 rfl rfl ?_
    refine dj_iast (pc := 15) d_Md_lots_15 sh_89 (by decide) (by decide) (by decide) ?_
    show mj_R M_Md_lots 16 [some (.ref 88), some (.int x1)] [] (SH, jn C (mj_wr C0 89 2165 x1)) (some (.int v)) (SH, jn C (C'))
    refine mj_iconst (pc := 16) (v := 0) d_Md_lots_16 (by decide) ?_
    obtain ⟨e_1, e_2⟩ := inj2 h
    subst e_1
    subst e_2
    exact mj_iret (pc := 17) d_Md_lots_17 rfl
  · rw [if_neg hc1] at h
    refine mj_ldc (pc := 4) (v := -1000000001) d_Md_lots_4 k_Md_66 ?_
    obtain ⟨e_1, e_2⟩ := inj2 h
    subst e_1
    subst e_2
    exact mj_iret (pc := 6) d_Md_lots_6 rfl
set_option maxRecDepth 20000 in
theorem l_Md_lay_2 {r : Option Value} {X y : St} : ∀ (n : Nat) (y1 : Int32) (y2 : Int32) (C : St) (Q_ : St), L_Md_lay_2 n y1 y2 C = some Q_ → mj_R M_Md_lay 41 [none, none, none] [] (SH, jn X Q_) r (SH, y) → mj_R M_Md_lay 2 [some (.ref 88), some (.int y1), some (.int y2)] [] (SH, jn X C) r (SH, y) := by
  intro n
  induction n with
  | zero => intro y1 y2 C Q_ h; cases h
  | succ n ih =>
    intro y1 y2 C Q_ h hX
    unfold L_Md_lay_2 at h
    refine mj_iload_n (pc := 2) (i := 2) d_Md_lay_2 rfl rfl ?_
    refine mj_if_lt (y := 0) (pc := 3) (tgt := 41) d_Md_lay_3 (by decide) mj_hs (fun hc1 => ?_) (fun hc1 => ?_)
    · rw [if_pos hc1] at h
      obtain e_1 := inj1 h
      subst e_1
      exact mj_wk hX trivial
    · rw [if_neg hc1] at h
      refine mj_aload_n (pc := 6) (i := 0) d_Md_lay_6 rfl rfl (by decide) ?_
      refine mj_getR (pc := 7) d_Md_lay_7 fl_Md_20 sh_88 rfl rfl (by decide) (by decide) (by decide) ?_
      refine mj_aload_n (pc := 10) (i := 0) d_Md_lay_10 rfl rfl (by decide) ?_
      refine dj_getI (pc := 11) d_Md_lay_11 fl_Md_80 sh_88 rfl (by decide) (by decide) (by decide) ?_
      refine mj_iload_n (pc := 14) (i := 1) d_Md_lay_14 rfl rfl ?_
      refine mj_bipush (pc := 15) (v := 8) d_Md_lay_15 (by decide) ?_
      refine mj_iload_n (pc := 17) (i := 2) d_Md_lay_17 rfl rfl ?_
      refine mj_imul (pc := 18) d_Md_lay_18 ?_
      refine mj_ishr (pc := 19) d_Md_lay_19 ?_
      refine mj_sipush (pc := 20) (v := 255) d_Md_lay_20 (by decide) ?_
      refine mj_iand (pc := 23) d_Md_lay_23 ?_
      obtain ⟨hg2, h⟩ := mj_gd h
      refine dj_iast (pc := 24) d_Md_lay_24 sh_92 (by decide) hg2 (by decide) ?_
      refine mj_aload_n (pc := 25) (i := 0) d_Md_lay_25 rfl rfl (by decide) ?_
      refine mj_dup (pc := 26) d_Md_lay_26 rfl ?_
      refine dj_getI (pc := 27) d_Md_lay_27 fl_Md_80 sh_88 rfl (by decide) (by decide) (by decide) ?_
      refine mj_iconst (pc := 30) (v := 1) d_Md_lay_30 (by decide) ?_
      refine mj_iadd (pc := 31) d_Md_lay_31 ?_
      refine dj_putI (pc := 32) d_Md_lay_32 fl_Md_80 sh_88 rfl (fun _ _ _ h => by cases h; rfl) (by decide) (by decide) (by decide) ?_
      refine mj_iinc (pc := 35) (i := 2) (v := y2 + (-1)) d_Md_lay_35 rfl (by rfl) rfl (by decide) ?_
      refine mj_goto (pc := 38) (tgt := 2) d_Md_lay_38 (by decide) ?_
      exact mj_weak [some (.ref 88), some (.int y1), some (.int (y2 + (-1)))] (And.intro rfl (And.intro rfl (And.intro rfl trivial))) (ih _ _ _ _ h hX)
set_option maxRecDepth 20000 in
theorem r_Md_lay {x1 : Int32} {C C0 : St} {C' : St} (h : f_Md_lay x1 C0 = some (C')) : mj_R M_Md_lay 0 (mj_lv M_Md_lay.2.2.1 [.ref 88, .int x1]) [] (SH, jn C C0) none (SH, jn C (C')) := by
  show mj_R M_Md_lay 0 [some (.ref 88), some (.int x1), none] [] _ _ _
  unfold f_Md_lay at h
  refine mj_iconst (pc := 0) (v := 3) d_Md_lay_0 (by decide) ?_
  refine mj_istore_n (pc := 1) (i := 2) d_Md_lay_1 rfl rfl (by decide) ?_
  obtain ⟨C3, hl4, h⟩ := bd1_some h
  refine mj_weak [some (.ref 88), some (.int x1), some (.int 3)] (And.intro rfl (And.intro rfl (And.intro rfl trivial))) (l_Md_lay_2 3000 _ _ _ _ hl4 ?_)
  obtain e_1 := inj1 h
  subst e_1
  exact mj_vret (pc := 41) d_Md_lay_41 rfl
set_option maxRecDepth 20000 in
theorem r_Md_feed {x1 : Int32} {x2 : Int32} {x3 : Int32} {x4 : Int32} {x5 : Int32} {C C0 : St} {v : Int32} {C' : St} (h : f_Md_feed x1 x2 x3 x4 x5 C0 = some (v, C')) : mj_R M_Md_feed 0 (mj_lv M_Md_feed.2.2.1 [.ref 88, .int x1, .int x2, .int x3, .int x4, .int x5]) [] (SH, jn C C0) (some (.int v)) (SH, jn C (C')) := by
  show mj_R M_Md_feed 0 [some (.ref 88), some (.int x1), some (.int x2), some (.int x3), some (.int x4), some (.int x5)] [] _ _ _
  unfold f_Md_feed at h
  refine mj_aload_n (pc := 0) (i := 0) d_Md_feed_0 rfl rfl (by decide) ?_
  refine dj_getI (pc := 1) d_Md_feed_1 fl_Md_80 sh_88 rfl (by decide) (by decide) (by decide) ?_
  refine mj_bipush (pc := 4) (v := 20) d_Md_feed_4 (by decide) ?_
  refine mj_iadd (pc := 6) d_Md_feed_6 ?_
  refine mj_bipush (pc := 7) (v := 60) d_Md_feed_7 (by decide) ?_
  refine mj_icmp_le (pc := 9) (tgt := 15) d_Md_feed_9 (by decide) mj_hs (fun hc1 => ?_) (fun hc1 => ?_)
  · rw [if_pos hc1] at h
    refine mj_aload_n (pc := 15) (i := 0) d_Md_feed_15 rfl rfl (by decide) ?_
    refine mj_iload_n (pc := 16) (i := 1) d_Md_feed_16 rfl rfl ?_
    obtain ⟨C2, hb3, h⟩ := bd1_some h
    refine mj_callV (pc := 17) (b := 88) (vs := [.int x1]) (st := []) d_Md_feed_17 bB_Md_feed_Md_lay lk_Md_84 iv_Md_lay rc_88 rfl (Nat.le_of_ble_eq_true rfl) (Nat.le_of_ble_eq_true rfl) (r_Md_lay hb3) ?_
    show mj_R M_Md_feed 20 [some (.ref 88), some (.int x1), some (.int x2), some (.int x3), some (.int x4), some (.int x5)] [] (SH, jn C C2) (some (.int v)) (SH, jn C (C'))
    refine mj_aload_n (pc := 20) (i := 0) d_Md_feed_20 rfl rfl (by decide) ?_
    refine mj_iload_n (pc := 21) (i := 2) d_Md_feed_21 rfl rfl ?_
    obtain ⟨C4, hb5, h⟩ := bd1_some h
    refine mj_callV (pc := 22) (b := 88) (vs := [.int x2]) (st := []) d_Md_feed_22 bB_Md_feed_Md_lay lk_Md_84 iv_Md_lay rc_88 rfl (Nat.le_of_ble_eq_true rfl) (Nat.le_of_ble_eq_true rfl) (r_Md_lay hb5) ?_
    show mj_R M_Md_feed 25 [some (.ref 88), some (.int x1), some (.int x2), some (.int x3), some (.int x4), some (.int x5)] [] (SH, jn C C4) (some (.int v)) (SH, jn C (C'))
    refine mj_aload_n (pc := 25) (i := 0) d_Md_feed_25 rfl rfl (by decide) ?_
    refine mj_iload_n (pc := 26) (i := 3) d_Md_feed_26 rfl rfl ?_
    obtain ⟨C6, hb7, h⟩ := bd1_some h
    refine mj_callV (pc := 27) (b := 88) (vs := [.int x3]) (st := []) d_Md_feed_27 bB_Md_feed_Md_lay lk_Md_84 iv_Md_lay rc_88 rfl (Nat.le_of_ble_eq_true rfl) (Nat.le_of_ble_eq_true rfl) (r_Md_lay hb7) ?_
    show mj_R M_Md_feed 30 [some (.ref 88), some (.int x1), some (.int x2), some (.int x3), some (.int x4), some (.int x5)] [] (SH, jn C C6) (some (.int v)) (SH, jn C (C'))
    refine mj_aload_n (pc := 30) (i := 0) d_Md_feed_30 rfl rfl (by decide) ?_
    refine mj_iload (pc := 31) (i := 4) d_Md_feed_31 rfl ?_
    obtain ⟨C8, hb9, h⟩ := bd1_some h
    refine mj_callV (pc := 33) (b := 88) (vs := [.int x4]) (st := []) d_Md_feed_33 bB_Md_feed_Md_lay lk_Md_84 iv_Md_lay rc_88 rfl (Nat.le_of_ble_eq_true rfl) (Nat.le_of_ble_eq_true rfl) (r_Md_lay hb9) ?_
    show mj_R M_Md_feed 36 [some (.ref 88), some (.int x1), some (.int x2), some (.int x3), some (.int x4), some (.int x5)] [] (SH, jn C C8) (some (.int v)) (SH, jn C (C'))
    refine mj_aload_n (pc := 36) (i := 0) d_Md_feed_36 rfl rfl (by decide) ?_
    refine mj_iload (pc := 37) (i := 5) d_Md_feed_37 rfl ?_
    obtain ⟨C10, hb11, h⟩ := bd1_some h
    refine mj_callV (pc := 39) (b := 88) (vs := [.int x5]) (st := []) d_Md_feed_39 bB_Md_feed_Md_lay lk_Md_84 iv_Md_lay rc_88 rfl (Nat.le_of_ble_eq_true rfl) (Nat.le_of_ble_eq_true rfl) (r_Md_lay hb11) ?_
    show mj_R M_Md_feed 42 [some (.ref 88), some (.int x1), some (.int x2), some (.int x3), some (.int x4), some (.int x5)] [] (SH, jn C C10) (some (.int v)) (SH, jn C (C'))
    refine mj_aload_n (pc := 42) (i := 0) d_Md_feed_42 rfl rfl (by decide) ?_
    refine dj_getI (pc := 43) d_Md_feed_43 fl_Md_80 sh_88 rfl (by decide) (by decide) (by decide) ?_
    obtain ⟨e_1, e_2⟩ := inj2 h
    subst e_1
    subst e_2
    exact mj_iret (pc := 46) d_Md_feed_46 rfl
  · rw [if_neg hc1] at h
    refine mj_ldc (pc := 12) (v := -1000000003) d_Md_feed_12 k_Md_67 ?_
    obtain ⟨e_1, e_2⟩ := inj2 h
    subst e_1
    subst e_2
    exact mj_iret (pc := 14) d_Md_feed_14 rfl
set_option maxRecDepth 20000 in
theorem r_Md_trim {x1 : Int32} {C C0 : St} {v : Int32} {C' : St} (h : f_Md_trim x1 C0 = some (v, C')) : mj_R M_Md_trim 0 (mj_lv M_Md_trim.2.2.1 [.ref 88, .int x1]) [] (SH, jn C C0) (some (.int v)) (SH, jn C (C')) := by
  show mj_R M_Md_trim 0 [some (.ref 88), some (.int x1)] [] _ _ _
  unfold f_Md_trim at h
  refine mj_iload_n (pc := 0) (i := 1) d_Md_trim_0 rfl rfl ?_
  refine mj_iconst (pc := 1) (v := 0) d_Md_trim_1 (by decide) ?_
  refine mj_aload_n (pc := 2) (i := 0) d_Md_trim_2 rfl rfl (by decide) ?_
  refine dj_getI (pc := 3) d_Md_trim_3 fl_Md_80 sh_88 rfl (by decide) (by decide) (by decide) ?_
  obtain ⟨v1, hb2, h⟩ := bd1_some h
  refine mj_callS (pc := 6) (vs := [.int x1, .int 0, .int (C0 88 4)]) (st := []) d_Md_trim_6 bB_Md_trim_Md_isIn lk_Md_53 st_Md_isIn rfl (Nat.le_of_ble_eq_true rfl) (Nat.le_of_ble_eq_true rfl) (r_Md_isIn hb2) ?_
  show mj_R M_Md_trim 9 [some (.ref 88), some (.int x1)] [.int v1] (SH, jn C C0) (some (.int v)) (SH, jn C (C'))
  refine mj_if_ne (y := 0) (pc := 9) (tgt := 15) d_Md_trim_9 (by decide) mj_hs (fun hc3 => ?_) (fun hc3 => ?_)
  · rw [if_neg hc3] at h
    refine mj_aload_n (pc := 15) (i := 0) d_Md_trim_15 rfl rfl (by decide) ?_
    refine mj_iload_n (pc := 16) (i := 1) d_Md_trim_16 rfl rfl ?_
    refine dj_putI (pc := 17) d_Md_trim_17 fl_Md_80 sh_88 rfl (fun _ _ _ h => by cases h; rfl) (by decide) (by decide) (by decide) ?_
    refine mj_iload_n (pc := 20) (i := 1) d_Md_trim_20 rfl rfl ?_
    obtain ⟨e_1, e_2⟩ := inj2 h
    subst e_1
    subst e_2
    exact mj_iret (pc := 21) d_Md_trim_21 rfl
  · rw [if_pos hc3] at h
    refine mj_ldc (pc := 12) (v := -1000000001) d_Md_trim_12 k_Md_66 ?_
    obtain ⟨e_1, e_2⟩ := inj2 h
    subst e_1
    subst e_2
    exact mj_iret (pc := 14) d_Md_trim_14 rfl
set_option maxRecDepth 20000 in
theorem l_Md_next_8 {r : Option Value} {X y : St} : ∀ (n : Nat)  (C : St) (Q_ : St), L_Md_next_8 n C = some Q_ → mj_R M_Md_next 46 [some (.ref 88)] [] (SH, jn X Q_) r (SH, y) → mj_R M_Md_next 8 [some (.ref 88)] [] (SH, jn X C) r (SH, y) := by
  intro n
  induction n with
  | zero => intro C Q_ h; cases h
  | succ n ih =>
    intro C Q_ h hX
    unfold L_Md_next_8 at h
    refine mj_aload_n (pc := 8) (i := 0) d_Md_next_8 rfl rfl (by decide) ?_
    refine dj_getI (pc := 9) d_Md_next_9 fl_Md_91 sh_88 rfl (by decide) (by decide) (by decide) ?_
    refine mj_aload_n (pc := 12) (i := 0) d_Md_next_12 rfl rfl (by decide) ?_
    refine dj_getI (pc := 13) d_Md_next_13 fl_Md_94 sh_88 rfl (by decide) (by decide) (by decide) ?_
    refine mj_icmp_ge (pc := 16) (tgt := 46) d_Md_next_16 (by decide) mj_hs (fun hc1 => ?_) (fun hc1 => ?_)
    · rw [if_pos hc1] at h
      obtain e_1 := inj1 h
      subst e_1
      exact mj_wk hX (And.intro rfl trivial)
    · rw [if_neg hc1] at h
      refine mj_aload_n (pc := 19) (i := 0) d_Md_next_19 rfl rfl (by decide) ?_
      refine mj_getR (pc := 20) d_Md_next_20 fl_Md_20 sh_88 rfl rfl (by decide) (by decide) (by decide) ?_
      refine mj_aload_n (pc := 23) (i := 0) d_Md_next_23 rfl rfl (by decide) ?_
      refine dj_getI (pc := 24) d_Md_next_24 fl_Md_91 sh_88 rfl (by decide) (by decide) (by decide) ?_
      obtain ⟨hg2, h⟩ := mj_gd h
      refine dj_iald (pc := 27) d_Md_next_27 sh_92 (by decide) hg2 (by decide) ?_
      refine mj_bipush (pc := 28) (v := 32) d_Md_next_28 (by decide) ?_
      refine mj_icmp_ne (pc := 30) (tgt := 46) d_Md_next_30 (by decide) mj_hs (fun hc3 => ?_) (fun hc3 => ?_)
      · rw [if_neg hc3] at h
        obtain e_1 := inj1 h
        subst e_1
        exact mj_wk hX (And.intro rfl trivial)
      · rw [if_pos hc3] at h
        refine mj_aload_n (pc := 33) (i := 0) d_Md_next_33 rfl rfl (by decide) ?_
        refine mj_dup (pc := 34) d_Md_next_34 rfl ?_
        refine dj_getI (pc := 35) d_Md_next_35 fl_Md_91 sh_88 rfl (by decide) (by decide) (by decide) ?_
        refine mj_iconst (pc := 38) (v := 1) d_Md_next_38 (by decide) ?_
        refine mj_iadd (pc := 39) d_Md_next_39 ?_
        refine dj_putI (pc := 40) d_Md_next_40 fl_Md_91 sh_88 rfl (fun _ _ _ h => by cases h; rfl) (by decide) (by decide) (by decide) ?_
        refine mj_goto (pc := 43) (tgt := 8) d_Md_next_43 (by decide) ?_
        exact mj_weak [some (.ref 88)] (And.intro rfl trivial) (ih _ _ h hX)
set_option maxRecDepth 20000 in
theorem l_Md_next_62 {r : Option Value} {X y : St} : ∀ (n : Nat)  (C : St) (Q_ : St), L_Md_next_62 n C = some Q_ → mj_R M_Md_next 100 [some (.ref 88)] [] (SH, jn X Q_) r (SH, y) → mj_R M_Md_next 62 [some (.ref 88)] [] (SH, jn X C) r (SH, y) := by
  intro n
  induction n with
  | zero => intro C Q_ h; cases h
  | succ n ih =>
    intro C Q_ h hX
    unfold L_Md_next_62 at h
    refine mj_aload_n (pc := 62) (i := 0) d_Md_next_62 rfl rfl (by decide) ?_
    refine dj_getI (pc := 63) d_Md_next_63 fl_Md_88 sh_88 rfl (by decide) (by decide) (by decide) ?_
    refine mj_aload_n (pc := 66) (i := 0) d_Md_next_66 rfl rfl (by decide) ?_
    refine dj_getI (pc := 67) d_Md_next_67 fl_Md_94 sh_88 rfl (by decide) (by decide) (by decide) ?_
    refine mj_icmp_ge (pc := 70) (tgt := 100) d_Md_next_70 (by decide) mj_hs (fun hc6 => ?_) (fun hc6 => ?_)
    · rw [if_pos hc6] at h
      obtain e_1 := inj1 h
      subst e_1
      exact mj_wk hX (And.intro rfl trivial)
    · rw [if_neg hc6] at h
      refine mj_aload_n (pc := 73) (i := 0) d_Md_next_73 rfl rfl (by decide) ?_
      refine mj_getR (pc := 74) d_Md_next_74 fl_Md_20 sh_88 rfl rfl (by decide) (by decide) (by decide) ?_
      refine mj_aload_n (pc := 77) (i := 0) d_Md_next_77 rfl rfl (by decide) ?_
      refine dj_getI (pc := 78) d_Md_next_78 fl_Md_88 sh_88 rfl (by decide) (by decide) (by decide) ?_
      obtain ⟨hg7, h⟩ := mj_gd h
      refine dj_iald (pc := 81) d_Md_next_81 sh_92 (by decide) hg7 (by decide) ?_
      refine mj_bipush (pc := 82) (v := 32) d_Md_next_82 (by decide) ?_
      refine mj_icmp_eq (pc := 84) (tgt := 100) d_Md_next_84 (by decide) mj_hs (fun hc8 => ?_) (fun hc8 => ?_)
      · rw [if_pos hc8] at h
        obtain e_1 := inj1 h
        subst e_1
        exact mj_wk hX (And.intro rfl trivial)
      · rw [if_neg hc8] at h
        refine mj_aload_n (pc := 87) (i := 0) d_Md_next_87 rfl rfl (by decide) ?_
        refine mj_dup (pc := 88) d_Md_next_88 rfl ?_
        refine dj_getI (pc := 89) d_Md_next_89 fl_Md_88 sh_88 rfl (by decide) (by decide) (by decide) ?_
        refine mj_iconst (pc := 92) (v := 1) d_Md_next_92 (by decide) ?_
        refine mj_iadd (pc := 93) d_Md_next_93 ?_
        refine dj_putI (pc := 94) d_Md_next_94 fl_Md_88 sh_88 rfl (fun _ _ _ h => by cases h; rfl) (by decide) (by decide) (by decide) ?_
        refine mj_goto (pc := 97) (tgt := 62) d_Md_next_97 (by decide) ?_
        exact mj_weak [some (.ref 88)] (And.intro rfl trivial) (ih _ _ h hX)
set_option maxRecDepth 20000 in
theorem r_Md_next  {C C0 : St} {C' : St} (h : f_Md_next C0 = some (C')) : mj_R M_Md_next 0 (mj_lv M_Md_next.2.2.1 [.ref 88]) [] (SH, jn C C0) none (SH, jn C (C')) := by
  show mj_R M_Md_next 0 [some (.ref 88)] [] _ _ _
  unfold f_Md_next at h
  refine mj_aload_n (pc := 0) (i := 0) d_Md_next_0 rfl rfl (by decide) ?_
  refine mj_aload_n (pc := 1) (i := 0) d_Md_next_1 rfl rfl (by decide) ?_
  refine dj_getI (pc := 2) d_Md_next_2 fl_Md_88 sh_88 rfl (by decide) (by decide) (by decide) ?_
  refine dj_putI (pc := 5) d_Md_next_5 fl_Md_91 sh_88 rfl (fun _ _ _ h => by cases h; rfl) (by decide) (by decide) (by decide) ?_
  obtain ⟨C4, hl5, h⟩ := bd1_some h
  refine mj_weak [some (.ref 88)] (And.intro rfl trivial) (l_Md_next_8 3000 _ _ hl5 ?_)
  refine mj_aload_n (pc := 46) (i := 0) d_Md_next_46 rfl rfl (by decide) ?_
  refine mj_aload_n (pc := 47) (i := 0) d_Md_next_47 rfl rfl (by decide) ?_
  refine dj_getI (pc := 48) d_Md_next_48 fl_Md_91 sh_88 rfl (by decide) (by decide) (by decide) ?_
  refine dj_putI (pc := 51) d_Md_next_51 fl_Md_97 sh_88 rfl (fun _ _ _ h => by cases h; rfl) (by decide) (by decide) (by decide) ?_
  refine mj_aload_n (pc := 54) (i := 0) d_Md_next_54 rfl rfl (by decide) ?_
  refine mj_aload_n (pc := 55) (i := 0) d_Md_next_55 rfl rfl (by decide) ?_
  refine dj_getI (pc := 56) d_Md_next_56 fl_Md_91 sh_88 rfl (by decide) (by decide) (by decide) ?_
  refine dj_putI (pc := 59) d_Md_next_59 fl_Md_88 sh_88 rfl (fun _ _ _ h => by cases h; rfl) (by decide) (by decide) (by decide) ?_
  obtain ⟨C9, hl10, h⟩ := bd1_some h
  refine mj_weak [some (.ref 88)] (And.intro rfl trivial) (l_Md_next_62 3000 _ _ hl10 ?_)
  refine mj_aload_n (pc := 100) (i := 0) d_Md_next_100 rfl rfl (by decide) ?_
  refine dj_getI (pc := 101) d_Md_next_101 fl_Md_97 sh_88 rfl (by decide) (by decide) (by decide) ?_
  refine mj_aload_n (pc := 104) (i := 0) d_Md_next_104 rfl rfl (by decide) ?_
  refine dj_getI (pc := 105) d_Md_next_105 fl_Md_88 sh_88 rfl (by decide) (by decide) (by decide) ?_
  obtain ⟨C12, hb14, h⟩ := bd1_some h
  have k13 : mj_R M_Md_next 119 [none] [] (SH, jn C C12) none (SH, jn C (C')) := by
    obtain e_1 := inj1 h
    subst e_1
    exact mj_vret (pc := 119) d_Md_next_119 rfl
  have h := hb14
  refine mj_icmp_ne (pc := 108) (tgt := 119) d_Md_next_108 (by decide) mj_hs (fun hc11 => ?_) (fun hc11 => ?_)
  · rw [if_neg hc11] at h
    obtain e_1 := inj1 h
    subst e_1
    exact mj_wk k13 trivial
  · rw [if_pos hc11] at h
    refine mj_aload_n (pc := 111) (i := 0) d_Md_next_111 rfl rfl (by decide) ?_
    refine mj_aload_n (pc := 112) (i := 0) d_Md_next_112 rfl rfl (by decide) ?_
    refine dj_getI (pc := 113) d_Md_next_113 fl_Md_94 sh_88 rfl (by decide) (by decide) (by decide) ?_
    refine dj_putI (pc := 116) d_Md_next_116 fl_Md_97 sh_88 rfl (fun _ _ _ h => by cases h; rfl) (by decide) (by decide) (by decide) ?_
    obtain e_1 := inj1 h
    subst e_1
    exact mj_wk k13 trivial
set_option maxRecDepth 20000 in
theorem r_Md_reads {x1 : Int32} {x2 : Int32} {x3 : Int32} {x4 : Int32} {x5 : Int32} {C C0 : St} {v : Int32} (h : f_Md_reads x1 x2 x3 x4 x5 C0 = some v) : mj_R M_Md_reads 0 (mj_lv M_Md_reads.2.2.1 [.ref 88, .int x1, .int x2, .int x3, .int x4, .int x5]) [] (SH, jn C C0) (some (.int v)) (SH, jn C C0) := by
  show mj_R M_Md_reads 0 [some (.ref 88), some (.int x1), some (.int x2), some (.int x3), some (.int x4), some (.int x5), none] [] _ _ _
  unfold f_Md_reads at h
  refine mj_iload (pc := 0) (i := 5) d_Md_reads_0 rfl ?_
  have k5 : mj_R M_Md_reads 35 [some (.ref 88), some (.int x1), some (.int x2), some (.int x3), some (.int x4), some (.int x5), none] [.int (if x5 = 0 then (if x4 = 0 then (if x3 = 0 then (if x2 = 0 then 1 else 2 : Int32) else 3 : Int32) else 4 : Int32) else 5 : Int32)] (SH, jn C C0) (some (.int v)) (SH, jn C C0) := by
    refine mj_istore (pc := 35) (i := 6) d_Md_reads_35 rfl (by decide) ?_
    refine mj_aload_n (pc := 37) (i := 0) d_Md_reads_37 rfl rfl (by decide) ?_
    refine dj_getI (pc := 38) d_Md_reads_38 fl_Md_97 sh_88 rfl (by decide) (by decide) (by decide) ?_
    refine mj_aload_n (pc := 41) (i := 0) d_Md_reads_41 rfl rfl (by decide) ?_
    refine dj_getI (pc := 42) d_Md_reads_42 fl_Md_94 sh_88 rfl (by decide) (by decide) (by decide) ?_
    refine mj_icmp_ge (pc := 45) (tgt := 75) d_Md_reads_45 (by decide) mj_hs (fun hc6 => ?_) (fun hc6 => ?_)
    · rw [if_pos hc6] at h
      refine mj_iconst (pc := 75) (v := 0) d_Md_reads_75 (by decide) ?_
      obtain e_1 := inj1 h
      subst e_1
      exact mj_zret (pc := 76) (ty := .boolean) d_Md_reads_76 rfl (mj_b01 (by decide))
    · rw [if_neg hc6] at h
      refine mj_aload_n (pc := 48) (i := 0) d_Md_reads_48 rfl rfl (by decide) ?_
      refine dj_getI (pc := 49) d_Md_reads_49 fl_Md_88 sh_88 rfl (by decide) (by decide) (by decide) ?_
      refine mj_aload_n (pc := 52) (i := 0) d_Md_reads_52 rfl rfl (by decide) ?_
      refine dj_getI (pc := 53) d_Md_reads_53 fl_Md_97 sh_88 rfl (by decide) (by decide) (by decide) ?_
      refine mj_isub (pc := 56) d_Md_reads_56 ?_
      refine mj_iload (pc := 57) (i := 6) d_Md_reads_57 rfl ?_
      refine mj_icmp_ne (pc := 59) (tgt := 75) d_Md_reads_59 (by decide) mj_hs (fun hc7 => ?_) (fun hc7 => ?_)
      · rw [if_neg hc7] at h
        refine mj_iconst (pc := 75) (v := 0) d_Md_reads_75 (by decide) ?_
        obtain e_1 := inj1 h
        subst e_1
        exact mj_zret (pc := 76) (ty := .boolean) d_Md_reads_76 rfl (mj_b01 (by decide))
      · rw [if_pos hc7] at h
        refine mj_aload_n (pc := 62) (i := 0) d_Md_reads_62 rfl rfl (by decide) ?_
        refine mj_getR (pc := 63) d_Md_reads_63 fl_Md_20 sh_88 rfl rfl (by decide) (by decide) (by decide) ?_
        refine mj_aload_n (pc := 66) (i := 0) d_Md_reads_66 rfl rfl (by decide) ?_
        refine dj_getI (pc := 67) d_Md_reads_67 fl_Md_97 sh_88 rfl (by decide) (by decide) (by decide) ?_
        obtain ⟨hg8, h⟩ := mj_gd h
        refine dj_iald (pc := 70) d_Md_reads_70 sh_92 (by decide) hg8 (by decide) ?_
        refine mj_iload_n (pc := 71) (i := 1) d_Md_reads_71 rfl rfl ?_
        refine mj_icmp_eq (pc := 72) (tgt := 77) d_Md_reads_72 (by decide) mj_hs (fun hc9 => ?_) (fun hc9 => ?_)
        · rw [if_pos hc9] at h
          refine mj_iload (pc := 77) (i := 6) d_Md_reads_77 rfl ?_
          refine mj_iconst (pc := 79) (v := 2) d_Md_reads_79 (by decide) ?_
          obtain ⟨w55, hb57, h⟩ := bd1_some h
          have k56 : mj_R M_Md_reads 168 [none, none, none, none, none, none, none] [.int w55] (SH, jn C C0) (some (.int v)) (SH, jn C C0) := by
            obtain ⟨hg58, h⟩ := mj_gd h
            obtain e_1 := inj1 h
            subst e_1
            exact mj_zret (pc := 168) (ty := .boolean) d_Md_reads_168 rfl (mj_b01 hg58)
          have h := hb57
          refine mj_icmp_lt (pc := 80) (tgt := 98) d_Md_reads_80 (by decide) mj_hs (fun hc10 => ?_) (fun hc10 => ?_)
          · rw [if_pos hc10] at h
            refine mj_iload (pc := 98) (i := 6) d_Md_reads_98 rfl ?_
            refine mj_iconst (pc := 100) (v := 3) d_Md_reads_100 (by decide) ?_
            refine mj_icmp_lt (pc := 101) (tgt := 119) d_Md_reads_101 (by decide) mj_hs (fun hc11 => ?_) (fun hc11 => ?_)
            · rw [if_pos hc11] at h
              refine mj_iload (pc := 119) (i := 6) d_Md_reads_119 rfl ?_
              refine mj_iconst (pc := 121) (v := 4) d_Md_reads_121 (by decide) ?_
              refine mj_icmp_lt (pc := 122) (tgt := 141) d_Md_reads_122 (by decide) mj_hs (fun hc12 => ?_) (fun hc12 => ?_)
              · rw [if_pos hc12] at h
                refine mj_iload (pc := 141) (i := 6) d_Md_reads_141 rfl ?_
                refine mj_iconst (pc := 143) (v := 5) d_Md_reads_143 (by decide) ?_
                refine mj_icmp_lt (pc := 144) (tgt := 163) d_Md_reads_144 (by decide) mj_hs (fun hc13 => ?_) (fun hc13 => ?_)
                · rw [if_pos hc13] at h
                  refine mj_iconst (pc := 163) (v := 1) d_Md_reads_163 (by decide) ?_
                  refine mj_goto (pc := 164) (tgt := 168) d_Md_reads_164 (by decide) ?_
                  obtain e_1 := inj1 h
                  subst e_1
                  exact mj_wk k56 trivial
                · rw [if_neg hc13] at h
                  refine mj_aload_n (pc := 147) (i := 0) d_Md_reads_147 rfl rfl (by decide) ?_
                  refine mj_getR (pc := 148) d_Md_reads_148 fl_Md_20 sh_88 rfl rfl (by decide) (by decide) (by decide) ?_
                  refine mj_aload_n (pc := 151) (i := 0) d_Md_reads_151 rfl rfl (by decide) ?_
                  refine dj_getI (pc := 152) d_Md_reads_152 fl_Md_97 sh_88 rfl (by decide) (by decide) (by decide) ?_
                  refine mj_iconst (pc := 155) (v := 4) d_Md_reads_155 (by decide) ?_
                  refine mj_iadd (pc := 156) d_Md_reads_156 ?_
                  obtain ⟨hg14, h⟩ := mj_gd h
                  refine dj_iald (pc := 157) d_Md_reads_157 sh_92 (by decide) hg14 (by decide) ?_
                  refine mj_iload (pc := 158) (i := 5) d_Md_reads_158 rfl ?_
                  refine mj_icmp_ne (pc := 160) (tgt := 167) d_Md_reads_160 (by decide) mj_hs (fun hc15 => ?_) (fun hc15 => ?_)
                  · rw [if_neg hc15] at h
                    refine mj_iconst (pc := 167) (v := 0) d_Md_reads_167 (by decide) ?_
                    obtain e_1 := inj1 h
                    subst e_1
                    exact mj_wk k56 trivial
                  · rw [if_pos hc15] at h
                    refine mj_iconst (pc := 163) (v := 1) d_Md_reads_163 (by decide) ?_
                    refine mj_goto (pc := 164) (tgt := 168) d_Md_reads_164 (by decide) ?_
                    obtain e_1 := inj1 h
                    subst e_1
                    exact mj_wk k56 trivial
              · rw [if_neg hc12] at h
                refine mj_aload_n (pc := 125) (i := 0) d_Md_reads_125 rfl rfl (by decide) ?_
                refine mj_getR (pc := 126) d_Md_reads_126 fl_Md_20 sh_88 rfl rfl (by decide) (by decide) (by decide) ?_
                refine mj_aload_n (pc := 129) (i := 0) d_Md_reads_129 rfl rfl (by decide) ?_
                refine dj_getI (pc := 130) d_Md_reads_130 fl_Md_97 sh_88 rfl (by decide) (by decide) (by decide) ?_
                refine mj_iconst (pc := 133) (v := 3) d_Md_reads_133 (by decide) ?_
                refine mj_iadd (pc := 134) d_Md_reads_134 ?_
                obtain ⟨hg16, h⟩ := mj_gd h
                refine dj_iald (pc := 135) d_Md_reads_135 sh_92 (by decide) hg16 (by decide) ?_
                refine mj_iload (pc := 136) (i := 4) d_Md_reads_136 rfl ?_
                refine mj_icmp_ne (pc := 138) (tgt := 167) d_Md_reads_138 (by decide) mj_hs (fun hc17 => ?_) (fun hc17 => ?_)
                · rw [if_neg hc17] at h
                  refine mj_iconst (pc := 167) (v := 0) d_Md_reads_167 (by decide) ?_
                  obtain e_1 := inj1 h
                  subst e_1
                  exact mj_wk k56 trivial
                · rw [if_pos hc17] at h
                  refine mj_iload (pc := 141) (i := 6) d_Md_reads_141 rfl ?_
                  refine mj_iconst (pc := 143) (v := 5) d_Md_reads_143 (by decide) ?_
                  refine mj_icmp_lt (pc := 144) (tgt := 163) d_Md_reads_144 (by decide) mj_hs (fun hc18 => ?_) (fun hc18 => ?_)
                  · rw [if_pos hc18] at h
                    refine mj_iconst (pc := 163) (v := 1) d_Md_reads_163 (by decide) ?_
                    refine mj_goto (pc := 164) (tgt := 168) d_Md_reads_164 (by decide) ?_
                    obtain e_1 := inj1 h
                    subst e_1
                    exact mj_wk k56 trivial
                  · rw [if_neg hc18] at h
                    refine mj_aload_n (pc := 147) (i := 0) d_Md_reads_147 rfl rfl (by decide) ?_
                    refine mj_getR (pc := 148) d_Md_reads_148 fl_Md_20 sh_88 rfl rfl (by decide) (by decide) (by decide) ?_
                    refine mj_aload_n (pc := 151) (i := 0) d_Md_reads_151 rfl rfl (by decide) ?_
                    refine dj_getI (pc := 152) d_Md_reads_152 fl_Md_97 sh_88 rfl (by decide) (by decide) (by decide) ?_
                    refine mj_iconst (pc := 155) (v := 4) d_Md_reads_155 (by decide) ?_
                    refine mj_iadd (pc := 156) d_Md_reads_156 ?_
                    obtain ⟨hg19, h⟩ := mj_gd h
                    refine dj_iald (pc := 157) d_Md_reads_157 sh_92 (by decide) hg19 (by decide) ?_
                    refine mj_iload (pc := 158) (i := 5) d_Md_reads_158 rfl ?_
                    refine mj_icmp_ne (pc := 160) (tgt := 167) d_Md_reads_160 (by decide) mj_hs (fun hc20 => ?_) (fun hc20 => ?_)
                    · rw [if_neg hc20] at h
                      refine mj_iconst (pc := 167) (v := 0) d_Md_reads_167 (by decide) ?_
                      obtain e_1 := inj1 h
                      subst e_1
                      exact mj_wk k56 trivial
                    · rw [if_pos hc20] at h
                      refine mj_iconst (pc := 163) (v := 1) d_Md_reads_163 (by decide) ?_
                      refine mj_goto (pc := 164) (tgt := 168) d_Md_reads_164 (by decide) ?_
                      obtain e_1 := inj1 h
                      subst e_1
                      exact mj_wk k56 trivial
            · rw [if_neg hc11] at h
              refine mj_aload_n (pc := 104) (i := 0) d_Md_reads_104 rfl rfl (by decide) ?_
              refine mj_getR (pc := 105) d_Md_reads_105 fl_Md_20 sh_88 rfl rfl (by decide) (by decide) (by decide) ?_
              refine mj_aload_n (pc := 108) (i := 0) d_Md_reads_108 rfl rfl (by decide) ?_
              refine dj_getI (pc := 109) d_Md_reads_109 fl_Md_97 sh_88 rfl (by decide) (by decide) (by decide) ?_
              refine mj_iconst (pc := 112) (v := 2) d_Md_reads_112 (by decide) ?_
              refine mj_iadd (pc := 113) d_Md_reads_113 ?_
              obtain ⟨hg21, h⟩ := mj_gd h
              refine dj_iald (pc := 114) d_Md_reads_114 sh_92 (by decide) hg21 (by decide) ?_
              refine mj_iload_n (pc := 115) (i := 3) d_Md_reads_115 rfl rfl ?_
              refine mj_icmp_ne (pc := 116) (tgt := 167) d_Md_reads_116 (by decide) mj_hs (fun hc22 => ?_) (fun hc22 => ?_)
              · rw [if_neg hc22] at h
                refine mj_iconst (pc := 167) (v := 0) d_Md_reads_167 (by decide) ?_
                obtain e_1 := inj1 h
                subst e_1
                exact mj_wk k56 trivial
              · rw [if_pos hc22] at h
                refine mj_iload (pc := 119) (i := 6) d_Md_reads_119 rfl ?_
                refine mj_iconst (pc := 121) (v := 4) d_Md_reads_121 (by decide) ?_
                refine mj_icmp_lt (pc := 122) (tgt := 141) d_Md_reads_122 (by decide) mj_hs (fun hc23 => ?_) (fun hc23 => ?_)
                · rw [if_pos hc23] at h
                  refine mj_iload (pc := 141) (i := 6) d_Md_reads_141 rfl ?_
                  refine mj_iconst (pc := 143) (v := 5) d_Md_reads_143 (by decide) ?_
                  refine mj_icmp_lt (pc := 144) (tgt := 163) d_Md_reads_144 (by decide) mj_hs (fun hc24 => ?_) (fun hc24 => ?_)
                  · rw [if_pos hc24] at h
                    refine mj_iconst (pc := 163) (v := 1) d_Md_reads_163 (by decide) ?_
                    refine mj_goto (pc := 164) (tgt := 168) d_Md_reads_164 (by decide) ?_
                    obtain e_1 := inj1 h
                    subst e_1
                    exact mj_wk k56 trivial
                  · rw [if_neg hc24] at h
                    refine mj_aload_n (pc := 147) (i := 0) d_Md_reads_147 rfl rfl (by decide) ?_
                    refine mj_getR (pc := 148) d_Md_reads_148 fl_Md_20 sh_88 rfl rfl (by decide) (by decide) (by decide) ?_
                    refine mj_aload_n (pc := 151) (i := 0) d_Md_reads_151 rfl rfl (by decide) ?_
                    refine dj_getI (pc := 152) d_Md_reads_152 fl_Md_97 sh_88 rfl (by decide) (by decide) (by decide) ?_
                    refine mj_iconst (pc := 155) (v := 4) d_Md_reads_155 (by decide) ?_
                    refine mj_iadd (pc := 156) d_Md_reads_156 ?_
                    obtain ⟨hg25, h⟩ := mj_gd h
                    refine dj_iald (pc := 157) d_Md_reads_157 sh_92 (by decide) hg25 (by decide) ?_
                    refine mj_iload (pc := 158) (i := 5) d_Md_reads_158 rfl ?_
                    refine mj_icmp_ne (pc := 160) (tgt := 167) d_Md_reads_160 (by decide) mj_hs (fun hc26 => ?_) (fun hc26 => ?_)
                    · rw [if_neg hc26] at h
                      refine mj_iconst (pc := 167) (v := 0) d_Md_reads_167 (by decide) ?_
                      obtain e_1 := inj1 h
                      subst e_1
                      exact mj_wk k56 trivial
                    · rw [if_pos hc26] at h
                      refine mj_iconst (pc := 163) (v := 1) d_Md_reads_163 (by decide) ?_
                      refine mj_goto (pc := 164) (tgt := 168) d_Md_reads_164 (by decide) ?_
                      obtain e_1 := inj1 h
                      subst e_1
                      exact mj_wk k56 trivial
                · rw [if_neg hc23] at h
                  refine mj_aload_n (pc := 125) (i := 0) d_Md_reads_125 rfl rfl (by decide) ?_
                  refine mj_getR (pc := 126) d_Md_reads_126 fl_Md_20 sh_88 rfl rfl (by decide) (by decide) (by decide) ?_
                  refine mj_aload_n (pc := 129) (i := 0) d_Md_reads_129 rfl rfl (by decide) ?_
                  refine dj_getI (pc := 130) d_Md_reads_130 fl_Md_97 sh_88 rfl (by decide) (by decide) (by decide) ?_
                  refine mj_iconst (pc := 133) (v := 3) d_Md_reads_133 (by decide) ?_
                  refine mj_iadd (pc := 134) d_Md_reads_134 ?_
                  obtain ⟨hg27, h⟩ := mj_gd h
                  refine dj_iald (pc := 135) d_Md_reads_135 sh_92 (by decide) hg27 (by decide) ?_
                  refine mj_iload (pc := 136) (i := 4) d_Md_reads_136 rfl ?_
                  refine mj_icmp_ne (pc := 138) (tgt := 167) d_Md_reads_138 (by decide) mj_hs (fun hc28 => ?_) (fun hc28 => ?_)
                  · rw [if_neg hc28] at h
                    refine mj_iconst (pc := 167) (v := 0) d_Md_reads_167 (by decide) ?_
                    obtain e_1 := inj1 h
                    subst e_1
                    exact mj_wk k56 trivial
                  · rw [if_pos hc28] at h
                    refine mj_iload (pc := 141) (i := 6) d_Md_reads_141 rfl ?_
                    refine mj_iconst (pc := 143) (v := 5) d_Md_reads_143 (by decide) ?_
                    refine mj_icmp_lt (pc := 144) (tgt := 163) d_Md_reads_144 (by decide) mj_hs (fun hc29 => ?_) (fun hc29 => ?_)
                    · rw [if_pos hc29] at h
                      refine mj_iconst (pc := 163) (v := 1) d_Md_reads_163 (by decide) ?_
                      refine mj_goto (pc := 164) (tgt := 168) d_Md_reads_164 (by decide) ?_
                      obtain e_1 := inj1 h
                      subst e_1
                      exact mj_wk k56 trivial
                    · rw [if_neg hc29] at h
                      refine mj_aload_n (pc := 147) (i := 0) d_Md_reads_147 rfl rfl (by decide) ?_
                      refine mj_getR (pc := 148) d_Md_reads_148 fl_Md_20 sh_88 rfl rfl (by decide) (by decide) (by decide) ?_
                      refine mj_aload_n (pc := 151) (i := 0) d_Md_reads_151 rfl rfl (by decide) ?_
                      refine dj_getI (pc := 152) d_Md_reads_152 fl_Md_97 sh_88 rfl (by decide) (by decide) (by decide) ?_
                      refine mj_iconst (pc := 155) (v := 4) d_Md_reads_155 (by decide) ?_
                      refine mj_iadd (pc := 156) d_Md_reads_156 ?_
                      obtain ⟨hg30, h⟩ := mj_gd h
                      refine dj_iald (pc := 157) d_Md_reads_157 sh_92 (by decide) hg30 (by decide) ?_
                      refine mj_iload (pc := 158) (i := 5) d_Md_reads_158 rfl ?_
                      refine mj_icmp_ne (pc := 160) (tgt := 167) d_Md_reads_160 (by decide) mj_hs (fun hc31 => ?_) (fun hc31 => ?_)
                      · rw [if_neg hc31] at h
                        refine mj_iconst (pc := 167) (v := 0) d_Md_reads_167 (by decide) ?_
                        obtain e_1 := inj1 h
                        subst e_1
                        exact mj_wk k56 trivial
                      · rw [if_pos hc31] at h
                        refine mj_iconst (pc := 163) (v := 1) d_Md_reads_163 (by decide) ?_
                        refine mj_goto (pc := 164) (tgt := 168) d_Md_reads_164 (by decide) ?_
                        obtain e_1 := inj1 h
                        subst e_1
                        exact mj_wk k56 trivial
          · rw [if_neg hc10] at h
            refine mj_aload_n (pc := 83) (i := 0) d_Md_reads_83 rfl rfl (by decide) ?_
            refine mj_getR (pc := 84) d_Md_reads_84 fl_Md_20 sh_88 rfl rfl (by decide) (by decide) (by decide) ?_
            refine mj_aload_n (pc := 87) (i := 0) d_Md_reads_87 rfl rfl (by decide) ?_
            refine dj_getI (pc := 88) d_Md_reads_88 fl_Md_97 sh_88 rfl (by decide) (by decide) (by decide) ?_
            refine mj_iconst (pc := 91) (v := 1) d_Md_reads_91 (by decide) ?_
            refine mj_iadd (pc := 92) d_Md_reads_92 ?_
            obtain ⟨hg32, h⟩ := mj_gd h
            refine dj_iald (pc := 93) d_Md_reads_93 sh_92 (by decide) hg32 (by decide) ?_
            refine mj_iload_n (pc := 94) (i := 2) d_Md_reads_94 rfl rfl ?_
            refine mj_icmp_ne (pc := 95) (tgt := 167) d_Md_reads_95 (by decide) mj_hs (fun hc33 => ?_) (fun hc33 => ?_)
            · rw [if_neg hc33] at h
              refine mj_iconst (pc := 167) (v := 0) d_Md_reads_167 (by decide) ?_
              obtain e_1 := inj1 h
              subst e_1
              exact mj_wk k56 trivial
            · rw [if_pos hc33] at h
              refine mj_iload (pc := 98) (i := 6) d_Md_reads_98 rfl ?_
              refine mj_iconst (pc := 100) (v := 3) d_Md_reads_100 (by decide) ?_
              refine mj_icmp_lt (pc := 101) (tgt := 119) d_Md_reads_101 (by decide) mj_hs (fun hc34 => ?_) (fun hc34 => ?_)
              · rw [if_pos hc34] at h
                refine mj_iload (pc := 119) (i := 6) d_Md_reads_119 rfl ?_
                refine mj_iconst (pc := 121) (v := 4) d_Md_reads_121 (by decide) ?_
                refine mj_icmp_lt (pc := 122) (tgt := 141) d_Md_reads_122 (by decide) mj_hs (fun hc35 => ?_) (fun hc35 => ?_)
                · rw [if_pos hc35] at h
                  refine mj_iload (pc := 141) (i := 6) d_Md_reads_141 rfl ?_
                  refine mj_iconst (pc := 143) (v := 5) d_Md_reads_143 (by decide) ?_
                  refine mj_icmp_lt (pc := 144) (tgt := 163) d_Md_reads_144 (by decide) mj_hs (fun hc36 => ?_) (fun hc36 => ?_)
                  · rw [if_pos hc36] at h
                    refine mj_iconst (pc := 163) (v := 1) d_Md_reads_163 (by decide) ?_
                    refine mj_goto (pc := 164) (tgt := 168) d_Md_reads_164 (by decide) ?_
                    obtain e_1 := inj1 h
                    subst e_1
                    exact mj_wk k56 trivial
                  · rw [if_neg hc36] at h
                    refine mj_aload_n (pc := 147) (i := 0) d_Md_reads_147 rfl rfl (by decide) ?_
                    refine mj_getR (pc := 148) d_Md_reads_148 fl_Md_20 sh_88 rfl rfl (by decide) (by decide) (by decide) ?_
                    refine mj_aload_n (pc := 151) (i := 0) d_Md_reads_151 rfl rfl (by decide) ?_
                    refine dj_getI (pc := 152) d_Md_reads_152 fl_Md_97 sh_88 rfl (by decide) (by decide) (by decide) ?_
                    refine mj_iconst (pc := 155) (v := 4) d_Md_reads_155 (by decide) ?_
                    refine mj_iadd (pc := 156) d_Md_reads_156 ?_
                    obtain ⟨hg37, h⟩ := mj_gd h
                    refine dj_iald (pc := 157) d_Md_reads_157 sh_92 (by decide) hg37 (by decide) ?_
                    refine mj_iload (pc := 158) (i := 5) d_Md_reads_158 rfl ?_
                    refine mj_icmp_ne (pc := 160) (tgt := 167) d_Md_reads_160 (by decide) mj_hs (fun hc38 => ?_) (fun hc38 => ?_)
                    · rw [if_neg hc38] at h
                      refine mj_iconst (pc := 167) (v := 0) d_Md_reads_167 (by decide) ?_
                      obtain e_1 := inj1 h
                      subst e_1
                      exact mj_wk k56 trivial
                    · rw [if_pos hc38] at h
                      refine mj_iconst (pc := 163) (v := 1) d_Md_reads_163 (by decide) ?_
                      refine mj_goto (pc := 164) (tgt := 168) d_Md_reads_164 (by decide) ?_
                      obtain e_1 := inj1 h
                      subst e_1
                      exact mj_wk k56 trivial
                · rw [if_neg hc35] at h
                  refine mj_aload_n (pc := 125) (i := 0) d_Md_reads_125 rfl rfl (by decide) ?_
                  refine mj_getR (pc := 126) d_Md_reads_126 fl_Md_20 sh_88 rfl rfl (by decide) (by decide) (by decide) ?_
                  refine mj_aload_n (pc := 129) (i := 0) d_Md_reads_129 rfl rfl (by decide) ?_
                  refine dj_getI (pc := 130) d_Md_reads_130 fl_Md_97 sh_88 rfl (by decide) (by decide) (by decide) ?_
                  refine mj_iconst (pc := 133) (v := 3) d_Md_reads_133 (by decide) ?_
                  refine mj_iadd (pc := 134) d_Md_reads_134 ?_
                  obtain ⟨hg39, h⟩ := mj_gd h
                  refine dj_iald (pc := 135) d_Md_reads_135 sh_92 (by decide) hg39 (by decide) ?_
                  refine mj_iload (pc := 136) (i := 4) d_Md_reads_136 rfl ?_
                  refine mj_icmp_ne (pc := 138) (tgt := 167) d_Md_reads_138 (by decide) mj_hs (fun hc40 => ?_) (fun hc40 => ?_)
                  · rw [if_neg hc40] at h
                    refine mj_iconst (pc := 167) (v := 0) d_Md_reads_167 (by decide) ?_
                    obtain e_1 := inj1 h
                    subst e_1
                    exact mj_wk k56 trivial
                  · rw [if_pos hc40] at h
                    refine mj_iload (pc := 141) (i := 6) d_Md_reads_141 rfl ?_
                    refine mj_iconst (pc := 143) (v := 5) d_Md_reads_143 (by decide) ?_
                    refine mj_icmp_lt (pc := 144) (tgt := 163) d_Md_reads_144 (by decide) mj_hs (fun hc41 => ?_) (fun hc41 => ?_)
                    · rw [if_pos hc41] at h
                      refine mj_iconst (pc := 163) (v := 1) d_Md_reads_163 (by decide) ?_
                      refine mj_goto (pc := 164) (tgt := 168) d_Md_reads_164 (by decide) ?_
                      obtain e_1 := inj1 h
                      subst e_1
                      exact mj_wk k56 trivial
                    · rw [if_neg hc41] at h
                      refine mj_aload_n (pc := 147) (i := 0) d_Md_reads_147 rfl rfl (by decide) ?_
                      refine mj_getR (pc := 148) d_Md_reads_148 fl_Md_20 sh_88 rfl rfl (by decide) (by decide) (by decide) ?_
                      refine mj_aload_n (pc := 151) (i := 0) d_Md_reads_151 rfl rfl (by decide) ?_
                      refine dj_getI (pc := 152) d_Md_reads_152 fl_Md_97 sh_88 rfl (by decide) (by decide) (by decide) ?_
                      refine mj_iconst (pc := 155) (v := 4) d_Md_reads_155 (by decide) ?_
                      refine mj_iadd (pc := 156) d_Md_reads_156 ?_
                      obtain ⟨hg42, h⟩ := mj_gd h
                      refine dj_iald (pc := 157) d_Md_reads_157 sh_92 (by decide) hg42 (by decide) ?_
                      refine mj_iload (pc := 158) (i := 5) d_Md_reads_158 rfl ?_
                      refine mj_icmp_ne (pc := 160) (tgt := 167) d_Md_reads_160 (by decide) mj_hs (fun hc43 => ?_) (fun hc43 => ?_)
                      · rw [if_neg hc43] at h
                        refine mj_iconst (pc := 167) (v := 0) d_Md_reads_167 (by decide) ?_
                        obtain e_1 := inj1 h
                        subst e_1
                        exact mj_wk k56 trivial
                      · rw [if_pos hc43] at h
                        refine mj_iconst (pc := 163) (v := 1) d_Md_reads_163 (by decide) ?_
                        refine mj_goto (pc := 164) (tgt := 168) d_Md_reads_164 (by decide) ?_
                        obtain e_1 := inj1 h
                        subst e_1
                        exact mj_wk k56 trivial
              · rw [if_neg hc34] at h
                refine mj_aload_n (pc := 104) (i := 0) d_Md_reads_104 rfl rfl (by decide) ?_
                refine mj_getR (pc := 105) d_Md_reads_105 fl_Md_20 sh_88 rfl rfl (by decide) (by decide) (by decide) ?_
                refine mj_aload_n (pc := 108) (i := 0) d_Md_reads_108 rfl rfl (by decide) ?_
                refine dj_getI (pc := 109) d_Md_reads_109 fl_Md_97 sh_88 rfl (by decide) (by decide) (by decide) ?_
                refine mj_iconst (pc := 112) (v := 2) d_Md_reads_112 (by decide) ?_
                refine mj_iadd (pc := 113) d_Md_reads_113 ?_
                obtain ⟨hg44, h⟩ := mj_gd h
                refine dj_iald (pc := 114) d_Md_reads_114 sh_92 (by decide) hg44 (by decide) ?_
                refine mj_iload_n (pc := 115) (i := 3) d_Md_reads_115 rfl rfl ?_
                refine mj_icmp_ne (pc := 116) (tgt := 167) d_Md_reads_116 (by decide) mj_hs (fun hc45 => ?_) (fun hc45 => ?_)
                · rw [if_neg hc45] at h
                  refine mj_iconst (pc := 167) (v := 0) d_Md_reads_167 (by decide) ?_
                  obtain e_1 := inj1 h
                  subst e_1
                  exact mj_wk k56 trivial
                · rw [if_pos hc45] at h
                  refine mj_iload (pc := 119) (i := 6) d_Md_reads_119 rfl ?_
                  refine mj_iconst (pc := 121) (v := 4) d_Md_reads_121 (by decide) ?_
                  refine mj_icmp_lt (pc := 122) (tgt := 141) d_Md_reads_122 (by decide) mj_hs (fun hc46 => ?_) (fun hc46 => ?_)
                  · rw [if_pos hc46] at h
                    refine mj_iload (pc := 141) (i := 6) d_Md_reads_141 rfl ?_
                    refine mj_iconst (pc := 143) (v := 5) d_Md_reads_143 (by decide) ?_
                    refine mj_icmp_lt (pc := 144) (tgt := 163) d_Md_reads_144 (by decide) mj_hs (fun hc47 => ?_) (fun hc47 => ?_)
                    · rw [if_pos hc47] at h
                      refine mj_iconst (pc := 163) (v := 1) d_Md_reads_163 (by decide) ?_
                      refine mj_goto (pc := 164) (tgt := 168) d_Md_reads_164 (by decide) ?_
                      obtain e_1 := inj1 h
                      subst e_1
                      exact mj_wk k56 trivial
                    · rw [if_neg hc47] at h
                      refine mj_aload_n (pc := 147) (i := 0) d_Md_reads_147 rfl rfl (by decide) ?_
                      refine mj_getR (pc := 148) d_Md_reads_148 fl_Md_20 sh_88 rfl rfl (by decide) (by decide) (by decide) ?_
                      refine mj_aload_n (pc := 151) (i := 0) d_Md_reads_151 rfl rfl (by decide) ?_
                      refine dj_getI (pc := 152) d_Md_reads_152 fl_Md_97 sh_88 rfl (by decide) (by decide) (by decide) ?_
                      refine mj_iconst (pc := 155) (v := 4) d_Md_reads_155 (by decide) ?_
                      refine mj_iadd (pc := 156) d_Md_reads_156 ?_
                      obtain ⟨hg48, h⟩ := mj_gd h
                      refine dj_iald (pc := 157) d_Md_reads_157 sh_92 (by decide) hg48 (by decide) ?_
                      refine mj_iload (pc := 158) (i := 5) d_Md_reads_158 rfl ?_
                      refine mj_icmp_ne (pc := 160) (tgt := 167) d_Md_reads_160 (by decide) mj_hs (fun hc49 => ?_) (fun hc49 => ?_)
                      · rw [if_neg hc49] at h
                        refine mj_iconst (pc := 167) (v := 0) d_Md_reads_167 (by decide) ?_
                        obtain e_1 := inj1 h
                        subst e_1
                        exact mj_wk k56 trivial
                      · rw [if_pos hc49] at h
                        refine mj_iconst (pc := 163) (v := 1) d_Md_reads_163 (by decide) ?_
                        refine mj_goto (pc := 164) (tgt := 168) d_Md_reads_164 (by decide) ?_
                        obtain e_1 := inj1 h
                        subst e_1
                        exact mj_wk k56 trivial
                  · rw [if_neg hc46] at h
                    refine mj_aload_n (pc := 125) (i := 0) d_Md_reads_125 rfl rfl (by decide) ?_
                    refine mj_getR (pc := 126) d_Md_reads_126 fl_Md_20 sh_88 rfl rfl (by decide) (by decide) (by decide) ?_
                    refine mj_aload_n (pc := 129) (i := 0) d_Md_reads_129 rfl rfl (by decide) ?_
                    refine dj_getI (pc := 130) d_Md_reads_130 fl_Md_97 sh_88 rfl (by decide) (by decide) (by decide) ?_
                    refine mj_iconst (pc := 133) (v := 3) d_Md_reads_133 (by decide) ?_
                    refine mj_iadd (pc := 134) d_Md_reads_134 ?_
                    obtain ⟨hg50, h⟩ := mj_gd h
                    refine dj_iald (pc := 135) d_Md_reads_135 sh_92 (by decide) hg50 (by decide) ?_
                    refine mj_iload (pc := 136) (i := 4) d_Md_reads_136 rfl ?_
                    refine mj_icmp_ne (pc := 138) (tgt := 167) d_Md_reads_138 (by decide) mj_hs (fun hc51 => ?_) (fun hc51 => ?_)
                    · rw [if_neg hc51] at h
                      refine mj_iconst (pc := 167) (v := 0) d_Md_reads_167 (by decide) ?_
                      obtain e_1 := inj1 h
                      subst e_1
                      exact mj_wk k56 trivial
                    · rw [if_pos hc51] at h
                      refine mj_iload (pc := 141) (i := 6) d_Md_reads_141 rfl ?_
                      refine mj_iconst (pc := 143) (v := 5) d_Md_reads_143 (by decide) ?_
                      refine mj_icmp_lt (pc := 144) (tgt := 163) d_Md_reads_144 (by decide) mj_hs (fun hc52 => ?_) (fun hc52 => ?_)
                      · rw [if_pos hc52] at h
                        refine mj_iconst (pc := 163) (v := 1) d_Md_reads_163 (by decide) ?_
                        refine mj_goto (pc := 164) (tgt := 168) d_Md_reads_164 (by decide) ?_
                        obtain e_1 := inj1 h
                        subst e_1
                        exact mj_wk k56 trivial
                      · rw [if_neg hc52] at h
                        refine mj_aload_n (pc := 147) (i := 0) d_Md_reads_147 rfl rfl (by decide) ?_
                        refine mj_getR (pc := 148) d_Md_reads_148 fl_Md_20 sh_88 rfl rfl (by decide) (by decide) (by decide) ?_
                        refine mj_aload_n (pc := 151) (i := 0) d_Md_reads_151 rfl rfl (by decide) ?_
                        refine dj_getI (pc := 152) d_Md_reads_152 fl_Md_97 sh_88 rfl (by decide) (by decide) (by decide) ?_
                        refine mj_iconst (pc := 155) (v := 4) d_Md_reads_155 (by decide) ?_
                        refine mj_iadd (pc := 156) d_Md_reads_156 ?_
                        obtain ⟨hg53, h⟩ := mj_gd h
                        refine dj_iald (pc := 157) d_Md_reads_157 sh_92 (by decide) hg53 (by decide) ?_
                        refine mj_iload (pc := 158) (i := 5) d_Md_reads_158 rfl ?_
                        refine mj_icmp_ne (pc := 160) (tgt := 167) d_Md_reads_160 (by decide) mj_hs (fun hc54 => ?_) (fun hc54 => ?_)
                        · rw [if_neg hc54] at h
                          refine mj_iconst (pc := 167) (v := 0) d_Md_reads_167 (by decide) ?_
                          obtain e_1 := inj1 h
                          subst e_1
                          exact mj_wk k56 trivial
                        · rw [if_pos hc54] at h
                          refine mj_iconst (pc := 163) (v := 1) d_Md_reads_163 (by decide) ?_
                          refine mj_goto (pc := 164) (tgt := 168) d_Md_reads_164 (by decide) ?_
                          obtain e_1 := inj1 h
                          subst e_1
                          exact mj_wk k56 trivial
        · rw [if_neg hc9] at h
          refine mj_iconst (pc := 75) (v := 0) d_Md_reads_75 (by decide) ?_
          obtain e_1 := inj1 h
          subst e_1
          exact mj_zret (pc := 76) (ty := .boolean) d_Md_reads_76 rfl (mj_b01 (by decide))
  refine mj_if_eq (y := 0) (pc := 2) (tgt := 9) d_Md_reads_2 (by decide) mj_hs (fun hc1 => ?_) (fun hc1 => ?_)
  · refine mj_iload (pc := 9) (i := 4) d_Md_reads_9 rfl ?_
    refine mj_if_eq (y := 0) (pc := 11) (tgt := 18) d_Md_reads_11 (by decide) mj_hs (fun hc2 => ?_) (fun hc2 => ?_)
    · refine mj_iload_n (pc := 18) (i := 3) d_Md_reads_18 rfl rfl ?_
      refine mj_if_eq (y := 0) (pc := 19) (tgt := 26) d_Md_reads_19 (by decide) mj_hs (fun hc3 => ?_) (fun hc3 => ?_)
      · refine mj_iload_n (pc := 26) (i := 2) d_Md_reads_26 rfl rfl ?_
        refine mj_if_eq (y := 0) (pc := 27) (tgt := 34) d_Md_reads_27 (by decide) mj_hs (fun hc4 => ?_) (fun hc4 => ?_)
        · refine mj_iconst (pc := 34) (v := 1) d_Md_reads_34 (by decide) ?_
          try simp only [if_pos hc1, if_pos hc2, if_pos hc3, if_pos hc4] at k5
          exact mj_wk k5 (And.intro rfl (And.intro rfl (And.intro rfl (And.intro rfl (And.intro rfl (And.intro rfl trivial))))))
        · refine mj_iconst (pc := 30) (v := 2) d_Md_reads_30 (by decide) ?_
          refine mj_goto (pc := 31) (tgt := 35) d_Md_reads_31 (by decide) ?_
          try simp only [if_pos hc1, if_pos hc2, if_pos hc3, if_neg hc4] at k5
          exact mj_wk k5 (And.intro rfl (And.intro rfl (And.intro rfl (And.intro rfl (And.intro rfl (And.intro rfl trivial))))))
      · refine mj_iconst (pc := 22) (v := 3) d_Md_reads_22 (by decide) ?_
        refine mj_goto (pc := 23) (tgt := 35) d_Md_reads_23 (by decide) ?_
        try simp only [if_pos hc1, if_pos hc2, if_neg hc3] at k5
        exact mj_wk k5 (And.intro rfl (And.intro rfl (And.intro rfl (And.intro rfl (And.intro rfl (And.intro rfl trivial))))))
    · refine mj_iconst (pc := 14) (v := 4) d_Md_reads_14 (by decide) ?_
      refine mj_goto (pc := 15) (tgt := 35) d_Md_reads_15 (by decide) ?_
      try simp only [if_pos hc1, if_neg hc2] at k5
      exact mj_wk k5 (And.intro rfl (And.intro rfl (And.intro rfl (And.intro rfl (And.intro rfl (And.intro rfl trivial))))))
  · refine mj_iconst (pc := 5) (v := 5) d_Md_reads_5 (by decide) ?_
    refine mj_goto (pc := 6) (tgt := 35) d_Md_reads_6 (by decide) ?_
    try simp only [if_neg hc1] at k5
    exact mj_wk k5 (And.intro rfl (And.intro rfl (And.intro rfl (And.intro rfl (And.intro rfl (And.intro rfl trivial))))))
