set_option maxRecDepth 20000 in
theorem r_Mk_isWithin {x0 : Int32} {x1 : Int32} {x2 : Int32} {mem : mj_Mem} {v : Int32} (h : f_Mk_isWithin x0 x1 x2 = some v) : mj_R M_Mk_isWithin 0 (mj_lv M_Mk_isWithin.2.2.1 [.int x0, .int x1, .int x2]) [] mem (some (.int v)) mem := by
  show mj_R M_Mk_isWithin 0 [some (.int x0), some (.int x1), some (.int x2)] [] _ _ _
  unfold f_Mk_isWithin at h
  refine mj_iload_n (pc := 0) (i := 1) d_Mk_isWithin_0 rfl rfl ?_
  refine mj_iload_n (pc := 1) (i := 0) d_Mk_isWithin_1 rfl rfl ?_
  have k3 : mj_R M_Mk_isWithin 15 [none, none, none] [.int (if x0 < x1 then 0 else (if x2 < x0 then 0 else 1 : Int32) : Int32)] mem (some (.int v)) mem := by
    obtain e_1 := inj1 h
    subst e_1
    exact mj_zret (pc := 15) (ty := .boolean) d_Mk_isWithin_15 rfl (mj_b01 (by (repeat' split) <;> simp))
  refine mj_icmp_gt (pc := 2) (tgt := 14) d_Mk_isWithin_2 (by decide) mj_hn (fun hc1 => ?_) (fun hc1 => ?_)
  · refine mj_iconst (pc := 14) (v := 0) d_Mk_isWithin_14 (by decide) ?_
    try simp only [if_pos hc1] at k3
    exact mj_wk k3 trivial
  · refine mj_iload_n (pc := 5) (i := 0) d_Mk_isWithin_5 rfl rfl ?_
    refine mj_iload_n (pc := 6) (i := 2) d_Mk_isWithin_6 rfl rfl ?_
    refine mj_icmp_gt (pc := 7) (tgt := 14) d_Mk_isWithin_7 (by decide) mj_hn (fun hc2 => ?_) (fun hc2 => ?_)
    · refine mj_iconst (pc := 14) (v := 0) d_Mk_isWithin_14 (by decide) ?_
      try simp only [if_neg hc1, if_pos hc2] at k3
      exact mj_wk k3 trivial
    · refine mj_iconst (pc := 10) (v := 1) d_Mk_isWithin_10 (by decide) ?_
      refine mj_goto (pc := 11) (tgt := 15) d_Mk_isWithin_11 (by decide) ?_
      try simp only [if_neg hc1, if_neg hc2] at k3
      exact mj_wk k3 trivial
set_option maxRecDepth 20000 in
theorem r_Mk_isKind {x0 : Int32} {mem : mj_Mem} {v : Int32} (h : f_Mk_isKind x0 = some v) : mj_R M_Mk_isKind 0 (mj_lv M_Mk_isKind.2.2.1 [.int x0]) [] mem (some (.int v)) mem := by
  show mj_R M_Mk_isKind 0 [some (.int x0)] [] _ _ _
  unfold f_Mk_isKind at h
  refine mj_iload_n (pc := 0) (i := 0) d_Mk_isKind_0 rfl rfl ?_
  refine mj_iconst (pc := 1) (v := 0) d_Mk_isKind_1 (by decide) ?_
  refine mj_iconst (pc := 2) (v := 5) d_Mk_isKind_2 (by decide) ?_
  obtain ⟨v1, hb2, h⟩ := bd1_some h
  refine mj_callS (pc := 3) (vs := [.int x0, .int 0, .int 5]) (st := []) d_Mk_isKind_3 bB_Mk_isKind_Mk_isWithin lk_Mk_50 st_Mk_isWithin rfl (Nat.le_of_ble_eq_true rfl) (Nat.le_of_ble_eq_true rfl) (r_Mk_isWithin hb2) ?_
  show mj_R M_Mk_isKind 6 [some (.int x0)] [.int v1] mem (some (.int v)) mem
  obtain ⟨hg3, h⟩ := mj_gd h
  obtain e_1 := inj1 h
  subst e_1
  exact mj_zret (pc := 6) (ty := .boolean) d_Mk_isKind_6 rfl (mj_b01 hg3)
set_option maxRecDepth 20000 in
theorem r_Tw_welcome {x1 : Int32} {x2 : Int32} {C0 D : St} {v : Int32} {C' : St} (h : f_Tw_welcome x1 x2 C0 = some (v, C')) : mj_R M_Tw_welcome 0 (mj_lv M_Tw_welcome.2.2.1 [.ref 1, .int x1, .int x2]) [] (SH, jn C0 D) (some (.int v)) (SH, jn (C') D) := by
  show mj_R M_Tw_welcome 0 [some (.ref 1), some (.int x1), some (.int x2), none] [] _ _ _
  unfold f_Tw_welcome at h
  refine mj_aload_n (pc := 0) (i := 0) d_Tw_welcome_0 rfl rfl (by decide) ?_
  refine cj_getI (pc := 1) d_Tw_welcome_1 fl_Tw_59 sh_1 rfl (by decide) (by decide) (by decide) ?_
  refine mj_istore_n (pc := 4) (i := 3) d_Tw_welcome_4 rfl rfl (by decide) ?_
  refine mj_aload_n (pc := 5) (i := 0) d_Tw_welcome_5 rfl rfl (by decide) ?_
  refine mj_getR (pc := 6) d_Tw_welcome_6 fl_Tw_15 sh_1 rfl rfl (by decide) (by decide) (by decide) ?_
  refine mj_iload_n (pc := 9) (i := 3) d_Tw_welcome_9 rfl rfl ?_
  refine mj_iload_n (pc := 10) (i := 1) d_Tw_welcome_10 rfl rfl ?_
  obtain ⟨hg1, h⟩ := mj_gd h
  refine cj_iast (pc := 11) d_Tw_welcome_11 sh_2 (by decide) hg1 (by decide) ?_
  refine mj_aload_n (pc := 12) (i := 0) d_Tw_welcome_12 rfl rfl (by decide) ?_
  refine mj_getR (pc := 13) d_Tw_welcome_13 fl_Tw_19 sh_1 rfl rfl (by decide) (by decide) (by decide) ?_
  refine mj_iload_n (pc := 16) (i := 3) d_Tw_welcome_16 rfl rfl ?_
  refine mj_iload_n (pc := 17) (i := 2) d_Tw_welcome_17 rfl rfl ?_
  refine cj_iast (pc := 18) d_Tw_welcome_18 sh_3 (by decide) hg1 (by decide) ?_
  refine mj_aload_n (pc := 19) (i := 0) d_Tw_welcome_19 rfl rfl (by decide) ?_
  refine mj_getR (pc := 20) d_Tw_welcome_20 fl_Tw_25 sh_1 rfl rfl (by decide) (by decide) (by decide) ?_
  refine mj_iload_n (pc := 23) (i := 3) d_Tw_welcome_23 rfl rfl ?_
  refine mj_ldc (pc := 24) (v := -1000000005) d_Tw_welcome_24 k_Tw_66 ?_
  refine cj_iast (pc := 26) d_Tw_welcome_26 sh_5 (by decide) hg1 (by decide) ?_
  refine mj_aload_n (pc := 27) (i := 0) d_Tw_welcome_27 rfl rfl (by decide) ?_
  refine mj_dup (pc := 28) d_Tw_welcome_28 rfl ?_
  refine cj_getI (pc := 29) d_Tw_welcome_29 fl_Tw_59 sh_1 rfl (by decide) (by decide) (by decide) ?_
  refine mj_iconst (pc := 32) (v := 1) d_Tw_welcome_32 (by decide) ?_
  refine mj_iadd (pc := 33) d_Tw_welcome_33 ?_
  refine cj_putI (pc := 34) d_Tw_welcome_34 fl_Tw_59 sh_1 rfl (fun _ _ _ h => by cases h; rfl) (by decide) (by decide) (by decide) ?_
  refine mj_iload_n (pc := 37) (i := 3) d_Tw_welcome_37 rfl rfl ?_
  obtain ⟨e_1, e_2⟩ := inj2 h
  subst e_1
  subst e_2
  exact mj_iret (pc := 38) d_Tw_welcome_38 rfl
set_option maxRecDepth 20000 in
theorem r_Mk_agent {x1 : Int32} {x2 : Int32} {C0 D : St} {v : Int32} {C' : St} (h : f_Mk_agent x1 x2 C0 = some (v, C')) : mj_R M_Mk_agent 0 (mj_lv M_Mk_agent.2.2.1 [.ref 0, .int x1, .int x2]) [] (SH, jn C0 D) (some (.int v)) (SH, jn (C') D) := by
  show mj_R M_Mk_agent 0 [some (.ref 0), some (.int x1), some (.int x2)] [] _ _ _
  unfold f_Mk_agent at h
  refine mj_iload_n (pc := 0) (i := 1) d_Mk_agent_0 rfl rfl ?_
  obtain ⟨v1, hb2, h⟩ := bd1_some h
  refine mj_callS (pc := 1) (vs := [.int x1]) (st := []) d_Mk_agent_1 bB_Mk_agent_Mk_isKind lk_Mk_45 st_Mk_isKind rfl (Nat.le_of_ble_eq_true rfl) (Nat.le_of_ble_eq_true rfl) (r_Mk_isKind hb2) ?_
  show mj_R M_Mk_agent 4 [some (.ref 0), some (.int x1), some (.int x2)] [.int v1] (SH, jn C0 D) (some (.int v)) (SH, jn (C') D)
  refine mj_if_eq (y := 0) (pc := 4) (tgt := 17) d_Mk_agent_4 (by decide) mj_hs (fun hc3 => ?_) (fun hc3 => ?_)
  · rw [if_pos hc3] at h
    refine mj_ldc (pc := 17) (v := -1000000001) d_Mk_agent_17 k_Mk_54 ?_
    obtain ⟨e_1, e_2⟩ := inj2 h
    subst e_1
    subst e_2
    exact mj_iret (pc := 19) d_Mk_agent_19 rfl
  · rw [if_neg hc3] at h
    refine mj_iload_n (pc := 7) (i := 2) d_Mk_agent_7 rfl rfl ?_
    refine mj_iconst (pc := 8) (v := 0) d_Mk_agent_8 (by decide) ?_
    refine mj_ldc (pc := 9) (v := 100000) d_Mk_agent_9 k_Mk_49 ?_
    obtain ⟨v4, hb5, h⟩ := bd1_some h
    refine mj_callS (pc := 11) (vs := [.int x2, .int 0, .int 100000]) (st := []) d_Mk_agent_11 bB_Mk_agent_Mk_isWithin lk_Mk_50 st_Mk_isWithin rfl (Nat.le_of_ble_eq_true rfl) (Nat.le_of_ble_eq_true rfl) (r_Mk_isWithin hb5) ?_
    show mj_R M_Mk_agent 14 [some (.ref 0), some (.int x1), some (.int x2)] [.int v4] (SH, jn C0 D) (some (.int v)) (SH, jn (C') D)
    refine mj_if_ne (y := 0) (pc := 14) (tgt := 20) d_Mk_agent_14 (by decide) mj_hs (fun hc6 => ?_) (fun hc6 => ?_)
    · rw [if_neg hc6] at h
      refine mj_aload_n (pc := 20) (i := 0) d_Mk_agent_20 rfl rfl (by decide) ?_
      refine mj_getR (pc := 21) d_Mk_agent_21 fl_Mk_12 sh_0 rfl rfl (by decide) (by decide) (by decide) ?_
      refine cj_getI (pc := 24) d_Mk_agent_24 fl_Mk_55 sh_1 rfl (by decide) (by decide) (by decide) ?_
      refine mj_bipush (pc := 27) (v := 12) d_Mk_agent_27 (by decide) ?_
      refine mj_icmp_lt (pc := 29) (tgt := 35) d_Mk_agent_29 (by decide) mj_hs (fun hc7 => ?_) (fun hc7 => ?_)
      · rw [if_pos hc7] at h
        refine mj_aload_n (pc := 35) (i := 0) d_Mk_agent_35 rfl rfl (by decide) ?_
        refine mj_getR (pc := 36) d_Mk_agent_36 fl_Mk_12 sh_0 rfl rfl (by decide) (by decide) (by decide) ?_
        refine mj_iload_n (pc := 39) (i := 1) d_Mk_agent_39 rfl rfl ?_
        refine mj_iload_n (pc := 40) (i := 2) d_Mk_agent_40 rfl rfl ?_
        obtain ⟨v8, C9, hb10, h⟩ := bd2_some h
        refine mj_callV (pc := 41) (b := 1) (vs := [.int x1, .int x2]) (st := []) d_Mk_agent_41 bB_Mk_agent_Tw_welcome lk_Mk_60 iv_Tw_welcome rc_1 rfl (Nat.le_of_ble_eq_true rfl) (Nat.le_of_ble_eq_true rfl) (r_Tw_welcome hb10) ?_
        show mj_R M_Mk_agent 44 [some (.ref 0), some (.int x1), some (.int x2)] [.int v8] (SH, jn C9 D) (some (.int v)) (SH, jn (C') D)
        obtain ⟨e_1, e_2⟩ := inj2 h
        subst e_1
        subst e_2
        exact mj_iret (pc := 44) d_Mk_agent_44 rfl
      · rw [if_neg hc7] at h
        refine mj_ldc (pc := 32) (v := -1000000003) d_Mk_agent_32 k_Mk_59 ?_
        obtain ⟨e_1, e_2⟩ := inj2 h
        subst e_1
        subst e_2
        exact mj_iret (pc := 34) d_Mk_agent_34 rfl
    · rw [if_pos hc6] at h
      refine mj_ldc (pc := 17) (v := -1000000001) d_Mk_agent_17 k_Mk_54 ?_
      obtain ⟨e_1, e_2⟩ := inj2 h
      subst e_1
      subst e_2
      exact mj_iret (pc := 19) d_Mk_agent_19 rfl
set_option maxRecDepth 20000 in
theorem r_Tw_isThere {x1 : Int32} {C0 D : St} {v : Int32} (h : f_Tw_isThere x1 C0 = some v) : mj_R M_Tw_isThere 0 (mj_lv M_Tw_isThere.2.2.1 [.ref 1, .int x1]) [] (SH, jn C0 D) (some (.int v)) (SH, jn C0 D) := by
  show mj_R M_Tw_isThere 0 [some (.ref 1), some (.int x1)] [] _ _ _
  unfold f_Tw_isThere at h
  refine mj_iload_n (pc := 0) (i := 1) d_Tw_isThere_0 rfl rfl ?_
  refine mj_iconst (pc := 1) (v := 0) d_Tw_isThere_1 (by decide) ?_
  refine mj_aload_n (pc := 2) (i := 0) d_Tw_isThere_2 rfl rfl (by decide) ?_
  refine cj_getI (pc := 3) d_Tw_isThere_3 fl_Tw_59 sh_1 rfl (by decide) (by decide) (by decide) ?_
  refine mj_iconst (pc := 6) (v := 1) d_Tw_isThere_6 (by decide) ?_
  refine mj_isub (pc := 7) d_Tw_isThere_7 ?_
  obtain ⟨v1, hb2, h⟩ := bd1_some h
  refine mj_callS (pc := 8) (vs := [.int x1, .int 0, .int ((C0 1 0) - 1)]) (st := []) d_Tw_isThere_8 bB_Tw_isThere_Mk_isWithin lk_Tw_62 st_Mk_isWithin rfl (Nat.le_of_ble_eq_true rfl) (Nat.le_of_ble_eq_true rfl) (r_Mk_isWithin hb2) ?_
  show mj_R M_Tw_isThere 11 [some (.ref 1), some (.int x1)] [.int v1] (SH, jn C0 D) (some (.int v)) (SH, jn C0 D)
  obtain ⟨hg3, h⟩ := mj_gd h
  obtain e_1 := inj1 h
  subst e_1
  exact mj_zret (pc := 11) (ty := .boolean) d_Tw_isThere_11 rfl (mj_b01 hg3)
set_option maxRecDepth 20000 in
theorem r_Mk_isGood {x0 : Int32} {mem : mj_Mem} {v : Int32} (h : f_Mk_isGood x0 = some v) : mj_R M_Mk_isGood 0 (mj_lv M_Mk_isGood.2.2.1 [.int x0]) [] mem (some (.int v)) mem := by
  show mj_R M_Mk_isGood 0 [some (.int x0)] [] _ _ _
  unfold f_Mk_isGood at h
  refine mj_iload_n (pc := 0) (i := 0) d_Mk_isGood_0 rfl rfl ?_
  refine mj_iconst (pc := 1) (v := 0) d_Mk_isGood_1 (by decide) ?_
  refine mj_iconst (pc := 2) (v := 4) d_Mk_isGood_2 (by decide) ?_
  obtain ⟨v1, hb2, h⟩ := bd1_some h
  refine mj_callS (pc := 3) (vs := [.int x0, .int 0, .int 4]) (st := []) d_Mk_isGood_3 bB_Mk_isGood_Mk_isWithin lk_Mk_50 st_Mk_isWithin rfl (Nat.le_of_ble_eq_true rfl) (Nat.le_of_ble_eq_true rfl) (r_Mk_isWithin hb2) ?_
  show mj_R M_Mk_isGood 6 [some (.int x0)] [.int v1] mem (some (.int v)) mem
  obtain ⟨hg3, h⟩ := mj_gd h
  obtain e_1 := inj1 h
  subst e_1
  exact mj_zret (pc := 6) (ty := .boolean) d_Mk_isGood_6 rfl (mj_b01 hg3)
set_option maxRecDepth 20000 in
theorem r_Sk_bring {x1 : Int32} {x2 : Int32} {x3 : Int32} {C0 D : St} {C' : St} (h : f_Sk_bring x1 x2 x3 C0 = some (C')) : mj_R M_Sk_bring 0 (mj_lv M_Sk_bring.2.2.1 [.ref 7, .int x1, .int x2, .int x3]) [] (SH, jn C0 D) none (SH, jn (C') D) := by
  show mj_R M_Sk_bring 0 [some (.ref 7), some (.int x1), some (.int x2), some (.int x3), none] [] _ _ _
  unfold f_Sk_bring at h
  refine mj_iload_n (pc := 0) (i := 1) d_Sk_bring_0 rfl rfl ?_
  refine mj_iconst (pc := 1) (v := 5) d_Sk_bring_1 (by decide) ?_
  refine mj_imul (pc := 2) d_Sk_bring_2 ?_
  refine mj_iload_n (pc := 3) (i := 2) d_Sk_bring_3 rfl rfl ?_
  refine mj_iadd (pc := 4) d_Sk_bring_4 ?_
  refine mj_istore (pc := 5) (i := 4) d_Sk_bring_5 rfl (by decide) ?_
  refine mj_aload_n (pc := 7) (i := 0) d_Sk_bring_7 rfl rfl (by decide) ?_
  refine mj_getR (pc := 8) d_Sk_bring_8 fl_Sk_9 sh_7 rfl rfl (by decide) (by decide) (by decide) ?_
  refine mj_iload (pc := 11) (i := 4) d_Sk_bring_11 rfl ?_
  refine mj_bipush (pc := 13) (v := 10) d_Sk_bring_13 (by decide) ?_
  refine mj_imul (pc := 15) d_Sk_bring_15 ?_
  refine mj_dup2 (pc := 16) d_Sk_bring_16 rfl rfl ?_
  obtain ⟨hg1, h⟩ := mj_gd h
  refine cj_iald (pc := 17) d_Sk_bring_17 sh_8 (by decide) hg1 (by decide) ?_
  refine mj_iload_n (pc := 18) (i := 3) d_Sk_bring_18 rfl rfl ?_
  refine mj_iadd (pc := 19) d_Sk_bring_19 ?_
  refine cj_iast (pc := 20) d_Sk_bring_20 sh_8 (by decide) hg1 (by decide) ?_
  refine mj_aload_n (pc := 21) (i := 0) d_Sk_bring_21 rfl rfl (by decide) ?_
  refine mj_getR (pc := 22) d_Sk_bring_22 fl_Sk_15 sh_7 rfl rfl (by decide) (by decide) (by decide) ?_
  refine mj_iload (pc := 25) (i := 4) d_Sk_bring_25 rfl ?_
  refine mj_dup2 (pc := 27) d_Sk_bring_27 rfl rfl ?_
  obtain ⟨hg2, h⟩ := mj_gd h
  refine cj_iald (pc := 28) d_Sk_bring_28 sh_9 (by decide) hg2 (by decide) ?_
  refine mj_iload_n (pc := 29) (i := 3) d_Sk_bring_29 rfl rfl ?_
  refine mj_iadd (pc := 30) d_Sk_bring_30 ?_
  refine cj_iast (pc := 31) d_Sk_bring_31 sh_9 (by decide) hg2 (by decide) ?_
  obtain e_1 := inj1 h
  subst e_1
  exact mj_vret (pc := 32) d_Sk_bring_32 rfl
set_option maxRecDepth 20000 in
theorem r_Sk_all {x1 : Int32} {x2 : Int32} {C0 D : St} {v : Int32} (h : f_Sk_all x1 x2 C0 = some v) : mj_R M_Sk_all 0 (mj_lv M_Sk_all.2.2.1 [.ref 7, .int x1, .int x2]) [] (SH, jn C0 D) (some (.int v)) (SH, jn C0 D) := by
  show mj_R M_Sk_all 0 [some (.ref 7), some (.int x1), some (.int x2)] [] _ _ _
  unfold f_Sk_all at h
  refine mj_aload_n (pc := 0) (i := 0) d_Sk_all_0 rfl rfl (by decide) ?_
  refine mj_getR (pc := 1) d_Sk_all_1 fl_Sk_15 sh_7 rfl rfl (by decide) (by decide) (by decide) ?_
  refine mj_iload_n (pc := 4) (i := 1) d_Sk_all_4 rfl rfl ?_
  refine mj_iconst (pc := 5) (v := 5) d_Sk_all_5 (by decide) ?_
  refine mj_imul (pc := 6) d_Sk_all_6 ?_
  refine mj_iload_n (pc := 7) (i := 2) d_Sk_all_7 rfl rfl ?_
  refine mj_iadd (pc := 8) d_Sk_all_8 ?_
  obtain ⟨hg1, h⟩ := mj_gd h
  refine cj_iald (pc := 9) d_Sk_all_9 sh_9 (by decide) hg1 (by decide) ?_
  obtain e_1 := inj1 h
  subst e_1
  exact mj_iret (pc := 10) d_Sk_all_10 rfl
set_option maxRecDepth 20000 in
theorem r_Mk_give {x1 : Int32} {x2 : Int32} {x3 : Int32} {C0 D : St} {v : Int32} {C' : St} (h : f_Mk_give x1 x2 x3 C0 = some (v, C')) : mj_R M_Mk_give 0 (mj_lv M_Mk_give.2.2.1 [.ref 0, .int x1, .int x2, .int x3]) [] (SH, jn C0 D) (some (.int v)) (SH, jn (C') D) := by
  show mj_R M_Mk_give 0 [some (.ref 0), some (.int x1), some (.int x2), some (.int x3)] [] _ _ _
  unfold f_Mk_give at h
  refine mj_aload_n (pc := 0) (i := 0) d_Mk_give_0 rfl rfl (by decide) ?_
  refine mj_getR (pc := 1) d_Mk_give_1 fl_Mk_12 sh_0 rfl rfl (by decide) (by decide) (by decide) ?_
  refine mj_iload_n (pc := 4) (i := 1) d_Mk_give_4 rfl rfl ?_
  obtain ⟨v1, hb2, h⟩ := bd1_some h
  refine mj_callV (pc := 5) (b := 1) (vs := [.int x1]) (st := []) d_Mk_give_5 bB_Mk_give_Tw_isThere lk_Mk_64 iv_Tw_isThere rc_1 rfl (Nat.le_of_ble_eq_true rfl) (Nat.le_of_ble_eq_true rfl) (r_Tw_isThere hb2) ?_
  show mj_R M_Mk_give 8 [some (.ref 0), some (.int x1), some (.int x2), some (.int x3)] [.int v1] (SH, jn C0 D) (some (.int v)) (SH, jn (C') D)
  refine mj_if_eq (y := 0) (pc := 8) (tgt := 29) d_Mk_give_8 (by decide) mj_hs (fun hc3 => ?_) (fun hc3 => ?_)
  · rw [if_pos hc3] at h
    refine mj_ldc (pc := 29) (v := -1000000001) d_Mk_give_29 k_Mk_54 ?_
    obtain ⟨e_1, e_2⟩ := inj2 h
    subst e_1
    subst e_2
    exact mj_iret (pc := 31) d_Mk_give_31 rfl
  · rw [if_neg hc3] at h
    refine mj_iload_n (pc := 11) (i := 2) d_Mk_give_11 rfl rfl ?_
    obtain ⟨v4, hb5, h⟩ := bd1_some h
    refine mj_callS (pc := 12) (vs := [.int x2]) (st := []) d_Mk_give_12 bB_Mk_give_Mk_isGood lk_Mk_67 st_Mk_isGood rfl (Nat.le_of_ble_eq_true rfl) (Nat.le_of_ble_eq_true rfl) (r_Mk_isGood hb5) ?_
    show mj_R M_Mk_give 15 [some (.ref 0), some (.int x1), some (.int x2), some (.int x3)] [.int v4] (SH, jn C0 D) (some (.int v)) (SH, jn (C') D)
    refine mj_if_eq (y := 0) (pc := 15) (tgt := 29) d_Mk_give_15 (by decide) mj_hs (fun hc6 => ?_) (fun hc6 => ?_)
    · rw [if_pos hc6] at h
      refine mj_ldc (pc := 29) (v := -1000000001) d_Mk_give_29 k_Mk_54 ?_
      obtain ⟨e_1, e_2⟩ := inj2 h
      subst e_1
      subst e_2
      exact mj_iret (pc := 31) d_Mk_give_31 rfl
    · rw [if_neg hc6] at h
      refine mj_iload_n (pc := 18) (i := 3) d_Mk_give_18 rfl rfl ?_
      refine mj_iconst (pc := 19) (v := 1) d_Mk_give_19 (by decide) ?_
      refine mj_sipush (pc := 20) (v := 999) d_Mk_give_20 (by decide) ?_
      obtain ⟨v7, hb8, h⟩ := bd1_some h
      refine mj_callS (pc := 23) (vs := [.int x3, .int 1, .int 999]) (st := []) d_Mk_give_23 bB_Mk_give_Mk_isWithin lk_Mk_50 st_Mk_isWithin rfl (Nat.le_of_ble_eq_true rfl) (Nat.le_of_ble_eq_true rfl) (r_Mk_isWithin hb8) ?_
      show mj_R M_Mk_give 26 [some (.ref 0), some (.int x1), some (.int x2), some (.int x3)] [.int v7] (SH, jn C0 D) (some (.int v)) (SH, jn (C') D)
      refine mj_if_ne (y := 0) (pc := 26) (tgt := 32) d_Mk_give_26 (by decide) mj_hs (fun hc9 => ?_) (fun hc9 => ?_)
      · rw [if_neg hc9] at h
        refine mj_aload_n (pc := 32) (i := 0) d_Mk_give_32 rfl rfl (by decide) ?_
        refine mj_getR (pc := 33) d_Mk_give_33 fl_Mk_12 sh_0 rfl rfl (by decide) (by decide) (by decide) ?_
        refine mj_getR (pc := 36) d_Mk_give_36 fl_Mk_70 sh_1 rfl rfl (by decide) (by decide) (by decide) ?_
        refine mj_iload_n (pc := 39) (i := 1) d_Mk_give_39 rfl rfl ?_
        refine mj_iload_n (pc := 40) (i := 2) d_Mk_give_40 rfl rfl ?_
        refine mj_iload_n (pc := 41) (i := 3) d_Mk_give_41 rfl rfl ?_
        obtain ⟨C10, hb11, h⟩ := bd1_some h
        refine mj_callV (pc := 42) (b := 7) (vs := [.int x1, .int x2, .int x3]) (st := []) d_Mk_give_42 bB_Mk_give_Sk_bring lk_Mk_74 iv_Sk_bring rc_7 rfl (Nat.le_of_ble_eq_true rfl) (Nat.le_of_ble_eq_true rfl) (r_Sk_bring hb11) ?_
        show mj_R M_Mk_give 45 [some (.ref 0), some (.int x1), some (.int x2), some (.int x3)] [] (SH, jn C10 D) (some (.int v)) (SH, jn (C') D)
        refine mj_aload_n (pc := 45) (i := 0) d_Mk_give_45 rfl rfl (by decide) ?_
        refine mj_getR (pc := 46) d_Mk_give_46 fl_Mk_12 sh_0 rfl rfl (by decide) (by decide) (by decide) ?_
        refine mj_getR (pc := 49) d_Mk_give_49 fl_Mk_70 sh_1 rfl rfl (by decide) (by decide) (by decide) ?_
        refine mj_iload_n (pc := 52) (i := 1) d_Mk_give_52 rfl rfl ?_
        refine mj_iload_n (pc := 53) (i := 2) d_Mk_give_53 rfl rfl ?_
        obtain ⟨v12, hb13, h⟩ := bd1_some h
        refine mj_callV (pc := 54) (b := 7) (vs := [.int x1, .int x2]) (st := []) d_Mk_give_54 bB_Mk_give_Sk_all lk_Mk_80 iv_Sk_all rc_7 rfl (Nat.le_of_ble_eq_true rfl) (Nat.le_of_ble_eq_true rfl) (r_Sk_all hb13) ?_
        show mj_R M_Mk_give 57 [some (.ref 0), some (.int x1), some (.int x2), some (.int x3)] [.int v12] (SH, jn C10 D) (some (.int v)) (SH, jn (C') D)
        obtain ⟨e_1, e_2⟩ := inj2 h
        subst e_1
        subst e_2
        exact mj_iret (pc := 57) d_Mk_give_57 rfl
      · rw [if_pos hc9] at h
        refine mj_ldc (pc := 29) (v := -1000000001) d_Mk_give_29 k_Mk_54 ?_
        obtain ⟨e_1, e_2⟩ := inj2 h
        subst e_1
        subst e_2
        exact mj_iret (pc := 31) d_Mk_give_31 rfl
set_option maxRecDepth 20000 in
theorem r_Wr_put {x1 : Int32} {x2 : Int32} {x3 : Int32} {C0 D : St} {C' : St} (h : f_Wr_put x1 x2 x3 C0 = some (C')) : mj_R M_Wr_put 0 (mj_lv M_Wr_put.2.2.1 [.ref 10, .int x1, .int x2, .int x3]) [] (SH, jn C0 D) none (SH, jn (C') D) := by
  show mj_R M_Wr_put 0 [some (.ref 10), some (.int x1), some (.int x2), some (.int x3)] [] _ _ _
  unfold f_Wr_put at h
  refine mj_aload_n (pc := 0) (i := 0) d_Wr_put_0 rfl rfl (by decide) ?_
  refine mj_getR (pc := 1) d_Wr_put_1 fl_Wr_11 sh_10 rfl rfl (by decide) (by decide) (by decide) ?_
  refine mj_iload_n (pc := 4) (i := 1) d_Wr_put_4 rfl rfl ?_
  refine mj_bipush (pc := 5) (v := 11) d_Wr_put_5 (by decide) ?_
  refine mj_imul (pc := 7) d_Wr_put_7 ?_
  refine mj_iload_n (pc := 8) (i := 2) d_Wr_put_8 rfl rfl ?_
  refine mj_iadd (pc := 9) d_Wr_put_9 ?_
  refine mj_iload_n (pc := 10) (i := 3) d_Wr_put_10 rfl rfl ?_
  obtain ⟨hg1, h⟩ := mj_gd h
  refine cj_iast (pc := 11) d_Wr_put_11 sh_11 (by decide) hg1 (by decide) ?_
  obtain e_1 := inj1 h
  subst e_1
  exact mj_vret (pc := 12) d_Wr_put_12 rfl
set_option maxRecDepth 20000 in
theorem r_Mk_good {x1 : Int32} {x2 : Int32} {x3 : Int32} {C0 D : St} {v : Int32} {C' : St} (h : f_Mk_good x1 x2 x3 C0 = some (v, C')) : mj_R M_Mk_good 0 (mj_lv M_Mk_good.2.2.1 [.ref 0, .int x1, .int x2, .int x3]) [] (SH, jn C0 D) (some (.int v)) (SH, jn (C') D) := by
  show mj_R M_Mk_good 0 [some (.ref 0), some (.int x1), some (.int x2), some (.int x3)] [] _ _ _
  unfold f_Mk_good at h
  refine mj_iload_n (pc := 0) (i := 1) d_Mk_good_0 rfl rfl ?_
  obtain ⟨v1, hb2, h⟩ := bd1_some h
  refine mj_callS (pc := 1) (vs := [.int x1]) (st := []) d_Mk_good_1 bB_Mk_good_Mk_isGood lk_Mk_67 st_Mk_isGood rfl (Nat.le_of_ble_eq_true rfl) (Nat.le_of_ble_eq_true rfl) (r_Mk_isGood hb2) ?_
  show mj_R M_Mk_good 4 [some (.ref 0), some (.int x1), some (.int x2), some (.int x3)] [.int v1] (SH, jn C0 D) (some (.int v)) (SH, jn (C') D)
  refine mj_if_eq (y := 0) (pc := 4) (tgt := 26) d_Mk_good_4 (by decide) mj_hs (fun hc3 => ?_) (fun hc3 => ?_)
  · rw [if_pos hc3] at h
    refine mj_ldc (pc := 26) (v := -1000000001) d_Mk_good_26 k_Mk_54 ?_
    obtain ⟨e_1, e_2⟩ := inj2 h
    subst e_1
    subst e_2
    exact mj_iret (pc := 28) d_Mk_good_28 rfl
  · rw [if_neg hc3] at h
    refine mj_iload_n (pc := 7) (i := 2) d_Mk_good_7 rfl rfl ?_
    refine mj_iconst (pc := 8) (v := 0) d_Mk_good_8 (by decide) ?_
    refine mj_bipush (pc := 9) (v := 9) d_Mk_good_9 (by decide) ?_
    obtain ⟨v4, hb5, h⟩ := bd1_some h
    refine mj_callS (pc := 11) (vs := [.int x2, .int 0, .int 9]) (st := []) d_Mk_good_11 bB_Mk_good_Mk_isWithin lk_Mk_50 st_Mk_isWithin rfl (Nat.le_of_ble_eq_true rfl) (Nat.le_of_ble_eq_true rfl) (r_Mk_isWithin hb5) ?_
    show mj_R M_Mk_good 14 [some (.ref 0), some (.int x1), some (.int x2), some (.int x3)] [.int v4] (SH, jn C0 D) (some (.int v)) (SH, jn (C') D)
    refine mj_if_eq (y := 0) (pc := 14) (tgt := 26) d_Mk_good_14 (by decide) mj_hs (fun hc6 => ?_) (fun hc6 => ?_)
    · rw [if_pos hc6] at h
      refine mj_ldc (pc := 26) (v := -1000000001) d_Mk_good_26 k_Mk_54 ?_
      obtain ⟨e_1, e_2⟩ := inj2 h
      subst e_1
      subst e_2
      exact mj_iret (pc := 28) d_Mk_good_28 rfl
    · rw [if_neg hc6] at h
      refine mj_iload_n (pc := 17) (i := 3) d_Mk_good_17 rfl rfl ?_
      refine mj_iconst (pc := 18) (v := 0) d_Mk_good_18 (by decide) ?_
      refine mj_iconst (pc := 19) (v := 2) d_Mk_good_19 (by decide) ?_
      obtain ⟨v7, hb8, h⟩ := bd1_some h
      refine mj_callS (pc := 20) (vs := [.int x3, .int 0, .int 2]) (st := []) d_Mk_good_20 bB_Mk_good_Mk_isWithin lk_Mk_50 st_Mk_isWithin rfl (Nat.le_of_ble_eq_true rfl) (Nat.le_of_ble_eq_true rfl) (r_Mk_isWithin hb8) ?_
      show mj_R M_Mk_good 23 [some (.ref 0), some (.int x1), some (.int x2), some (.int x3)] [.int v7] (SH, jn C0 D) (some (.int v)) (SH, jn (C') D)
      refine mj_if_ne (y := 0) (pc := 23) (tgt := 29) d_Mk_good_23 (by decide) mj_hs (fun hc9 => ?_) (fun hc9 => ?_)
      · rw [if_neg hc9] at h
        refine mj_aload_n (pc := 29) (i := 0) d_Mk_good_29 rfl rfl (by decide) ?_
        refine mj_getR (pc := 30) d_Mk_good_30 fl_Mk_12 sh_0 rfl rfl (by decide) (by decide) (by decide) ?_
        refine mj_getR (pc := 33) d_Mk_good_33 fl_Mk_83 sh_1 rfl rfl (by decide) (by decide) (by decide) ?_
        refine mj_iload_n (pc := 36) (i := 1) d_Mk_good_36 rfl rfl ?_
        refine mj_iconst (pc := 37) (v := 0) d_Mk_good_37 (by decide) ?_
        refine mj_iload_n (pc := 38) (i := 2) d_Mk_good_38 rfl rfl ?_
        obtain ⟨C10, hb11, h⟩ := bd1_some h
        refine mj_callV (pc := 39) (b := 10) (vs := [.int x1, .int 0, .int x2]) (st := []) d_Mk_good_39 bB_Mk_good_Wr_put lk_Mk_89 iv_Wr_put rc_10 rfl (Nat.le_of_ble_eq_true rfl) (Nat.le_of_ble_eq_true rfl) (r_Wr_put hb11) ?_
        show mj_R M_Mk_good 42 [some (.ref 0), some (.int x1), some (.int x2), some (.int x3)] [] (SH, jn C10 D) (some (.int v)) (SH, jn (C') D)
        refine mj_aload_n (pc := 42) (i := 0) d_Mk_good_42 rfl rfl (by decide) ?_
        refine mj_getR (pc := 43) d_Mk_good_43 fl_Mk_12 sh_0 rfl rfl (by decide) (by decide) (by decide) ?_
        refine mj_getR (pc := 46) d_Mk_good_46 fl_Mk_83 sh_1 rfl rfl (by decide) (by decide) (by decide) ?_
        refine mj_iload_n (pc := 49) (i := 1) d_Mk_good_49 rfl rfl ?_
        refine mj_iconst (pc := 50) (v := 1) d_Mk_good_50 (by decide) ?_
        refine mj_iload_n (pc := 51) (i := 3) d_Mk_good_51 rfl rfl ?_
        obtain ⟨C12, hb13, h⟩ := bd1_some h
        refine mj_callV (pc := 52) (b := 10) (vs := [.int x1, .int 1, .int x3]) (st := []) d_Mk_good_52 bB_Mk_good_Wr_put lk_Mk_89 iv_Wr_put rc_10 rfl (Nat.le_of_ble_eq_true rfl) (Nat.le_of_ble_eq_true rfl) (r_Wr_put hb13) ?_
        show mj_R M_Mk_good 55 [some (.ref 0), some (.int x1), some (.int x2), some (.int x3)] [] (SH, jn C12 D) (some (.int v)) (SH, jn (C') D)
        refine mj_iconst (pc := 55) (v := 0) d_Mk_good_55 (by decide) ?_
        obtain ⟨e_1, e_2⟩ := inj2 h
        subst e_1
        subst e_2
        exact mj_iret (pc := 56) d_Mk_good_56 rfl
      · rw [if_pos hc9] at h
        refine mj_ldc (pc := 26) (v := -1000000001) d_Mk_good_26 k_Mk_54 ?_
        obtain ⟨e_1, e_2⟩ := inj2 h
        subst e_1
        subst e_2
        exact mj_iret (pc := 28) d_Mk_good_28 rfl
set_option maxRecDepth 20000 in
theorem r_Mk_recipe {x1 : Int32} {x2 : Int32} {x3 : Int32} {x4 : Int32} {x5 : Int32} {C0 D : St} {v : Int32} {C' : St} (h : f_Mk_recipe x1 x2 x3 x4 x5 C0 = some (v, C')) : mj_R M_Mk_recipe 0 (mj_lv M_Mk_recipe.2.2.1 [.ref 0, .int x1, .int x2, .int x3, .int x4, .int x5]) [] (SH, jn C0 D) (some (.int v)) (SH, jn (C') D) := by
  show mj_R M_Mk_recipe 0 [some (.ref 0), some (.int x1), some (.int x2), some (.int x3), some (.int x4), some (.int x5)] [] _ _ _
  unfold f_Mk_recipe at h
  refine mj_iload_n (pc := 0) (i := 1) d_Mk_recipe_0 rfl rfl ?_
  obtain ⟨v1, hb2, h⟩ := bd1_some h
  refine mj_callS (pc := 1) (vs := [.int x1]) (st := []) d_Mk_recipe_1 bB_Mk_recipe_Mk_isGood lk_Mk_67 st_Mk_isGood rfl (Nat.le_of_ble_eq_true rfl) (Nat.le_of_ble_eq_true rfl) (r_Mk_isGood hb2) ?_
  show mj_R M_Mk_recipe 4 [some (.ref 0), some (.int x1), some (.int x2), some (.int x3), some (.int x4), some (.int x5)] [.int v1] (SH, jn C0 D) (some (.int v)) (SH, jn (C') D)
  refine mj_if_eq (y := 0) (pc := 4) (tgt := 22) d_Mk_recipe_4 (by decide) mj_hs (fun hc3 => ?_) (fun hc3 => ?_)
  · rw [if_pos hc3] at h
    refine mj_ldc (pc := 22) (v := -1000000001) d_Mk_recipe_22 k_Mk_54 ?_
    obtain ⟨e_1, e_2⟩ := inj2 h
    subst e_1
    subst e_2
    exact mj_iret (pc := 24) d_Mk_recipe_24 rfl
  · rw [if_neg hc3] at h
    refine mj_iload_n (pc := 7) (i := 2) d_Mk_recipe_7 rfl rfl ?_
    obtain ⟨v4, hb5, h⟩ := bd1_some h
    refine mj_callS (pc := 8) (vs := [.int x2]) (st := []) d_Mk_recipe_8 bB_Mk_recipe_Mk_isGood lk_Mk_67 st_Mk_isGood rfl (Nat.le_of_ble_eq_true rfl) (Nat.le_of_ble_eq_true rfl) (r_Mk_isGood hb5) ?_
    show mj_R M_Mk_recipe 11 [some (.ref 0), some (.int x1), some (.int x2), some (.int x3), some (.int x4), some (.int x5)] [.int v4] (SH, jn C0 D) (some (.int v)) (SH, jn (C') D)
    refine mj_if_eq (y := 0) (pc := 11) (tgt := 22) d_Mk_recipe_11 (by decide) mj_hs (fun hc6 => ?_) (fun hc6 => ?_)
    · rw [if_pos hc6] at h
      refine mj_ldc (pc := 22) (v := -1000000001) d_Mk_recipe_22 k_Mk_54 ?_
      obtain ⟨e_1, e_2⟩ := inj2 h
      subst e_1
      subst e_2
      exact mj_iret (pc := 24) d_Mk_recipe_24 rfl
    · rw [if_neg hc6] at h
      refine mj_iload (pc := 14) (i := 4) d_Mk_recipe_14 rfl ?_
      obtain ⟨v7, hb8, h⟩ := bd1_some h
      refine mj_callS (pc := 16) (vs := [.int x4]) (st := []) d_Mk_recipe_16 bB_Mk_recipe_Mk_isGood lk_Mk_67 st_Mk_isGood rfl (Nat.le_of_ble_eq_true rfl) (Nat.le_of_ble_eq_true rfl) (r_Mk_isGood hb8) ?_
      show mj_R M_Mk_recipe 19 [some (.ref 0), some (.int x1), some (.int x2), some (.int x3), some (.int x4), some (.int x5)] [.int v7] (SH, jn C0 D) (some (.int v)) (SH, jn (C') D)
      refine mj_if_ne (y := 0) (pc := 19) (tgt := 25) d_Mk_recipe_19 (by decide) mj_hs (fun hc9 => ?_) (fun hc9 => ?_)
      · rw [if_neg hc9] at h
        refine mj_iload_n (pc := 25) (i := 3) d_Mk_recipe_25 rfl rfl ?_
        refine mj_iconst (pc := 26) (v := -1) d_Mk_recipe_26 (by decide) ?_
        refine mj_bipush (pc := 27) (v := 9) d_Mk_recipe_27 (by decide) ?_
        obtain ⟨v10, hb11, h⟩ := bd1_some h
        refine mj_callS (pc := 29) (vs := [.int x3, .int (-1), .int 9]) (st := []) d_Mk_recipe_29 bB_Mk_recipe_Mk_isWithin lk_Mk_50 st_Mk_isWithin rfl (Nat.le_of_ble_eq_true rfl) (Nat.le_of_ble_eq_true rfl) (r_Mk_isWithin hb11) ?_
        show mj_R M_Mk_recipe 32 [some (.ref 0), some (.int x1), some (.int x2), some (.int x3), some (.int x4), some (.int x5)] [.int v10] (SH, jn C0 D) (some (.int v)) (SH, jn (C') D)
        refine mj_if_eq (y := 0) (pc := 32) (tgt := 46) d_Mk_recipe_32 (by decide) mj_hs (fun hc12 => ?_) (fun hc12 => ?_)
        · rw [if_pos hc12] at h
          refine mj_ldc (pc := 46) (v := -1000000001) d_Mk_recipe_46 k_Mk_54 ?_
          obtain ⟨e_1, e_2⟩ := inj2 h
          subst e_1
          subst e_2
          exact mj_iret (pc := 48) d_Mk_recipe_48 rfl
        · rw [if_neg hc12] at h
          refine mj_iload (pc := 35) (i := 5) d_Mk_recipe_35 rfl ?_
          refine mj_iconst (pc := 37) (v := 0) d_Mk_recipe_37 (by decide) ?_
          refine mj_bipush (pc := 38) (v := 9) d_Mk_recipe_38 (by decide) ?_
          obtain ⟨v13, hb14, h⟩ := bd1_some h
          refine mj_callS (pc := 40) (vs := [.int x5, .int 0, .int 9]) (st := []) d_Mk_recipe_40 bB_Mk_recipe_Mk_isWithin lk_Mk_50 st_Mk_isWithin rfl (Nat.le_of_ble_eq_true rfl) (Nat.le_of_ble_eq_true rfl) (r_Mk_isWithin hb14) ?_
          show mj_R M_Mk_recipe 43 [some (.ref 0), some (.int x1), some (.int x2), some (.int x3), some (.int x4), some (.int x5)] [.int v13] (SH, jn C0 D) (some (.int v)) (SH, jn (C') D)
          refine mj_if_ne (y := 0) (pc := 43) (tgt := 49) d_Mk_recipe_43 (by decide) mj_hs (fun hc15 => ?_) (fun hc15 => ?_)
          · rw [if_neg hc15] at h
            refine mj_aload_n (pc := 49) (i := 0) d_Mk_recipe_49 rfl rfl (by decide) ?_
            refine mj_getR (pc := 50) d_Mk_recipe_50 fl_Mk_12 sh_0 rfl rfl (by decide) (by decide) (by decide) ?_
            refine mj_getR (pc := 53) d_Mk_recipe_53 fl_Mk_83 sh_1 rfl rfl (by decide) (by decide) (by decide) ?_
            refine mj_iload_n (pc := 56) (i := 1) d_Mk_recipe_56 rfl rfl ?_
            refine mj_bipush (pc := 57) (v := 7) d_Mk_recipe_57 (by decide) ?_
            refine mj_iload_n (pc := 59) (i := 2) d_Mk_recipe_59 rfl rfl ?_
            obtain ⟨C16, hb17, h⟩ := bd1_some h
            refine mj_callV (pc := 60) (b := 10) (vs := [.int x1, .int 7, .int x2]) (st := []) d_Mk_recipe_60 bB_Mk_recipe_Wr_put lk_Mk_89 iv_Wr_put rc_10 rfl (Nat.le_of_ble_eq_true rfl) (Nat.le_of_ble_eq_true rfl) (r_Wr_put hb17) ?_
            show mj_R M_Mk_recipe 63 [some (.ref 0), some (.int x1), some (.int x2), some (.int x3), some (.int x4), some (.int x5)] [] (SH, jn C16 D) (some (.int v)) (SH, jn (C') D)
            refine mj_aload_n (pc := 63) (i := 0) d_Mk_recipe_63 rfl rfl (by decide) ?_
            refine mj_getR (pc := 64) d_Mk_recipe_64 fl_Mk_12 sh_0 rfl rfl (by decide) (by decide) (by decide) ?_
            refine mj_getR (pc := 67) d_Mk_recipe_67 fl_Mk_83 sh_1 rfl rfl (by decide) (by decide) (by decide) ?_
            refine mj_iload_n (pc := 70) (i := 1) d_Mk_recipe_70 rfl rfl ?_
            refine mj_bipush (pc := 71) (v := 8) d_Mk_recipe_71 (by decide) ?_
            refine mj_iload_n (pc := 73) (i := 3) d_Mk_recipe_73 rfl rfl ?_
            obtain ⟨C18, hb19, h⟩ := bd1_some h
            refine mj_callV (pc := 74) (b := 10) (vs := [.int x1, .int 8, .int x3]) (st := []) d_Mk_recipe_74 bB_Mk_recipe_Wr_put lk_Mk_89 iv_Wr_put rc_10 rfl (Nat.le_of_ble_eq_true rfl) (Nat.le_of_ble_eq_true rfl) (r_Wr_put hb19) ?_
            show mj_R M_Mk_recipe 77 [some (.ref 0), some (.int x1), some (.int x2), some (.int x3), some (.int x4), some (.int x5)] [] (SH, jn C18 D) (some (.int v)) (SH, jn (C') D)
            refine mj_aload_n (pc := 77) (i := 0) d_Mk_recipe_77 rfl rfl (by decide) ?_
            refine mj_getR (pc := 78) d_Mk_recipe_78 fl_Mk_12 sh_0 rfl rfl (by decide) (by decide) (by decide) ?_
            refine mj_getR (pc := 81) d_Mk_recipe_81 fl_Mk_83 sh_1 rfl rfl (by decide) (by decide) (by decide) ?_
            refine mj_iload_n (pc := 84) (i := 1) d_Mk_recipe_84 rfl rfl ?_
            refine mj_bipush (pc := 85) (v := 9) d_Mk_recipe_85 (by decide) ?_
            refine mj_iload (pc := 87) (i := 4) d_Mk_recipe_87 rfl ?_
            obtain ⟨C20, hb21, h⟩ := bd1_some h
            refine mj_callV (pc := 89) (b := 10) (vs := [.int x1, .int 9, .int x4]) (st := []) d_Mk_recipe_89 bB_Mk_recipe_Wr_put lk_Mk_89 iv_Wr_put rc_10 rfl (Nat.le_of_ble_eq_true rfl) (Nat.le_of_ble_eq_true rfl) (r_Wr_put hb21) ?_
            show mj_R M_Mk_recipe 92 [some (.ref 0), some (.int x1), some (.int x2), some (.int x3), some (.int x4), some (.int x5)] [] (SH, jn C20 D) (some (.int v)) (SH, jn (C') D)
            refine mj_aload_n (pc := 92) (i := 0) d_Mk_recipe_92 rfl rfl (by decide) ?_
            refine mj_getR (pc := 93) d_Mk_recipe_93 fl_Mk_12 sh_0 rfl rfl (by decide) (by decide) (by decide) ?_
            refine mj_getR (pc := 96) d_Mk_recipe_96 fl_Mk_83 sh_1 rfl rfl (by decide) (by decide) (by decide) ?_
            refine mj_iload_n (pc := 99) (i := 1) d_Mk_recipe_99 rfl rfl ?_
            refine mj_bipush (pc := 100) (v := 10) d_Mk_recipe_100 (by decide) ?_
            refine mj_iload (pc := 102) (i := 5) d_Mk_recipe_102 rfl ?_
            obtain ⟨C22, hb23, h⟩ := bd1_some h
            refine mj_callV (pc := 104) (b := 10) (vs := [.int x1, .int 10, .int x5]) (st := []) d_Mk_recipe_104 bB_Mk_recipe_Wr_put lk_Mk_89 iv_Wr_put rc_10 rfl (Nat.le_of_ble_eq_true rfl) (Nat.le_of_ble_eq_true rfl) (r_Wr_put hb23) ?_
            show mj_R M_Mk_recipe 107 [some (.ref 0), some (.int x1), some (.int x2), some (.int x3), some (.int x4), some (.int x5)] [] (SH, jn C22 D) (some (.int v)) (SH, jn (C') D)
            refine mj_iconst (pc := 107) (v := 0) d_Mk_recipe_107 (by decide) ?_
            obtain ⟨e_1, e_2⟩ := inj2 h
            subst e_1
            subst e_2
            exact mj_iret (pc := 108) d_Mk_recipe_108 rfl
          · rw [if_pos hc15] at h
            refine mj_ldc (pc := 46) (v := -1000000001) d_Mk_recipe_46 k_Mk_54 ?_
            obtain ⟨e_1, e_2⟩ := inj2 h
            subst e_1
            subst e_2
            exact mj_iret (pc := 48) d_Mk_recipe_48 rfl
      · rw [if_pos hc9] at h
        refine mj_ldc (pc := 22) (v := -1000000001) d_Mk_recipe_22 k_Mk_54 ?_
        obtain ⟨e_1, e_2⟩ := inj2 h
        subst e_1
        subst e_2
        exact mj_iret (pc := 24) d_Mk_recipe_24 rfl
set_option maxRecDepth 20000 in
theorem r_Mk_policy {x1 : Int32} {x2 : Int32} {C0 D : St} {v : Int32} {C' : St} (h : f_Mk_policy x1 x2 C0 = some (v, C')) : mj_R M_Mk_policy 0 (mj_lv M_Mk_policy.2.2.1 [.ref 0, .int x1, .int x2]) [] (SH, jn C0 D) (some (.int v)) (SH, jn (C') D) := by
  show mj_R M_Mk_policy 0 [some (.ref 0), some (.int x1), some (.int x2)] [] _ _ _
  unfold f_Mk_policy at h
  refine mj_iload_n (pc := 0) (i := 1) d_Mk_policy_0 rfl rfl ?_
  refine mj_iconst (pc := 1) (v := 0) d_Mk_policy_1 (by decide) ?_
  refine mj_sipush (pc := 2) (v := 1000) d_Mk_policy_2 (by decide) ?_
  obtain ⟨v1, hb2, h⟩ := bd1_some h
  refine mj_callS (pc := 5) (vs := [.int x1, .int 0, .int 1000]) (st := []) d_Mk_policy_5 bB_Mk_policy_Mk_isWithin lk_Mk_50 st_Mk_isWithin rfl (Nat.le_of_ble_eq_true rfl) (Nat.le_of_ble_eq_true rfl) (r_Mk_isWithin hb2) ?_
  show mj_R M_Mk_policy 8 [some (.ref 0), some (.int x1), some (.int x2)] [.int v1] (SH, jn C0 D) (some (.int v)) (SH, jn (C') D)
  refine mj_if_eq (y := 0) (pc := 8) (tgt := 21) d_Mk_policy_8 (by decide) mj_hs (fun hc3 => ?_) (fun hc3 => ?_)
  · rw [if_pos hc3] at h
    refine mj_ldc (pc := 21) (v := -1000000001) d_Mk_policy_21 k_Mk_54 ?_
    obtain ⟨e_1, e_2⟩ := inj2 h
    subst e_1
    subst e_2
    exact mj_iret (pc := 23) d_Mk_policy_23 rfl
  · rw [if_neg hc3] at h
    refine mj_iload_n (pc := 11) (i := 2) d_Mk_policy_11 rfl rfl ?_
    refine mj_iconst (pc := 12) (v := 0) d_Mk_policy_12 (by decide) ?_
    refine mj_bipush (pc := 13) (v := 100) d_Mk_policy_13 (by decide) ?_
    obtain ⟨v4, hb5, h⟩ := bd1_some h
    refine mj_callS (pc := 15) (vs := [.int x2, .int 0, .int 100]) (st := []) d_Mk_policy_15 bB_Mk_policy_Mk_isWithin lk_Mk_50 st_Mk_isWithin rfl (Nat.le_of_ble_eq_true rfl) (Nat.le_of_ble_eq_true rfl) (r_Mk_isWithin hb5) ?_
    show mj_R M_Mk_policy 18 [some (.ref 0), some (.int x1), some (.int x2)] [.int v4] (SH, jn C0 D) (some (.int v)) (SH, jn (C') D)
    refine mj_if_ne (y := 0) (pc := 18) (tgt := 24) d_Mk_policy_18 (by decide) mj_hs (fun hc6 => ?_) (fun hc6 => ?_)
    · rw [if_neg hc6] at h
      refine mj_aload_n (pc := 24) (i := 0) d_Mk_policy_24 rfl rfl (by decide) ?_
      refine mj_getR (pc := 25) d_Mk_policy_25 fl_Mk_12 sh_0 rfl rfl (by decide) (by decide) (by decide) ?_
      refine mj_iload_n (pc := 28) (i := 1) d_Mk_policy_28 rfl rfl ?_
      refine cj_putI (pc := 29) d_Mk_policy_29 fl_Mk_92 sh_1 rfl (fun _ _ _ h => by cases h; rfl) (by decide) (by decide) (by decide) ?_
      refine mj_aload_n (pc := 32) (i := 0) d_Mk_policy_32 rfl rfl (by decide) ?_
      refine mj_getR (pc := 33) d_Mk_policy_33 fl_Mk_12 sh_0 rfl rfl (by decide) (by decide) (by decide) ?_
      refine mj_iload_n (pc := 36) (i := 2) d_Mk_policy_36 rfl rfl ?_
      refine cj_putI (pc := 37) d_Mk_policy_37 fl_Mk_95 sh_1 rfl (fun _ _ _ h => by cases h; rfl) (by decide) (by decide) (by decide) ?_
      refine mj_iconst (pc := 40) (v := 0) d_Mk_policy_40 (by decide) ?_
      obtain ⟨e_1, e_2⟩ := inj2 h
      subst e_1
      subst e_2
      exact mj_iret (pc := 41) d_Mk_policy_41 rfl
    · rw [if_pos hc6] at h
      refine mj_ldc (pc := 21) (v := -1000000001) d_Mk_policy_21 k_Mk_54 ?_
      obtain ⟨e_1, e_2⟩ := inj2 h
      subst e_1
      subst e_2
      exact mj_iret (pc := 23) d_Mk_policy_23 rfl
set_option maxRecDepth 20000 in
theorem r_Mk_lots {x1 : Int32} {C0 D : St} {v : Int32} {C' : St} (h : f_Mk_lots x1 C0 = some (v, C')) : mj_R M_Mk_lots 0 (mj_lv M_Mk_lots.2.2.1 [.ref 0, .int x1]) [] (SH, jn C0 D) (some (.int v)) (SH, jn (C') D) := by
  show mj_R M_Mk_lots 0 [some (.ref 0), some (.int x1)] [] _ _ _
  unfold f_Mk_lots at h
  refine mj_iload_n (pc := 0) (i := 1) d_Mk_lots_0 rfl rfl ?_
  refine mj_if_ge (y := 0) (pc := 1) (tgt := 7) d_Mk_lots_1 (by decide) mj_hs (fun hc1 => ?_) (fun hc1 => ?_)
  · rw [if_pos hc1] at h
    refine mj_aload_n (pc := 7) (i := 0) d_Mk_lots_7 rfl rfl (by decide) ?_
    refine mj_getR (pc := 8) d_Mk_lots_8 fl_Mk_12 sh_0 rfl rfl (by decide) (by decide) (by decide) ?_
    refine mj_iload_n (pc := 11) (i := 1) d_Mk_lots_11 rfl rfl ?_
    refine cj_putI (pc := 12) d_Mk_lots_12 fl_Mk_98 sh_1 rfl (fun _ _ _ h => by cases h; rfl) (by decide) (by decide) (by decide) ?_
    refine mj_iconst (pc := 15) (v := 0) d_Mk_lots_15 (by decide) ?_
    obtain ⟨e_1, e_2⟩ := inj2 h
    subst e_1
    subst e_2
    exact mj_iret (pc := 16) d_Mk_lots_16 rfl
  · rw [if_neg hc1] at h
    refine mj_ldc (pc := 4) (v := -1000000001) d_Mk_lots_4 k_Mk_54 ?_
    obtain ⟨e_1, e_2⟩ := inj2 h
    subst e_1
    subst e_2
    exact mj_iret (pc := 6) d_Mk_lots_6 rfl
set_option maxRecDepth 20000 in
theorem r_Tp_hasRoom  {C0 D : St} {v : Int32} (h : f_Tp_hasRoom C0 = some v) : mj_R M_Tp_hasRoom 0 (mj_lv M_Tp_hasRoom.2.2.1 [.ref 19]) [] (SH, jn C0 D) (some (.int v)) (SH, jn C0 D) := by
  show mj_R M_Tp_hasRoom 0 [some (.ref 19)] [] _ _ _
  unfold f_Tp_hasRoom at h
  refine mj_aload_n (pc := 0) (i := 0) d_Tp_hasRoom_0 rfl rfl (by decide) ?_
  refine cj_getI (pc := 1) d_Tp_hasRoom_1 fl_Tp_13 sh_19 rfl (by decide) (by decide) (by decide) ?_
  refine mj_bipush (pc := 4) (v := 20) d_Tp_hasRoom_4 (by decide) ?_
  refine mj_iadd (pc := 6) d_Tp_hasRoom_6 ?_
  refine mj_bipush (pc := 7) (v := 60) d_Tp_hasRoom_7 (by decide) ?_
  have k2 : mj_R M_Tp_hasRoom 17 [none] [.int (if 60 < ((C0 19 0) + 20) then 0 else 1 : Int32)] (SH, jn C0 D) (some (.int v)) (SH, jn C0 D) := by
    obtain e_1 := inj1 h
    subst e_1
    exact mj_zret (pc := 17) (ty := .boolean) d_Tp_hasRoom_17 rfl (mj_b01 (by (repeat' split) <;> simp))
  refine mj_icmp_gt (pc := 9) (tgt := 16) d_Tp_hasRoom_9 (by decide) mj_hs (fun hc1 => ?_) (fun hc1 => ?_)
  · refine mj_iconst (pc := 16) (v := 0) d_Tp_hasRoom_16 (by decide) ?_
    try simp only [if_pos hc1] at k2
    exact mj_wk k2 trivial
  · refine mj_iconst (pc := 12) (v := 1) d_Tp_hasRoom_12 (by decide) ?_
    refine mj_goto (pc := 13) (tgt := 17) d_Tp_hasRoom_13 (by decide) ?_
    try simp only [if_neg hc1] at k2
    exact mj_wk k2 trivial
set_option maxRecDepth 20000 in
theorem l_Tp_append_2 {r : Option Value} {D y : St} : ∀ (n : Nat) (y1 : Int32) (y2 : Int32) (C : St) (Q_ : St), L_Tp_append_2 n y1 y2 C = some Q_ → mj_R M_Tp_append 50 [none, none, none] [] (SH, jn Q_ D) r (SH, y) → mj_R M_Tp_append 2 [some (.ref 19), some (.int y1), some (.int y2)] [] (SH, jn C D) r (SH, y) := by
  intro n
  induction n with
  | zero => intro y1 y2 C Q_ h; cases h
  | succ n ih =>
    intro y1 y2 C Q_ h hX
    unfold L_Tp_append_2 at h
    refine mj_iload_n (pc := 2) (i := 2) d_Tp_append_2 rfl rfl ?_
    refine mj_if_lt (y := 0) (pc := 3) (tgt := 50) d_Tp_append_3 (by decide) mj_hs (fun hc1 => ?_) (fun hc1 => ?_)
    · rw [if_pos hc1] at h
      obtain e_1 := inj1 h
      subst e_1
      exact mj_wk hX trivial
    · rw [if_neg hc1] at h
      refine mj_aload_n (pc := 6) (i := 0) d_Tp_append_6 rfl rfl (by decide) ?_
      refine cj_getI (pc := 7) d_Tp_append_7 fl_Tp_13 sh_19 rfl (by decide) (by decide) (by decide) ?_
      refine mj_bipush (pc := 10) (v := 60) d_Tp_append_10 (by decide) ?_
      refine mj_icmp_ge (pc := 12) (tgt := 50) d_Tp_append_12 (by decide) mj_hs (fun hc2 => ?_) (fun hc2 => ?_)
      · rw [if_pos hc2] at h
        obtain e_1 := inj1 h
        subst e_1
        exact mj_wk hX trivial
      · rw [if_neg hc2] at h
        refine mj_aload_n (pc := 15) (i := 0) d_Tp_append_15 rfl rfl (by decide) ?_
        refine mj_getR (pc := 16) d_Tp_append_16 fl_Tp_9 sh_19 rfl rfl (by decide) (by decide) (by decide) ?_
        refine mj_aload_n (pc := 19) (i := 0) d_Tp_append_19 rfl rfl (by decide) ?_
        refine cj_getI (pc := 20) d_Tp_append_20 fl_Tp_13 sh_19 rfl (by decide) (by decide) (by decide) ?_
        refine mj_iload_n (pc := 23) (i := 1) d_Tp_append_23 rfl rfl ?_
        refine mj_bipush (pc := 24) (v := 8) d_Tp_append_24 (by decide) ?_
        refine mj_iload_n (pc := 26) (i := 2) d_Tp_append_26 rfl rfl ?_
        refine mj_imul (pc := 27) d_Tp_append_27 ?_
        refine mj_iushr (pc := 28) d_Tp_append_28 ?_
        refine mj_sipush (pc := 29) (v := 255) d_Tp_append_29 (by decide) ?_
        refine mj_iand (pc := 32) d_Tp_append_32 ?_
        obtain ⟨hg3, h⟩ := mj_gd h
        refine cj_iast (pc := 33) d_Tp_append_33 sh_20 (by decide) hg3 (by decide) ?_
        refine mj_aload_n (pc := 34) (i := 0) d_Tp_append_34 rfl rfl (by decide) ?_
        refine mj_dup (pc := 35) d_Tp_append_35 rfl ?_
        refine cj_getI (pc := 36) d_Tp_append_36 fl_Tp_13 sh_19 rfl (by decide) (by decide) (by decide) ?_
        refine mj_iconst (pc := 39) (v := 1) d_Tp_append_39 (by decide) ?_
        refine mj_iadd (pc := 40) d_Tp_append_40 ?_
        refine cj_putI (pc := 41) d_Tp_append_41 fl_Tp_13 sh_19 rfl (fun _ _ _ h => by cases h; rfl) (by decide) (by decide) (by decide) ?_
        refine mj_iinc (pc := 44) (i := 2) (v := y2 + (-1)) d_Tp_append_44 rfl (by rfl) rfl (by decide) ?_
        refine mj_goto (pc := 47) (tgt := 2) d_Tp_append_47 (by decide) ?_
        exact mj_weak [some (.ref 19), some (.int y1), some (.int (y2 + (-1)))] (And.intro rfl (And.intro rfl (And.intro rfl trivial))) (ih _ _ _ _ h hX)
set_option maxRecDepth 20000 in
theorem r_Tp_append {x1 : Int32} {C0 D : St} {C' : St} (h : f_Tp_append x1 C0 = some (C')) : mj_R M_Tp_append 0 (mj_lv M_Tp_append.2.2.1 [.ref 19, .int x1]) [] (SH, jn C0 D) none (SH, jn (C') D) := by
  show mj_R M_Tp_append 0 [some (.ref 19), some (.int x1), none] [] _ _ _
  unfold f_Tp_append at h
  refine mj_iconst (pc := 0) (v := 3) d_Tp_append_0 (by decide) ?_
  refine mj_istore_n (pc := 1) (i := 2) d_Tp_append_1 rfl rfl (by decide) ?_
  obtain ⟨C4, hl5, h⟩ := bd1_some h
  refine mj_weak [some (.ref 19), some (.int x1), some (.int 3)] (And.intro rfl (And.intro rfl (And.intro rfl trivial))) (l_Tp_append_2 3000 _ _ _ _ hl5 ?_)
  obtain e_1 := inj1 h
  subst e_1
  exact mj_vret (pc := 50) d_Tp_append_50 rfl
set_option maxRecDepth 20000 in
theorem r_Mk_feed {x1 : Int32} {x2 : Int32} {x3 : Int32} {x4 : Int32} {x5 : Int32} {C0 D : St} {v : Int32} {C' : St} (h : f_Mk_feed x1 x2 x3 x4 x5 C0 = some (v, C')) : mj_R M_Mk_feed 0 (mj_lv M_Mk_feed.2.2.1 [.ref 0, .int x1, .int x2, .int x3, .int x4, .int x5]) [] (SH, jn C0 D) (some (.int v)) (SH, jn (C') D) := by
  show mj_R M_Mk_feed 0 [some (.ref 0), some (.int x1), some (.int x2), some (.int x3), some (.int x4), some (.int x5)] [] _ _ _
  unfold f_Mk_feed at h
  refine mj_aload_n (pc := 0) (i := 0) d_Mk_feed_0 rfl rfl (by decide) ?_
  refine mj_getR (pc := 1) d_Mk_feed_1 fl_Mk_27 sh_0 rfl rfl (by decide) (by decide) (by decide) ?_
  obtain ⟨v1, hb2, h⟩ := bd1_some h
  refine mj_callV (pc := 4) (b := 19) (vs := []) (st := []) d_Mk_feed_4 bB_Mk_feed_Tp_hasRoom lk_Mk_101 iv_Tp_hasRoom rc_19 rfl (Nat.le_of_ble_eq_true rfl) (Nat.le_of_ble_eq_true rfl) (r_Tp_hasRoom hb2) ?_
  show mj_R M_Mk_feed 7 [some (.ref 0), some (.int x1), some (.int x2), some (.int x3), some (.int x4), some (.int x5)] [.int v1] (SH, jn C0 D) (some (.int v)) (SH, jn (C') D)
  refine mj_if_ne (y := 0) (pc := 7) (tgt := 13) d_Mk_feed_7 (by decide) mj_hs (fun hc3 => ?_) (fun hc3 => ?_)
  · rw [if_neg hc3] at h
    refine mj_aload_n (pc := 13) (i := 0) d_Mk_feed_13 rfl rfl (by decide) ?_
    refine mj_getR (pc := 14) d_Mk_feed_14 fl_Mk_27 sh_0 rfl rfl (by decide) (by decide) (by decide) ?_
    refine mj_iload_n (pc := 17) (i := 1) d_Mk_feed_17 rfl rfl ?_
    obtain ⟨C4, hb5, h⟩ := bd1_some h
    refine mj_callV (pc := 18) (b := 19) (vs := [.int x1]) (st := []) d_Mk_feed_18 bB_Mk_feed_Tp_append lk_Mk_105 iv_Tp_append rc_19 rfl (Nat.le_of_ble_eq_true rfl) (Nat.le_of_ble_eq_true rfl) (r_Tp_append hb5) ?_
    show mj_R M_Mk_feed 21 [some (.ref 0), some (.int x1), some (.int x2), some (.int x3), some (.int x4), some (.int x5)] [] (SH, jn C4 D) (some (.int v)) (SH, jn (C') D)
    refine mj_aload_n (pc := 21) (i := 0) d_Mk_feed_21 rfl rfl (by decide) ?_
    refine mj_getR (pc := 22) d_Mk_feed_22 fl_Mk_27 sh_0 rfl rfl (by decide) (by decide) (by decide) ?_
    refine mj_iload_n (pc := 25) (i := 2) d_Mk_feed_25 rfl rfl ?_
    obtain ⟨C6, hb7, h⟩ := bd1_some h
    refine mj_callV (pc := 26) (b := 19) (vs := [.int x2]) (st := []) d_Mk_feed_26 bB_Mk_feed_Tp_append lk_Mk_105 iv_Tp_append rc_19 rfl (Nat.le_of_ble_eq_true rfl) (Nat.le_of_ble_eq_true rfl) (r_Tp_append hb7) ?_
    show mj_R M_Mk_feed 29 [some (.ref 0), some (.int x1), some (.int x2), some (.int x3), some (.int x4), some (.int x5)] [] (SH, jn C6 D) (some (.int v)) (SH, jn (C') D)
    refine mj_aload_n (pc := 29) (i := 0) d_Mk_feed_29 rfl rfl (by decide) ?_
    refine mj_getR (pc := 30) d_Mk_feed_30 fl_Mk_27 sh_0 rfl rfl (by decide) (by decide) (by decide) ?_
    refine mj_iload_n (pc := 33) (i := 3) d_Mk_feed_33 rfl rfl ?_
    obtain ⟨C8, hb9, h⟩ := bd1_some h
    refine mj_callV (pc := 34) (b := 19) (vs := [.int x3]) (st := []) d_Mk_feed_34 bB_Mk_feed_Tp_append lk_Mk_105 iv_Tp_append rc_19 rfl (Nat.le_of_ble_eq_true rfl) (Nat.le_of_ble_eq_true rfl) (r_Tp_append hb9) ?_
    show mj_R M_Mk_feed 37 [some (.ref 0), some (.int x1), some (.int x2), some (.int x3), some (.int x4), some (.int x5)] [] (SH, jn C8 D) (some (.int v)) (SH, jn (C') D)
    refine mj_aload_n (pc := 37) (i := 0) d_Mk_feed_37 rfl rfl (by decide) ?_
    refine mj_getR (pc := 38) d_Mk_feed_38 fl_Mk_27 sh_0 rfl rfl (by decide) (by decide) (by decide) ?_
    refine mj_iload (pc := 41) (i := 4) d_Mk_feed_41 rfl ?_
    obtain ⟨C10, hb11, h⟩ := bd1_some h
    refine mj_callV (pc := 43) (b := 19) (vs := [.int x4]) (st := []) d_Mk_feed_43 bB_Mk_feed_Tp_append lk_Mk_105 iv_Tp_append rc_19 rfl (Nat.le_of_ble_eq_true rfl) (Nat.le_of_ble_eq_true rfl) (r_Tp_append hb11) ?_
    show mj_R M_Mk_feed 46 [some (.ref 0), some (.int x1), some (.int x2), some (.int x3), some (.int x4), some (.int x5)] [] (SH, jn C10 D) (some (.int v)) (SH, jn (C') D)
    refine mj_aload_n (pc := 46) (i := 0) d_Mk_feed_46 rfl rfl (by decide) ?_
    refine mj_getR (pc := 47) d_Mk_feed_47 fl_Mk_27 sh_0 rfl rfl (by decide) (by decide) (by decide) ?_
    refine mj_iload (pc := 50) (i := 5) d_Mk_feed_50 rfl ?_
    obtain ⟨C12, hb13, h⟩ := bd1_some h
    refine mj_callV (pc := 52) (b := 19) (vs := [.int x5]) (st := []) d_Mk_feed_52 bB_Mk_feed_Tp_append lk_Mk_105 iv_Tp_append rc_19 rfl (Nat.le_of_ble_eq_true rfl) (Nat.le_of_ble_eq_true rfl) (r_Tp_append hb13) ?_
    show mj_R M_Mk_feed 55 [some (.ref 0), some (.int x1), some (.int x2), some (.int x3), some (.int x4), some (.int x5)] [] (SH, jn C12 D) (some (.int v)) (SH, jn (C') D)
    refine mj_aload_n (pc := 55) (i := 0) d_Mk_feed_55 rfl rfl (by decide) ?_
    refine mj_getR (pc := 56) d_Mk_feed_56 fl_Mk_27 sh_0 rfl rfl (by decide) (by decide) (by decide) ?_
    refine cj_getI (pc := 59) d_Mk_feed_59 fl_Mk_109 sh_19 rfl (by decide) (by decide) (by decide) ?_
    obtain ⟨e_1, e_2⟩ := inj2 h
    subst e_1
    subst e_2
    exact mj_iret (pc := 62) d_Mk_feed_62 rfl
  · rw [if_pos hc3] at h
    refine mj_ldc (pc := 10) (v := -1000000003) d_Mk_feed_10 k_Mk_59 ?_
    obtain ⟨e_1, e_2⟩ := inj2 h
    subst e_1
    subst e_2
    exact mj_iret (pc := 12) d_Mk_feed_12 rfl
set_option maxRecDepth 20000 in
theorem r_Mk_trim {x1 : Int32} {C0 D : St} {v : Int32} {C' : St} (h : f_Mk_trim x1 C0 = some (v, C')) : mj_R M_Mk_trim 0 (mj_lv M_Mk_trim.2.2.1 [.ref 0, .int x1]) [] (SH, jn C0 D) (some (.int v)) (SH, jn (C') D) := by
  show mj_R M_Mk_trim 0 [some (.ref 0), some (.int x1)] [] _ _ _
  unfold f_Mk_trim at h
  refine mj_iload_n (pc := 0) (i := 1) d_Mk_trim_0 rfl rfl ?_
  refine mj_iconst (pc := 1) (v := 0) d_Mk_trim_1 (by decide) ?_
  refine mj_aload_n (pc := 2) (i := 0) d_Mk_trim_2 rfl rfl (by decide) ?_
  refine mj_getR (pc := 3) d_Mk_trim_3 fl_Mk_27 sh_0 rfl rfl (by decide) (by decide) (by decide) ?_
  refine cj_getI (pc := 6) d_Mk_trim_6 fl_Mk_109 sh_19 rfl (by decide) (by decide) (by decide) ?_
  obtain ⟨v1, hb2, h⟩ := bd1_some h
  refine mj_callS (pc := 9) (vs := [.int x1, .int 0, .int (C0 19 0)]) (st := []) d_Mk_trim_9 bB_Mk_trim_Mk_isWithin lk_Mk_50 st_Mk_isWithin rfl (Nat.le_of_ble_eq_true rfl) (Nat.le_of_ble_eq_true rfl) (r_Mk_isWithin hb2) ?_
  show mj_R M_Mk_trim 12 [some (.ref 0), some (.int x1)] [.int v1] (SH, jn C0 D) (some (.int v)) (SH, jn (C') D)
  refine mj_if_ne (y := 0) (pc := 12) (tgt := 18) d_Mk_trim_12 (by decide) mj_hs (fun hc3 => ?_) (fun hc3 => ?_)
  · rw [if_neg hc3] at h
    refine mj_aload_n (pc := 18) (i := 0) d_Mk_trim_18 rfl rfl (by decide) ?_
    refine mj_getR (pc := 19) d_Mk_trim_19 fl_Mk_27 sh_0 rfl rfl (by decide) (by decide) (by decide) ?_
    refine mj_iload_n (pc := 22) (i := 1) d_Mk_trim_22 rfl rfl ?_
    refine cj_putI (pc := 23) d_Mk_trim_23 fl_Mk_109 sh_19 rfl (fun _ _ _ h => by cases h; rfl) (by decide) (by decide) (by decide) ?_
    refine mj_iload_n (pc := 26) (i := 1) d_Mk_trim_26 rfl rfl ?_
    obtain ⟨e_1, e_2⟩ := inj2 h
    subst e_1
    subst e_2
    exact mj_iret (pc := 27) d_Mk_trim_27 rfl
  · rw [if_pos hc3] at h
    refine mj_ldc (pc := 15) (v := -1000000001) d_Mk_trim_15 k_Mk_54 ?_
    obtain ⟨e_1, e_2⟩ := inj2 h
    subst e_1
    subst e_2
    exact mj_iret (pc := 17) d_Mk_trim_17 rfl
set_option maxRecDepth 20000 in
theorem l_Rr_clearRow_2 {r : Option Value} {D y : St} : ∀ (n : Nat) (y1 : Int32) (C : St) (Q_ : St), L_Rr_clearRow_2 n y1 C = some Q_ → mj_R M_Rr_clearRow 22 [some (.ref 21), none] [] (SH, jn Q_ D) r (SH, y) → mj_R M_Rr_clearRow 2 [some (.ref 21), some (.int y1)] [] (SH, jn C D) r (SH, y) := by
  intro n
  induction n with
  | zero => intro y1 C Q_ h; cases h
  | succ n ih =>
    intro y1 C Q_ h hX
    unfold L_Rr_clearRow_2 at h
    refine mj_iload_n (pc := 2) (i := 1) d_Rr_clearRow_2 rfl rfl ?_
    refine mj_bipush (pc := 3) (v := 9) d_Rr_clearRow_3 (by decide) ?_
    refine mj_icmp_ge (pc := 5) (tgt := 22) d_Rr_clearRow_5 (by decide) mj_hs (fun hc1 => ?_) (fun hc1 => ?_)
    · rw [if_pos hc1] at h
      obtain e_1 := inj1 h
      subst e_1
      exact mj_wk hX (And.intro rfl trivial)
    · rw [if_neg hc1] at h
      refine mj_aload_n (pc := 8) (i := 0) d_Rr_clearRow_8 rfl rfl (by decide) ?_
      refine mj_getR (pc := 9) d_Rr_clearRow_9 fl_Rr_11 sh_21 rfl rfl (by decide) (by decide) (by decide) ?_
      refine mj_iload_n (pc := 12) (i := 1) d_Rr_clearRow_12 rfl rfl ?_
      refine mj_ldc (pc := 13) (v := -1000000005) d_Rr_clearRow_13 k_Rr_47 ?_
      obtain ⟨hg2, h⟩ := mj_gd h
      refine cj_iast (pc := 15) d_Rr_clearRow_15 sh_22 (by decide) hg2 (by decide) ?_
      refine mj_iinc (pc := 16) (i := 1) (v := y1 + 1) d_Rr_clearRow_16 rfl (by rfl) rfl (by decide) ?_
      refine mj_goto (pc := 19) (tgt := 2) d_Rr_clearRow_19 (by decide) ?_
      exact mj_weak [some (.ref 21), some (.int (y1 + 1))] (And.intro rfl (And.intro rfl trivial)) (ih _ _ _ h hX)
set_option maxRecDepth 20000 in
theorem r_Rr_clearRow  {C0 D : St} {C' : St} (h : f_Rr_clearRow C0 = some (C')) : mj_R M_Rr_clearRow 0 (mj_lv M_Rr_clearRow.2.2.1 [.ref 21]) [] (SH, jn C0 D) none (SH, jn (C') D) := by
  show mj_R M_Rr_clearRow 0 [some (.ref 21), none] [] _ _ _
  unfold f_Rr_clearRow at h
  refine mj_iconst (pc := 0) (v := 0) d_Rr_clearRow_0 (by decide) ?_
  refine mj_istore_n (pc := 1) (i := 1) d_Rr_clearRow_1 rfl rfl (by decide) ?_
  obtain ⟨C3, hl4, h⟩ := bd1_some h
  refine mj_weak [some (.ref 21), some (.int 0)] (And.intro rfl (And.intro rfl trivial)) (l_Rr_clearRow_2 3000 _ _ _ hl4 ?_)
  refine mj_aload_n (pc := 22) (i := 0) d_Rr_clearRow_22 rfl rfl (by decide) ?_
  refine mj_getR (pc := 23) d_Rr_clearRow_23 fl_Rr_11 sh_21 rfl rfl (by decide) (by decide) (by decide) ?_
  refine mj_iconst (pc := 26) (v := 4) d_Rr_clearRow_26 (by decide) ?_
  refine mj_iconst (pc := 27) (v := 1) d_Rr_clearRow_27 (by decide) ?_
  refine cj_iast (pc := 28) d_Rr_clearRow_28 sh_22 (by decide) (by decide) (by decide) ?_
  show mj_R M_Rr_clearRow 29 [some (.ref 21), none] [] (SH, jn (mj_wr C3 22 4 1) D) none (SH, jn (C') D)
  refine mj_aload_n (pc := 29) (i := 0) d_Rr_clearRow_29 rfl rfl (by decide) ?_
  refine mj_getR (pc := 30) d_Rr_clearRow_30 fl_Rr_11 sh_21 rfl rfl (by decide) (by decide) (by decide) ?_
  refine mj_bipush (pc := 33) (v := 8) d_Rr_clearRow_33 (by decide) ?_
  refine mj_iconst (pc := 35) (v := 0) d_Rr_clearRow_35 (by decide) ?_
  refine cj_iast (pc := 36) d_Rr_clearRow_36 sh_22 (by decide) (by decide) (by decide) ?_
  show mj_R M_Rr_clearRow 37 [some (.ref 21), none] [] (SH, jn (mj_wr (mj_wr C3 22 4 1) 22 8 0) D) none (SH, jn (C') D)
  obtain e_1 := inj1 h
  subst e_1
  exact mj_vret (pc := 37) d_Rr_clearRow_37 rfl
set_option maxRecDepth 20000 in
theorem l_Tp_next_2 {r : Option Value} {D y : St} : ∀ (n : Nat) (y2 : Int32) (y3 : Int32) (C : St) (o3_ : Int32), L_Tp_next_2 n y2 y3 C = some o3_ → mj_R M_Tp_next 36 [none, none, none, some (.int o3_)] [] (SH, jn C D) r (SH, y) → mj_R M_Tp_next 2 [some (.ref 19), none, some (.int y2), some (.int y3)] [] (SH, jn C D) r (SH, y) := by
  intro n
  induction n with
  | zero => intro y2 y3 C o3_ h; cases h
  | succ n ih =>
    intro y2 y3 C o3_ h hX
    unfold L_Tp_next_2 at h
    refine mj_iload_n (pc := 2) (i := 3) d_Tp_next_2 rfl rfl ?_
    refine mj_aload_n (pc := 3) (i := 0) d_Tp_next_3 rfl rfl (by decide) ?_
    refine cj_getI (pc := 4) d_Tp_next_4 fl_Tp_13 sh_19 rfl (by decide) (by decide) (by decide) ?_
    refine mj_icmp_ge (pc := 7) (tgt := 36) d_Tp_next_7 (by decide) mj_hs (fun hc1 => ?_) (fun hc1 => ?_)
    · rw [if_pos hc1] at h
      obtain e_1 := inj1 h
      subst e_1
      exact mj_wk hX (And.intro rfl trivial)
    · rw [if_neg hc1] at h
      refine mj_aload_n (pc := 10) (i := 0) d_Tp_next_10 rfl rfl (by decide) ?_
      refine mj_getR (pc := 11) d_Tp_next_11 fl_Tp_9 sh_19 rfl rfl (by decide) (by decide) (by decide) ?_
      refine mj_iload_n (pc := 14) (i := 3) d_Tp_next_14 rfl rfl ?_
      obtain ⟨hg2, h⟩ := mj_gd h
      refine cj_iald (pc := 15) d_Tp_next_15 sh_20 (by decide) hg2 (by decide) ?_
      refine mj_bipush (pc := 16) (v := 32) d_Tp_next_16 (by decide) ?_
      have k4 : mj_R M_Tp_next 26 [some (.ref 19), none, some (.int y2), some (.int y3)] [.int (if (C 20 y3.toNatClampNeg) = 32 then 1 else 0 : Int32)] (SH, jn C D) r (SH, y) := by
        refine mj_iload_n (pc := 26) (i := 2) d_Tp_next_26 rfl rfl ?_
        refine mj_icmp_eq (pc := 27) (tgt := 36) d_Tp_next_27 (by decide) mj_hs (fun hc5 => ?_) (fun hc5 => ?_)
        · rw [if_pos hc5] at h
          obtain e_1 := inj1 h
          subst e_1
          exact mj_wk hX (And.intro rfl trivial)
        · rw [if_neg hc5] at h
          refine mj_iinc (pc := 30) (i := 3) (v := y3 + 1) d_Tp_next_30 rfl (by rfl) rfl (by decide) ?_
          refine mj_goto (pc := 33) (tgt := 2) d_Tp_next_33 (by decide) ?_
          exact mj_weak [some (.ref 19), none, some (.int y2), some (.int (y3 + 1))] (And.intro rfl (And.intro rfl (And.intro rfl trivial))) (ih _ _ _ _ h hX)
      refine mj_icmp_ne (pc := 18) (tgt := 25) d_Tp_next_18 (by decide) mj_hs (fun hc3 => ?_) (fun hc3 => ?_)
      · refine mj_iconst (pc := 25) (v := 0) d_Tp_next_25 (by decide) ?_
        try simp only [if_neg hc3] at k4
        exact mj_wk k4 (And.intro rfl (And.intro rfl (And.intro rfl trivial)))
      · refine mj_iconst (pc := 21) (v := 1) d_Tp_next_21 (by decide) ?_
        refine mj_goto (pc := 22) (tgt := 26) d_Tp_next_22 (by decide) ?_
        try simp only [if_pos hc3] at k4
        exact mj_wk k4 (And.intro rfl (And.intro rfl (And.intro rfl trivial)))
set_option maxRecDepth 20000 in
theorem r_Tp_next {x1 : Int32} {x2 : Int32} {C0 D : St} {v : Int32} (h : f_Tp_next x1 x2 C0 = some v) : mj_R M_Tp_next 0 (mj_lv M_Tp_next.2.2.1 [.ref 19, .int x1, .int x2]) [] (SH, jn C0 D) (some (.int v)) (SH, jn C0 D) := by
  show mj_R M_Tp_next 0 [some (.ref 19), some (.int x1), some (.int x2), none] [] _ _ _
  unfold f_Tp_next at h
  refine mj_iload_n (pc := 0) (i := 1) d_Tp_next_0 rfl rfl ?_
  refine mj_istore_n (pc := 1) (i := 3) d_Tp_next_1 rfl rfl (by decide) ?_
  obtain ⟨o6, hl7, h⟩ := bd1_some h
  refine mj_weak [some (.ref 19), none, some (.int x2), some (.int x1)] (And.intro rfl (And.intro rfl (And.intro rfl trivial))) (l_Tp_next_2 3000 _ _ _ _ hl7 ?_)
  refine mj_iload_n (pc := 36) (i := 3) d_Tp_next_36 rfl rfl ?_
  obtain e_1 := inj1 h
  subst e_1
  exact mj_iret (pc := 37) d_Tp_next_37 rfl
set_option maxRecDepth 20000 in
theorem r_Rr_nextWord  {C0 D : St} {v : Int32} {C' : St} (h : f_Rr_nextWord C0 = some (v, C')) : mj_R M_Rr_nextWord 0 (mj_lv M_Rr_nextWord.2.2.1 [.ref 21, .ref 19]) [] (SH, jn C0 D) (some (.int v)) (SH, jn (C') D) := by
  show mj_R M_Rr_nextWord 0 [some (.ref 21), some (.ref 19)] [] _ _ _
  unfold f_Rr_nextWord at h
  refine mj_aload_n (pc := 0) (i := 0) d_Rr_nextWord_0 rfl rfl (by decide) ?_
  refine mj_aload_n (pc := 1) (i := 1) d_Rr_nextWord_1 rfl rfl (by decide) ?_
  refine mj_aload_n (pc := 2) (i := 0) d_Rr_nextWord_2 rfl rfl (by decide) ?_
  refine cj_getI (pc := 3) d_Rr_nextWord_3 fl_Rr_20 sh_21 rfl (by decide) (by decide) (by decide) ?_
  refine mj_iconst (pc := 6) (v := 0) d_Rr_nextWord_6 (by decide) ?_
  obtain ⟨v1, hb2, h⟩ := bd1_some h
  refine mj_callV (pc := 7) (b := 19) (vs := [.int (C0 21 2), .int 0]) (st := [.ref 21]) d_Rr_nextWord_7 bB_Rr_nextWord_Tp_next lk_Rr_48 iv_Tp_next rc_19 rfl (Nat.le_of_ble_eq_true rfl) (Nat.le_of_ble_eq_true rfl) (r_Tp_next hb2) ?_
  show mj_R M_Rr_nextWord 10 [some (.ref 21), some (.ref 19)] [.int v1, .ref 21] (SH, jn C0 D) (some (.int v)) (SH, jn (C') D)
  refine cj_putI (pc := 10) d_Rr_nextWord_10 fl_Rr_54 sh_21 rfl (fun _ _ _ h => by cases h; rfl) (by decide) (by decide) (by decide) ?_
  refine mj_aload_n (pc := 13) (i := 0) d_Rr_nextWord_13 rfl rfl (by decide) ?_
  refine mj_aload_n (pc := 14) (i := 1) d_Rr_nextWord_14 rfl rfl (by decide) ?_
  refine mj_aload_n (pc := 15) (i := 0) d_Rr_nextWord_15 rfl rfl (by decide) ?_
  refine cj_getI (pc := 16) d_Rr_nextWord_16 fl_Rr_54 sh_21 rfl (by decide) (by decide) (by decide) ?_
  refine mj_iconst (pc := 19) (v := 1) d_Rr_nextWord_19 (by decide) ?_
  obtain ⟨v3, hb4, h⟩ := bd1_some h
  refine mj_callV (pc := 20) (b := 19) (vs := [.int (mj_wr C0 21 1 v1 21 1), .int 1]) (st := [.ref 21]) d_Rr_nextWord_20 bB_Rr_nextWord_Tp_next lk_Rr_48 iv_Tp_next rc_19 rfl (Nat.le_of_ble_eq_true rfl) (Nat.le_of_ble_eq_true rfl) (r_Tp_next hb4) ?_
  show mj_R M_Rr_nextWord 23 [some (.ref 21), some (.ref 19)] [.int v3, .ref 21] (SH, jn (mj_wr C0 21 1 v1) D) (some (.int v)) (SH, jn (C') D)
  refine cj_putI (pc := 23) d_Rr_nextWord_23 fl_Rr_20 sh_21 rfl (fun _ _ _ h => by cases h; rfl) (by decide) (by decide) (by decide) ?_
  refine mj_aload_n (pc := 26) (i := 0) d_Rr_nextWord_26 rfl rfl (by decide) ?_
  refine cj_getI (pc := 27) d_Rr_nextWord_27 fl_Rr_54 sh_21 rfl (by decide) (by decide) (by decide) ?_
  refine mj_aload_n (pc := 30) (i := 0) d_Rr_nextWord_30 rfl rfl (by decide) ?_
  refine cj_getI (pc := 31) d_Rr_nextWord_31 fl_Rr_20 sh_21 rfl (by decide) (by decide) (by decide) ?_
  have k6 : mj_R M_Rr_nextWord 42 [none, none] [.int (if (mj_wr (mj_wr C0 21 1 v1) 21 2 v3 21 2) ≤ (mj_wr (mj_wr C0 21 1 v1) 21 2 v3 21 1) then 0 else 1 : Int32)] (SH, jn (mj_wr (mj_wr C0 21 1 v1) 21 2 v3) D) (some (.int v)) (SH, jn (C') D) := by
    obtain ⟨e_1, e_2⟩ := inj2 h
    subst e_1
    subst e_2
    exact mj_zret (pc := 42) (ty := .boolean) d_Rr_nextWord_42 rfl (mj_b01 (by (repeat' split) <;> simp))
  refine mj_icmp_ge (pc := 34) (tgt := 41) d_Rr_nextWord_34 (by decide) mj_hs (fun hc5 => ?_) (fun hc5 => ?_)
  · refine mj_iconst (pc := 41) (v := 0) d_Rr_nextWord_41 (by decide) ?_
    try simp only [if_pos hc5] at k6
    exact mj_wk k6 trivial
  · refine mj_iconst (pc := 37) (v := 1) d_Rr_nextWord_37 (by decide) ?_
    refine mj_goto (pc := 38) (tgt := 42) d_Rr_nextWord_38 (by decide) ?_
    try simp only [if_neg hc5] at k6
    exact mj_wk k6 trivial
set_option maxRecDepth 20000 in
theorem r_Js_coder {j0 : Nat} {mem : mj_Mem} {v : Int32} (hj0 : j0 < 14) (h : f_Js_coder j0 = some v) : mj_R M_Js_coder 0 (mj_lv M_Js_coder.2.2.1 [.ref (1000000 + j0)]) [] mem (some (.int v)) mem := by
  show mj_R M_Js_coder 0 [some (.ref (1000000 + j0))] [] _ _ _
  unfold f_Js_coder at h
  refine mj_scst (pc := 0) d_Js_coder_0 k_Js_38 ?_
  refine mj_if_eq (y := 0) (pc := 3) (tgt := 13) d_Js_coder_3 (by decide) mj_hn (fun hc => absurd hc (by decide)) (fun _ => ?_)
  refine mj_aload_n (pc := 6) (i := 0) d_Js_coder_6 rfl rfl (by omega) ?_
  refine mj_scod (pc := 7) d_Js_coder_7 hj0 k_Js_15 ?_
  refine mj_goto (pc := 10) (tgt := 14) d_Js_coder_10 (by decide) ?_
  obtain ⟨hg2, h⟩ := mj_gd h
  obtain e_1 := inj1 h
  subst e_1
  exact mj_zret (pc := 14) (ty := .byte) d_Js_coder_14 rfl hg2
set_option maxRecDepth 20000 in
theorem r_Js_length {j0 : Nat} {mem : mj_Mem} {v : Int32} (hj0 : j0 < 14) (h : f_Js_length j0 = some v) : mj_R M_Js_length 0 (mj_lv M_Js_length.2.2.1 [.ref (1000000 + j0)]) [] mem (some (.int v)) mem := by
  show mj_R M_Js_length 0 [some (.ref (1000000 + j0))] [] _ _ _
  unfold f_Js_length at h
  refine mj_aload_n (pc := 0) (i := 0) d_Js_length_0 rfl rfl (by omega) ?_
  refine mj_sval (pc := 1) d_Js_length_1 hj0 k_Js_9 ?_
  refine mj_slen (pc := 4) d_Js_length_4 hj0 ?_
  refine mj_aload_n (pc := 5) (i := 0) d_Js_length_5 rfl rfl (by omega) ?_
  obtain ⟨v1, hb2, h⟩ := bd1_some h
  refine mj_callV (pc := 6) (b := (1000000 + j0)) (vs := []) (st := [.int (Int32.ofNat (kSln.getD j0 0))]) d_Js_length_6 bB_Js_length_Js_coder lk_Js_335 iv_Js_coder (mj_rcS hj0) rfl (Nat.le_of_ble_eq_true rfl) (Nat.le_of_ble_eq_true rfl) (r_Js_coder hj0 hb2) ?_
  show mj_R M_Js_length 9 [some (.ref (1000000 + j0))] [.int v1, .int (Int32.ofNat (kSln.getD j0 0))] mem (some (.int v)) mem
  refine mj_ishr (pc := 9) d_Js_length_9 ?_
  obtain e_1 := inj1 h
  subst e_1
  exact mj_iret (pc := 10) d_Js_length_10 rfl
set_option maxRecDepth 20000 in
theorem r_Tp_byteAt {x1 : Int32} {C0 D : St} {v : Int32} (h : f_Tp_byteAt x1 C0 = some v) : mj_R M_Tp_byteAt 0 (mj_lv M_Tp_byteAt.2.2.1 [.ref 19, .int x1]) [] (SH, jn C0 D) (some (.int v)) (SH, jn C0 D) := by
  show mj_R M_Tp_byteAt 0 [some (.ref 19), some (.int x1)] [] _ _ _
  unfold f_Tp_byteAt at h
  refine mj_iconst (pc := 0) (v := 0) d_Tp_byteAt_0 (by decide) ?_
  refine mj_iload_n (pc := 1) (i := 1) d_Tp_byteAt_1 rfl rfl ?_
  obtain ⟨w4, hb6, h⟩ := bd1_some h
  have k5 : mj_R M_Tp_byteAt 24 [none, none] [.int w4] (SH, jn C0 D) (some (.int v)) (SH, jn C0 D) := by
    obtain e_1 := inj1 h
    subst e_1
    exact mj_iret (pc := 24) d_Tp_byteAt_24 rfl
  have h := hb6
  refine mj_icmp_gt (pc := 2) (tgt := 22) d_Tp_byteAt_2 (by decide) mj_hs (fun hc1 => ?_) (fun hc1 => ?_)
  · rw [if_pos hc1] at h
    refine mj_bipush (pc := 22) (v := 32) d_Tp_byteAt_22 (by decide) ?_
    obtain e_1 := inj1 h
    subst e_1
    exact mj_wk k5 trivial
  · rw [if_neg hc1] at h
    refine mj_iload_n (pc := 5) (i := 1) d_Tp_byteAt_5 rfl rfl ?_
    refine mj_aload_n (pc := 6) (i := 0) d_Tp_byteAt_6 rfl rfl (by decide) ?_
    refine cj_getI (pc := 7) d_Tp_byteAt_7 fl_Tp_13 sh_19 rfl (by decide) (by decide) (by decide) ?_
    refine mj_icmp_ge (pc := 10) (tgt := 22) d_Tp_byteAt_10 (by decide) mj_hs (fun hc2 => ?_) (fun hc2 => ?_)
    · rw [if_pos hc2] at h
      refine mj_bipush (pc := 22) (v := 32) d_Tp_byteAt_22 (by decide) ?_
      obtain e_1 := inj1 h
      subst e_1
      exact mj_wk k5 trivial
    · rw [if_neg hc2] at h
      refine mj_aload_n (pc := 13) (i := 0) d_Tp_byteAt_13 rfl rfl (by decide) ?_
      refine mj_getR (pc := 14) d_Tp_byteAt_14 fl_Tp_9 sh_19 rfl rfl (by decide) (by decide) (by decide) ?_
      refine mj_iload_n (pc := 17) (i := 1) d_Tp_byteAt_17 rfl rfl ?_
      obtain ⟨hg3, h⟩ := mj_gd h
      refine cj_iald (pc := 18) d_Tp_byteAt_18 sh_20 (by decide) hg3 (by decide) ?_
      refine mj_goto (pc := 19) (tgt := 24) d_Tp_byteAt_19 (by decide) ?_
      obtain e_1 := inj1 h
      subst e_1
      exact mj_wk k5 trivial
set_option maxRecDepth 20000 in
theorem r_Js_isLatin1 {j0 : Nat} {mem : mj_Mem} {v : Int32} (hj0 : j0 < 14) (h : f_Js_isLatin1 j0 = some v) : mj_R M_Js_isLatin1 0 (mj_lv M_Js_isLatin1.2.2.1 [.ref (1000000 + j0)]) [] mem (some (.int v)) mem := by
  show mj_R M_Js_isLatin1 0 [some (.ref (1000000 + j0))] [] _ _ _
  unfold f_Js_isLatin1 at h
  refine mj_scst (pc := 0) d_Js_isLatin1_0 k_Js_38 ?_
  refine mj_if_eq (y := 0) (pc := 3) (tgt := 17) d_Js_isLatin1_3 (by decide) mj_hn (fun hc => absurd hc (by decide)) (fun _ => ?_)
  refine mj_aload_n (pc := 6) (i := 0) d_Js_isLatin1_6 rfl rfl (by omega) ?_
  refine mj_scod (pc := 7) d_Js_isLatin1_7 hj0 k_Js_15 ?_
  refine mj_if_ne (y := 0) (pc := 10) (tgt := 17) d_Js_isLatin1_10 (by decide) mj_hn (fun hc => absurd hc (by decide)) (fun _ => ?_)
  refine mj_iconst (pc := 13) (v := 1) d_Js_isLatin1_13 (by decide) ?_
  refine mj_goto (pc := 14) (tgt := 18) d_Js_isLatin1_14 (by decide) ?_
  obtain e_1 := inj1 h
  subst e_1
  exact mj_zret (pc := 18) (ty := .boolean) d_Js_isLatin1_18 rfl (mj_b01 (by decide))
