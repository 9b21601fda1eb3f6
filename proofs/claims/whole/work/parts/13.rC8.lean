set_option maxRecDepth 20000 in
theorem r_Sk_become_4  {C0 D : St} {C' : St} (h : f_Sk_become_4 C0 = some (C')) : mj_R M_Sk_become 0 (mj_lv M_Sk_become.2.2.1 [.ref 7, .ref 62]) [] (SH, jn C0 D) none (SH, jn (C') D) := by
  show mj_R M_Sk_become 0 [some (.ref 7), some (.ref 62)] [] _ _ _
  unfold f_Sk_become_4 at h
  refine mj_aload_n (pc := 0) (i := 1) d_Sk_become_0 rfl rfl (by decide) ?_
  refine mj_getR (pc := 1) d_Sk_become_1 fl_Sk_9 sh_62 rfl rfl (by decide) (by decide) (by decide) ?_
  refine mj_iconst (pc := 4) (v := 0) d_Sk_become_4 (by decide) ?_
  refine mj_aload_n (pc := 5) (i := 0) d_Sk_become_5 rfl rfl (by decide) ?_
  refine mj_getR (pc := 6) d_Sk_become_6 fl_Sk_9 sh_7 rfl rfl (by decide) (by decide) (by decide) ?_
  refine mj_iconst (pc := 9) (v := 0) d_Sk_become_9 (by decide) ?_
  refine mj_aload_n (pc := 10) (i := 0) d_Sk_become_10 rfl rfl (by decide) ?_
  refine mj_getR (pc := 11) d_Sk_become_11 fl_Sk_9 sh_7 rfl rfl (by decide) (by decide) (by decide) ?_
  refine mj_alen (pc := 14) (v := 600) d_Sk_become_14 sh_8 (by decide) (by decide) ?_
  refine cj_copy (pc := 15) d_Sk_become_15 cp_Sk_34 sh_63 sh_8 (by decide) (by decide) (by decide) (by decide) (Nat.le_of_ble_eq_true rfl) ?_
  show mj_R M_Sk_become 18 [some (.ref 7), some (.ref 62)] [] (SH, jn (mj_cp C0 63 8 0 0 600) D) none (SH, jn (C') D)
  refine mj_aload_n (pc := 18) (i := 1) d_Sk_become_18 rfl rfl (by decide) ?_
  refine mj_getR (pc := 19) d_Sk_become_19 fl_Sk_15 sh_62 rfl rfl (by decide) (by decide) (by decide) ?_
  refine mj_iconst (pc := 22) (v := 0) d_Sk_become_22 (by decide) ?_
  refine mj_aload_n (pc := 23) (i := 0) d_Sk_become_23 rfl rfl (by decide) ?_
  refine mj_getR (pc := 24) d_Sk_become_24 fl_Sk_15 sh_7 rfl rfl (by decide) (by decide) (by decide) ?_
  refine mj_iconst (pc := 27) (v := 0) d_Sk_become_27 (by decide) ?_
  refine mj_aload_n (pc := 28) (i := 0) d_Sk_become_28 rfl rfl (by decide) ?_
  refine mj_getR (pc := 29) d_Sk_become_29 fl_Sk_15 sh_7 rfl rfl (by decide) (by decide) (by decide) ?_
  refine mj_alen (pc := 32) (v := 60) d_Sk_become_32 sh_9 (by decide) (by decide) ?_
  refine cj_copy (pc := 33) d_Sk_become_33 cp_Sk_34 sh_64 sh_9 (by decide) (by decide) (by decide) (by decide) (Nat.le_of_ble_eq_true rfl) ?_
  show mj_R M_Sk_become 36 [some (.ref 7), some (.ref 62)] [] (SH, jn (mj_cp (mj_cp C0 63 8 0 0 600) 64 9 0 0 60) D) none (SH, jn (C') D)
  obtain e_1 := inj1 h
  subst e_1
  exact mj_vret (pc := 36) d_Sk_become_36 rfl
set_option maxRecDepth 20000 in
theorem r_Wr_become_4  {C0 D : St} {C' : St} (h : f_Wr_become_4 C0 = some (C')) : mj_R M_Wr_become 0 (mj_lv M_Wr_become.2.2.1 [.ref 10, .ref 65]) [] (SH, jn C0 D) none (SH, jn (C') D) := by
  show mj_R M_Wr_become 0 [some (.ref 10), some (.ref 65)] [] _ _ _
  unfold f_Wr_become_4 at h
  refine mj_aload_n (pc := 0) (i := 1) d_Wr_become_0 rfl rfl (by decide) ?_
  refine mj_getR (pc := 1) d_Wr_become_1 fl_Wr_11 sh_65 rfl rfl (by decide) (by decide) (by decide) ?_
  refine mj_iconst (pc := 4) (v := 0) d_Wr_become_4 (by decide) ?_
  refine mj_aload_n (pc := 5) (i := 0) d_Wr_become_5 rfl rfl (by decide) ?_
  refine mj_getR (pc := 6) d_Wr_become_6 fl_Wr_11 sh_10 rfl rfl (by decide) (by decide) (by decide) ?_
  refine mj_iconst (pc := 9) (v := 0) d_Wr_become_9 (by decide) ?_
  refine mj_aload_n (pc := 10) (i := 0) d_Wr_become_10 rfl rfl (by decide) ?_
  refine mj_getR (pc := 11) d_Wr_become_11 fl_Wr_11 sh_10 rfl rfl (by decide) (by decide) (by decide) ?_
  refine mj_alen (pc := 14) (v := 55) d_Wr_become_14 sh_11 (by decide) (by decide) ?_
  refine cj_copy (pc := 15) d_Wr_become_15 cp_Wr_15 sh_66 sh_11 (by decide) (by decide) (by decide) (by decide) (Nat.le_of_ble_eq_true rfl) ?_
  show mj_R M_Wr_become 18 [some (.ref 10), some (.ref 65)] [] (SH, jn (mj_cp C0 66 11 0 0 55) D) none (SH, jn (C') D)
  obtain e_1 := inj1 h
  subst e_1
  exact mj_vret (pc := 18) d_Wr_become_18 rfl
set_option maxRecDepth 20000 in
theorem r_Rl_become_4  {C0 D : St} {C' : St} (h : f_Rl_become_4 C0 = some (C')) : mj_R M_Rl_become 0 (mj_lv M_Rl_become.2.2.1 [.ref 12, .ref 67]) [] (SH, jn C0 D) none (SH, jn (C') D) := by
  show mj_R M_Rl_become 0 [some (.ref 12), some (.ref 67)] [] _ _ _
  unfold f_Rl_become_4 at h
  refine mj_aload_n (pc := 0) (i := 1) d_Rl_become_0 rfl rfl (by decide) ?_
  refine mj_getR (pc := 1) d_Rl_become_1 fl_Rl_9 sh_67 rfl rfl (by decide) (by decide) (by decide) ?_
  refine mj_iconst (pc := 4) (v := 0) d_Rl_become_4 (by decide) ?_
  refine mj_aload_n (pc := 5) (i := 0) d_Rl_become_5 rfl rfl (by decide) ?_
  refine mj_getR (pc := 6) d_Rl_become_6 fl_Rl_9 sh_12 rfl rfl (by decide) (by decide) (by decide) ?_
  refine mj_iconst (pc := 9) (v := 0) d_Rl_become_9 (by decide) ?_
  refine mj_aload_n (pc := 10) (i := 0) d_Rl_become_10 rfl rfl (by decide) ?_
  refine mj_getR (pc := 11) d_Rl_become_11 fl_Rl_9 sh_12 rfl rfl (by decide) (by decide) (by decide) ?_
  refine mj_alen (pc := 14) (v := 12) d_Rl_become_14 sh_13 (by decide) (by decide) ?_
  refine cj_copy (pc := 15) d_Rl_become_15 cp_Rl_23 sh_68 sh_13 (by decide) (by decide) (by decide) (by decide) (Nat.le_of_ble_eq_true rfl) ?_
  show mj_R M_Rl_become 18 [some (.ref 12), some (.ref 67)] [] (SH, jn (mj_cp C0 68 13 0 0 12) D) none (SH, jn (C') D)
  refine mj_aload_n (pc := 18) (i := 1) d_Rl_become_18 rfl rfl (by decide) ?_
  refine mj_getR (pc := 19) d_Rl_become_19 fl_Rl_15 sh_67 rfl rfl (by decide) (by decide) (by decide) ?_
  refine mj_iconst (pc := 22) (v := 0) d_Rl_become_22 (by decide) ?_
  refine mj_aload_n (pc := 23) (i := 0) d_Rl_become_23 rfl rfl (by decide) ?_
  refine mj_getR (pc := 24) d_Rl_become_24 fl_Rl_15 sh_12 rfl rfl (by decide) (by decide) (by decide) ?_
  refine mj_iconst (pc := 27) (v := 0) d_Rl_become_27 (by decide) ?_
  refine mj_aload_n (pc := 28) (i := 0) d_Rl_become_28 rfl rfl (by decide) ?_
  refine mj_getR (pc := 29) d_Rl_become_29 fl_Rl_15 sh_12 rfl rfl (by decide) (by decide) (by decide) ?_
  refine mj_alen (pc := 32) (v := 648) d_Rl_become_32 sh_14 (by decide) (by decide) ?_
  refine cj_copy (pc := 33) d_Rl_become_33 cp_Rl_23 sh_69 sh_14 (by decide) (by decide) (by decide) (by decide) (Nat.le_of_ble_eq_true rfl) ?_
  show mj_R M_Rl_become 36 [some (.ref 12), some (.ref 67)] [] (SH, jn (mj_cp (mj_cp C0 68 13 0 0 12) 69 14 0 0 648) D) none (SH, jn (C') D)
  obtain e_1 := inj1 h
  subst e_1
  exact mj_vret (pc := 36) d_Rl_become_36 rfl
set_option maxRecDepth 20000 in
theorem r_Ln_become_4  {C0 D : St} {C' : St} (h : f_Ln_become_4 C0 = some (C')) : mj_R M_Ln_become 0 (mj_lv M_Ln_become.2.2.1 [.ref 15, .ref 70]) [] (SH, jn C0 D) none (SH, jn (C') D) := by
  show mj_R M_Ln_become 0 [some (.ref 15), some (.ref 70)] [] _ _ _
  unfold f_Ln_become_4 at h
  refine mj_aload_n (pc := 0) (i := 0) d_Ln_become_0 rfl rfl (by decide) ?_
  refine mj_aload_n (pc := 1) (i := 1) d_Ln_become_1 rfl rfl (by decide) ?_
  refine cj_getI (pc := 2) d_Ln_become_2 fl_Ln_15 sh_70 rfl (by decide) (by decide) (by decide) ?_
  refine cj_putI (pc := 5) d_Ln_become_5 fl_Ln_15 sh_15 rfl (fun _ _ _ h => by cases h; rfl) (by decide) (by decide) (by decide) ?_
  refine mj_aload_n (pc := 8) (i := 1) d_Ln_become_8 rfl rfl (by decide) ?_
  refine mj_getR (pc := 9) d_Ln_become_9 fl_Ln_11 sh_70 rfl rfl (by decide) (by decide) (by decide) ?_
  refine mj_iconst (pc := 12) (v := 0) d_Ln_become_12 (by decide) ?_
  refine mj_aload_n (pc := 13) (i := 0) d_Ln_become_13 rfl rfl (by decide) ?_
  refine mj_getR (pc := 14) d_Ln_become_14 fl_Ln_11 sh_15 rfl rfl (by decide) (by decide) (by decide) ?_
  refine mj_iconst (pc := 17) (v := 0) d_Ln_become_17 (by decide) ?_
  refine mj_aload_n (pc := 18) (i := 0) d_Ln_become_18 rfl rfl (by decide) ?_
  refine mj_getR (pc := 19) d_Ln_become_19 fl_Ln_11 sh_15 rfl rfl (by decide) (by decide) (by decide) ?_
  refine mj_alen (pc := 22) (v := 80) d_Ln_become_22 sh_16 (by decide) (by decide) ?_
  refine cj_copy (pc := 23) d_Ln_become_23 cp_Ln_69 sh_71 sh_16 (by decide) (by decide) (by decide) (by decide) (Nat.le_of_ble_eq_true rfl) ?_
  show mj_R M_Ln_become 26 [some (.ref 15), some (.ref 70)] [] (SH, jn (mj_cp (mj_wr C0 15 0 (C0 70 0)) 71 16 0 0 80) D) none (SH, jn (C') D)
  obtain e_1 := inj1 h
  subst e_1
  exact mj_vret (pc := 26) d_Ln_become_26 rfl
set_option maxRecDepth 20000 in
theorem r_Tw_become_4  {C0 D : St} {C' : St} (h : f_Tw_become_4 C0 = some (C')) : mj_R M_Tw_become 0 (mj_lv M_Tw_become.2.2.1 [.ref 1, .ref 56]) [] (SH, jn C0 D) none (SH, jn (C') D) := by
  show mj_R M_Tw_become 0 [some (.ref 1), some (.ref 56)] [] _ _ _
  unfold f_Tw_become_4 at h
  refine mj_aload_n (pc := 0) (i := 0) d_Tw_become_0 rfl rfl (by decide) ?_
  refine mj_aload_n (pc := 1) (i := 1) d_Tw_become_1 rfl rfl (by decide) ?_
  refine cj_getI (pc := 2) d_Tw_become_2 fl_Tw_59 sh_56 rfl (by decide) (by decide) (by decide) ?_
  refine cj_putI (pc := 5) d_Tw_become_5 fl_Tw_59 sh_1 rfl (fun _ _ _ h => by cases h; rfl) (by decide) (by decide) (by decide) ?_
  refine mj_aload_n (pc := 8) (i := 0) d_Tw_become_8 rfl rfl (by decide) ?_
  refine mj_aload_n (pc := 9) (i := 1) d_Tw_become_9 rfl rfl (by decide) ?_
  refine cj_getI (pc := 10) d_Tw_become_10 fl_Tw_89 sh_56 rfl (by decide) (by decide) (by decide) ?_
  refine cj_putI (pc := 13) d_Tw_become_13 fl_Tw_89 sh_1 rfl (fun _ _ _ h => by cases h; rfl) (by decide) (by decide) (by decide) ?_
  refine mj_aload_n (pc := 16) (i := 0) d_Tw_become_16 rfl rfl (by decide) ?_
  refine mj_aload_n (pc := 17) (i := 1) d_Tw_become_17 rfl rfl (by decide) ?_
  refine cj_getI (pc := 18) d_Tw_become_18 fl_Tw_9 sh_56 rfl (by decide) (by decide) (by decide) ?_
  refine cj_putI (pc := 21) d_Tw_become_21 fl_Tw_9 sh_1 rfl (fun _ _ _ h => by cases h; rfl) (by decide) (by decide) (by decide) ?_
  refine mj_aload_n (pc := 24) (i := 0) d_Tw_become_24 rfl rfl (by decide) ?_
  refine mj_aload_n (pc := 25) (i := 1) d_Tw_become_25 rfl rfl (by decide) ?_
  refine cj_getI (pc := 26) d_Tw_become_26 fl_Tw_92 sh_56 rfl (by decide) (by decide) (by decide) ?_
  refine cj_putI (pc := 29) d_Tw_become_29 fl_Tw_92 sh_1 rfl (fun _ _ _ h => by cases h; rfl) (by decide) (by decide) (by decide) ?_
  refine mj_aload_n (pc := 32) (i := 0) d_Tw_become_32 rfl rfl (by decide) ?_
  refine mj_aload_n (pc := 33) (i := 1) d_Tw_become_33 rfl rfl (by decide) ?_
  refine cj_getI (pc := 34) d_Tw_become_34 fl_Tw_95 sh_56 rfl (by decide) (by decide) (by decide) ?_
  refine cj_putI (pc := 37) d_Tw_become_37 fl_Tw_95 sh_1 rfl (fun _ _ _ h => by cases h; rfl) (by decide) (by decide) (by decide) ?_
  refine mj_aload_n (pc := 40) (i := 1) d_Tw_become_40 rfl rfl (by decide) ?_
  refine mj_getR (pc := 41) d_Tw_become_41 fl_Tw_15 sh_56 rfl rfl (by decide) (by decide) (by decide) ?_
  refine mj_iconst (pc := 44) (v := 0) d_Tw_become_44 (by decide) ?_
  refine mj_aload_n (pc := 45) (i := 0) d_Tw_become_45 rfl rfl (by decide) ?_
  refine mj_getR (pc := 46) d_Tw_become_46 fl_Tw_15 sh_1 rfl rfl (by decide) (by decide) (by decide) ?_
  refine mj_iconst (pc := 49) (v := 0) d_Tw_become_49 (by decide) ?_
  refine mj_aload_n (pc := 50) (i := 0) d_Tw_become_50 rfl rfl (by decide) ?_
  refine mj_getR (pc := 51) d_Tw_become_51 fl_Tw_15 sh_1 rfl rfl (by decide) (by decide) (by decide) ?_
  refine mj_alen (pc := 54) (v := 12) d_Tw_become_54 sh_2 (by decide) (by decide) ?_
  refine cj_copy (pc := 55) d_Tw_become_55 cp_Tw_98 sh_57 sh_2 (by decide) (by decide) (by decide) (by decide) (Nat.le_of_ble_eq_true rfl) ?_
  show mj_R M_Tw_become 58 [some (.ref 1), some (.ref 56)] [] (SH, jn (mj_cp (mj_wr (mj_wr (mj_wr (mj_wr (mj_wr C0 1 0 (C0 56 0)) 1 1 (mj_wr C0 1 0 (C0 56 0) 56 1)) 1 2 (mj_wr (mj_wr C0 1 0 (C0 56 0)) 1 1 (mj_wr C0 1 0 (C0 56 0) 56 1) 56 2)) 1 3 (mj_wr (mj_wr (mj_wr C0 1 0 (C0 56 0)) 1 1 (mj_wr C0 1 0 (C0 56 0) 56 1)) 1 2 (mj_wr (mj_wr C0 1 0 (C0 56 0)) 1 1 (mj_wr C0 1 0 (C0 56 0) 56 1) 56 2) 56 3)) 1 4 (mj_wr (mj_wr (mj_wr (mj_wr C0 1 0 (C0 56 0)) 1 1 (mj_wr C0 1 0 (C0 56 0) 56 1)) 1 2 (mj_wr (mj_wr C0 1 0 (C0 56 0)) 1 1 (mj_wr C0 1 0 (C0 56 0) 56 1) 56 2)) 1 3 (mj_wr (mj_wr (mj_wr C0 1 0 (C0 56 0)) 1 1 (mj_wr C0 1 0 (C0 56 0) 56 1)) 1 2 (mj_wr (mj_wr C0 1 0 (C0 56 0)) 1 1 (mj_wr C0 1 0 (C0 56 0) 56 1) 56 2) 56 3) 56 4)) 57 2 0 0 12) D) none (SH, jn (C') D)
  refine mj_aload_n (pc := 58) (i := 1) d_Tw_become_58 rfl rfl (by decide) ?_
  refine mj_getR (pc := 59) d_Tw_become_59 fl_Tw_19 sh_56 rfl rfl (by decide) (by decide) (by decide) ?_
  refine mj_iconst (pc := 62) (v := 0) d_Tw_become_62 (by decide) ?_
  refine mj_aload_n (pc := 63) (i := 0) d_Tw_become_63 rfl rfl (by decide) ?_
  refine mj_getR (pc := 64) d_Tw_become_64 fl_Tw_19 sh_1 rfl rfl (by decide) (by decide) (by decide) ?_
  refine mj_iconst (pc := 67) (v := 0) d_Tw_become_67 (by decide) ?_
  refine mj_aload_n (pc := 68) (i := 0) d_Tw_become_68 rfl rfl (by decide) ?_
  refine mj_getR (pc := 69) d_Tw_become_69 fl_Tw_19 sh_1 rfl rfl (by decide) (by decide) (by decide) ?_
  refine mj_alen (pc := 72) (v := 12) d_Tw_become_72 sh_3 (by decide) (by decide) ?_
  refine cj_copy (pc := 73) d_Tw_become_73 cp_Tw_98 sh_58 sh_3 (by decide) (by decide) (by decide) (by decide) (Nat.le_of_ble_eq_true rfl) ?_
  show mj_R M_Tw_become 76 [some (.ref 1), some (.ref 56)] [] (SH, jn (mj_cp (mj_cp (mj_wr (mj_wr (mj_wr (mj_wr (mj_wr C0 1 0 (C0 56 0)) 1 1 (mj_wr C0 1 0 (C0 56 0) 56 1)) 1 2 (mj_wr (mj_wr C0 1 0 (C0 56 0)) 1 1 (mj_wr C0 1 0 (C0 56 0) 56 1) 56 2)) 1 3 (mj_wr (mj_wr (mj_wr C0 1 0 (C0 56 0)) 1 1 (mj_wr C0 1 0 (C0 56 0) 56 1)) 1 2 (mj_wr (mj_wr C0 1 0 (C0 56 0)) 1 1 (mj_wr C0 1 0 (C0 56 0) 56 1) 56 2) 56 3)) 1 4 (mj_wr (mj_wr (mj_wr (mj_wr C0 1 0 (C0 56 0)) 1 1 (mj_wr C0 1 0 (C0 56 0) 56 1)) 1 2 (mj_wr (mj_wr C0 1 0 (C0 56 0)) 1 1 (mj_wr C0 1 0 (C0 56 0) 56 1) 56 2)) 1 3 (mj_wr (mj_wr (mj_wr C0 1 0 (C0 56 0)) 1 1 (mj_wr C0 1 0 (C0 56 0) 56 1)) 1 2 (mj_wr (mj_wr C0 1 0 (C0 56 0)) 1 1 (mj_wr C0 1 0 (C0 56 0) 56 1) 56 2) 56 3) 56 4)) 57 2 0 0 12) 58 3 0 0 12) D) none (SH, jn (C') D)
  refine mj_aload_n (pc := 76) (i := 1) d_Tw_become_76 rfl rfl (by decide) ?_
  refine mj_getR (pc := 77) d_Tw_become_77 fl_Tw_22 sh_56 rfl rfl (by decide) (by decide) (by decide) ?_
  refine mj_iconst (pc := 80) (v := 0) d_Tw_become_80 (by decide) ?_
  refine mj_aload_n (pc := 81) (i := 0) d_Tw_become_81 rfl rfl (by decide) ?_
  refine mj_getR (pc := 82) d_Tw_become_82 fl_Tw_22 sh_1 rfl rfl (by decide) (by decide) (by decide) ?_
  refine mj_iconst (pc := 85) (v := 0) d_Tw_become_85 (by decide) ?_
  refine mj_aload_n (pc := 86) (i := 0) d_Tw_become_86 rfl rfl (by decide) ?_
  refine mj_getR (pc := 87) d_Tw_become_87 fl_Tw_22 sh_1 rfl rfl (by decide) (by decide) (by decide) ?_
  refine mj_alen (pc := 90) (v := 12) d_Tw_become_90 sh_4 (by decide) (by decide) ?_
  refine cj_copy (pc := 91) d_Tw_become_91 cp_Tw_98 sh_59 sh_4 (by decide) (by decide) (by decide) (by decide) (Nat.le_of_ble_eq_true rfl) ?_
  show mj_R M_Tw_become 94 [some (.ref 1), some (.ref 56)] [] (SH, jn (mj_cp (mj_cp (mj_cp (mj_wr (mj_wr (mj_wr (mj_wr (mj_wr C0 1 0 (C0 56 0)) 1 1 (mj_wr C0 1 0 (C0 56 0) 56 1)) 1 2 (mj_wr (mj_wr C0 1 0 (C0 56 0)) 1 1 (mj_wr C0 1 0 (C0 56 0) 56 1) 56 2)) 1 3 (mj_wr (mj_wr (mj_wr C0 1 0 (C0 56 0)) 1 1 (mj_wr C0 1 0 (C0 56 0) 56 1)) 1 2 (mj_wr (mj_wr C0 1 0 (C0 56 0)) 1 1 (mj_wr C0 1 0 (C0 56 0) 56 1) 56 2) 56 3)) 1 4 (mj_wr (mj_wr (mj_wr (mj_wr C0 1 0 (C0 56 0)) 1 1 (mj_wr C0 1 0 (C0 56 0) 56 1)) 1 2 (mj_wr (mj_wr C0 1 0 (C0 56 0)) 1 1 (mj_wr C0 1 0 (C0 56 0) 56 1) 56 2)) 1 3 (mj_wr (mj_wr (mj_wr C0 1 0 (C0 56 0)) 1 1 (mj_wr C0 1 0 (C0 56 0) 56 1)) 1 2 (mj_wr (mj_wr C0 1 0 (C0 56 0)) 1 1 (mj_wr C0 1 0 (C0 56 0) 56 1) 56 2) 56 3) 56 4)) 57 2 0 0 12) 58 3 0 0 12) 59 4 0 0 12) D) none (SH, jn (C') D)
  refine mj_aload_n (pc := 94) (i := 1) d_Tw_become_94 rfl rfl (by decide) ?_
  refine mj_getR (pc := 95) d_Tw_become_95 fl_Tw_25 sh_56 rfl rfl (by decide) (by decide) (by decide) ?_
  refine mj_iconst (pc := 98) (v := 0) d_Tw_become_98 (by decide) ?_
  refine mj_aload_n (pc := 99) (i := 0) d_Tw_become_99 rfl rfl (by decide) ?_
  refine mj_getR (pc := 100) d_Tw_become_100 fl_Tw_25 sh_1 rfl rfl (by decide) (by decide) (by decide) ?_
  refine mj_iconst (pc := 103) (v := 0) d_Tw_become_103 (by decide) ?_
  refine mj_aload_n (pc := 104) (i := 0) d_Tw_become_104 rfl rfl (by decide) ?_
  refine mj_getR (pc := 105) d_Tw_become_105 fl_Tw_25 sh_1 rfl rfl (by decide) (by decide) (by decide) ?_
  refine mj_alen (pc := 108) (v := 12) d_Tw_become_108 sh_5 (by decide) (by decide) ?_
  refine cj_copy (pc := 109) d_Tw_become_109 cp_Tw_98 sh_60 sh_5 (by decide) (by decide) (by decide) (by decide) (Nat.le_of_ble_eq_true rfl) ?_
  show mj_R M_Tw_become 112 [some (.ref 1), some (.ref 56)] [] (SH, jn (mj_cp (mj_cp (mj_cp (mj_cp (mj_wr (mj_wr (mj_wr (mj_wr (mj_wr C0 1 0 (C0 56 0)) 1 1 (mj_wr C0 1 0 (C0 56 0) 56 1)) 1 2 (mj_wr (mj_wr C0 1 0 (C0 56 0)) 1 1 (mj_wr C0 1 0 (C0 56 0) 56 1) 56 2)) 1 3 (mj_wr (mj_wr (mj_wr C0 1 0 (C0 56 0)) 1 1 (mj_wr C0 1 0 (C0 56 0) 56 1)) 1 2 (mj_wr (mj_wr C0 1 0 (C0 56 0)) 1 1 (mj_wr C0 1 0 (C0 56 0) 56 1) 56 2) 56 3)) 1 4 (mj_wr (mj_wr (mj_wr (mj_wr C0 1 0 (C0 56 0)) 1 1 (mj_wr C0 1 0 (C0 56 0) 56 1)) 1 2 (mj_wr (mj_wr C0 1 0 (C0 56 0)) 1 1 (mj_wr C0 1 0 (C0 56 0) 56 1) 56 2)) 1 3 (mj_wr (mj_wr (mj_wr C0 1 0 (C0 56 0)) 1 1 (mj_wr C0 1 0 (C0 56 0) 56 1)) 1 2 (mj_wr (mj_wr C0 1 0 (C0 56 0)) 1 1 (mj_wr C0 1 0 (C0 56 0) 56 1) 56 2) 56 3) 56 4)) 57 2 0 0 12) 58 3 0 0 12) 59 4 0 0 12) 60 5 0 0 12) D) none (SH, jn (C') D)
  refine mj_aload_n (pc := 112) (i := 1) d_Tw_become_112 rfl rfl (by decide) ?_
  refine mj_getR (pc := 113) d_Tw_become_113 fl_Tw_28 sh_56 rfl rfl (by decide) (by decide) (by decide) ?_
  refine mj_iconst (pc := 116) (v := 0) d_Tw_become_116 (by decide) ?_
  refine mj_aload_n (pc := 117) (i := 0) d_Tw_become_117 rfl rfl (by decide) ?_
  refine mj_getR (pc := 118) d_Tw_become_118 fl_Tw_28 sh_1 rfl rfl (by decide) (by decide) (by decide) ?_
  refine mj_iconst (pc := 121) (v := 0) d_Tw_become_121 (by decide) ?_
  refine mj_aload_n (pc := 122) (i := 0) d_Tw_become_122 rfl rfl (by decide) ?_
  refine mj_getR (pc := 123) d_Tw_become_123 fl_Tw_28 sh_1 rfl rfl (by decide) (by decide) (by decide) ?_
  refine mj_alen (pc := 126) (v := 720) d_Tw_become_126 sh_6 (by decide) (by decide) ?_
  refine cj_copy (pc := 127) d_Tw_become_127 cp_Tw_98 sh_61 sh_6 (by decide) (by decide) (by decide) (by decide) (Nat.le_of_ble_eq_true rfl) ?_
  show mj_R M_Tw_become 130 [some (.ref 1), some (.ref 56)] [] (SH, jn (mj_cp (mj_cp (mj_cp (mj_cp (mj_cp (mj_wr (mj_wr (mj_wr (mj_wr (mj_wr C0 1 0 (C0 56 0)) 1 1 (mj_wr C0 1 0 (C0 56 0) 56 1)) 1 2 (mj_wr (mj_wr C0 1 0 (C0 56 0)) 1 1 (mj_wr C0 1 0 (C0 56 0) 56 1) 56 2)) 1 3 (mj_wr (mj_wr (mj_wr C0 1 0 (C0 56 0)) 1 1 (mj_wr C0 1 0 (C0 56 0) 56 1)) 1 2 (mj_wr (mj_wr C0 1 0 (C0 56 0)) 1 1 (mj_wr C0 1 0 (C0 56 0) 56 1) 56 2) 56 3)) 1 4 (mj_wr (mj_wr (mj_wr (mj_wr C0 1 0 (C0 56 0)) 1 1 (mj_wr C0 1 0 (C0 56 0) 56 1)) 1 2 (mj_wr (mj_wr C0 1 0 (C0 56 0)) 1 1 (mj_wr C0 1 0 (C0 56 0) 56 1) 56 2)) 1 3 (mj_wr (mj_wr (mj_wr C0 1 0 (C0 56 0)) 1 1 (mj_wr C0 1 0 (C0 56 0) 56 1)) 1 2 (mj_wr (mj_wr C0 1 0 (C0 56 0)) 1 1 (mj_wr C0 1 0 (C0 56 0) 56 1) 56 2) 56 3) 56 4)) 57 2 0 0 12) 58 3 0 0 12) 59 4 0 0 12) 60 5 0 0 12) 61 6 0 0 720) D) none (SH, jn (C') D)
  refine mj_aload_n (pc := 130) (i := 0) d_Tw_become_130 rfl rfl (by decide) ?_
  refine mj_getR (pc := 131) d_Tw_become_131 fl_Tw_34 sh_1 rfl rfl (by decide) (by decide) (by decide) ?_
  refine mj_aload_n (pc := 134) (i := 1) d_Tw_become_134 rfl rfl (by decide) ?_
  refine mj_getR (pc := 135) d_Tw_become_135 fl_Tw_34 sh_56 rfl rfl (by decide) (by decide) (by decide) ?_
  obtain ⟨C1, hb2, h⟩ := bd1_some h
  refine mj_callV (pc := 138) (b := 7) (vs := [.ref 62]) (st := []) d_Tw_become_138 bB_Tw_become_Sk_become lk_Tw_104 iv_Sk_become rc_7 rfl (Nat.le_of_ble_eq_true rfl) (Nat.le_of_ble_eq_true rfl) (r_Sk_become_4 hb2) ?_
  show mj_R M_Tw_become 141 [some (.ref 1), some (.ref 56)] [] (SH, jn C1 D) none (SH, jn (C') D)
  refine mj_aload_n (pc := 141) (i := 0) d_Tw_become_141 rfl rfl (by decide) ?_
  refine mj_getR (pc := 142) d_Tw_become_142 fl_Tw_41 sh_1 rfl rfl (by decide) (by decide) (by decide) ?_
  refine mj_aload_n (pc := 145) (i := 1) d_Tw_become_145 rfl rfl (by decide) ?_
  refine mj_getR (pc := 146) d_Tw_become_146 fl_Tw_41 sh_56 rfl rfl (by decide) (by decide) (by decide) ?_
  obtain ⟨C3, hb4, h⟩ := bd1_some h
  refine mj_callV (pc := 149) (b := 10) (vs := [.ref 65]) (st := []) d_Tw_become_149 bB_Tw_become_Wr_become lk_Tw_108 iv_Wr_become rc_10 rfl (Nat.le_of_ble_eq_true rfl) (Nat.le_of_ble_eq_true rfl) (r_Wr_become_4 hb4) ?_
  show mj_R M_Tw_become 152 [some (.ref 1), some (.ref 56)] [] (SH, jn C3 D) none (SH, jn (C') D)
  refine mj_aload_n (pc := 152) (i := 0) d_Tw_become_152 rfl rfl (by decide) ?_
  refine mj_getR (pc := 153) d_Tw_become_153 fl_Tw_48 sh_1 rfl rfl (by decide) (by decide) (by decide) ?_
  refine mj_aload_n (pc := 156) (i := 1) d_Tw_become_156 rfl rfl (by decide) ?_
  refine mj_getR (pc := 157) d_Tw_become_157 fl_Tw_48 sh_56 rfl rfl (by decide) (by decide) (by decide) ?_
  obtain ⟨C5, hb6, h⟩ := bd1_some h
  refine mj_callV (pc := 160) (b := 12) (vs := [.ref 67]) (st := []) d_Tw_become_160 bB_Tw_become_Rl_become lk_Tw_111 iv_Rl_become rc_12 rfl (Nat.le_of_ble_eq_true rfl) (Nat.le_of_ble_eq_true rfl) (r_Rl_become_4 hb6) ?_
  show mj_R M_Tw_become 163 [some (.ref 1), some (.ref 56)] [] (SH, jn C5 D) none (SH, jn (C') D)
  refine mj_aload_n (pc := 163) (i := 0) d_Tw_become_163 rfl rfl (by decide) ?_
  refine mj_getR (pc := 164) d_Tw_become_164 fl_Tw_55 sh_1 rfl rfl (by decide) (by decide) (by decide) ?_
  refine mj_aload_n (pc := 167) (i := 1) d_Tw_become_167 rfl rfl (by decide) ?_
  refine mj_getR (pc := 168) d_Tw_become_168 fl_Tw_55 sh_56 rfl rfl (by decide) (by decide) (by decide) ?_
  obtain ⟨C7, hb8, h⟩ := bd1_some h
  refine mj_callV (pc := 171) (b := 15) (vs := [.ref 70]) (st := []) d_Tw_become_171 bB_Tw_become_Ln_become lk_Tw_114 iv_Ln_become rc_15 rfl (Nat.le_of_ble_eq_true rfl) (Nat.le_of_ble_eq_true rfl) (r_Ln_become_4 hb8) ?_
  show mj_R M_Tw_become 174 [some (.ref 1), some (.ref 56)] [] (SH, jn C7 D) none (SH, jn (C') D)
  obtain e_1 := inj1 h
  subst e_1
  exact mj_vret (pc := 174) d_Tw_become_174 rfl
set_option maxRecDepth 20000 in
theorem r_Sk_become_5  {C0 D : St} {C' : St} (h : f_Sk_become_5 C0 = some (C')) : mj_R M_Sk_become 0 (mj_lv M_Sk_become.2.2.1 [.ref 7, .ref 78]) [] (SH, jn C0 D) none (SH, jn (C') D) := by
  show mj_R M_Sk_become 0 [some (.ref 7), some (.ref 78)] [] _ _ _
  unfold f_Sk_become_5 at h
  refine mj_aload_n (pc := 0) (i := 1) d_Sk_become_0 rfl rfl (by decide) ?_
  refine mj_getR (pc := 1) d_Sk_become_1 fl_Sk_9 sh_78 rfl rfl (by decide) (by decide) (by decide) ?_
  refine mj_iconst (pc := 4) (v := 0) d_Sk_become_4 (by decide) ?_
  refine mj_aload_n (pc := 5) (i := 0) d_Sk_become_5 rfl rfl (by decide) ?_
  refine mj_getR (pc := 6) d_Sk_become_6 fl_Sk_9 sh_7 rfl rfl (by decide) (by decide) (by decide) ?_
  refine mj_iconst (pc := 9) (v := 0) d_Sk_become_9 (by decide) ?_
  refine mj_aload_n (pc := 10) (i := 0) d_Sk_become_10 rfl rfl (by decide) ?_
  refine mj_getR (pc := 11) d_Sk_become_11 fl_Sk_9 sh_7 rfl rfl (by decide) (by decide) (by decide) ?_
  refine mj_alen (pc := 14) (v := 600) d_Sk_become_14 sh_8 (by decide) (by decide) ?_
  refine cj_copy (pc := 15) d_Sk_become_15 cp_Sk_34 sh_79 sh_8 (by decide) (by decide) (by decide) (by decide) (Nat.le_of_ble_eq_true rfl) ?_
  show mj_R M_Sk_become 18 [some (.ref 7), some (.ref 78)] [] (SH, jn (mj_cp C0 79 8 0 0 600) D) none (SH, jn (C') D)
  refine mj_aload_n (pc := 18) (i := 1) d_Sk_become_18 rfl rfl (by decide) ?_
  refine mj_getR (pc := 19) d_Sk_become_19 fl_Sk_15 sh_78 rfl rfl (by decide) (by decide) (by decide) ?_
  refine mj_iconst (pc := 22) (v := 0) d_Sk_become_22 (by decide) ?_
  refine mj_aload_n (pc := 23) (i := 0) d_Sk_become_23 rfl rfl (by decide) ?_
  refine mj_getR (pc := 24) d_Sk_become_24 fl_Sk_15 sh_7 rfl rfl (by decide) (by decide) (by decide) ?_
  refine mj_iconst (pc := 27) (v := 0) d_Sk_become_27 (by decide) ?_
  refine mj_aload_n (pc := 28) (i := 0) d_Sk_become_28 rfl rfl (by decide) ?_
  refine mj_getR (pc := 29) d_Sk_become_29 fl_Sk_15 sh_7 rfl rfl (by decide) (by decide) (by decide) ?_
  refine mj_alen (pc := 32) (v := 60) d_Sk_become_32 sh_9 (by decide) (by decide) ?_
  refine cj_copy (pc := 33) d_Sk_become_33 cp_Sk_34 sh_80 sh_9 (by decide) (by decide) (by decide) (by decide) (Nat.le_of_ble_eq_true rfl) ?_
  show mj_R M_Sk_become 36 [some (.ref 7), some (.ref 78)] [] (SH, jn (mj_cp (mj_cp C0 79 8 0 0 600) 80 9 0 0 60) D) none (SH, jn (C') D)
  obtain e_1 := inj1 h
  subst e_1
  exact mj_vret (pc := 36) d_Sk_become_36 rfl
set_option maxRecDepth 20000 in
theorem r_Wr_become_5  {C0 D : St} {C' : St} (h : f_Wr_become_5 C0 = some (C')) : mj_R M_Wr_become 0 (mj_lv M_Wr_become.2.2.1 [.ref 10, .ref 81]) [] (SH, jn C0 D) none (SH, jn (C') D) := by
  show mj_R M_Wr_become 0 [some (.ref 10), some (.ref 81)] [] _ _ _
  unfold f_Wr_become_5 at h
  refine mj_aload_n (pc := 0) (i := 1) d_Wr_become_0 rfl rfl (by decide) ?_
  refine mj_getR (pc := 1) d_Wr_become_1 fl_Wr_11 sh_81 rfl rfl (by decide) (by decide) (by decide) ?_
  refine mj_iconst (pc := 4) (v := 0) d_Wr_become_4 (by decide) ?_
  refine mj_aload_n (pc := 5) (i := 0) d_Wr_become_5 rfl rfl (by decide) ?_
  refine mj_getR (pc := 6) d_Wr_become_6 fl_Wr_11 sh_10 rfl rfl (by decide) (by decide) (by decide) ?_
  refine mj_iconst (pc := 9) (v := 0) d_Wr_become_9 (by decide) ?_
  refine mj_aload_n (pc := 10) (i := 0) d_Wr_become_10 rfl rfl (by decide) ?_
  refine mj_getR (pc := 11) d_Wr_become_11 fl_Wr_11 sh_10 rfl rfl (by decide) (by decide) (by decide) ?_
  refine mj_alen (pc := 14) (v := 55) d_Wr_become_14 sh_11 (by decide) (by decide) ?_
  refine cj_copy (pc := 15) d_Wr_become_15 cp_Wr_15 sh_82 sh_11 (by decide) (by decide) (by decide) (by decide) (Nat.le_of_ble_eq_true rfl) ?_
  show mj_R M_Wr_become 18 [some (.ref 10), some (.ref 81)] [] (SH, jn (mj_cp C0 82 11 0 0 55) D) none (SH, jn (C') D)
  obtain e_1 := inj1 h
  subst e_1
  exact mj_vret (pc := 18) d_Wr_become_18 rfl
set_option maxRecDepth 20000 in
theorem r_Rl_become_5  {C0 D : St} {C' : St} (h : f_Rl_become_5 C0 = some (C')) : mj_R M_Rl_become 0 (mj_lv M_Rl_become.2.2.1 [.ref 12, .ref 83]) [] (SH, jn C0 D) none (SH, jn (C') D) := by
  show mj_R M_Rl_become 0 [some (.ref 12), some (.ref 83)] [] _ _ _
  unfold f_Rl_become_5 at h
  refine mj_aload_n (pc := 0) (i := 1) d_Rl_become_0 rfl rfl (by decide) ?_
  refine mj_getR (pc := 1) d_Rl_become_1 fl_Rl_9 sh_83 rfl rfl (by decide) (by decide) (by decide) ?_
  refine mj_iconst (pc := 4) (v := 0) d_Rl_become_4 (by decide) ?_
  refine mj_aload_n (pc := 5) (i := 0) d_Rl_become_5 rfl rfl (by decide) ?_
  refine mj_getR (pc := 6) d_Rl_become_6 fl_Rl_9 sh_12 rfl rfl (by decide) (by decide) (by decide) ?_
  refine mj_iconst (pc := 9) (v := 0) d_Rl_become_9 (by decide) ?_
  refine mj_aload_n (pc := 10) (i := 0) d_Rl_become_10 rfl rfl (by decide) ?_
  refine mj_getR (pc := 11) d_Rl_become_11 fl_Rl_9 sh_12 rfl rfl (by decide) (by decide) (by decide) ?_
  refine mj_alen (pc := 14) (v := 12) d_Rl_become_14 sh_13 (by decide) (by decide) ?_
  refine cj_copy (pc := 15) d_Rl_become_15 cp_Rl_23 sh_84 sh_13 (by decide) (by decide) (by decide) (by decide) (Nat.le_of_ble_eq_true rfl) ?_
  show mj_R M_Rl_become 18 [some (.ref 12), some (.ref 83)] [] (SH, jn (mj_cp C0 84 13 0 0 12) D) none (SH, jn (C') D)
  refine mj_aload_n (pc := 18) (i := 1) d_Rl_become_18 rfl rfl (by decide) ?_
  refine mj_getR (pc := 19) d_Rl_become_19 fl_Rl_15 sh_83 rfl rfl (by decide) (by decide) (by decide) ?_
  refine mj_iconst (pc := 22) (v := 0) d_Rl_become_22 (by decide) ?_
  refine mj_aload_n (pc := 23) (i := 0) d_Rl_become_23 rfl rfl (by decide) ?_
  refine mj_getR (pc := 24) d_Rl_become_24 fl_Rl_15 sh_12 rfl rfl (by decide) (by decide) (by decide) ?_
  refine mj_iconst (pc := 27) (v := 0) d_Rl_become_27 (by decide) ?_
  refine mj_aload_n (pc := 28) (i := 0) d_Rl_become_28 rfl rfl (by decide) ?_
  refine mj_getR (pc := 29) d_Rl_become_29 fl_Rl_15 sh_12 rfl rfl (by decide) (by decide) (by decide) ?_
  refine mj_alen (pc := 32) (v := 648) d_Rl_become_32 sh_14 (by decide) (by decide) ?_
  refine cj_copy (pc := 33) d_Rl_become_33 cp_Rl_23 sh_85 sh_14 (by decide) (by decide) (by decide) (by decide) (Nat.le_of_ble_eq_true rfl) ?_
  show mj_R M_Rl_become 36 [some (.ref 12), some (.ref 83)] [] (SH, jn (mj_cp (mj_cp C0 84 13 0 0 12) 85 14 0 0 648) D) none (SH, jn (C') D)
  obtain e_1 := inj1 h
  subst e_1
  exact mj_vret (pc := 36) d_Rl_become_36 rfl
set_option maxRecDepth 20000 in
theorem r_Ln_become_5  {C0 D : St} {C' : St} (h : f_Ln_become_5 C0 = some (C')) : mj_R M_Ln_become 0 (mj_lv M_Ln_become.2.2.1 [.ref 15, .ref 86]) [] (SH, jn C0 D) none (SH, jn (C') D) := by
  show mj_R M_Ln_become 0 [some (.ref 15), some (.ref 86)] [] _ _ _
  unfold f_Ln_become_5 at h
  refine mj_aload_n (pc := 0) (i := 0) d_Ln_become_0 rfl rfl (by decide) ?_
  refine mj_aload_n (pc := 1) (i := 1) d_Ln_become_1 rfl rfl (by decide) ?_
  refine cj_getI (pc := 2) d_Ln_become_2 fl_Ln_15 sh_86 rfl (by decide) (by decide) (by decide) ?_
  refine cj_putI (pc := 5) d_Ln_become_5 fl_Ln_15 sh_15 rfl (fun _ _ _ h => by cases h; rfl) (by decide) (by decide) (by decide) ?_
  refine mj_aload_n (pc := 8) (i := 1) d_Ln_become_8 rfl rfl (by decide) ?_
  refine mj_getR (pc := 9) d_Ln_become_9 fl_Ln_11 sh_86 rfl rfl (by decide) (by decide) (by decide) ?_
  refine mj_iconst (pc := 12) (v := 0) d_Ln_become_12 (by decide) ?_
  refine mj_aload_n (pc := 13) (i := 0) d_Ln_become_13 rfl rfl (by decide) ?_
  refine mj_getR (pc := 14) d_Ln_become_14 fl_Ln_11 sh_15 rfl rfl (by decide) (by decide) (by decide) ?_
  refine mj_iconst (pc := 17) (v := 0) d_Ln_become_17 (by decide) ?_
  refine mj_aload_n (pc := 18) (i := 0) d_Ln_become_18 rfl rfl (by decide) ?_
  refine mj_getR (pc := 19) d_Ln_become_19 fl_Ln_11 sh_15 rfl rfl (by decide) (by decide) (by decide) ?_
  refine mj_alen (pc := 22) (v := 80) d_Ln_become_22 sh_16 (by decide) (by decide) ?_
  refine cj_copy (pc := 23) d_Ln_become_23 cp_Ln_69 sh_87 sh_16 (by decide) (by decide) (by decide) (by decide) (Nat.le_of_ble_eq_true rfl) ?_
  show mj_R M_Ln_become 26 [some (.ref 15), some (.ref 86)] [] (SH, jn (mj_cp (mj_wr C0 15 0 (C0 86 0)) 87 16 0 0 80) D) none (SH, jn (C') D)
  obtain e_1 := inj1 h
  subst e_1
  exact mj_vret (pc := 26) d_Ln_become_26 rfl
set_option maxRecDepth 20000 in
theorem r_Tw_become_5  {C0 D : St} {C' : St} (h : f_Tw_become_5 C0 = some (C')) : mj_R M_Tw_become 0 (mj_lv M_Tw_become.2.2.1 [.ref 1, .ref 72]) [] (SH, jn C0 D) none (SH, jn (C') D) := by
  show mj_R M_Tw_become 0 [some (.ref 1), some (.ref 72)] [] _ _ _
  unfold f_Tw_become_5 at h
  refine mj_aload_n (pc := 0) (i := 0) d_Tw_become_0 rfl rfl (by decide) ?_
  refine mj_aload_n (pc := 1) (i := 1) d_Tw_become_1 rfl rfl (by decide) ?_
  refine cj_getI (pc := 2) d_Tw_become_2 fl_Tw_59 sh_72 rfl (by decide) (by decide) (by decide) ?_
  refine cj_putI (pc := 5) d_Tw_become_5 fl_Tw_59 sh_1 rfl (fun _ _ _ h => by cases h; rfl) (by decide) (by decide) (by decide) ?_
  refine mj_aload_n (pc := 8) (i := 0) d_Tw_become_8 rfl rfl (by decide) ?_
  refine mj_aload_n (pc := 9) (i := 1) d_Tw_become_9 rfl rfl (by decide) ?_
  refine cj_getI (pc := 10) d_Tw_become_10 fl_Tw_89 sh_72 rfl (by decide) (by decide) (by decide) ?_
  refine cj_putI (pc := 13) d_Tw_become_13 fl_Tw_89 sh_1 rfl (fun _ _ _ h => by cases h; rfl) (by decide) (by decide) (by decide) ?_
  refine mj_aload_n (pc := 16) (i := 0) d_Tw_become_16 rfl rfl (by decide) ?_
  refine mj_aload_n (pc := 17) (i := 1) d_Tw_become_17 rfl rfl (by decide) ?_
  refine cj_getI (pc := 18) d_Tw_become_18 fl_Tw_9 sh_72 rfl (by decide) (by decide) (by decide) ?_
  refine cj_putI (pc := 21) d_Tw_become_21 fl_Tw_9 sh_1 rfl (fun _ _ _ h => by cases h; rfl) (by decide) (by decide) (by decide) ?_
  refine mj_aload_n (pc := 24) (i := 0) d_Tw_become_24 rfl rfl (by decide) ?_
  refine mj_aload_n (pc := 25) (i := 1) d_Tw_become_25 rfl rfl (by decide) ?_
  refine cj_getI (pc := 26) d_Tw_become_26 fl_Tw_92 sh_72 rfl (by decide) (by decide) (by decide) ?_
  refine cj_putI (pc := 29) d_Tw_become_29 fl_Tw_92 sh_1 rfl (fun _ _ _ h => by cases h; rfl) (by decide) (by decide) (by decide) ?_
  refine mj_aload_n (pc := 32) (i := 0) d_Tw_become_32 rfl rfl (by decide) ?_
  refine mj_aload_n (pc := 33) (i := 1) d_Tw_become_33 rfl rfl (by decide) ?_
  refine cj_getI (pc := 34) d_Tw_become_34 fl_Tw_95 sh_72 rfl (by decide) (by decide) (by decide) ?_
  refine cj_putI (pc := 37) d_Tw_become_37 fl_Tw_95 sh_1 rfl (fun _ _ _ h => by cases h; rfl) (by decide) (by decide) (by decide) ?_
  refine mj_aload_n (pc := 40) (i := 1) d_Tw_become_40 rfl rfl (by decide) ?_
  refine mj_getR (pc := 41) d_Tw_become_41 fl_Tw_15 sh_72 rfl rfl (by decide) (by decide) (by decide) ?_
  refine mj_iconst (pc := 44) (v := 0) d_Tw_become_44 (by decide) ?_
  refine mj_aload_n (pc := 45) (i := 0) d_Tw_become_45 rfl rfl (by decide) ?_
  refine mj_getR (pc := 46) d_Tw_become_46 fl_Tw_15 sh_1 rfl rfl (by decide) (by decide) (by decide) ?_
  refine mj_iconst (pc := 49) (v := 0) d_Tw_become_49 (by decide) ?_
  refine mj_aload_n (pc := 50) (i := 0) d_Tw_become_50 rfl rfl (by decide) ?_
  refine mj_getR (pc := 51) d_Tw_become_51 fl_Tw_15 sh_1 rfl rfl (by decide) (by decide) (by decide) ?_
  refine mj_alen (pc := 54) (v := 12) d_Tw_become_54 sh_2 (by decide) (by decide) ?_
  refine cj_copy (pc := 55) d_Tw_become_55 cp_Tw_98 sh_73 sh_2 (by decide) (by decide) (by decide) (by decide) (Nat.le_of_ble_eq_true rfl) ?_
  show mj_R M_Tw_become 58 [some (.ref 1), some (.ref 72)] [] (SH, jn (mj_cp (mj_wr (mj_wr (mj_wr (mj_wr (mj_wr C0 1 0 (C0 72 0)) 1 1 (mj_wr C0 1 0 (C0 72 0) 72 1)) 1 2 (mj_wr (mj_wr C0 1 0 (C0 72 0)) 1 1 (mj_wr C0 1 0 (C0 72 0) 72 1) 72 2)) 1 3 (mj_wr (mj_wr (mj_wr C0 1 0 (C0 72 0)) 1 1 (mj_wr C0 1 0 (C0 72 0) 72 1)) 1 2 (mj_wr (mj_wr C0 1 0 (C0 72 0)) 1 1 (mj_wr C0 1 0 (C0 72 0) 72 1) 72 2) 72 3)) 1 4 (mj_wr (mj_wr (mj_wr (mj_wr C0 1 0 (C0 72 0)) 1 1 (mj_wr C0 1 0 (C0 72 0) 72 1)) 1 2 (mj_wr (mj_wr C0 1 0 (C0 72 0)) 1 1 (mj_wr C0 1 0 (C0 72 0) 72 1) 72 2)) 1 3 (mj_wr (mj_wr (mj_wr C0 1 0 (C0 72 0)) 1 1 (mj_wr C0 1 0 (C0 72 0) 72 1)) 1 2 (mj_wr (mj_wr C0 1 0 (C0 72 0)) 1 1 (mj_wr C0 1 0 (C0 72 0) 72 1) 72 2) 72 3) 72 4)) 73 2 0 0 12) D) none (SH, jn (C') D)
  refine mj_aload_n (pc := 58) (i := 1) d_Tw_become_58 rfl rfl (by decide) ?_
  refine mj_getR (pc := 59) d_Tw_become_59 fl_Tw_19 sh_72 rfl rfl (by decide) (by decide) (by decide) ?_
  refine mj_iconst (pc := 62) (v := 0) d_Tw_become_62 (by decide) ?_
  refine mj_aload_n (pc := 63) (i := 0) d_Tw_become_63 rfl rfl (by decide) ?_
  refine mj_getR (pc := 64) d_Tw_become_64 fl_Tw_19 sh_1 rfl rfl (by decide) (by decide) (by decide) ?_
  refine mj_iconst (pc := 67) (v := 0) d_Tw_become_67 (by decide) ?_
  refine mj_aload_n (pc := 68) (i := 0) d_Tw_become_68 rfl rfl (by decide) ?_
  refine mj_getR (pc := 69) d_Tw_become_69 fl_Tw_19 sh_1 rfl rfl (by decide) (by decide) (by decide) ?_
  refine mj_alen (pc := 72) (v := 12) d_Tw_become_72 sh_3 (by decide) (by decide) ?_
  refine cj_copy (pc := 73) d_Tw_become_73 cp_Tw_98 sh_74 sh_3 (by decide) (by decide) (by decide) (by decide) (Nat.le_of_ble_eq_true rfl) ?_
  show mj_R M_Tw_become 76 [some (.ref 1), some (.ref 72)] [] (SH, jn (mj_cp (mj_cp (mj_wr (mj_wr (mj_wr (mj_wr (mj_wr C0 1 0 (C0 72 0)) 1 1 (mj_wr C0 1 0 (C0 72 0) 72 1)) 1 2 (mj_wr (mj_wr C0 1 0 (C0 72 0)) 1 1 (mj_wr C0 1 0 (C0 72 0) 72 1) 72 2)) 1 3 (mj_wr (mj_wr (mj_wr C0 1 0 (C0 72 0)) 1 1 (mj_wr C0 1 0 (C0 72 0) 72 1)) 1 2 (mj_wr (mj_wr C0 1 0 (C0 72 0)) 1 1 (mj_wr C0 1 0 (C0 72 0) 72 1) 72 2) 72 3)) 1 4 (mj_wr (mj_wr (mj_wr (mj_wr C0 1 0 (C0 72 0)) 1 1 (mj_wr C0 1 0 (C0 72 0) 72 1)) 1 2 (mj_wr (mj_wr C0 1 0 (C0 72 0)) 1 1 (mj_wr C0 1 0 (C0 72 0) 72 1) 72 2)) 1 3 (mj_wr (mj_wr (mj_wr C0 1 0 (C0 72 0)) 1 1 (mj_wr C0 1 0 (C0 72 0) 72 1)) 1 2 (mj_wr (mj_wr C0 1 0 (C0 72 0)) 1 1 (mj_wr C0 1 0 (C0 72 0) 72 1) 72 2) 72 3) 72 4)) 73 2 0 0 12) 74 3 0 0 12) D) none (SH, jn (C') D)
  refine mj_aload_n (pc := 76) (i := 1) d_Tw_become_76 rfl rfl (by decide) ?_
  refine mj_getR (pc := 77) d_Tw_become_77 fl_Tw_22 sh_72 rfl rfl (by decide) (by decide) (by decide) ?_
  refine mj_iconst (pc := 80) (v := 0) d_Tw_become_80 (by decide) ?_
  refine mj_aload_n (pc := 81) (i := 0) d_Tw_become_81 rfl rfl (by decide) ?_
  refine mj_getR (pc := 82) d_Tw_become_82 fl_Tw_22 sh_1 rfl rfl (by decide) (by decide) (by decide) ?_
  refine mj_iconst (pc := 85) (v := 0) d_Tw_become_85 (by decide) ?_
  refine mj_aload_n (pc := 86) (i := 0) d_Tw_become_86 rfl rfl (by decide) ?_
  refine mj_getR (pc := 87) d_Tw_become_87 fl_Tw_22 sh_1 rfl rfl (by decide) (by decide) (by decide) ?_
  refine mj_alen (pc := 90) (v := 12) d_Tw_become_90 sh_4 (by decide) (by decide) ?_
  refine cj_copy (pc := 91) d_Tw_become_91 cp_Tw_98 sh_75 sh_4 (by decide) (by decide) (by decide) (by decide) (Nat.le_of_ble_eq_true rfl) ?_
  show mj_R M_Tw_become 94 [some (.ref 1), some (.ref 72)] [] (SH, jn (mj_cp (mj_cp (mj_cp (mj_wr (mj_wr (mj_wr (mj_wr (mj_wr C0 1 0 (C0 72 0)) 1 1 (mj_wr C0 1 0 (C0 72 0) 72 1)) 1 2 (mj_wr (mj_wr C0 1 0 (C0 72 0)) 1 1 (mj_wr C0 1 0 (C0 72 0) 72 1) 72 2)) 1 3 (mj_wr (mj_wr (mj_wr C0 1 0 (C0 72 0)) 1 1 (mj_wr C0 1 0 (C0 72 0) 72 1)) 1 2 (mj_wr (mj_wr C0 1 0 (C0 72 0)) 1 1 (mj_wr C0 1 0 (C0 72 0) 72 1) 72 2) 72 3)) 1 4 (mj_wr (mj_wr (mj_wr (mj_wr C0 1 0 (C0 72 0)) 1 1 (mj_wr C0 1 0 (C0 72 0) 72 1)) 1 2 (mj_wr (mj_wr C0 1 0 (C0 72 0)) 1 1 (mj_wr C0 1 0 (C0 72 0) 72 1) 72 2)) 1 3 (mj_wr (mj_wr (mj_wr C0 1 0 (C0 72 0)) 1 1 (mj_wr C0 1 0 (C0 72 0) 72 1)) 1 2 (mj_wr (mj_wr C0 1 0 (C0 72 0)) 1 1 (mj_wr C0 1 0 (C0 72 0) 72 1) 72 2) 72 3) 72 4)) 73 2 0 0 12) 74 3 0 0 12) 75 4 0 0 12) D) none (SH, jn (C') D)
  refine mj_aload_n (pc := 94) (i := 1) d_Tw_become_94 rfl rfl (by decide) ?_
  refine mj_getR (pc := 95) d_Tw_become_95 fl_Tw_25 sh_72 rfl rfl (by decide) (by decide) (by decide) ?_
  refine mj_iconst (pc := 98) (v := 0) d_Tw_become_98 (by decide) ?_
  refine mj_aload_n (pc := 99) (i := 0) d_Tw_become_99 rfl rfl (by decide) ?_
  refine mj_getR (pc := 100) d_Tw_become_100 fl_Tw_25 sh_1 rfl rfl (by decide) (by decide) (by decide) ?_
  refine mj_iconst (pc := 103) (v := 0) d_Tw_become_103 (by decide) ?_
  refine mj_aload_n (pc := 104) (i := 0) d_Tw_become_104 rfl rfl (by decide) ?_
  refine mj_getR (pc := 105) d_Tw_become_105 fl_Tw_25 sh_1 rfl rfl (by decide) (by decide) (by decide) ?_
  refine mj_alen (pc := 108) (v := 12) d_Tw_become_108 sh_5 (by decide) (by decide) ?_
  refine cj_copy (pc := 109) d_Tw_become_109 cp_Tw_98 sh_76 sh_5 (by decide) (by decide) (by decide) (by decide) (Nat.le_of_ble_eq_true rfl) ?_
  show mj_R M_Tw_become 112 [some (.ref 1), some (.ref 72)] [] (SH, jn (mj_cp (mj_cp (mj_cp (mj_cp (mj_wr (mj_wr (mj_wr (mj_wr (mj_wr C0 1 0 (C0 72 0)) 1 1 (mj_wr C0 1 0 (C0 72 0) 72 1)) 1 2 (mj_wr (mj_wr C0 1 0 (C0 72 0)) 1 1 (mj_wr C0 1 0 (C0 72 0) 72 1) 72 2)) 1 3 (mj_wr (mj_wr (mj_wr C0 1 0 (C0 72 0)) 1 1 (mj_wr C0 1 0 (C0 72 0) 72 1)) 1 2 (mj_wr (mj_wr C0 1 0 (C0 72 0)) 1 1 (mj_wr C0 1 0 (C0 72 0) 72 1) 72 2) 72 3)) 1 4 (mj_wr (mj_wr (mj_wr (mj_wr C0 1 0 (C0 72 0)) 1 1 (mj_wr C0 1 0 (C0 72 0) 72 1)) 1 2 (mj_wr (mj_wr C0 1 0 (C0 72 0)) 1 1 (mj_wr C0 1 0 (C0 72 0) 72 1) 72 2)) 1 3 (mj_wr (mj_wr (mj_wr C0 1 0 (C0 72 0)) 1 1 (mj_wr C0 1 0 (C0 72 0) 72 1)) 1 2 (mj_wr (mj_wr C0 1 0 (C0 72 0)) 1 1 (mj_wr C0 1 0 (C0 72 0) 72 1) 72 2) 72 3) 72 4)) 73 2 0 0 12) 74 3 0 0 12) 75 4 0 0 12) 76 5 0 0 12) D) none (SH, jn (C') D)
  refine mj_aload_n (pc := 112) (i := 1) d_Tw_become_112 rfl rfl (by decide) ?_
  refine mj_getR (pc := 113) d_Tw_become_113 fl_Tw_28 sh_72 rfl rfl (by decide) (by decide) (by decide) ?_
  refine mj_iconst (pc := 116) (v := 0) d_Tw_become_116 (by decide) ?_
  refine mj_aload_n (pc := 117) (i := 0) d_Tw_become_117 rfl rfl (by decide) ?_
  refine mj_getR (pc := 118) d_Tw_become_118 fl_Tw_28 sh_1 rfl rfl (by decide) (by decide) (by decide) ?_
  refine mj_iconst (pc := 121) (v := 0) d_Tw_become_121 (by decide) ?_
  refine mj_aload_n (pc := 122) (i := 0) d_Tw_become_122 rfl rfl (by decide) ?_
  refine mj_getR (pc := 123) d_Tw_become_123 fl_Tw_28 sh_1 rfl rfl (by decide) (by decide) (by decide) ?_
  refine mj_alen (pc := 126) (v := 720) d_Tw_become_126 sh_6 (by decide) (by decide) ?_
  refine cj_copy (pc := 127) d_Tw_become_127 cp_Tw_98 sh_77 sh_6 (by decide) (by decide) (by decide) (by decide) (Nat.le_of_ble_eq_true rfl) ?_
  show mj_R M_Tw_become 130 [some (.ref 1), some (.ref 72)] [] (SH, jn (mj_cp (mj_cp (mj_cp (mj_cp (mj_cp (mj_wr (mj_wr (mj_wr (mj_wr (mj_wr C0 1 0 (C0 72 0)) 1 1 (mj_wr C0 1 0 (C0 72 0) 72 1)) 1 2 (mj_wr (mj_wr C0 1 0 (C0 72 0)) 1 1 (mj_wr C0 1 0 (C0 72 0) 72 1) 72 2)) 1 3 (mj_wr (mj_wr (mj_wr C0 1 0 (C0 72 0)) 1 1 (mj_wr C0 1 0 (C0 72 0) 72 1)) 1 2 (mj_wr (mj_wr C0 1 0 (C0 72 0)) 1 1 (mj_wr C0 1 0 (C0 72 0) 72 1) 72 2) 72 3)) 1 4 (mj_wr (mj_wr (mj_wr (mj_wr C0 1 0 (C0 72 0)) 1 1 (mj_wr C0 1 0 (C0 72 0) 72 1)) 1 2 (mj_wr (mj_wr C0 1 0 (C0 72 0)) 1 1 (mj_wr C0 1 0 (C0 72 0) 72 1) 72 2)) 1 3 (mj_wr (mj_wr (mj_wr C0 1 0 (C0 72 0)) 1 1 (mj_wr C0 1 0 (C0 72 0) 72 1)) 1 2 (mj_wr (mj_wr C0 1 0 (C0 72 0)) 1 1 (mj_wr C0 1 0 (C0 72 0) 72 1) 72 2) 72 3) 72 4)) 73 2 0 0 12) 74 3 0 0 12) 75 4 0 0 12) 76 5 0 0 12) 77 6 0 0 720) D) none (SH, jn (C') D)
  refine mj_aload_n (pc := 130) (i := 0) d_Tw_become_130 rfl rfl (by decide) ?_
  refine mj_getR (pc := 131) d_Tw_become_131 fl_Tw_34 sh_1 rfl rfl (by decide) (by decide) (by decide) ?_
  refine mj_aload_n (pc := 134) (i := 1) d_Tw_become_134 rfl rfl (by decide) ?_
  refine mj_getR (pc := 135) d_Tw_become_135 fl_Tw_34 sh_72 rfl rfl (by decide) (by decide) (by decide) ?_
  obtain ⟨C1, hb2, h⟩ := bd1_some h
  refine mj_callV (pc := 138) (b := 7) (vs := [.ref 78]) (st := []) d_Tw_become_138 bB_Tw_become_Sk_become lk_Tw_104 iv_Sk_become rc_7 rfl (Nat.le_of_ble_eq_true rfl) (Nat.le_of_ble_eq_true rfl) (r_Sk_become_5 hb2) ?_
  show mj_R M_Tw_become 141 [some (.ref 1), some (.ref 72)] [] (SH, jn C1 D) none (SH, jn (C') D)
  refine mj_aload_n (pc := 141) (i := 0) d_Tw_become_141 rfl rfl (by decide) ?_
  refine mj_getR (pc := 142) d_Tw_become_142 fl_Tw_41 sh_1 rfl rfl (by decide) (by decide) (by decide) ?_
  refine mj_aload_n (pc := 145) (i := 1) d_Tw_become_145 rfl rfl (by decide) ?_
  refine mj_getR (pc := 146) d_Tw_become_146 fl_Tw_41 sh_72 rfl rfl (by decide) (by decide) (by decide) ?_
  obtain ⟨C3, hb4, h⟩ := bd1_some h
  refine mj_callV (pc := 149) (b := 10) (vs := [.ref 81]) (st := []) d_Tw_become_149 bB_Tw_become_Wr_become lk_Tw_108 iv_Wr_become rc_10 rfl (Nat.le_of_ble_eq_true rfl) (Nat.le_of_ble_eq_true rfl) (r_Wr_become_5 hb4) ?_
  show mj_R M_Tw_become 152 [some (.ref 1), some (.ref 72)] [] (SH, jn C3 D) none (SH, jn (C') D)
  refine mj_aload_n (pc := 152) (i := 0) d_Tw_become_152 rfl rfl (by decide) ?_
  refine mj_getR (pc := 153) d_Tw_become_153 fl_Tw_48 sh_1 rfl rfl (by decide) (by decide) (by decide) ?_
  refine mj_aload_n (pc := 156) (i := 1) d_Tw_become_156 rfl rfl (by decide) ?_
  refine mj_getR (pc := 157) d_Tw_become_157 fl_Tw_48 sh_72 rfl rfl (by decide) (by decide) (by decide) ?_
  obtain ⟨C5, hb6, h⟩ := bd1_some h
  refine mj_callV (pc := 160) (b := 12) (vs := [.ref 83]) (st := []) d_Tw_become_160 bB_Tw_become_Rl_become lk_Tw_111 iv_Rl_become rc_12 rfl (Nat.le_of_ble_eq_true rfl) (Nat.le_of_ble_eq_true rfl) (r_Rl_become_5 hb6) ?_
  show mj_R M_Tw_become 163 [some (.ref 1), some (.ref 72)] [] (SH, jn C5 D) none (SH, jn (C') D)
  refine mj_aload_n (pc := 163) (i := 0) d_Tw_become_163 rfl rfl (by decide) ?_
  refine mj_getR (pc := 164) d_Tw_become_164 fl_Tw_55 sh_1 rfl rfl (by decide) (by decide) (by decide) ?_
  refine mj_aload_n (pc := 167) (i := 1) d_Tw_become_167 rfl rfl (by decide) ?_
  refine mj_getR (pc := 168) d_Tw_become_168 fl_Tw_55 sh_72 rfl rfl (by decide) (by decide) (by decide) ?_
  obtain ⟨C7, hb8, h⟩ := bd1_some h
  refine mj_callV (pc := 171) (b := 15) (vs := [.ref 86]) (st := []) d_Tw_become_171 bB_Tw_become_Ln_become lk_Tw_114 iv_Ln_become rc_15 rfl (Nat.le_of_ble_eq_true rfl) (Nat.le_of_ble_eq_true rfl) (r_Ln_become_5 hb8) ?_
  show mj_R M_Tw_become 174 [some (.ref 1), some (.ref 72)] [] (SH, jn C7 D) none (SH, jn (C') D)
  obtain e_1 := inj1 h
  subst e_1
  exact mj_vret (pc := 174) d_Tw_become_174 rfl
set_option maxRecDepth 20000 in
theorem r_Mk_load {x1 : Int32} {C0 D : St} {v : Int32} {C' : St} (h : f_Mk_load x1 C0 = some (v, C')) : mj_R M_Mk_load 0 (mj_lv M_Mk_load.2.2.1 [.ref 0, .int x1]) [] (SH, jn C0 D) (some (.int v)) (SH, jn (C') D) := by
  show mj_R M_Mk_load 0 [some (.ref 0), some (.int x1)] [] _ _ _
  unfold f_Mk_load at h
  refine mj_iload_n (pc := 0) (i := 1) d_Mk_load_0 rfl rfl ?_
  refine mj_iconst (pc := 1) (v := 0) d_Mk_load_1 (by decide) ?_
  refine mj_iconst (pc := 2) (v := 2) d_Mk_load_2 (by decide) ?_
  obtain ⟨v1, hb2, h⟩ := bd1_some h
  refine mj_callS (pc := 3) (vs := [.int x1, .int 0, .int 2]) (st := []) d_Mk_load_3 bB_Mk_load_Mk_isWithin lk_Mk_50 st_Mk_isWithin rfl (Nat.le_of_ble_eq_true rfl) (Nat.le_of_ble_eq_true rfl) (r_Mk_isWithin hb2) ?_
  show mj_R M_Mk_load 6 [some (.ref 0), some (.int x1)] [.int v1] (SH, jn C0 D) (some (.int v)) (SH, jn (C') D)
  refine mj_if_ne (y := 0) (pc := 6) (tgt := 12) d_Mk_load_6 (by decide) mj_hs (fun hc3 => ?_) (fun hc3 => ?_)
  · rw [if_neg hc3] at h
    refine mj_aload_n (pc := 12) (i := 0) d_Mk_load_12 rfl rfl (by decide) ?_
    refine mj_getR (pc := 13) d_Mk_load_13 fl_Mk_20 sh_0 rfl rfl (by decide) (by decide) (by decide) ?_
    refine mj_iload_n (pc := 16) (i := 1) d_Mk_load_16 rfl rfl ?_
    obtain ⟨hg4, h⟩ := mj_gd h
    refine cj_zald (pc := 17) d_Mk_load_17 sh_18 (by decide) hg4 (by decide) ?_
    refine mj_if_ne (y := 0) (pc := 18) (tgt := 24) d_Mk_load_18 (by decide) mj_hs (fun hc5 => ?_) (fun hc5 => ?_)
    · rw [if_neg hc5] at h
      refine mj_aload_n (pc := 24) (i := 0) d_Mk_load_24 rfl rfl (by decide) ?_
      refine mj_getR (pc := 25) d_Mk_load_25 fl_Mk_12 sh_0 rfl rfl (by decide) (by decide) (by decide) ?_
      refine mj_aload_n (pc := 28) (i := 0) d_Mk_load_28 rfl rfl (by decide) ?_
      refine mj_getR (pc := 29) d_Mk_load_29 fl_Mk_16 sh_0 rfl rfl (by decide) (by decide) (by decide) ?_
      refine mj_iload_n (pc := 32) (i := 1) d_Mk_load_32 rfl rfl ?_
      by_cases hc8 : x1 = 0
      · rw [if_pos hc8] at h
        refine mj_aaldE (pc := 33) 0 d_Mk_load_33 hc8 sh_17 (by decide) (by decide) rfl (by decide) ?_
        obtain ⟨C6, hb7, h⟩ := bd1_some h
        refine mj_callV (pc := 34) (b := 1) (vs := [.ref 40]) (st := []) d_Mk_load_34 bB_Mk_load_Tw_become lk_Mk_202 iv_Tw_become rc_1 rfl (Nat.le_of_ble_eq_true rfl) (Nat.le_of_ble_eq_true rfl) (r_Tw_become_3 hb7) ?_
        show mj_R M_Mk_load 37 [some (.ref 0), some (.int x1)] [] (SH, jn C6 D) (some (.int v)) (SH, jn (C') D)
        refine mj_aload_n (pc := 37) (i := 0) d_Mk_load_37 rfl rfl (by decide) ?_
        refine mj_getR (pc := 38) d_Mk_load_38 fl_Mk_12 sh_0 rfl rfl (by decide) (by decide) (by decide) ?_
        refine cj_getI (pc := 41) d_Mk_load_41 fl_Mk_139 sh_1 rfl (by decide) (by decide) (by decide) ?_
        obtain ⟨e_1, e_2⟩ := inj2 h
        subst e_1
        subst e_2
        exact mj_iret (pc := 44) d_Mk_load_44 rfl
      · rw [if_neg hc8] at h
        by_cases hc11 : x1 = 1
        · rw [if_pos hc11] at h
          refine mj_aaldE (pc := 33) 1 d_Mk_load_33 hc11 sh_17 (by decide) (by decide) rfl (by decide) ?_
          obtain ⟨C9, hb10, h⟩ := bd1_some h
          refine mj_callV (pc := 34) (b := 1) (vs := [.ref 56]) (st := []) d_Mk_load_34 bB_Mk_load_Tw_become lk_Mk_202 iv_Tw_become rc_1 rfl (Nat.le_of_ble_eq_true rfl) (Nat.le_of_ble_eq_true rfl) (r_Tw_become_4 hb10) ?_
          show mj_R M_Mk_load 37 [some (.ref 0), some (.int x1)] [] (SH, jn C9 D) (some (.int v)) (SH, jn (C') D)
          refine mj_aload_n (pc := 37) (i := 0) d_Mk_load_37 rfl rfl (by decide) ?_
          refine mj_getR (pc := 38) d_Mk_load_38 fl_Mk_12 sh_0 rfl rfl (by decide) (by decide) (by decide) ?_
          refine cj_getI (pc := 41) d_Mk_load_41 fl_Mk_139 sh_1 rfl (by decide) (by decide) (by decide) ?_
          obtain ⟨e_1, e_2⟩ := inj2 h
          subst e_1
          subst e_2
          exact mj_iret (pc := 44) d_Mk_load_44 rfl
        · rw [if_neg hc11] at h
          by_cases hc14 : x1 = 2
          · rw [if_pos hc14] at h
            refine mj_aaldE (pc := 33) 2 d_Mk_load_33 hc14 sh_17 (by decide) (by decide) rfl (by decide) ?_
            obtain ⟨C12, hb13, h⟩ := bd1_some h
            refine mj_callV (pc := 34) (b := 1) (vs := [.ref 72]) (st := []) d_Mk_load_34 bB_Mk_load_Tw_become lk_Mk_202 iv_Tw_become rc_1 rfl (Nat.le_of_ble_eq_true rfl) (Nat.le_of_ble_eq_true rfl) (r_Tw_become_5 hb13) ?_
            show mj_R M_Mk_load 37 [some (.ref 0), some (.int x1)] [] (SH, jn C12 D) (some (.int v)) (SH, jn (C') D)
            refine mj_aload_n (pc := 37) (i := 0) d_Mk_load_37 rfl rfl (by decide) ?_
            refine mj_getR (pc := 38) d_Mk_load_38 fl_Mk_12 sh_0 rfl rfl (by decide) (by decide) (by decide) ?_
            refine cj_getI (pc := 41) d_Mk_load_41 fl_Mk_139 sh_1 rfl (by decide) (by decide) (by decide) ?_
            obtain ⟨e_1, e_2⟩ := inj2 h
            subst e_1
            subst e_2
            exact mj_iret (pc := 44) d_Mk_load_44 rfl
          · rw [if_neg hc14] at h
            cases h
    · rw [if_pos hc5] at h
      refine mj_ldc (pc := 21) (v := -1000000002) d_Mk_load_21 k_Mk_205 ?_
      obtain ⟨e_1, e_2⟩ := inj2 h
      subst e_1
      subst e_2
      exact mj_iret (pc := 23) d_Mk_load_23 rfl
  · rw [if_pos hc3] at h
    refine mj_ldc (pc := 9) (v := -1000000001) d_Mk_load_9 k_Mk_54 ?_
    obtain ⟨e_1, e_2⟩ := inj2 h
    subst e_1
    subst e_2
    exact mj_iret (pc := 11) d_Mk_load_11 rfl
set_option maxRecDepth 20000 in
theorem l_Sk_isAlike_17 {r : Option Value} {D y : St} : ∀ (n : Nat) (y3 : Int32) (y4 : Int32) (C : St) (o : (Int32) ⊕ (Unit)), L_Sk_isAlike_17 n y3 y4 C = some o → (∀ a : Int32, o = .inl a → r = some (.int a) ∧ y = jn C D) → (∀ a : Unit, o = .inr a → mj_R M_Sk_isAlike 48 [none, none, none, none, none] [] (SH, jn C D) r (SH, y)) → mj_R M_Sk_isAlike 17 [some (.ref 7), some (.ref 46), none, some (.int y3), some (.int y4)] [] (SH, jn C D) r (SH, y) := by
  intro n
  induction n with
  | zero => intro y3 y4 C o h; cases h
  | succ n ih =>
    intro y3 y4 C o h hE hX
    unfold L_Sk_isAlike_17 at h
    refine mj_iload (pc := 17) (i := 4) d_Sk_isAlike_17 rfl ?_
    refine mj_iload_n (pc := 19) (i := 3) d_Sk_isAlike_19 rfl rfl ?_
    refine mj_icmp_ge (pc := 20) (tgt := 48) d_Sk_isAlike_20 (by decide) mj_hs (fun hc1 => ?_) (fun hc1 => ?_)
    · rw [if_pos hc1] at h
      obtain e_1 := inj1 h
      subst e_1
      exact mj_wk (hX _ rfl) trivial
    · rw [if_neg hc1] at h
      refine mj_aload_n (pc := 23) (i := 0) d_Sk_isAlike_23 rfl rfl (by decide) ?_
      refine mj_getR (pc := 24) d_Sk_isAlike_24 fl_Sk_9 sh_7 rfl rfl (by decide) (by decide) (by decide) ?_
      refine mj_iload (pc := 27) (i := 4) d_Sk_isAlike_27 rfl ?_
      obtain ⟨hg2, h⟩ := mj_gd h
      refine cj_iald (pc := 29) d_Sk_isAlike_29 sh_8 (by decide) hg2 (by decide) ?_
      refine mj_aload_n (pc := 30) (i := 1) d_Sk_isAlike_30 rfl rfl (by decide) ?_
      refine mj_getR (pc := 31) d_Sk_isAlike_31 fl_Sk_9 sh_46 rfl rfl (by decide) (by decide) (by decide) ?_
      refine mj_iload (pc := 34) (i := 4) d_Sk_isAlike_34 rfl ?_
      refine cj_iald (pc := 36) d_Sk_isAlike_36 sh_47 (by decide) hg2 (by decide) ?_
      refine mj_icmp_eq (pc := 37) (tgt := 42) d_Sk_isAlike_37 (by decide) mj_hs (fun hc4 => ?_) (fun hc4 => ?_)
      · rw [if_pos hc4] at h
        refine mj_iinc (pc := 42) (i := 4) (v := y4 + 1) d_Sk_isAlike_42 rfl (by rfl) rfl (by decide) ?_
        refine mj_goto (pc := 45) (tgt := 17) d_Sk_isAlike_45 (by decide) ?_
        exact mj_weak [some (.ref 7), some (.ref 46), none, some (.int y3), some (.int (y4 + 1))] (And.intro rfl (And.intro rfl (And.intro rfl (And.intro rfl trivial)))) (ih _ _ _ _ h hE hX)
      · rw [if_neg hc4] at h
        refine mj_iconst (pc := 40) (v := 0) d_Sk_isAlike_40 (by decide) ?_
        obtain e_1 := inj1 h
        subst e_1
        obtain ⟨e1, e2⟩ := hE _ rfl
        subst e1
        subst e2
        exact mj_zret (pc := 41) (ty := .boolean) d_Sk_isAlike_41 rfl (mj_b01 (by decide))
set_option maxRecDepth 20000 in
theorem r_Sk_isAlike {x2 : Int32} {C0 D : St} {v : Int32} (h : f_Sk_isAlike x2 C0 = some v) : mj_R M_Sk_isAlike 0 (mj_lv M_Sk_isAlike.2.2.1 [.ref 7, .ref 46, .int x2]) [] (SH, jn C0 D) (some (.int v)) (SH, jn C0 D) := by
  show mj_R M_Sk_isAlike 0 [some (.ref 7), some (.ref 46), some (.int x2), none, none] [] _ _ _
  unfold f_Sk_isAlike at h
  refine mj_iload_n (pc := 0) (i := 2) d_Sk_isAlike_0 rfl rfl ?_
  refine mj_iconst (pc := 1) (v := 1) d_Sk_isAlike_1 (by decide) ?_
  refine mj_iadd (pc := 2) d_Sk_isAlike_2 ?_
  refine mj_iconst (pc := 3) (v := 5) d_Sk_isAlike_3 (by decide) ?_
  refine mj_imul (pc := 4) d_Sk_isAlike_4 ?_
  refine mj_bipush (pc := 5) (v := 10) d_Sk_isAlike_5 (by decide) ?_
  refine mj_imul (pc := 7) d_Sk_isAlike_7 ?_
  refine mj_istore_n (pc := 8) (i := 3) d_Sk_isAlike_8 rfl rfl (by decide) ?_
  refine mj_iload_n (pc := 9) (i := 2) d_Sk_isAlike_9 rfl rfl ?_
  refine mj_iconst (pc := 10) (v := 5) d_Sk_isAlike_10 (by decide) ?_
  refine mj_imul (pc := 11) d_Sk_isAlike_11 ?_
  refine mj_bipush (pc := 12) (v := 10) d_Sk_isAlike_12 (by decide) ?_
  refine mj_imul (pc := 14) d_Sk_isAlike_14 ?_
  refine mj_istore (pc := 15) (i := 4) d_Sk_isAlike_15 rfl (by decide) ?_
  rcases bdS_some h with ⟨e6, hl5, h⟩ | ⟨_u, hl5, h⟩
  · refine mj_weak [some (.ref 7), some (.ref 46), none, some (.int (((x2 + 1) * 5) * 10)), some (.int ((x2 * 5) * 10))] (And.intro rfl (And.intro rfl (And.intro rfl (And.intro rfl trivial)))) (l_Sk_isAlike_17 3000 _ _ _ _ hl5 (fun a e => ?_) (fun a e => nomatch e))
    cases e
    obtain e_1 := inj1 h
    subst e_1
    exact ⟨rfl, rfl⟩
  · refine mj_weak [some (.ref 7), some (.ref 46), none, some (.int (((x2 + 1) * 5) * 10)), some (.int ((x2 * 5) * 10))] (And.intro rfl (And.intro rfl (And.intro rfl (And.intro rfl trivial)))) (l_Sk_isAlike_17 3000 _ _ _ _ hl5 (fun a e => nomatch e) (fun a e => ?_))
    cases e
    refine mj_iconst (pc := 48) (v := 1) d_Sk_isAlike_48 (by decide) ?_
    obtain e_1 := inj1 h
    subst e_1
    exact mj_zret (pc := 49) (ty := .boolean) d_Sk_isAlike_49 rfl (mj_b01 (by decide))
set_option maxRecDepth 20000 in
theorem l_Tw_firstUnlike_14 {r : Option Value} {D y : St} : ∀ (n : Nat) (y2 : Int32) (y3 : Int32) (C : St) (o : (Int32) ⊕ (Unit)), L_Tw_firstUnlike_14 n y2 y3 C = some o → (∀ a : Int32, o = .inl a → r = some (.int a) ∧ y = jn C D) → (∀ a : Unit, o = .inr a → mj_R M_Tw_firstUnlike 57 [some (.ref 1), some (.ref 40), some (.int y2), none] [] (SH, jn C D) r (SH, y)) → mj_R M_Tw_firstUnlike 14 [some (.ref 1), some (.ref 40), some (.int y2), some (.int y3)] [] (SH, jn C D) r (SH, y) := by
  intro n
  induction n with
  | zero => intro y2 y3 C o h; cases h
  | succ n ih =>
    intro y2 y3 C o h hE hX
    unfold L_Tw_firstUnlike_14 at h
    refine mj_iload_n (pc := 14) (i := 3) d_Tw_firstUnlike_14 rfl rfl ?_
    refine mj_iload_n (pc := 15) (i := 2) d_Tw_firstUnlike_15 rfl rfl ?_
    refine mj_icmp_ge (pc := 16) (tgt := 57) d_Tw_firstUnlike_16 (by decide) mj_hs (fun hc1 => ?_) (fun hc1 => ?_)
    · rw [if_pos hc1] at h
      obtain e_1 := inj1 h
      subst e_1
      exact mj_wk (hX _ rfl) (And.intro rfl (And.intro rfl (And.intro rfl trivial)))
    · rw [if_neg hc1] at h
      refine mj_aload_n (pc := 19) (i := 0) d_Tw_firstUnlike_19 rfl rfl (by decide) ?_
      refine mj_getR (pc := 20) d_Tw_firstUnlike_20 fl_Tw_19 sh_1 rfl rfl (by decide) (by decide) (by decide) ?_
      refine mj_iload_n (pc := 23) (i := 3) d_Tw_firstUnlike_23 rfl rfl ?_
      obtain ⟨hg2, h⟩ := mj_gd h
      refine cj_iald (pc := 24) d_Tw_firstUnlike_24 sh_3 (by decide) hg2 (by decide) ?_
      refine mj_aload_n (pc := 25) (i := 1) d_Tw_firstUnlike_25 rfl rfl (by decide) ?_
      refine mj_getR (pc := 26) d_Tw_firstUnlike_26 fl_Tw_19 sh_40 rfl rfl (by decide) (by decide) (by decide) ?_
      refine mj_iload_n (pc := 29) (i := 3) d_Tw_firstUnlike_29 rfl rfl ?_
      refine cj_iald (pc := 30) d_Tw_firstUnlike_30 sh_42 (by decide) hg2 (by decide) ?_
      refine mj_icmp_ne (pc := 31) (tgt := 49) d_Tw_firstUnlike_31 (by decide) mj_hs (fun hc4 => ?_) (fun hc4 => ?_)
      · rw [if_neg hc4] at h
        refine mj_iload_n (pc := 49) (i := 3) d_Tw_firstUnlike_49 rfl rfl ?_
        obtain e_1 := inj1 h
        subst e_1
        obtain ⟨e1, e2⟩ := hE _ rfl
        subst e1
        subst e2
        exact mj_iret (pc := 50) d_Tw_firstUnlike_50 rfl
      · rw [if_pos hc4] at h
        refine mj_aload_n (pc := 34) (i := 0) d_Tw_firstUnlike_34 rfl rfl (by decide) ?_
        refine mj_getR (pc := 35) d_Tw_firstUnlike_35 fl_Tw_34 sh_1 rfl rfl (by decide) (by decide) (by decide) ?_
        refine mj_aload_n (pc := 38) (i := 1) d_Tw_firstUnlike_38 rfl rfl (by decide) ?_
        refine mj_getR (pc := 39) d_Tw_firstUnlike_39 fl_Tw_34 sh_40 rfl rfl (by decide) (by decide) (by decide) ?_
        refine mj_iload_n (pc := 42) (i := 3) d_Tw_firstUnlike_42 rfl rfl ?_
        obtain ⟨v5, hb6, h⟩ := bd1_some h
        refine mj_callV (pc := 43) (b := 7) (vs := [.ref 46, .int y3]) (st := []) d_Tw_firstUnlike_43 bB_Tw_firstUnlike_Sk_isAlike lk_Tw_85 iv_Sk_isAlike rc_7 rfl (Nat.le_of_ble_eq_true rfl) (Nat.le_of_ble_eq_true rfl) (r_Sk_isAlike hb6) ?_
        show mj_R M_Tw_firstUnlike 46 [some (.ref 1), some (.ref 40), some (.int y2), some (.int y3)] [.int v5] (SH, jn C D) r (SH, y)
        refine mj_if_ne (y := 0) (pc := 46) (tgt := 51) d_Tw_firstUnlike_46 (by decide) mj_hs (fun hc7 => ?_) (fun hc7 => ?_)
        · rw [if_neg hc7] at h
          refine mj_iinc (pc := 51) (i := 3) (v := y3 + 1) d_Tw_firstUnlike_51 rfl (by rfl) rfl (by decide) ?_
          refine mj_goto (pc := 54) (tgt := 14) d_Tw_firstUnlike_54 (by decide) ?_
          exact mj_weak [some (.ref 1), some (.ref 40), some (.int y2), some (.int (y3 + 1))] (And.intro rfl (And.intro rfl (And.intro rfl (And.intro rfl trivial)))) (ih _ _ _ _ h hE hX)
        · rw [if_pos hc7] at h
          refine mj_iload_n (pc := 49) (i := 3) d_Tw_firstUnlike_49 rfl rfl ?_
          obtain e_1 := inj1 h
          subst e_1
          obtain ⟨e1, e2⟩ := hE _ rfl
          subst e1
          subst e2
          exact mj_iret (pc := 50) d_Tw_firstUnlike_50 rfl
set_option maxRecDepth 20000 in
theorem r_Tw_firstUnlike  {C0 D : St} {v : Int32} (h : f_Tw_firstUnlike C0 = some v) : mj_R M_Tw_firstUnlike 0 (mj_lv M_Tw_firstUnlike.2.2.1 [.ref 1, .ref 40]) [] (SH, jn C0 D) (some (.int v)) (SH, jn C0 D) := by
  show mj_R M_Tw_firstUnlike 0 [some (.ref 1), some (.ref 40), none, none] [] _ _ _
  unfold f_Tw_firstUnlike at h
  refine mj_aload_n (pc := 0) (i := 0) d_Tw_firstUnlike_0 rfl rfl (by decide) ?_
  refine cj_getI (pc := 1) d_Tw_firstUnlike_1 fl_Tw_59 sh_1 rfl (by decide) (by decide) (by decide) ?_
  refine mj_aload_n (pc := 4) (i := 1) d_Tw_firstUnlike_4 rfl rfl (by decide) ?_
  refine cj_getI (pc := 5) d_Tw_firstUnlike_5 fl_Tw_59 sh_40 rfl (by decide) (by decide) (by decide) ?_
  refine mj_min (pc := 8) d_Tw_firstUnlike_8 mn_Tw_80 (by decide) (Nat.le_of_ble_eq_true rfl) ?_
  refine mj_istore_n (pc := 11) (i := 2) d_Tw_firstUnlike_11 rfl rfl (by decide) ?_
  refine mj_iconst (pc := 12) (v := 0) d_Tw_firstUnlike_12 (by decide) ?_
  refine mj_istore_n (pc := 13) (i := 3) d_Tw_firstUnlike_13 rfl rfl (by decide) ?_
  rcases bdS_some h with ⟨e11, hl8, h⟩ | ⟨_u, hl8, h⟩
  · refine mj_weak [some (.ref 1), some (.ref 40), some (.int (if (C0 40 0) < (C0 1 0) then C0 40 0 else C0 1 0 : Int32)), some (.int 0)] (And.intro rfl (And.intro rfl (And.intro rfl (And.intro rfl trivial)))) (l_Tw_firstUnlike_14 3000 _ _ _ _ hl8 (fun a e => ?_) (fun a e => nomatch e))
    cases e
    obtain e_1 := inj1 h
    subst e_1
    exact ⟨rfl, rfl⟩
  · refine mj_weak [some (.ref 1), some (.ref 40), some (.int (if (C0 40 0) < (C0 1 0) then C0 40 0 else C0 1 0 : Int32)), some (.int 0)] (And.intro rfl (And.intro rfl (And.intro rfl (And.intro rfl trivial)))) (l_Tw_firstUnlike_14 3000 _ _ _ _ hl8 (fun a e => nomatch e) (fun a e => ?_))
    cases e
    refine mj_aload_n (pc := 57) (i := 0) d_Tw_firstUnlike_57 rfl rfl (by decide) ?_
    refine cj_getI (pc := 58) d_Tw_firstUnlike_58 fl_Tw_59 sh_1 rfl (by decide) (by decide) (by decide) ?_
    refine mj_aload_n (pc := 61) (i := 1) d_Tw_firstUnlike_61 rfl rfl (by decide) ?_
    refine cj_getI (pc := 62) d_Tw_firstUnlike_62 fl_Tw_59 sh_40 rfl (by decide) (by decide) (by decide) ?_
    have k10 : mj_R M_Tw_firstUnlike 74 [none, none, none, none] [.int (if (C0 1 0) = (C0 40 0) then (-1000000005) else (if (C0 40 0) < (C0 1 0) then C0 40 0 else C0 1 0 : Int32) : Int32)] (SH, jn C0 D) (some (.int v)) (SH, jn C0 D) := by
      obtain e_1 := inj1 h
      subst e_1
      exact mj_iret (pc := 74) d_Tw_firstUnlike_74 rfl
    refine mj_icmp_ne (pc := 65) (tgt := 73) d_Tw_firstUnlike_65 (by decide) mj_hs (fun hc9 => ?_) (fun hc9 => ?_)
    · refine mj_iload_n (pc := 73) (i := 2) d_Tw_firstUnlike_73 rfl rfl ?_
      try simp only [if_neg hc9] at k10
      exact mj_wk k10 trivial
    · refine mj_ldc (pc := 68) (v := -1000000005) d_Tw_firstUnlike_68 k_Tw_66 ?_
      refine mj_goto (pc := 70) (tgt := 74) d_Tw_firstUnlike_70 (by decide) ?_
      try simp only [if_pos hc9] at k10
      exact mj_wk k10 trivial
set_option maxRecDepth 20000 in
theorem l_Sk_isAlike_1_17 {r : Option Value} {D y : St} : ∀ (n : Nat) (y3 : Int32) (y4 : Int32) (C : St) (o : (Int32) ⊕ (Unit)), L_Sk_isAlike_1_17 n y3 y4 C = some o → (∀ a : Int32, o = .inl a → r = some (.int a) ∧ y = jn C D) → (∀ a : Unit, o = .inr a → mj_R M_Sk_isAlike 48 [none, none, none, none, none] [] (SH, jn C D) r (SH, y)) → mj_R M_Sk_isAlike 17 [some (.ref 7), some (.ref 62), none, some (.int y3), some (.int y4)] [] (SH, jn C D) r (SH, y) := by
  intro n
  induction n with
  | zero => intro y3 y4 C o h; cases h
  | succ n ih =>
    intro y3 y4 C o h hE hX
    unfold L_Sk_isAlike_1_17 at h
    refine mj_iload (pc := 17) (i := 4) d_Sk_isAlike_17 rfl ?_
    refine mj_iload_n (pc := 19) (i := 3) d_Sk_isAlike_19 rfl rfl ?_
    refine mj_icmp_ge (pc := 20) (tgt := 48) d_Sk_isAlike_20 (by decide) mj_hs (fun hc1 => ?_) (fun hc1 => ?_)
    · rw [if_pos hc1] at h
      obtain e_1 := inj1 h
      subst e_1
      exact mj_wk (hX _ rfl) trivial
    · rw [if_neg hc1] at h
      refine mj_aload_n (pc := 23) (i := 0) d_Sk_isAlike_23 rfl rfl (by decide) ?_
      refine mj_getR (pc := 24) d_Sk_isAlike_24 fl_Sk_9 sh_7 rfl rfl (by decide) (by decide) (by decide) ?_
      refine mj_iload (pc := 27) (i := 4) d_Sk_isAlike_27 rfl ?_
      obtain ⟨hg2, h⟩ := mj_gd h
      refine cj_iald (pc := 29) d_Sk_isAlike_29 sh_8 (by decide) hg2 (by decide) ?_
      refine mj_aload_n (pc := 30) (i := 1) d_Sk_isAlike_30 rfl rfl (by decide) ?_
      refine mj_getR (pc := 31) d_Sk_isAlike_31 fl_Sk_9 sh_62 rfl rfl (by decide) (by decide) (by decide) ?_
      refine mj_iload (pc := 34) (i := 4) d_Sk_isAlike_34 rfl ?_
      refine cj_iald (pc := 36) d_Sk_isAlike_36 sh_63 (by decide) hg2 (by decide) ?_
      refine mj_icmp_eq (pc := 37) (tgt := 42) d_Sk_isAlike_37 (by decide) mj_hs (fun hc4 => ?_) (fun hc4 => ?_)
      · rw [if_pos hc4] at h
        refine mj_iinc (pc := 42) (i := 4) (v := y4 + 1) d_Sk_isAlike_42 rfl (by rfl) rfl (by decide) ?_
        refine mj_goto (pc := 45) (tgt := 17) d_Sk_isAlike_45 (by decide) ?_
        exact mj_weak [some (.ref 7), some (.ref 62), none, some (.int y3), some (.int (y4 + 1))] (And.intro rfl (And.intro rfl (And.intro rfl (And.intro rfl trivial)))) (ih _ _ _ _ h hE hX)
      · rw [if_neg hc4] at h
        refine mj_iconst (pc := 40) (v := 0) d_Sk_isAlike_40 (by decide) ?_
        obtain e_1 := inj1 h
        subst e_1
        obtain ⟨e1, e2⟩ := hE _ rfl
        subst e1
        subst e2
        exact mj_zret (pc := 41) (ty := .boolean) d_Sk_isAlike_41 rfl (mj_b01 (by decide))
set_option maxRecDepth 20000 in
theorem r_Sk_isAlike_1 {x2 : Int32} {C0 D : St} {v : Int32} (h : f_Sk_isAlike_1 x2 C0 = some v) : mj_R M_Sk_isAlike 0 (mj_lv M_Sk_isAlike.2.2.1 [.ref 7, .ref 62, .int x2]) [] (SH, jn C0 D) (some (.int v)) (SH, jn C0 D) := by
  show mj_R M_Sk_isAlike 0 [some (.ref 7), some (.ref 62), some (.int x2), none, none] [] _ _ _
  unfold f_Sk_isAlike_1 at h
  refine mj_iload_n (pc := 0) (i := 2) d_Sk_isAlike_0 rfl rfl ?_
  refine mj_iconst (pc := 1) (v := 1) d_Sk_isAlike_1 (by decide) ?_
  refine mj_iadd (pc := 2) d_Sk_isAlike_2 ?_
  refine mj_iconst (pc := 3) (v := 5) d_Sk_isAlike_3 (by decide) ?_
  refine mj_imul (pc := 4) d_Sk_isAlike_4 ?_
  refine mj_bipush (pc := 5) (v := 10) d_Sk_isAlike_5 (by decide) ?_
  refine mj_imul (pc := 7) d_Sk_isAlike_7 ?_
  refine mj_istore_n (pc := 8) (i := 3) d_Sk_isAlike_8 rfl rfl (by decide) ?_
  refine mj_iload_n (pc := 9) (i := 2) d_Sk_isAlike_9 rfl rfl ?_
  refine mj_iconst (pc := 10) (v := 5) d_Sk_isAlike_10 (by decide) ?_
  refine mj_imul (pc := 11) d_Sk_isAlike_11 ?_
  refine mj_bipush (pc := 12) (v := 10) d_Sk_isAlike_12 (by decide) ?_
  refine mj_imul (pc := 14) d_Sk_isAlike_14 ?_
  refine mj_istore (pc := 15) (i := 4) d_Sk_isAlike_15 rfl (by decide) ?_
  rcases bdS_some h with ⟨e6, hl5, h⟩ | ⟨_u, hl5, h⟩
  · refine mj_weak [some (.ref 7), some (.ref 62), none, some (.int (((x2 + 1) * 5) * 10)), some (.int ((x2 * 5) * 10))] (And.intro rfl (And.intro rfl (And.intro rfl (And.intro rfl trivial)))) (l_Sk_isAlike_1_17 3000 _ _ _ _ hl5 (fun a e => ?_) (fun a e => nomatch e))
    cases e
    obtain e_1 := inj1 h
    subst e_1
    exact ⟨rfl, rfl⟩
  · refine mj_weak [some (.ref 7), some (.ref 62), none, some (.int (((x2 + 1) * 5) * 10)), some (.int ((x2 * 5) * 10))] (And.intro rfl (And.intro rfl (And.intro rfl (And.intro rfl trivial)))) (l_Sk_isAlike_1_17 3000 _ _ _ _ hl5 (fun a e => nomatch e) (fun a e => ?_))
    cases e
    refine mj_iconst (pc := 48) (v := 1) d_Sk_isAlike_48 (by decide) ?_
    obtain e_1 := inj1 h
    subst e_1
    exact mj_zret (pc := 49) (ty := .boolean) d_Sk_isAlike_49 rfl (mj_b01 (by decide))
set_option maxRecDepth 20000 in
theorem l_Tw_firstUnlike_1_14 {r : Option Value} {D y : St} : ∀ (n : Nat) (y2 : Int32) (y3 : Int32) (C : St) (o : (Int32) ⊕ (Unit)), L_Tw_firstUnlike_1_14 n y2 y3 C = some o → (∀ a : Int32, o = .inl a → r = some (.int a) ∧ y = jn C D) → (∀ a : Unit, o = .inr a → mj_R M_Tw_firstUnlike 57 [some (.ref 1), some (.ref 56), some (.int y2), none] [] (SH, jn C D) r (SH, y)) → mj_R M_Tw_firstUnlike 14 [some (.ref 1), some (.ref 56), some (.int y2), some (.int y3)] [] (SH, jn C D) r (SH, y) := by
  intro n
  induction n with
  | zero => intro y2 y3 C o h; cases h
  | succ n ih =>
    intro y2 y3 C o h hE hX
    unfold L_Tw_firstUnlike_1_14 at h
    refine mj_iload_n (pc := 14) (i := 3) d_Tw_firstUnlike_14 rfl rfl ?_
    refine mj_iload_n (pc := 15) (i := 2) d_Tw_firstUnlike_15 rfl rfl ?_
    refine mj_icmp_ge (pc := 16) (tgt := 57) d_Tw_firstUnlike_16 (by decide) mj_hs (fun hc1 => ?_) (fun hc1 => ?_)
    · rw [if_pos hc1] at h
      obtain e_1 := inj1 h
      subst e_1
      exact mj_wk (hX _ rfl) (And.intro rfl (And.intro rfl (And.intro rfl trivial)))
    · rw [if_neg hc1] at h
      refine mj_aload_n (pc := 19) (i := 0) d_Tw_firstUnlike_19 rfl rfl (by decide) ?_
      refine mj_getR (pc := 20) d_Tw_firstUnlike_20 fl_Tw_19 sh_1 rfl rfl (by decide) (by decide) (by decide) ?_
      refine mj_iload_n (pc := 23) (i := 3) d_Tw_firstUnlike_23 rfl rfl ?_
      obtain ⟨hg2, h⟩ := mj_gd h
      refine cj_iald (pc := 24) d_Tw_firstUnlike_24 sh_3 (by decide) hg2 (by decide) ?_
      refine mj_aload_n (pc := 25) (i := 1) d_Tw_firstUnlike_25 rfl rfl (by decide) ?_
      refine mj_getR (pc := 26) d_Tw_firstUnlike_26 fl_Tw_19 sh_56 rfl rfl (by decide) (by decide) (by decide) ?_
      refine mj_iload_n (pc := 29) (i := 3) d_Tw_firstUnlike_29 rfl rfl ?_
      refine cj_iald (pc := 30) d_Tw_firstUnlike_30 sh_58 (by decide) hg2 (by decide) ?_
      refine mj_icmp_ne (pc := 31) (tgt := 49) d_Tw_firstUnlike_31 (by decide) mj_hs (fun hc4 => ?_) (fun hc4 => ?_)
      · rw [if_neg hc4] at h
        refine mj_iload_n (pc := 49) (i := 3) d_Tw_firstUnlike_49 rfl rfl ?_
        obtain e_1 := inj1 h
        subst e_1
        obtain ⟨e1, e2⟩ := hE _ rfl
        subst e1
        subst e2
        exact mj_iret (pc := 50) d_Tw_firstUnlike_50 rfl
      · rw [if_pos hc4] at h
        refine mj_aload_n (pc := 34) (i := 0) d_Tw_firstUnlike_34 rfl rfl (by decide) ?_
        refine mj_getR (pc := 35) d_Tw_firstUnlike_35 fl_Tw_34 sh_1 rfl rfl (by decide) (by decide) (by decide) ?_
        refine mj_aload_n (pc := 38) (i := 1) d_Tw_firstUnlike_38 rfl rfl (by decide) ?_
        refine mj_getR (pc := 39) d_Tw_firstUnlike_39 fl_Tw_34 sh_56 rfl rfl (by decide) (by decide) (by decide) ?_
        refine mj_iload_n (pc := 42) (i := 3) d_Tw_firstUnlike_42 rfl rfl ?_
        obtain ⟨v5, hb6, h⟩ := bd1_some h
        refine mj_callV (pc := 43) (b := 7) (vs := [.ref 62, .int y3]) (st := []) d_Tw_firstUnlike_43 bB_Tw_firstUnlike_Sk_isAlike lk_Tw_85 iv_Sk_isAlike rc_7 rfl (Nat.le_of_ble_eq_true rfl) (Nat.le_of_ble_eq_true rfl) (r_Sk_isAlike_1 hb6) ?_
        show mj_R M_Tw_firstUnlike 46 [some (.ref 1), some (.ref 56), some (.int y2), some (.int y3)] [.int v5] (SH, jn C D) r (SH, y)
        refine mj_if_ne (y := 0) (pc := 46) (tgt := 51) d_Tw_firstUnlike_46 (by decide) mj_hs (fun hc7 => ?_) (fun hc7 => ?_)
        · rw [if_neg hc7] at h
          refine mj_iinc (pc := 51) (i := 3) (v := y3 + 1) d_Tw_firstUnlike_51 rfl (by rfl) rfl (by decide) ?_
          refine mj_goto (pc := 54) (tgt := 14) d_Tw_firstUnlike_54 (by decide) ?_
          exact mj_weak [some (.ref 1), some (.ref 56), some (.int y2), some (.int (y3 + 1))] (And.intro rfl (And.intro rfl (And.intro rfl (And.intro rfl trivial)))) (ih _ _ _ _ h hE hX)
        · rw [if_pos hc7] at h
          refine mj_iload_n (pc := 49) (i := 3) d_Tw_firstUnlike_49 rfl rfl ?_
          obtain e_1 := inj1 h
          subst e_1
          obtain ⟨e1, e2⟩ := hE _ rfl
          subst e1
          subst e2
          exact mj_iret (pc := 50) d_Tw_firstUnlike_50 rfl
set_option maxRecDepth 20000 in
theorem r_Tw_firstUnlike_1  {C0 D : St} {v : Int32} (h : f_Tw_firstUnlike_1 C0 = some v) : mj_R M_Tw_firstUnlike 0 (mj_lv M_Tw_firstUnlike.2.2.1 [.ref 1, .ref 56]) [] (SH, jn C0 D) (some (.int v)) (SH, jn C0 D) := by
  show mj_R M_Tw_firstUnlike 0 [some (.ref 1), some (.ref 56), none, none] [] _ _ _
  unfold f_Tw_firstUnlike_1 at h
  refine mj_aload_n (pc := 0) (i := 0) d_Tw_firstUnlike_0 rfl rfl (by decide) ?_
  refine cj_getI (pc := 1) d_Tw_firstUnlike_1 fl_Tw_59 sh_1 rfl (by decide) (by decide) (by decide) ?_
  refine mj_aload_n (pc := 4) (i := 1) d_Tw_firstUnlike_4 rfl rfl (by decide) ?_
  refine cj_getI (pc := 5) d_Tw_firstUnlike_5 fl_Tw_59 sh_56 rfl (by decide) (by decide) (by decide) ?_
  refine mj_min (pc := 8) d_Tw_firstUnlike_8 mn_Tw_80 (by decide) (Nat.le_of_ble_eq_true rfl) ?_
  refine mj_istore_n (pc := 11) (i := 2) d_Tw_firstUnlike_11 rfl rfl (by decide) ?_
  refine mj_iconst (pc := 12) (v := 0) d_Tw_firstUnlike_12 (by decide) ?_
  refine mj_istore_n (pc := 13) (i := 3) d_Tw_firstUnlike_13 rfl rfl (by decide) ?_
  rcases bdS_some h with ⟨e11, hl8, h⟩ | ⟨_u, hl8, h⟩
  · refine mj_weak [some (.ref 1), some (.ref 56), some (.int (if (C0 56 0) < (C0 1 0) then C0 56 0 else C0 1 0 : Int32)), some (.int 0)] (And.intro rfl (And.intro rfl (And.intro rfl (And.intro rfl trivial)))) (l_Tw_firstUnlike_1_14 3000 _ _ _ _ hl8 (fun a e => ?_) (fun a e => nomatch e))
    cases e
    obtain e_1 := inj1 h
    subst e_1
    exact ⟨rfl, rfl⟩
  · refine mj_weak [some (.ref 1), some (.ref 56), some (.int (if (C0 56 0) < (C0 1 0) then C0 56 0 else C0 1 0 : Int32)), some (.int 0)] (And.intro rfl (And.intro rfl (And.intro rfl (And.intro rfl trivial)))) (l_Tw_firstUnlike_1_14 3000 _ _ _ _ hl8 (fun a e => nomatch e) (fun a e => ?_))
    cases e
    refine mj_aload_n (pc := 57) (i := 0) d_Tw_firstUnlike_57 rfl rfl (by decide) ?_
    refine cj_getI (pc := 58) d_Tw_firstUnlike_58 fl_Tw_59 sh_1 rfl (by decide) (by decide) (by decide) ?_
    refine mj_aload_n (pc := 61) (i := 1) d_Tw_firstUnlike_61 rfl rfl (by decide) ?_
    refine cj_getI (pc := 62) d_Tw_firstUnlike_62 fl_Tw_59 sh_56 rfl (by decide) (by decide) (by decide) ?_
    have k10 : mj_R M_Tw_firstUnlike 74 [none, none, none, none] [.int (if (C0 1 0) = (C0 56 0) then (-1000000005) else (if (C0 56 0) < (C0 1 0) then C0 56 0 else C0 1 0 : Int32) : Int32)] (SH, jn C0 D) (some (.int v)) (SH, jn C0 D) := by
      obtain e_1 := inj1 h
      subst e_1
      exact mj_iret (pc := 74) d_Tw_firstUnlike_74 rfl
    refine mj_icmp_ne (pc := 65) (tgt := 73) d_Tw_firstUnlike_65 (by decide) mj_hs (fun hc9 => ?_) (fun hc9 => ?_)
    · refine mj_iload_n (pc := 73) (i := 2) d_Tw_firstUnlike_73 rfl rfl ?_
      try simp only [if_neg hc9] at k10
      exact mj_wk k10 trivial
    · refine mj_ldc (pc := 68) (v := -1000000005) d_Tw_firstUnlike_68 k_Tw_66 ?_
      refine mj_goto (pc := 70) (tgt := 74) d_Tw_firstUnlike_70 (by decide) ?_
      try simp only [if_pos hc9] at k10
      exact mj_wk k10 trivial
set_option maxRecDepth 20000 in
theorem l_Sk_isAlike_2_17 {r : Option Value} {D y : St} : ∀ (n : Nat) (y3 : Int32) (y4 : Int32) (C : St) (o : (Int32) ⊕ (Unit)), L_Sk_isAlike_2_17 n y3 y4 C = some o → (∀ a : Int32, o = .inl a → r = some (.int a) ∧ y = jn C D) → (∀ a : Unit, o = .inr a → mj_R M_Sk_isAlike 48 [none, none, none, none, none] [] (SH, jn C D) r (SH, y)) → mj_R M_Sk_isAlike 17 [some (.ref 7), some (.ref 78), none, some (.int y3), some (.int y4)] [] (SH, jn C D) r (SH, y) := by
  intro n
  induction n with
  | zero => intro y3 y4 C o h; cases h
  | succ n ih =>
    intro y3 y4 C o h hE hX
    unfold L_Sk_isAlike_2_17 at h
    refine mj_iload (pc := 17) (i := 4) d_Sk_isAlike_17 rfl ?_
    refine mj_iload_n (pc := 19) (i := 3) d_Sk_isAlike_19 rfl rfl ?_
    refine mj_icmp_ge (pc := 20) (tgt := 48) d_Sk_isAlike_20 (by decide) mj_hs (fun hc1 => ?_) (fun hc1 => ?_)
    · rw [if_pos hc1] at h
      obtain e_1 := inj1 h
      subst e_1
      exact mj_wk (hX _ rfl) trivial
    · rw [if_neg hc1] at h
      refine mj_aload_n (pc := 23) (i := 0) d_Sk_isAlike_23 rfl rfl (by decide) ?_
      refine mj_getR (pc := 24) d_Sk_isAlike_24 fl_Sk_9 sh_7 rfl rfl (by decide) (by decide) (by decide) ?_
      refine mj_iload (pc := 27) (i := 4) d_Sk_isAlike_27 rfl ?_
      obtain ⟨hg2, h⟩ := mj_gd h
      refine cj_iald (pc := 29) d_Sk_isAlike_29 sh_8 (by decide) hg2 (by decide) ?_
      refine mj_aload_n (pc := 30) (i := 1) d_Sk_isAlike_30 rfl rfl (by decide) ?_
      refine mj_getR (pc := 31) d_Sk_isAlike_31 fl_Sk_9 sh_78 rfl rfl (by decide) (by decide) (by decide) ?_
      refine mj_iload (pc := 34) (i := 4) d_Sk_isAlike_34 rfl ?_
      refine cj_iald (pc := 36) d_Sk_isAlike_36 sh_79 (by decide) hg2 (by decide) ?_
      refine mj_icmp_eq (pc := 37) (tgt := 42) d_Sk_isAlike_37 (by decide) mj_hs (fun hc4 => ?_) (fun hc4 => ?_)
      · rw [if_pos hc4] at h
        refine mj_iinc (pc := 42) (i := 4) (v := y4 + 1) d_Sk_isAlike_42 rfl (by rfl) rfl (by decide) ?_
        refine mj_goto (pc := 45) (tgt := 17) d_Sk_isAlike_45 (by decide) ?_
        exact mj_weak [some (.ref 7), some (.ref 78), none, some (.int y3), some (.int (y4 + 1))] (And.intro rfl (And.intro rfl (And.intro rfl (And.intro rfl trivial)))) (ih _ _ _ _ h hE hX)
      · rw [if_neg hc4] at h
        refine mj_iconst (pc := 40) (v := 0) d_Sk_isAlike_40 (by decide) ?_
        obtain e_1 := inj1 h
        subst e_1
        obtain ⟨e1, e2⟩ := hE _ rfl
        subst e1
        subst e2
        exact mj_zret (pc := 41) (ty := .boolean) d_Sk_isAlike_41 rfl (mj_b01 (by decide))
set_option maxRecDepth 20000 in
theorem r_Sk_isAlike_2 {x2 : Int32} {C0 D : St} {v : Int32} (h : f_Sk_isAlike_2 x2 C0 = some v) : mj_R M_Sk_isAlike 0 (mj_lv M_Sk_isAlike.2.2.1 [.ref 7, .ref 78, .int x2]) [] (SH, jn C0 D) (some (.int v)) (SH, jn C0 D) := by
  show mj_R M_Sk_isAlike 0 [some (.ref 7), some (.ref 78), some (.int x2), none, none] [] _ _ _
  unfold f_Sk_isAlike_2 at h
  refine mj_iload_n (pc := 0) (i := 2) d_Sk_isAlike_0 rfl rfl ?_
  refine mj_iconst (pc := 1) (v := 1) d_Sk_isAlike_1 (by decide) ?_
  refine mj_iadd (pc := 2) d_Sk_isAlike_2 ?_
  refine mj_iconst (pc := 3) (v := 5) d_Sk_isAlike_3 (by decide) ?_
  refine mj_imul (pc := 4) d_Sk_isAlike_4 ?_
  refine mj_bipush (pc := 5) (v := 10) d_Sk_isAlike_5 (by decide) ?_
  refine mj_imul (pc := 7) d_Sk_isAlike_7 ?_
  refine mj_istore_n (pc := 8) (i := 3) d_Sk_isAlike_8 rfl rfl (by decide) ?_
  refine mj_iload_n (pc := 9) (i := 2) d_Sk_isAlike_9 rfl rfl ?_
  refine mj_iconst (pc := 10) (v := 5) d_Sk_isAlike_10 (by decide) ?_
  refine mj_imul (pc := 11) d_Sk_isAlike_11 ?_
  refine mj_bipush (pc := 12) (v := 10) d_Sk_isAlike_12 (by decide) ?_
  refine mj_imul (pc := 14) d_Sk_isAlike_14 ?_
  refine mj_istore (pc := 15) (i := 4) d_Sk_isAlike_15 rfl (by decide) ?_
  rcases bdS_some h with ⟨e6, hl5, h⟩ | ⟨_u, hl5, h⟩
  · refine mj_weak [some (.ref 7), some (.ref 78), none, some (.int (((x2 + 1) * 5) * 10)), some (.int ((x2 * 5) * 10))] (And.intro rfl (And.intro rfl (And.intro rfl (And.intro rfl trivial)))) (l_Sk_isAlike_2_17 3000 _ _ _ _ hl5 (fun a e => ?_) (fun a e => nomatch e))
    cases e
    obtain e_1 := inj1 h
    subst e_1
    exact ⟨rfl, rfl⟩
  · refine mj_weak [some (.ref 7), some (.ref 78), none, some (.int (((x2 + 1) * 5) * 10)), some (.int ((x2 * 5) * 10))] (And.intro rfl (And.intro rfl (And.intro rfl (And.intro rfl trivial)))) (l_Sk_isAlike_2_17 3000 _ _ _ _ hl5 (fun a e => nomatch e) (fun a e => ?_))
    cases e
    refine mj_iconst (pc := 48) (v := 1) d_Sk_isAlike_48 (by decide) ?_
    obtain e_1 := inj1 h
    subst e_1
    exact mj_zret (pc := 49) (ty := .boolean) d_Sk_isAlike_49 rfl (mj_b01 (by decide))
set_option maxRecDepth 20000 in
theorem l_Tw_firstUnlike_2_14 {r : Option Value} {D y : St} : ∀ (n : Nat) (y2 : Int32) (y3 : Int32) (C : St) (o : (Int32) ⊕ (Unit)), L_Tw_firstUnlike_2_14 n y2 y3 C = some o → (∀ a : Int32, o = .inl a → r = some (.int a) ∧ y = jn C D) → (∀ a : Unit, o = .inr a → mj_R M_Tw_firstUnlike 57 [some (.ref 1), some (.ref 72), some (.int y2), none] [] (SH, jn C D) r (SH, y)) → mj_R M_Tw_firstUnlike 14 [some (.ref 1), some (.ref 72), some (.int y2), some (.int y3)] [] (SH, jn C D) r (SH, y) := by
  intro n
  induction n with
  | zero => intro y2 y3 C o h; cases h
  | succ n ih =>
    intro y2 y3 C o h hE hX
    unfold L_Tw_firstUnlike_2_14 at h
    refine mj_iload_n (pc := 14) (i := 3) d_Tw_firstUnlike_14 rfl rfl ?_
    refine mj_iload_n (pc := 15) (i := 2) d_Tw_firstUnlike_15 rfl rfl ?_
    refine mj_icmp_ge (pc := 16) (tgt := 57) d_Tw_firstUnlike_16 (by decide) mj_hs (fun hc1 => ?_) (fun hc1 => ?_)
    · rw [if_pos hc1] at h
      obtain e_1 := inj1 h
      subst e_1
      exact mj_wk (hX _ rfl) (And.intro rfl (And.intro rfl (And.intro rfl trivial)))
    · rw [if_neg hc1] at h
      refine mj_aload_n (pc := 19) (i := 0) d_Tw_firstUnlike_19 rfl rfl (by decide) ?_
      refine mj_getR (pc := 20) d_Tw_firstUnlike_20 fl_Tw_19 sh_1 rfl rfl (by decide) (by decide) (by decide) ?_
      refine mj_iload_n (pc := 23) (i := 3) d_Tw_firstUnlike_23 rfl rfl ?_
      obtain ⟨hg2, h⟩ := mj_gd h
      refine cj_iald (pc := 24) d_Tw_firstUnlike_24 sh_3 (by decide) hg2 (by decide) ?_
      refine mj_aload_n (pc := 25) (i := 1) d_Tw_firstUnlike_25 rfl rfl (by decide) ?_
      refine mj_getR (pc := 26) d_Tw_firstUnlike_26 fl_Tw_19 sh_72 rfl rfl (by decide) (by decide) (by decide) ?_
      refine mj_iload_n (pc := 29) (i := 3) d_Tw_firstUnlike_29 rfl rfl ?_
      refine cj_iald (pc := 30) d_Tw_firstUnlike_30 sh_74 (by decide) hg2 (by decide) ?_
      refine mj_icmp_ne (pc := 31) (tgt := 49) d_Tw_firstUnlike_31 (by decide) mj_hs (fun hc4 => ?_) (fun hc4 => ?_)
      · rw [if_neg hc4] at h
        refine mj_iload_n (pc := 49) (i := 3) d_Tw_firstUnlike_49 rfl rfl ?_
        obtain e_1 := inj1 h
        subst e_1
        obtain ⟨e1, e2⟩ := hE _ rfl
        subst e1
        subst e2
        exact mj_iret (pc := 50) d_Tw_firstUnlike_50 rfl
      · rw [if_pos hc4] at h
        refine mj_aload_n (pc := 34) (i := 0) d_Tw_firstUnlike_34 rfl rfl (by decide) ?_
        refine mj_getR (pc := 35) d_Tw_firstUnlike_35 fl_Tw_34 sh_1 rfl rfl (by decide) (by decide) (by decide) ?_
        refine mj_aload_n (pc := 38) (i := 1) d_Tw_firstUnlike_38 rfl rfl (by decide) ?_
        refine mj_getR (pc := 39) d_Tw_firstUnlike_39 fl_Tw_34 sh_72 rfl rfl (by decide) (by decide) (by decide) ?_
        refine mj_iload_n (pc := 42) (i := 3) d_Tw_firstUnlike_42 rfl rfl ?_
        obtain ⟨v5, hb6, h⟩ := bd1_some h
        refine mj_callV (pc := 43) (b := 7) (vs := [.ref 78, .int y3]) (st := []) d_Tw_firstUnlike_43 bB_Tw_firstUnlike_Sk_isAlike lk_Tw_85 iv_Sk_isAlike rc_7 rfl (Nat.le_of_ble_eq_true rfl) (Nat.le_of_ble_eq_true rfl) (r_Sk_isAlike_2 hb6) ?_
        show mj_R M_Tw_firstUnlike 46 [some (.ref 1), some (.ref 72), some (.int y2), some (.int y3)] [.int v5] (SH, jn C D) r (SH, y)
        refine mj_if_ne (y := 0) (pc := 46) (tgt := 51) d_Tw_firstUnlike_46 (by decide) mj_hs (fun hc7 => ?_) (fun hc7 => ?_)
        · rw [if_neg hc7] at h
          refine mj_iinc (pc := 51) (i := 3) (v := y3 + 1) d_Tw_firstUnlike_51 rfl (by rfl) rfl (by decide) ?_
          refine mj_goto (pc := 54) (tgt := 14) d_Tw_firstUnlike_54 (by decide) ?_
          exact mj_weak [some (.ref 1), some (.ref 72), some (.int y2), some (.int (y3 + 1))] (And.intro rfl (And.intro rfl (And.intro rfl (And.intro rfl trivial)))) (ih _ _ _ _ h hE hX)
        · rw [if_pos hc7] at h
          refine mj_iload_n (pc := 49) (i := 3) d_Tw_firstUnlike_49 rfl rfl ?_
          obtain e_1 := inj1 h
          subst e_1
          obtain ⟨e1, e2⟩ := hE _ rfl
          subst e1
          subst e2
          exact mj_iret (pc := 50) d_Tw_firstUnlike_50 rfl
set_option maxRecDepth 20000 in
theorem r_Tw_firstUnlike_2  {C0 D : St} {v : Int32} (h : f_Tw_firstUnlike_2 C0 = some v) : mj_R M_Tw_firstUnlike 0 (mj_lv M_Tw_firstUnlike.2.2.1 [.ref 1, .ref 72]) [] (SH, jn C0 D) (some (.int v)) (SH, jn C0 D) := by
  show mj_R M_Tw_firstUnlike 0 [some (.ref 1), some (.ref 72), none, none] [] _ _ _
  unfold f_Tw_firstUnlike_2 at h
  refine mj_aload_n (pc := 0) (i := 0) d_Tw_firstUnlike_0 rfl rfl (by decide) ?_
  refine cj_getI (pc := 1) d_Tw_firstUnlike_1 fl_Tw_59 sh_1 rfl (by decide) (by decide) (by decide) ?_
  refine mj_aload_n (pc := 4) (i := 1) d_Tw_firstUnlike_4 rfl rfl (by decide) ?_
  refine cj_getI (pc := 5) d_Tw_firstUnlike_5 fl_Tw_59 sh_72 rfl (by decide) (by decide) (by decide) ?_
  refine mj_min (pc := 8) d_Tw_firstUnlike_8 mn_Tw_80 (by decide) (Nat.le_of_ble_eq_true rfl) ?_
  refine mj_istore_n (pc := 11) (i := 2) d_Tw_firstUnlike_11 rfl rfl (by decide) ?_
  refine mj_iconst (pc := 12) (v := 0) d_Tw_firstUnlike_12 (by decide) ?_
  refine mj_istore_n (pc := 13) (i := 3) d_Tw_firstUnlike_13 rfl rfl (by decide) ?_
  rcases bdS_some h with ⟨e11, hl8, h⟩ | ⟨_u, hl8, h⟩
  · refine mj_weak [some (.ref 1), some (.ref 72), some (.int (if (C0 72 0) < (C0 1 0) then C0 72 0 else C0 1 0 : Int32)), some (.int 0)] (And.intro rfl (And.intro rfl (And.intro rfl (And.intro rfl trivial)))) (l_Tw_firstUnlike_2_14 3000 _ _ _ _ hl8 (fun a e => ?_) (fun a e => nomatch e))
    cases e
    obtain e_1 := inj1 h
    subst e_1
    exact ⟨rfl, rfl⟩
  · refine mj_weak [some (.ref 1), some (.ref 72), some (.int (if (C0 72 0) < (C0 1 0) then C0 72 0 else C0 1 0 : Int32)), some (.int 0)] (And.intro rfl (And.intro rfl (And.intro rfl (And.intro rfl trivial)))) (l_Tw_firstUnlike_2_14 3000 _ _ _ _ hl8 (fun a e => nomatch e) (fun a e => ?_))
    cases e
    refine mj_aload_n (pc := 57) (i := 0) d_Tw_firstUnlike_57 rfl rfl (by decide) ?_
    refine cj_getI (pc := 58) d_Tw_firstUnlike_58 fl_Tw_59 sh_1 rfl (by decide) (by decide) (by decide) ?_
    refine mj_aload_n (pc := 61) (i := 1) d_Tw_firstUnlike_61 rfl rfl (by decide) ?_
    refine cj_getI (pc := 62) d_Tw_firstUnlike_62 fl_Tw_59 sh_72 rfl (by decide) (by decide) (by decide) ?_
    have k10 : mj_R M_Tw_firstUnlike 74 [none, none, none, none] [.int (if (C0 1 0) = (C0 72 0) then (-1000000005) else (if (C0 72 0) < (C0 1 0) then C0 72 0 else C0 1 0 : Int32) : Int32)] (SH, jn C0 D) (some (.int v)) (SH, jn C0 D) := by
      obtain e_1 := inj1 h
      subst e_1
      exact mj_iret (pc := 74) d_Tw_firstUnlike_74 rfl
    refine mj_icmp_ne (pc := 65) (tgt := 73) d_Tw_firstUnlike_65 (by decide) mj_hs (fun hc9 => ?_) (fun hc9 => ?_)
    · refine mj_iload_n (pc := 73) (i := 2) d_Tw_firstUnlike_73 rfl rfl ?_
      try simp only [if_neg hc9] at k10
      exact mj_wk k10 trivial
    · refine mj_ldc (pc := 68) (v := -1000000005) d_Tw_firstUnlike_68 k_Tw_66 ?_
      refine mj_goto (pc := 70) (tgt := 74) d_Tw_firstUnlike_70 (by decide) ?_
      try simp only [if_pos hc9] at k10
      exact mj_wk k10 trivial
