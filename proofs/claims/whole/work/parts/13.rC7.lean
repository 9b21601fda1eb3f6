set_option maxRecDepth 20000 in
theorem r_Mk_median {x1 : Int32} {C0 D : St} {v : Int32} (h : f_Mk_median x1 C0 = some v) : mj_R M_Mk_median 0 (mj_lv M_Mk_median.2.2.1 [.ref 0, .int x1]) [] (SH, jn C0 D) (some (.int v)) (SH, jn C0 D) := by
  show mj_R M_Mk_median 0 [some (.ref 0), some (.int x1)] [] _ _ _
  unfold f_Mk_median at h
  refine mj_iload_n (pc := 0) (i := 1) d_Mk_median_0 rfl rfl ?_
  obtain ⟨v1, hb2, h⟩ := bd1_some h
  refine mj_callS (pc := 1) (vs := [.int x1]) (st := []) d_Mk_median_1 bB_Mk_median_Mk_isKind lk_Mk_45 st_Mk_isKind rfl (Nat.le_of_ble_eq_true rfl) (Nat.le_of_ble_eq_true rfl) (r_Mk_isKind hb2) ?_
  show mj_R M_Mk_median 4 [some (.ref 0), some (.int x1)] [.int v1] (SH, jn C0 D) (some (.int v)) (SH, jn C0 D)
  obtain ⟨w6, hb8, h⟩ := bd1_some h
  have k7 : mj_R M_Mk_median 20 [none, none] [.int w6] (SH, jn C0 D) (some (.int v)) (SH, jn C0 D) := by
    obtain e_1 := inj1 h
    subst e_1
    exact mj_iret (pc := 20) d_Mk_median_20 rfl
  have h := hb8
  refine mj_if_eq (y := 0) (pc := 4) (tgt := 18) d_Mk_median_4 (by decide) mj_hs (fun hc3 => ?_) (fun hc3 => ?_)
  · rw [if_pos hc3] at h
    refine mj_ldc (pc := 18) (v := -1000000001) d_Mk_median_18 k_Mk_54 ?_
    obtain e_1 := inj1 h
    subst e_1
    exact mj_wk k7 trivial
  · rw [if_neg hc3] at h
    refine mj_aload_n (pc := 7) (i := 0) d_Mk_median_7 rfl rfl (by decide) ?_
    refine mj_getR (pc := 8) d_Mk_median_8 fl_Mk_12 sh_0 rfl rfl (by decide) (by decide) (by decide) ?_
    refine mj_iload_n (pc := 11) (i := 1) d_Mk_median_11 rfl rfl ?_
    obtain ⟨v4, hb5, h⟩ := bd1_some h
    refine mj_callV (pc := 12) (b := 1) (vs := [.int x1]) (st := []) d_Mk_median_12 bB_Mk_median_Tw_middleCash lk_Mk_199 iv_Tw_middleCash rc_1 rfl (Nat.le_of_ble_eq_true rfl) (Nat.le_of_ble_eq_true rfl) (r_Tw_middleCash hb5) ?_
    show mj_R M_Mk_median 15 [some (.ref 0), some (.int x1)] [.int v4] (SH, jn C0 D) (some (.int v)) (SH, jn C0 D)
    refine mj_goto (pc := 15) (tgt := 20) d_Mk_median_15 (by decide) ?_
    obtain e_1 := inj1 h
    subst e_1
    exact mj_wk k7 trivial
set_option maxRecDepth 20000 in
theorem r_Sk_become  {C0 D : St} {C' : St} (h : f_Sk_become C0 = some (C')) : mj_R M_Sk_become 0 (mj_lv M_Sk_become.2.2.1 [.ref 46, .ref 7]) [] (SH, jn C0 D) none (SH, jn (C') D) := by
  show mj_R M_Sk_become 0 [some (.ref 46), some (.ref 7)] [] _ _ _
  unfold f_Sk_become at h
  refine mj_aload_n (pc := 0) (i := 1) d_Sk_become_0 rfl rfl (by decide) ?_
  refine mj_getR (pc := 1) d_Sk_become_1 fl_Sk_9 sh_7 rfl rfl (by decide) (by decide) (by decide) ?_
  refine mj_iconst (pc := 4) (v := 0) d_Sk_become_4 (by decide) ?_
  refine mj_aload_n (pc := 5) (i := 0) d_Sk_become_5 rfl rfl (by decide) ?_
  refine mj_getR (pc := 6) d_Sk_become_6 fl_Sk_9 sh_46 rfl rfl (by decide) (by decide) (by decide) ?_
  refine mj_iconst (pc := 9) (v := 0) d_Sk_become_9 (by decide) ?_
  refine mj_aload_n (pc := 10) (i := 0) d_Sk_become_10 rfl rfl (by decide) ?_
  refine mj_getR (pc := 11) d_Sk_become_11 fl_Sk_9 sh_46 rfl rfl (by decide) (by decide) (by decide) ?_
  refine mj_alen (pc := 14) (v := 600) d_Sk_become_14 sh_47 (by decide) (by decide) ?_
  refine cj_copy (pc := 15) d_Sk_become_15 cp_Sk_34 sh_8 sh_47 (by decide) (by decide) (by decide) (by decide) (Nat.le_of_ble_eq_true rfl) ?_
  show mj_R M_Sk_become 18 [some (.ref 46), some (.ref 7)] [] (SH, jn (mj_cp C0 8 47 0 0 600) D) none (SH, jn (C') D)
  refine mj_aload_n (pc := 18) (i := 1) d_Sk_become_18 rfl rfl (by decide) ?_
  refine mj_getR (pc := 19) d_Sk_become_19 fl_Sk_15 sh_7 rfl rfl (by decide) (by decide) (by decide) ?_
  refine mj_iconst (pc := 22) (v := 0) d_Sk_become_22 (by decide) ?_
  refine mj_aload_n (pc := 23) (i := 0) d_Sk_become_23 rfl rfl (by decide) ?_
  refine mj_getR (pc := 24) d_Sk_become_24 fl_Sk_15 sh_46 rfl rfl (by decide) (by decide) (by decide) ?_
  refine mj_iconst (pc := 27) (v := 0) d_Sk_become_27 (by decide) ?_
  refine mj_aload_n (pc := 28) (i := 0) d_Sk_become_28 rfl rfl (by decide) ?_
  refine mj_getR (pc := 29) d_Sk_become_29 fl_Sk_15 sh_46 rfl rfl (by decide) (by decide) (by decide) ?_
  refine mj_alen (pc := 32) (v := 60) d_Sk_become_32 sh_48 (by decide) (by decide) ?_
  refine cj_copy (pc := 33) d_Sk_become_33 cp_Sk_34 sh_9 sh_48 (by decide) (by decide) (by decide) (by decide) (Nat.le_of_ble_eq_true rfl) ?_
  show mj_R M_Sk_become 36 [some (.ref 46), some (.ref 7)] [] (SH, jn (mj_cp (mj_cp C0 8 47 0 0 600) 9 48 0 0 60) D) none (SH, jn (C') D)
  obtain e_1 := inj1 h
  subst e_1
  exact mj_vret (pc := 36) d_Sk_become_36 rfl
set_option maxRecDepth 20000 in
theorem r_Wr_become  {C0 D : St} {C' : St} (h : f_Wr_become C0 = some (C')) : mj_R M_Wr_become 0 (mj_lv M_Wr_become.2.2.1 [.ref 49, .ref 10]) [] (SH, jn C0 D) none (SH, jn (C') D) := by
  show mj_R M_Wr_become 0 [some (.ref 49), some (.ref 10)] [] _ _ _
  unfold f_Wr_become at h
  refine mj_aload_n (pc := 0) (i := 1) d_Wr_become_0 rfl rfl (by decide) ?_
  refine mj_getR (pc := 1) d_Wr_become_1 fl_Wr_11 sh_10 rfl rfl (by decide) (by decide) (by decide) ?_
  refine mj_iconst (pc := 4) (v := 0) d_Wr_become_4 (by decide) ?_
  refine mj_aload_n (pc := 5) (i := 0) d_Wr_become_5 rfl rfl (by decide) ?_
  refine mj_getR (pc := 6) d_Wr_become_6 fl_Wr_11 sh_49 rfl rfl (by decide) (by decide) (by decide) ?_
  refine mj_iconst (pc := 9) (v := 0) d_Wr_become_9 (by decide) ?_
  refine mj_aload_n (pc := 10) (i := 0) d_Wr_become_10 rfl rfl (by decide) ?_
  refine mj_getR (pc := 11) d_Wr_become_11 fl_Wr_11 sh_49 rfl rfl (by decide) (by decide) (by decide) ?_
  refine mj_alen (pc := 14) (v := 55) d_Wr_become_14 sh_50 (by decide) (by decide) ?_
  refine cj_copy (pc := 15) d_Wr_become_15 cp_Wr_15 sh_11 sh_50 (by decide) (by decide) (by decide) (by decide) (Nat.le_of_ble_eq_true rfl) ?_
  show mj_R M_Wr_become 18 [some (.ref 49), some (.ref 10)] [] (SH, jn (mj_cp C0 11 50 0 0 55) D) none (SH, jn (C') D)
  obtain e_1 := inj1 h
  subst e_1
  exact mj_vret (pc := 18) d_Wr_become_18 rfl
set_option maxRecDepth 20000 in
theorem r_Rl_become  {C0 D : St} {C' : St} (h : f_Rl_become C0 = some (C')) : mj_R M_Rl_become 0 (mj_lv M_Rl_become.2.2.1 [.ref 51, .ref 12]) [] (SH, jn C0 D) none (SH, jn (C') D) := by
  show mj_R M_Rl_become 0 [some (.ref 51), some (.ref 12)] [] _ _ _
  unfold f_Rl_become at h
  refine mj_aload_n (pc := 0) (i := 1) d_Rl_become_0 rfl rfl (by decide) ?_
  refine mj_getR (pc := 1) d_Rl_become_1 fl_Rl_9 sh_12 rfl rfl (by decide) (by decide) (by decide) ?_
  refine mj_iconst (pc := 4) (v := 0) d_Rl_become_4 (by decide) ?_
  refine mj_aload_n (pc := 5) (i := 0) d_Rl_become_5 rfl rfl (by decide) ?_
  refine mj_getR (pc := 6) d_Rl_become_6 fl_Rl_9 sh_51 rfl rfl (by decide) (by decide) (by decide) ?_
  refine mj_iconst (pc := 9) (v := 0) d_Rl_become_9 (by decide) ?_
  refine mj_aload_n (pc := 10) (i := 0) d_Rl_become_10 rfl rfl (by decide) ?_
  refine mj_getR (pc := 11) d_Rl_become_11 fl_Rl_9 sh_51 rfl rfl (by decide) (by decide) (by decide) ?_
  refine mj_alen (pc := 14) (v := 12) d_Rl_become_14 sh_52 (by decide) (by decide) ?_
  refine cj_copy (pc := 15) d_Rl_become_15 cp_Rl_23 sh_13 sh_52 (by decide) (by decide) (by decide) (by decide) (Nat.le_of_ble_eq_true rfl) ?_
  show mj_R M_Rl_become 18 [some (.ref 51), some (.ref 12)] [] (SH, jn (mj_cp C0 13 52 0 0 12) D) none (SH, jn (C') D)
  refine mj_aload_n (pc := 18) (i := 1) d_Rl_become_18 rfl rfl (by decide) ?_
  refine mj_getR (pc := 19) d_Rl_become_19 fl_Rl_15 sh_12 rfl rfl (by decide) (by decide) (by decide) ?_
  refine mj_iconst (pc := 22) (v := 0) d_Rl_become_22 (by decide) ?_
  refine mj_aload_n (pc := 23) (i := 0) d_Rl_become_23 rfl rfl (by decide) ?_
  refine mj_getR (pc := 24) d_Rl_become_24 fl_Rl_15 sh_51 rfl rfl (by decide) (by decide) (by decide) ?_
  refine mj_iconst (pc := 27) (v := 0) d_Rl_become_27 (by decide) ?_
  refine mj_aload_n (pc := 28) (i := 0) d_Rl_become_28 rfl rfl (by decide) ?_
  refine mj_getR (pc := 29) d_Rl_become_29 fl_Rl_15 sh_51 rfl rfl (by decide) (by decide) (by decide) ?_
  refine mj_alen (pc := 32) (v := 648) d_Rl_become_32 sh_53 (by decide) (by decide) ?_
  refine cj_copy (pc := 33) d_Rl_become_33 cp_Rl_23 sh_14 sh_53 (by decide) (by decide) (by decide) (by decide) (Nat.le_of_ble_eq_true rfl) ?_
  show mj_R M_Rl_become 36 [some (.ref 51), some (.ref 12)] [] (SH, jn (mj_cp (mj_cp C0 13 52 0 0 12) 14 53 0 0 648) D) none (SH, jn (C') D)
  obtain e_1 := inj1 h
  subst e_1
  exact mj_vret (pc := 36) d_Rl_become_36 rfl
set_option maxRecDepth 20000 in
theorem r_Ln_become  {C0 D : St} {C' : St} (h : f_Ln_become C0 = some (C')) : mj_R M_Ln_become 0 (mj_lv M_Ln_become.2.2.1 [.ref 54, .ref 15]) [] (SH, jn C0 D) none (SH, jn (C') D) := by
  show mj_R M_Ln_become 0 [some (.ref 54), some (.ref 15)] [] _ _ _
  unfold f_Ln_become at h
  refine mj_aload_n (pc := 0) (i := 0) d_Ln_become_0 rfl rfl (by decide) ?_
  refine mj_aload_n (pc := 1) (i := 1) d_Ln_become_1 rfl rfl (by decide) ?_
  refine cj_getI (pc := 2) d_Ln_become_2 fl_Ln_15 sh_15 rfl (by decide) (by decide) (by decide) ?_
  refine cj_putI (pc := 5) d_Ln_become_5 fl_Ln_15 sh_54 rfl (fun _ _ _ h => by cases h; rfl) (by decide) (by decide) (by decide) ?_
  refine mj_aload_n (pc := 8) (i := 1) d_Ln_become_8 rfl rfl (by decide) ?_
  refine mj_getR (pc := 9) d_Ln_become_9 fl_Ln_11 sh_15 rfl rfl (by decide) (by decide) (by decide) ?_
  refine mj_iconst (pc := 12) (v := 0) d_Ln_become_12 (by decide) ?_
  refine mj_aload_n (pc := 13) (i := 0) d_Ln_become_13 rfl rfl (by decide) ?_
  refine mj_getR (pc := 14) d_Ln_become_14 fl_Ln_11 sh_54 rfl rfl (by decide) (by decide) (by decide) ?_
  refine mj_iconst (pc := 17) (v := 0) d_Ln_become_17 (by decide) ?_
  refine mj_aload_n (pc := 18) (i := 0) d_Ln_become_18 rfl rfl (by decide) ?_
  refine mj_getR (pc := 19) d_Ln_become_19 fl_Ln_11 sh_54 rfl rfl (by decide) (by decide) (by decide) ?_
  refine mj_alen (pc := 22) (v := 80) d_Ln_become_22 sh_55 (by decide) (by decide) ?_
  refine cj_copy (pc := 23) d_Ln_become_23 cp_Ln_69 sh_16 sh_55 (by decide) (by decide) (by decide) (by decide) (Nat.le_of_ble_eq_true rfl) ?_
  show mj_R M_Ln_become 26 [some (.ref 54), some (.ref 15)] [] (SH, jn (mj_cp (mj_wr C0 54 0 (C0 15 0)) 16 55 0 0 80) D) none (SH, jn (C') D)
  obtain e_1 := inj1 h
  subst e_1
  exact mj_vret (pc := 26) d_Ln_become_26 rfl
set_option maxRecDepth 20000 in
theorem r_Tw_become  {C0 D : St} {C' : St} (h : f_Tw_become C0 = some (C')) : mj_R M_Tw_become 0 (mj_lv M_Tw_become.2.2.1 [.ref 40, .ref 1]) [] (SH, jn C0 D) none (SH, jn (C') D) := by
  show mj_R M_Tw_become 0 [some (.ref 40), some (.ref 1)] [] _ _ _
  unfold f_Tw_become at h
  refine mj_aload_n (pc := 0) (i := 0) d_Tw_become_0 rfl rfl (by decide) ?_
  refine mj_aload_n (pc := 1) (i := 1) d_Tw_become_1 rfl rfl (by decide) ?_
  refine cj_getI (pc := 2) d_Tw_become_2 fl_Tw_59 sh_1 rfl (by decide) (by decide) (by decide) ?_
  refine cj_putI (pc := 5) d_Tw_become_5 fl_Tw_59 sh_40 rfl (fun _ _ _ h => by cases h; rfl) (by decide) (by decide) (by decide) ?_
  refine mj_aload_n (pc := 8) (i := 0) d_Tw_become_8 rfl rfl (by decide) ?_
  refine mj_aload_n (pc := 9) (i := 1) d_Tw_become_9 rfl rfl (by decide) ?_
  refine cj_getI (pc := 10) d_Tw_become_10 fl_Tw_89 sh_1 rfl (by decide) (by decide) (by decide) ?_
  refine cj_putI (pc := 13) d_Tw_become_13 fl_Tw_89 sh_40 rfl (fun _ _ _ h => by cases h; rfl) (by decide) (by decide) (by decide) ?_
  refine mj_aload_n (pc := 16) (i := 0) d_Tw_become_16 rfl rfl (by decide) ?_
  refine mj_aload_n (pc := 17) (i := 1) d_Tw_become_17 rfl rfl (by decide) ?_
  refine cj_getI (pc := 18) d_Tw_become_18 fl_Tw_9 sh_1 rfl (by decide) (by decide) (by decide) ?_
  refine cj_putI (pc := 21) d_Tw_become_21 fl_Tw_9 sh_40 rfl (fun _ _ _ h => by cases h; rfl) (by decide) (by decide) (by decide) ?_
  refine mj_aload_n (pc := 24) (i := 0) d_Tw_become_24 rfl rfl (by decide) ?_
  refine mj_aload_n (pc := 25) (i := 1) d_Tw_become_25 rfl rfl (by decide) ?_
  refine cj_getI (pc := 26) d_Tw_become_26 fl_Tw_92 sh_1 rfl (by decide) (by decide) (by decide) ?_
  refine cj_putI (pc := 29) d_Tw_become_29 fl_Tw_92 sh_40 rfl (fun _ _ _ h => by cases h; rfl) (by decide) (by decide) (by decide) ?_
  refine mj_aload_n (pc := 32) (i := 0) d_Tw_become_32 rfl rfl (by decide) ?_
  refine mj_aload_n (pc := 33) (i := 1) d_Tw_become_33 rfl rfl (by decide) ?_
  refine cj_getI (pc := 34) d_Tw_become_34 fl_Tw_95 sh_1 rfl (by decide) (by decide) (by decide) ?_
  refine cj_putI (pc := 37) d_Tw_become_37 fl_Tw_95 sh_40 rfl (fun _ _ _ h => by cases h; rfl) (by decide) (by decide) (by decide) ?_
  refine mj_aload_n (pc := 40) (i := 1) d_Tw_become_40 rfl rfl (by decide) ?_
  refine mj_getR (pc := 41) d_Tw_become_41 fl_Tw_15 sh_1 rfl rfl (by decide) (by decide) (by decide) ?_
  refine mj_iconst (pc := 44) (v := 0) d_Tw_become_44 (by decide) ?_
  refine mj_aload_n (pc := 45) (i := 0) d_Tw_become_45 rfl rfl (by decide) ?_
  refine mj_getR (pc := 46) d_Tw_become_46 fl_Tw_15 sh_40 rfl rfl (by decide) (by decide) (by decide) ?_
  refine mj_iconst (pc := 49) (v := 0) d_Tw_become_49 (by decide) ?_
  refine mj_aload_n (pc := 50) (i := 0) d_Tw_become_50 rfl rfl (by decide) ?_
  refine mj_getR (pc := 51) d_Tw_become_51 fl_Tw_15 sh_40 rfl rfl (by decide) (by decide) (by decide) ?_
  refine mj_alen (pc := 54) (v := 12) d_Tw_become_54 sh_41 (by decide) (by decide) ?_
  refine cj_copy (pc := 55) d_Tw_become_55 cp_Tw_98 sh_2 sh_41 (by decide) (by decide) (by decide) (by decide) (Nat.le_of_ble_eq_true rfl) ?_
  show mj_R M_Tw_become 58 [some (.ref 40), some (.ref 1)] [] (SH, jn (mj_cp (mj_wr (mj_wr (mj_wr (mj_wr (mj_wr C0 40 0 (C0 1 0)) 40 1 (mj_wr C0 40 0 (C0 1 0) 1 1)) 40 2 (mj_wr (mj_wr C0 40 0 (C0 1 0)) 40 1 (mj_wr C0 40 0 (C0 1 0) 1 1) 1 2)) 40 3 (mj_wr (mj_wr (mj_wr C0 40 0 (C0 1 0)) 40 1 (mj_wr C0 40 0 (C0 1 0) 1 1)) 40 2 (mj_wr (mj_wr C0 40 0 (C0 1 0)) 40 1 (mj_wr C0 40 0 (C0 1 0) 1 1) 1 2) 1 3)) 40 4 (mj_wr (mj_wr (mj_wr (mj_wr C0 40 0 (C0 1 0)) 40 1 (mj_wr C0 40 0 (C0 1 0) 1 1)) 40 2 (mj_wr (mj_wr C0 40 0 (C0 1 0)) 40 1 (mj_wr C0 40 0 (C0 1 0) 1 1) 1 2)) 40 3 (mj_wr (mj_wr (mj_wr C0 40 0 (C0 1 0)) 40 1 (mj_wr C0 40 0 (C0 1 0) 1 1)) 40 2 (mj_wr (mj_wr C0 40 0 (C0 1 0)) 40 1 (mj_wr C0 40 0 (C0 1 0) 1 1) 1 2) 1 3) 1 4)) 2 41 0 0 12) D) none (SH, jn (C') D)
  refine mj_aload_n (pc := 58) (i := 1) d_Tw_become_58 rfl rfl (by decide) ?_
  refine mj_getR (pc := 59) d_Tw_become_59 fl_Tw_19 sh_1 rfl rfl (by decide) (by decide) (by decide) ?_
  refine mj_iconst (pc := 62) (v := 0) d_Tw_become_62 (by decide) ?_
  refine mj_aload_n (pc := 63) (i := 0) d_Tw_become_63 rfl rfl (by decide) ?_
  refine mj_getR (pc := 64) d_Tw_become_64 fl_Tw_19 sh_40 rfl rfl (by decide) (by decide) (by decide) ?_
  refine mj_iconst (pc := 67) (v := 0) d_Tw_become_67 (by decide) ?_
  refine mj_aload_n (pc := 68) (i := 0) d_Tw_become_68 rfl rfl (by decide) ?_
  refine mj_getR (pc := 69) d_Tw_become_69 fl_Tw_19 sh_40 rfl rfl (by decide) (by decide) (by decide) ?_
  refine mj_alen (pc := 72) (v := 12) d_Tw_become_72 sh_42 (by decide) (by decide) ?_
  refine cj_copy (pc := 73) d_Tw_become_73 cp_Tw_98 sh_3 sh_42 (by decide) (by decide) (by decide) (by decide) (Nat.le_of_ble_eq_true rfl) ?_
  show mj_R M_Tw_become 76 [some (.ref 40), some (.ref 1)] [] (SH, jn (mj_cp (mj_cp (mj_wr (mj_wr (mj_wr (mj_wr (mj_wr C0 40 0 (C0 1 0)) 40 1 (mj_wr C0 40 0 (C0 1 0) 1 1)) 40 2 (mj_wr (mj_wr C0 40 0 (C0 1 0)) 40 1 (mj_wr C0 40 0 (C0 1 0) 1 1) 1 2)) 40 3 (mj_wr (mj_wr (mj_wr C0 40 0 (C0 1 0)) 40 1 (mj_wr C0 40 0 (C0 1 0) 1 1)) 40 2 (mj_wr (mj_wr C0 40 0 (C0 1 0)) 40 1 (mj_wr C0 40 0 (C0 1 0) 1 1) 1 2) 1 3)) 40 4 (mj_wr (mj_wr (mj_wr (mj_wr C0 40 0 (C0 1 0)) 40 1 (mj_wr C0 40 0 (C0 1 0) 1 1)) 40 2 (mj_wr (mj_wr C0 40 0 (C0 1 0)) 40 1 (mj_wr C0 40 0 (C0 1 0) 1 1) 1 2)) 40 3 (mj_wr (mj_wr (mj_wr C0 40 0 (C0 1 0)) 40 1 (mj_wr C0 40 0 (C0 1 0) 1 1)) 40 2 (mj_wr (mj_wr C0 40 0 (C0 1 0)) 40 1 (mj_wr C0 40 0 (C0 1 0) 1 1) 1 2) 1 3) 1 4)) 2 41 0 0 12) 3 42 0 0 12) D) none (SH, jn (C') D)
  refine mj_aload_n (pc := 76) (i := 1) d_Tw_become_76 rfl rfl (by decide) ?_
  refine mj_getR (pc := 77) d_Tw_become_77 fl_Tw_22 sh_1 rfl rfl (by decide) (by decide) (by decide) ?_
  refine mj_iconst (pc := 80) (v := 0) d_Tw_become_80 (by decide) ?_
  refine mj_aload_n (pc := 81) (i := 0) d_Tw_become_81 rfl rfl (by decide) ?_
  refine mj_getR (pc := 82) d_Tw_become_82 fl_Tw_22 sh_40 rfl rfl (by decide) (by decide) (by decide) ?_
  refine mj_iconst (pc := 85) (v := 0) d_Tw_become_85 (by decide) ?_
  refine mj_aload_n (pc := 86) (i := 0) d_Tw_become_86 rfl rfl (by decide) ?_
  refine mj_getR (pc := 87) d_Tw_become_87 fl_Tw_22 sh_40 rfl rfl (by decide) (by decide) (by decide) ?_
  refine mj_alen (pc := 90) (v := 12) d_Tw_become_90 sh_43 (by decide) (by decide) ?_
  refine cj_copy (pc := 91) d_Tw_become_91 cp_Tw_98 sh_4 sh_43 (by decide) (by decide) (by decide) (by decide) (Nat.le_of_ble_eq_true rfl) ?_
  show mj_R M_Tw_become 94 [some (.ref 40), some (.ref 1)] [] (SH, jn (mj_cp (mj_cp (mj_cp (mj_wr (mj_wr (mj_wr (mj_wr (mj_wr C0 40 0 (C0 1 0)) 40 1 (mj_wr C0 40 0 (C0 1 0) 1 1)) 40 2 (mj_wr (mj_wr C0 40 0 (C0 1 0)) 40 1 (mj_wr C0 40 0 (C0 1 0) 1 1) 1 2)) 40 3 (mj_wr (mj_wr (mj_wr C0 40 0 (C0 1 0)) 40 1 (mj_wr C0 40 0 (C0 1 0) 1 1)) 40 2 (mj_wr (mj_wr C0 40 0 (C0 1 0)) 40 1 (mj_wr C0 40 0 (C0 1 0) 1 1) 1 2) 1 3)) 40 4 (mj_wr (mj_wr (mj_wr (mj_wr C0 40 0 (C0 1 0)) 40 1 (mj_wr C0 40 0 (C0 1 0) 1 1)) 40 2 (mj_wr (mj_wr C0 40 0 (C0 1 0)) 40 1 (mj_wr C0 40 0 (C0 1 0) 1 1) 1 2)) 40 3 (mj_wr (mj_wr (mj_wr C0 40 0 (C0 1 0)) 40 1 (mj_wr C0 40 0 (C0 1 0) 1 1)) 40 2 (mj_wr (mj_wr C0 40 0 (C0 1 0)) 40 1 (mj_wr C0 40 0 (C0 1 0) 1 1) 1 2) 1 3) 1 4)) 2 41 0 0 12) 3 42 0 0 12) 4 43 0 0 12) D) none (SH, jn (C') D)
  refine mj_aload_n (pc := 94) (i := 1) d_Tw_become_94 rfl rfl (by decide) ?_
  refine mj_getR (pc := 95) d_Tw_become_95 fl_Tw_25 sh_1 rfl rfl (by decide) (by decide) (by decide) ?_
  refine mj_iconst (pc := 98) (v := 0) d_Tw_become_98 (by decide) ?_
  refine mj_aload_n (pc := 99) (i := 0) d_Tw_become_99 rfl rfl (by decide) ?_
  refine mj_getR (pc := 100) d_Tw_become_100 fl_Tw_25 sh_40 rfl rfl (by decide) (by decide) (by decide) ?_
  refine mj_iconst (pc := 103) (v := 0) d_Tw_become_103 (by decide) ?_
  refine mj_aload_n (pc := 104) (i := 0) d_Tw_become_104 rfl rfl (by decide) ?_
  refine mj_getR (pc := 105) d_Tw_become_105 fl_Tw_25 sh_40 rfl rfl (by decide) (by decide) (by decide) ?_
  refine mj_alen (pc := 108) (v := 12) d_Tw_become_108 sh_44 (by decide) (by decide) ?_
  refine cj_copy (pc := 109) d_Tw_become_109 cp_Tw_98 sh_5 sh_44 (by decide) (by decide) (by decide) (by decide) (Nat.le_of_ble_eq_true rfl) ?_
  show mj_R M_Tw_become 112 [some (.ref 40), some (.ref 1)] [] (SH, jn (mj_cp (mj_cp (mj_cp (mj_cp (mj_wr (mj_wr (mj_wr (mj_wr (mj_wr C0 40 0 (C0 1 0)) 40 1 (mj_wr C0 40 0 (C0 1 0) 1 1)) 40 2 (mj_wr (mj_wr C0 40 0 (C0 1 0)) 40 1 (mj_wr C0 40 0 (C0 1 0) 1 1) 1 2)) 40 3 (mj_wr (mj_wr (mj_wr C0 40 0 (C0 1 0)) 40 1 (mj_wr C0 40 0 (C0 1 0) 1 1)) 40 2 (mj_wr (mj_wr C0 40 0 (C0 1 0)) 40 1 (mj_wr C0 40 0 (C0 1 0) 1 1) 1 2) 1 3)) 40 4 (mj_wr (mj_wr (mj_wr (mj_wr C0 40 0 (C0 1 0)) 40 1 (mj_wr C0 40 0 (C0 1 0) 1 1)) 40 2 (mj_wr (mj_wr C0 40 0 (C0 1 0)) 40 1 (mj_wr C0 40 0 (C0 1 0) 1 1) 1 2)) 40 3 (mj_wr (mj_wr (mj_wr C0 40 0 (C0 1 0)) 40 1 (mj_wr C0 40 0 (C0 1 0) 1 1)) 40 2 (mj_wr (mj_wr C0 40 0 (C0 1 0)) 40 1 (mj_wr C0 40 0 (C0 1 0) 1 1) 1 2) 1 3) 1 4)) 2 41 0 0 12) 3 42 0 0 12) 4 43 0 0 12) 5 44 0 0 12) D) none (SH, jn (C') D)
  refine mj_aload_n (pc := 112) (i := 1) d_Tw_become_112 rfl rfl (by decide) ?_
  refine mj_getR (pc := 113) d_Tw_become_113 fl_Tw_28 sh_1 rfl rfl (by decide) (by decide) (by decide) ?_
  refine mj_iconst (pc := 116) (v := 0) d_Tw_become_116 (by decide) ?_
  refine mj_aload_n (pc := 117) (i := 0) d_Tw_become_117 rfl rfl (by decide) ?_
  refine mj_getR (pc := 118) d_Tw_become_118 fl_Tw_28 sh_40 rfl rfl (by decide) (by decide) (by decide) ?_
  refine mj_iconst (pc := 121) (v := 0) d_Tw_become_121 (by decide) ?_
  refine mj_aload_n (pc := 122) (i := 0) d_Tw_become_122 rfl rfl (by decide) ?_
  refine mj_getR (pc := 123) d_Tw_become_123 fl_Tw_28 sh_40 rfl rfl (by decide) (by decide) (by decide) ?_
  refine mj_alen (pc := 126) (v := 720) d_Tw_become_126 sh_45 (by decide) (by decide) ?_
  refine cj_copy (pc := 127) d_Tw_become_127 cp_Tw_98 sh_6 sh_45 (by decide) (by decide) (by decide) (by decide) (Nat.le_of_ble_eq_true rfl) ?_
  show mj_R M_Tw_become 130 [some (.ref 40), some (.ref 1)] [] (SH, jn (mj_cp (mj_cp (mj_cp (mj_cp (mj_cp (mj_wr (mj_wr (mj_wr (mj_wr (mj_wr C0 40 0 (C0 1 0)) 40 1 (mj_wr C0 40 0 (C0 1 0) 1 1)) 40 2 (mj_wr (mj_wr C0 40 0 (C0 1 0)) 40 1 (mj_wr C0 40 0 (C0 1 0) 1 1) 1 2)) 40 3 (mj_wr (mj_wr (mj_wr C0 40 0 (C0 1 0)) 40 1 (mj_wr C0 40 0 (C0 1 0) 1 1)) 40 2 (mj_wr (mj_wr C0 40 0 (C0 1 0)) 40 1 (mj_wr C0 40 0 (C0 1 0) 1 1) 1 2) 1 3)) 40 4 (mj_wr (mj_wr (mj_wr (mj_wr C0 40 0 (C0 1 0)) 40 1 (mj_wr C0 40 0 (C0 1 0) 1 1)) 40 2 (mj_wr (mj_wr C0 40 0 (C0 1 0)) 40 1 (mj_wr C0 40 0 (C0 1 0) 1 1) 1 2)) 40 3 (mj_wr (mj_wr (mj_wr C0 40 0 (C0 1 0)) 40 1 (mj_wr C0 40 0 (C0 1 0) 1 1)) 40 2 (mj_wr (mj_wr C0 40 0 (C0 1 0)) 40 1 (mj_wr C0 40 0 (C0 1 0) 1 1) 1 2) 1 3) 1 4)) 2 41 0 0 12) 3 42 0 0 12) 4 43 0 0 12) 5 44 0 0 12) 6 45 0 0 720) D) none (SH, jn (C') D)
  refine mj_aload_n (pc := 130) (i := 0) d_Tw_become_130 rfl rfl (by decide) ?_
  refine mj_getR (pc := 131) d_Tw_become_131 fl_Tw_34 sh_40 rfl rfl (by decide) (by decide) (by decide) ?_
  refine mj_aload_n (pc := 134) (i := 1) d_Tw_become_134 rfl rfl (by decide) ?_
  refine mj_getR (pc := 135) d_Tw_become_135 fl_Tw_34 sh_1 rfl rfl (by decide) (by decide) (by decide) ?_
  obtain ⟨C1, hb2, h⟩ := bd1_some h
  refine mj_callV (pc := 138) (b := 46) (vs := [.ref 7]) (st := []) d_Tw_become_138 bB_Tw_become_Sk_become lk_Tw_104 iv_Sk_become rc_46 rfl (Nat.le_of_ble_eq_true rfl) (Nat.le_of_ble_eq_true rfl) (r_Sk_become hb2) ?_
  show mj_R M_Tw_become 141 [some (.ref 40), some (.ref 1)] [] (SH, jn C1 D) none (SH, jn (C') D)
  refine mj_aload_n (pc := 141) (i := 0) d_Tw_become_141 rfl rfl (by decide) ?_
  refine mj_getR (pc := 142) d_Tw_become_142 fl_Tw_41 sh_40 rfl rfl (by decide) (by decide) (by decide) ?_
  refine mj_aload_n (pc := 145) (i := 1) d_Tw_become_145 rfl rfl (by decide) ?_
  refine mj_getR (pc := 146) d_Tw_become_146 fl_Tw_41 sh_1 rfl rfl (by decide) (by decide) (by decide) ?_
  obtain ⟨C3, hb4, h⟩ := bd1_some h
  refine mj_callV (pc := 149) (b := 49) (vs := [.ref 10]) (st := []) d_Tw_become_149 bB_Tw_become_Wr_become lk_Tw_108 iv_Wr_become rc_49 rfl (Nat.le_of_ble_eq_true rfl) (Nat.le_of_ble_eq_true rfl) (r_Wr_become hb4) ?_
  show mj_R M_Tw_become 152 [some (.ref 40), some (.ref 1)] [] (SH, jn C3 D) none (SH, jn (C') D)
  refine mj_aload_n (pc := 152) (i := 0) d_Tw_become_152 rfl rfl (by decide) ?_
  refine mj_getR (pc := 153) d_Tw_become_153 fl_Tw_48 sh_40 rfl rfl (by decide) (by decide) (by decide) ?_
  refine mj_aload_n (pc := 156) (i := 1) d_Tw_become_156 rfl rfl (by decide) ?_
  refine mj_getR (pc := 157) d_Tw_become_157 fl_Tw_48 sh_1 rfl rfl (by decide) (by decide) (by decide) ?_
  obtain ⟨C5, hb6, h⟩ := bd1_some h
  refine mj_callV (pc := 160) (b := 51) (vs := [.ref 12]) (st := []) d_Tw_become_160 bB_Tw_become_Rl_become lk_Tw_111 iv_Rl_become rc_51 rfl (Nat.le_of_ble_eq_true rfl) (Nat.le_of_ble_eq_true rfl) (r_Rl_become hb6) ?_
  show mj_R M_Tw_become 163 [some (.ref 40), some (.ref 1)] [] (SH, jn C5 D) none (SH, jn (C') D)
  refine mj_aload_n (pc := 163) (i := 0) d_Tw_become_163 rfl rfl (by decide) ?_
  refine mj_getR (pc := 164) d_Tw_become_164 fl_Tw_55 sh_40 rfl rfl (by decide) (by decide) (by decide) ?_
  refine mj_aload_n (pc := 167) (i := 1) d_Tw_become_167 rfl rfl (by decide) ?_
  refine mj_getR (pc := 168) d_Tw_become_168 fl_Tw_55 sh_1 rfl rfl (by decide) (by decide) (by decide) ?_
  obtain ⟨C7, hb8, h⟩ := bd1_some h
  refine mj_callV (pc := 171) (b := 54) (vs := [.ref 15]) (st := []) d_Tw_become_171 bB_Tw_become_Ln_become lk_Tw_114 iv_Ln_become rc_54 rfl (Nat.le_of_ble_eq_true rfl) (Nat.le_of_ble_eq_true rfl) (r_Ln_become hb8) ?_
  show mj_R M_Tw_become 174 [some (.ref 40), some (.ref 1)] [] (SH, jn C7 D) none (SH, jn (C') D)
  obtain e_1 := inj1 h
  subst e_1
  exact mj_vret (pc := 174) d_Tw_become_174 rfl
set_option maxRecDepth 20000 in
theorem r_Sk_become_1  {C0 D : St} {C' : St} (h : f_Sk_become_1 C0 = some (C')) : mj_R M_Sk_become 0 (mj_lv M_Sk_become.2.2.1 [.ref 62, .ref 7]) [] (SH, jn C0 D) none (SH, jn (C') D) := by
  show mj_R M_Sk_become 0 [some (.ref 62), some (.ref 7)] [] _ _ _
  unfold f_Sk_become_1 at h
  refine mj_aload_n (pc := 0) (i := 1) d_Sk_become_0 rfl rfl (by decide) ?_
  refine mj_getR (pc := 1) d_Sk_become_1 fl_Sk_9 sh_7 rfl rfl (by decide) (by decide) (by decide) ?_
  refine mj_iconst (pc := 4) (v := 0) d_Sk_become_4 (by decide) ?_
  refine mj_aload_n (pc := 5) (i := 0) d_Sk_become_5 rfl rfl (by decide) ?_
  refine mj_getR (pc := 6) d_Sk_become_6 fl_Sk_9 sh_62 rfl rfl (by decide) (by decide) (by decide) ?_
  refine mj_iconst (pc := 9) (v := 0) d_Sk_become_9 (by decide) ?_
  refine mj_aload_n (pc := 10) (i := 0) d_Sk_become_10 rfl rfl (by decide) ?_
  refine mj_getR (pc := 11) d_Sk_become_11 fl_Sk_9 sh_62 rfl rfl (by decide) (by decide) (by decide) ?_
  refine mj_alen (pc := 14) (v := 600) d_Sk_become_14 sh_63 (by decide) (by decide) ?_
  refine cj_copy (pc := 15) d_Sk_become_15 cp_Sk_34 sh_8 sh_63 (by decide) (by decide) (by decide) (by decide) (Nat.le_of_ble_eq_true rfl) ?_
  show mj_R M_Sk_become 18 [some (.ref 62), some (.ref 7)] [] (SH, jn (mj_cp C0 8 63 0 0 600) D) none (SH, jn (C') D)
  refine mj_aload_n (pc := 18) (i := 1) d_Sk_become_18 rfl rfl (by decide) ?_
  refine mj_getR (pc := 19) d_Sk_become_19 fl_Sk_15 sh_7 rfl rfl (by decide) (by decide) (by decide) ?_
  refine mj_iconst (pc := 22) (v := 0) d_Sk_become_22 (by decide) ?_
  refine mj_aload_n (pc := 23) (i := 0) d_Sk_become_23 rfl rfl (by decide) ?_
  refine mj_getR (pc := 24) d_Sk_become_24 fl_Sk_15 sh_62 rfl rfl (by decide) (by decide) (by decide) ?_
  refine mj_iconst (pc := 27) (v := 0) d_Sk_become_27 (by decide) ?_
  refine mj_aload_n (pc := 28) (i := 0) d_Sk_become_28 rfl rfl (by decide) ?_
  refine mj_getR (pc := 29) d_Sk_become_29 fl_Sk_15 sh_62 rfl rfl (by decide) (by decide) (by decide) ?_
  refine mj_alen (pc := 32) (v := 60) d_Sk_become_32 sh_64 (by decide) (by decide) ?_
  refine cj_copy (pc := 33) d_Sk_become_33 cp_Sk_34 sh_9 sh_64 (by decide) (by decide) (by decide) (by decide) (Nat.le_of_ble_eq_true rfl) ?_
  show mj_R M_Sk_become 36 [some (.ref 62), some (.ref 7)] [] (SH, jn (mj_cp (mj_cp C0 8 63 0 0 600) 9 64 0 0 60) D) none (SH, jn (C') D)
  obtain e_1 := inj1 h
  subst e_1
  exact mj_vret (pc := 36) d_Sk_become_36 rfl
set_option maxRecDepth 20000 in
theorem r_Wr_become_1  {C0 D : St} {C' : St} (h : f_Wr_become_1 C0 = some (C')) : mj_R M_Wr_become 0 (mj_lv M_Wr_become.2.2.1 [.ref 65, .ref 10]) [] (SH, jn C0 D) none (SH, jn (C') D) := by
  show mj_R M_Wr_become 0 [some (.ref 65), some (.ref 10)] [] _ _ _
  unfold f_Wr_become_1 at h
  refine mj_aload_n (pc := 0) (i := 1) d_Wr_become_0 rfl rfl (by decide) ?_
  refine mj_getR (pc := 1) d_Wr_become_1 fl_Wr_11 sh_10 rfl rfl (by decide) (by decide) (by decide) ?_
  refine mj_iconst (pc := 4) (v := 0) d_Wr_become_4 (by decide) ?_
  refine mj_aload_n (pc := 5) (i := 0) d_Wr_become_5 rfl rfl (by decide) ?_
  refine mj_getR (pc := 6) d_Wr_become_6 fl_Wr_11 sh_65 rfl rfl (by decide) (by decide) (by decide) ?_
  refine mj_iconst (pc := 9) (v := 0) d_Wr_become_9 (by decide) ?_
  refine mj_aload_n (pc := 10) (i := 0) d_Wr_become_10 rfl rfl (by decide) ?_
  refine mj_getR (pc := 11) d_Wr_become_11 fl_Wr_11 sh_65 rfl rfl (by decide) (by decide) (by decide) ?_
  refine mj_alen (pc := 14) (v := 55) d_Wr_become_14 sh_66 (by decide) (by decide) ?_
  refine cj_copy (pc := 15) d_Wr_become_15 cp_Wr_15 sh_11 sh_66 (by decide) (by decide) (by decide) (by decide) (Nat.le_of_ble_eq_true rfl) ?_
  show mj_R M_Wr_become 18 [some (.ref 65), some (.ref 10)] [] (SH, jn (mj_cp C0 11 66 0 0 55) D) none (SH, jn (C') D)
  obtain e_1 := inj1 h
  subst e_1
  exact mj_vret (pc := 18) d_Wr_become_18 rfl
set_option maxRecDepth 20000 in
theorem r_Rl_become_1  {C0 D : St} {C' : St} (h : f_Rl_become_1 C0 = some (C')) : mj_R M_Rl_become 0 (mj_lv M_Rl_become.2.2.1 [.ref 67, .ref 12]) [] (SH, jn C0 D) none (SH, jn (C') D) := by
  show mj_R M_Rl_become 0 [some (.ref 67), some (.ref 12)] [] _ _ _
  unfold f_Rl_become_1 at h
  refine mj_aload_n (pc := 0) (i := 1) d_Rl_become_0 rfl rfl (by decide) ?_
  refine mj_getR (pc := 1) d_Rl_become_1 fl_Rl_9 sh_12 rfl rfl (by decide) (by decide) (by decide) ?_
  refine mj_iconst (pc := 4) (v := 0) d_Rl_become_4 (by decide) ?_
  refine mj_aload_n (pc := 5) (i := 0) d_Rl_become_5 rfl rfl (by decide) ?_
  refine mj_getR (pc := 6) d_Rl_become_6 fl_Rl_9 sh_67 rfl rfl (by decide) (by decide) (by decide) ?_
  refine mj_iconst (pc := 9) (v := 0) d_Rl_become_9 (by decide) ?_
  refine mj_aload_n (pc := 10) (i := 0) d_Rl_become_10 rfl rfl (by decide) ?_
  refine mj_getR (pc := 11) d_Rl_become_11 fl_Rl_9 sh_67 rfl rfl (by decide) (by decide) (by decide) ?_
  refine mj_alen (pc := 14) (v := 12) d_Rl_become_14 sh_68 (by decide) (by decide) ?_
  refine cj_copy (pc := 15) d_Rl_become_15 cp_Rl_23 sh_13 sh_68 (by decide) (by decide) (by decide) (by decide) (Nat.le_of_ble_eq_true rfl) ?_
  show mj_R M_Rl_become 18 [some (.ref 67), some (.ref 12)] [] (SH, jn (mj_cp C0 13 68 0 0 12) D) none (SH, jn (C') D)
  refine mj_aload_n (pc := 18) (i := 1) d_Rl_become_18 rfl rfl (by decide) ?_
  refine mj_getR (pc := 19) d_Rl_become_19 fl_Rl_15 sh_12 rfl rfl (by decide) (by decide) (by decide) ?_
  refine mj_iconst (pc := 22) (v := 0) d_Rl_become_22 (by decide) ?_
  refine mj_aload_n (pc := 23) (i := 0) d_Rl_become_23 rfl rfl (by decide) ?_
  refine mj_getR (pc := 24) d_Rl_become_24 fl_Rl_15 sh_67 rfl rfl (by decide) (by decide) (by decide) ?_
  refine mj_iconst (pc := 27) (v := 0) d_Rl_become_27 (by decide) ?_
  refine mj_aload_n (pc := 28) (i := 0) d_Rl_become_28 rfl rfl (by decide) ?_
  refine mj_getR (pc := 29) d_Rl_become_29 fl_Rl_15 sh_67 rfl rfl (by decide) (by decide) (by decide) ?_
  refine mj_alen (pc := 32) (v := 648) d_Rl_become_32 sh_69 (by decide) (by decide) ?_
  refine cj_copy (pc := 33) d_Rl_become_33 cp_Rl_23 sh_14 sh_69 (by decide) (by decide) (by decide) (by decide) (Nat.le_of_ble_eq_true rfl) ?_
  show mj_R M_Rl_become 36 [some (.ref 67), some (.ref 12)] [] (SH, jn (mj_cp (mj_cp C0 13 68 0 0 12) 14 69 0 0 648) D) none (SH, jn (C') D)
  obtain e_1 := inj1 h
  subst e_1
  exact mj_vret (pc := 36) d_Rl_become_36 rfl
set_option maxRecDepth 20000 in
theorem r_Ln_become_1  {C0 D : St} {C' : St} (h : f_Ln_become_1 C0 = some (C')) : mj_R M_Ln_become 0 (mj_lv M_Ln_become.2.2.1 [.ref 70, .ref 15]) [] (SH, jn C0 D) none (SH, jn (C') D) := by
  show mj_R M_Ln_become 0 [some (.ref 70), some (.ref 15)] [] _ _ _
  unfold f_Ln_become_1 at h
  refine mj_aload_n (pc := 0) (i := 0) d_Ln_become_0 rfl rfl (by decide) ?_
  refine mj_aload_n (pc := 1) (i := 1) d_Ln_become_1 rfl rfl (by decide) ?_
  refine cj_getI (pc := 2) d_Ln_become_2 fl_Ln_15 sh_15 rfl (by decide) (by decide) (by decide) ?_
  refine cj_putI (pc := 5) d_Ln_become_5 fl_Ln_15 sh_70 rfl (fun _ _ _ h => by cases h; rfl) (by decide) (by decide) (by decide) ?_
  refine mj_aload_n (pc := 8) (i := 1) d_Ln_become_8 rfl rfl (by decide) ?_
  refine mj_getR (pc := 9) d_Ln_become_9 fl_Ln_11 sh_15 rfl rfl (by decide) (by decide) (by decide) ?_
  refine mj_iconst (pc := 12) (v := 0) d_Ln_become_12 (by decide) ?_
  refine mj_aload_n (pc := 13) (i := 0) d_Ln_become_13 rfl rfl (by decide) ?_
  refine mj_getR (pc := 14) d_Ln_become_14 fl_Ln_11 sh_70 rfl rfl (by decide) (by decide) (by decide) ?_
  refine mj_iconst (pc := 17) (v := 0) d_Ln_become_17 (by decide) ?_
  refine mj_aload_n (pc := 18) (i := 0) d_Ln_become_18 rfl rfl (by decide) ?_
  refine mj_getR (pc := 19) d_Ln_become_19 fl_Ln_11 sh_70 rfl rfl (by decide) (by decide) (by decide) ?_
  refine mj_alen (pc := 22) (v := 80) d_Ln_become_22 sh_71 (by decide) (by decide) ?_
  refine cj_copy (pc := 23) d_Ln_become_23 cp_Ln_69 sh_16 sh_71 (by decide) (by decide) (by decide) (by decide) (Nat.le_of_ble_eq_true rfl) ?_
  show mj_R M_Ln_become 26 [some (.ref 70), some (.ref 15)] [] (SH, jn (mj_cp (mj_wr C0 70 0 (C0 15 0)) 16 71 0 0 80) D) none (SH, jn (C') D)
  obtain e_1 := inj1 h
  subst e_1
  exact mj_vret (pc := 26) d_Ln_become_26 rfl
set_option maxRecDepth 20000 in
theorem r_Tw_become_1  {C0 D : St} {C' : St} (h : f_Tw_become_1 C0 = some (C')) : mj_R M_Tw_become 0 (mj_lv M_Tw_become.2.2.1 [.ref 56, .ref 1]) [] (SH, jn C0 D) none (SH, jn (C') D) := by
  show mj_R M_Tw_become 0 [some (.ref 56), some (.ref 1)] [] _ _ _
  unfold f_Tw_become_1 at h
  refine mj_aload_n (pc := 0) (i := 0) d_Tw_become_0 rfl rfl (by decide) ?_
  refine mj_aload_n (pc := 1) (i := 1) d_Tw_become_1 rfl rfl (by decide) ?_
  refine cj_getI (pc := 2) d_Tw_become_2 fl_Tw_59 sh_1 rfl (by decide) (by decide) (by decide) ?_
  refine cj_putI (pc := 5) d_Tw_become_5 fl_Tw_59 sh_56 rfl (fun _ _ _ h => by cases h; rfl) (by decide) (by decide) (by decide) ?_
  refine mj_aload_n (pc := 8) (i := 0) d_Tw_become_8 rfl rfl (by decide) ?_
  refine mj_aload_n (pc := 9) (i := 1) d_Tw_become_9 rfl rfl (by decide) ?_
  refine cj_getI (pc := 10) d_Tw_become_10 fl_Tw_89 sh_1 rfl (by decide) (by decide) (by decide) ?_
  refine cj_putI (pc := 13) d_Tw_become_13 fl_Tw_89 sh_56 rfl (fun _ _ _ h => by cases h; rfl) (by decide) (by decide) (by decide) ?_
  refine mj_aload_n (pc := 16) (i := 0) d_Tw_become_16 rfl rfl (by decide) ?_
  refine mj_aload_n (pc := 17) (i := 1) d_Tw_become_17 rfl rfl (by decide) ?_
  refine cj_getI (pc := 18) d_Tw_become_18 fl_Tw_9 sh_1 rfl (by decide) (by decide) (by decide) ?_
  refine cj_putI (pc := 21) d_Tw_become_21 fl_Tw_9 sh_56 rfl (fun _ _ _ h => by cases h; rfl) (by decide) (by decide) (by decide) ?_
  refine mj_aload_n (pc := 24) (i := 0) d_Tw_become_24 rfl rfl (by decide) ?_
  refine mj_aload_n (pc := 25) (i := 1) d_Tw_become_25 rfl rfl (by decide) ?_
  refine cj_getI (pc := 26) d_Tw_become_26 fl_Tw_92 sh_1 rfl (by decide) (by decide) (by decide) ?_
  refine cj_putI (pc := 29) d_Tw_become_29 fl_Tw_92 sh_56 rfl (fun _ _ _ h => by cases h; rfl) (by decide) (by decide) (by decide) ?_
  refine mj_aload_n (pc := 32) (i := 0) d_Tw_become_32 rfl rfl (by decide) ?_
  refine mj_aload_n (pc := 33) (i := 1) d_Tw_become_33 rfl rfl (by decide) ?_
  refine cj_getI (pc := 34) d_Tw_become_34 fl_Tw_95 sh_1 rfl (by decide) (by decide) (by decide) ?_
  refine cj_putI (pc := 37) d_Tw_become_37 fl_Tw_95 sh_56 rfl (fun _ _ _ h => by cases h; rfl) (by decide) (by decide) (by decide) ?_
  refine mj_aload_n (pc := 40) (i := 1) d_Tw_become_40 rfl rfl (by decide) ?_
  refine mj_getR (pc := 41) d_Tw_become_41 fl_Tw_15 sh_1 rfl rfl (by decide) (by decide) (by decide) ?_
  refine mj_iconst (pc := 44) (v := 0) d_Tw_become_44 (by decide) ?_
  refine mj_aload_n (pc := 45) (i := 0) d_Tw_become_45 rfl rfl (by decide) ?_
  refine mj_getR (pc := 46) d_Tw_become_46 fl_Tw_15 sh_56 rfl rfl (by decide) (by decide) (by decide) ?_
  refine mj_iconst (pc := 49) (v := 0) d_Tw_become_49 (by decide) ?_
  refine mj_aload_n (pc := 50) (i := 0) d_Tw_become_50 rfl rfl (by decide) ?_
  refine mj_getR (pc := 51) d_Tw_become_51 fl_Tw_15 sh_56 rfl rfl (by decide) (by decide) (by decide) ?_
  refine mj_alen (pc := 54) (v := 12) d_Tw_become_54 sh_57 (by decide) (by decide) ?_
  refine cj_copy (pc := 55) d_Tw_become_55 cp_Tw_98 sh_2 sh_57 (by decide) (by decide) (by decide) (by decide) (Nat.le_of_ble_eq_true rfl) ?_
  show mj_R M_Tw_become 58 [some (.ref 56), some (.ref 1)] [] (SH, jn (mj_cp (mj_wr (mj_wr (mj_wr (mj_wr (mj_wr C0 56 0 (C0 1 0)) 56 1 (mj_wr C0 56 0 (C0 1 0) 1 1)) 56 2 (mj_wr (mj_wr C0 56 0 (C0 1 0)) 56 1 (mj_wr C0 56 0 (C0 1 0) 1 1) 1 2)) 56 3 (mj_wr (mj_wr (mj_wr C0 56 0 (C0 1 0)) 56 1 (mj_wr C0 56 0 (C0 1 0) 1 1)) 56 2 (mj_wr (mj_wr C0 56 0 (C0 1 0)) 56 1 (mj_wr C0 56 0 (C0 1 0) 1 1) 1 2) 1 3)) 56 4 (mj_wr (mj_wr (mj_wr (mj_wr C0 56 0 (C0 1 0)) 56 1 (mj_wr C0 56 0 (C0 1 0) 1 1)) 56 2 (mj_wr (mj_wr C0 56 0 (C0 1 0)) 56 1 (mj_wr C0 56 0 (C0 1 0) 1 1) 1 2)) 56 3 (mj_wr (mj_wr (mj_wr C0 56 0 (C0 1 0)) 56 1 (mj_wr C0 56 0 (C0 1 0) 1 1)) 56 2 (mj_wr (mj_wr C0 56 0 (C0 1 0)) 56 1 (mj_wr C0 56 0 (C0 1 0) 1 1) 1 2) 1 3) 1 4)) 2 57 0 0 12) D) none (SH, jn (C') D)
  refine mj_aload_n (pc := 58) (i := 1) d_Tw_become_58 rfl rfl (by decide) ?_
  refine mj_getR (pc := 59) d_Tw_become_59 fl_Tw_19 sh_1 rfl rfl (by decide) (by decide) (by decide) ?_
  refine mj_iconst (pc := 62) (v := 0) d_Tw_become_62 (by decide) ?_
  refine mj_aload_n (pc := 63) (i := 0) d_Tw_become_63 rfl rfl (by decide) ?_
  refine mj_getR (pc := 64) d_Tw_become_64 fl_Tw_19 sh_56 rfl rfl (by decide) (by decide) (by decide) ?_
  refine mj_iconst (pc := 67) (v := 0) d_Tw_become_67 (by decide) ?_
  refine mj_aload_n (pc := 68) (i := 0) d_Tw_become_68 rfl rfl (by decide) ?_
  refine mj_getR (pc := 69) d_Tw_become_69 fl_Tw_19 sh_56 rfl rfl (by decide) (by decide) (by decide) ?_
  refine mj_alen (pc := 72) (v := 12) d_Tw_become_72 sh_58 (by decide) (by decide) ?_
  refine cj_copy (pc := 73) d_Tw_become_73 cp_Tw_98 sh_3 sh_58 (by decide) (by decide) (by decide) (by decide) (Nat.le_of_ble_eq_true rfl) ?_
  show mj_R M_Tw_become 76 [some (.ref 56), some (.ref 1)] [] (SH, jn (mj_cp (mj_cp (mj_wr (mj_wr (mj_wr (mj_wr (mj_wr C0 56 0 (C0 1 0)) 56 1 (mj_wr C0 56 0 (C0 1 0) 1 1)) 56 2 (mj_wr (mj_wr C0 56 0 (C0 1 0)) 56 1 (mj_wr C0 56 0 (C0 1 0) 1 1) 1 2)) 56 3 (mj_wr (mj_wr (mj_wr C0 56 0 (C0 1 0)) 56 1 (mj_wr C0 56 0 (C0 1 0) 1 1)) 56 2 (mj_wr (mj_wr C0 56 0 (C0 1 0)) 56 1 (mj_wr C0 56 0 (C0 1 0) 1 1) 1 2) 1 3)) 56 4 (mj_wr (mj_wr (mj_wr (mj_wr C0 56 0 (C0 1 0)) 56 1 (mj_wr C0 56 0 (C0 1 0) 1 1)) 56 2 (mj_wr (mj_wr C0 56 0 (C0 1 0)) 56 1 (mj_wr C0 56 0 (C0 1 0) 1 1) 1 2)) 56 3 (mj_wr (mj_wr (mj_wr C0 56 0 (C0 1 0)) 56 1 (mj_wr C0 56 0 (C0 1 0) 1 1)) 56 2 (mj_wr (mj_wr C0 56 0 (C0 1 0)) 56 1 (mj_wr C0 56 0 (C0 1 0) 1 1) 1 2) 1 3) 1 4)) 2 57 0 0 12) 3 58 0 0 12) D) none (SH, jn (C') D)
  refine mj_aload_n (pc := 76) (i := 1) d_Tw_become_76 rfl rfl (by decide) ?_
  refine mj_getR (pc := 77) d_Tw_become_77 fl_Tw_22 sh_1 rfl rfl (by decide) (by decide) (by decide) ?_
  refine mj_iconst (pc := 80) (v := 0) d_Tw_become_80 (by decide) ?_
  refine mj_aload_n (pc := 81) (i := 0) d_Tw_become_81 rfl rfl (by decide) ?_
  refine mj_getR (pc := 82) d_Tw_become_82 fl_Tw_22 sh_56 rfl rfl (by decide) (by decide) (by decide) ?_
  refine mj_iconst (pc := 85) (v := 0) d_Tw_become_85 (by decide) ?_
  refine mj_aload_n (pc := 86) (i := 0) d_Tw_become_86 rfl rfl (by decide) ?_
  refine mj_getR (pc := 87) d_Tw_become_87 fl_Tw_22 sh_56 rfl rfl (by decide) (by decide) (by decide) ?_
  refine mj_alen (pc := 90) (v := 12) d_Tw_become_90 sh_59 (by decide) (by decide) ?_
  refine cj_copy (pc := 91) d_Tw_become_91 cp_Tw_98 sh_4 sh_59 (by decide) (by decide) (by decide) (by decide) (Nat.le_of_ble_eq_true rfl) ?_
  show mj_R M_Tw_become 94 [some (.ref 56), some (.ref 1)] [] (SH, jn (mj_cp (mj_cp (mj_cp (mj_wr (mj_wr (mj_wr (mj_wr (mj_wr C0 56 0 (C0 1 0)) 56 1 (mj_wr C0 56 0 (C0 1 0) 1 1)) 56 2 (mj_wr (mj_wr C0 56 0 (C0 1 0)) 56 1 (mj_wr C0 56 0 (C0 1 0) 1 1) 1 2)) 56 3 (mj_wr (mj_wr (mj_wr C0 56 0 (C0 1 0)) 56 1 (mj_wr C0 56 0 (C0 1 0) 1 1)) 56 2 (mj_wr (mj_wr C0 56 0 (C0 1 0)) 56 1 (mj_wr C0 56 0 (C0 1 0) 1 1) 1 2) 1 3)) 56 4 (mj_wr (mj_wr (mj_wr (mj_wr C0 56 0 (C0 1 0)) 56 1 (mj_wr C0 56 0 (C0 1 0) 1 1)) 56 2 (mj_wr (mj_wr C0 56 0 (C0 1 0)) 56 1 (mj_wr C0 56 0 (C0 1 0) 1 1) 1 2)) 56 3 (mj_wr (mj_wr (mj_wr C0 56 0 (C0 1 0)) 56 1 (mj_wr C0 56 0 (C0 1 0) 1 1)) 56 2 (mj_wr (mj_wr C0 56 0 (C0 1 0)) 56 1 (mj_wr C0 56 0 (C0 1 0) 1 1) 1 2) 1 3) 1 4)) 2 57 0 0 12) 3 58 0 0 12) 4 59 0 0 12) D) none (SH, jn (C') D)
  refine mj_aload_n (pc := 94) (i := 1) d_Tw_become_94 rfl rfl (by decide) ?_
  refine mj_getR (pc := 95) d_Tw_become_95 fl_Tw_25 sh_1 rfl rfl (by decide) (by decide) (by decide) ?_
  refine mj_iconst (pc := 98) (v := 0) d_Tw_become_98 (by decide) ?_
  refine mj_aload_n (pc := 99) (i := 0) d_Tw_become_99 rfl rfl (by decide) ?_
  refine mj_getR (pc := 100) d_Tw_become_100 fl_Tw_25 sh_56 rfl rfl (by decide) (by decide) (by decide) ?_
  refine mj_iconst (pc := 103) (v := 0) d_Tw_become_103 (by decide) ?_
  refine mj_aload_n (pc := 104) (i := 0) d_Tw_become_104 rfl rfl (by decide) ?_
  refine mj_getR (pc := 105) d_Tw_become_105 fl_Tw_25 sh_56 rfl rfl (by decide) (by decide) (by decide) ?_
  refine mj_alen (pc := 108) (v := 12) d_Tw_become_108 sh_60 (by decide) (by decide) ?_
  refine cj_copy (pc := 109) d_Tw_become_109 cp_Tw_98 sh_5 sh_60 (by decide) (by decide) (by decide) (by decide) (Nat.le_of_ble_eq_true rfl) ?_
  show mj_R M_Tw_become 112 [some (.ref 56), some (.ref 1)] [] (SH, jn (mj_cp (mj_cp (mj_cp (mj_cp (mj_wr (mj_wr (mj_wr (mj_wr (mj_wr C0 56 0 (C0 1 0)) 56 1 (mj_wr C0 56 0 (C0 1 0) 1 1)) 56 2 (mj_wr (mj_wr C0 56 0 (C0 1 0)) 56 1 (mj_wr C0 56 0 (C0 1 0) 1 1) 1 2)) 56 3 (mj_wr (mj_wr (mj_wr C0 56 0 (C0 1 0)) 56 1 (mj_wr C0 56 0 (C0 1 0) 1 1)) 56 2 (mj_wr (mj_wr C0 56 0 (C0 1 0)) 56 1 (mj_wr C0 56 0 (C0 1 0) 1 1) 1 2) 1 3)) 56 4 (mj_wr (mj_wr (mj_wr (mj_wr C0 56 0 (C0 1 0)) 56 1 (mj_wr C0 56 0 (C0 1 0) 1 1)) 56 2 (mj_wr (mj_wr C0 56 0 (C0 1 0)) 56 1 (mj_wr C0 56 0 (C0 1 0) 1 1) 1 2)) 56 3 (mj_wr (mj_wr (mj_wr C0 56 0 (C0 1 0)) 56 1 (mj_wr C0 56 0 (C0 1 0) 1 1)) 56 2 (mj_wr (mj_wr C0 56 0 (C0 1 0)) 56 1 (mj_wr C0 56 0 (C0 1 0) 1 1) 1 2) 1 3) 1 4)) 2 57 0 0 12) 3 58 0 0 12) 4 59 0 0 12) 5 60 0 0 12) D) none (SH, jn (C') D)
  refine mj_aload_n (pc := 112) (i := 1) d_Tw_become_112 rfl rfl (by decide) ?_
  refine mj_getR (pc := 113) d_Tw_become_113 fl_Tw_28 sh_1 rfl rfl (by decide) (by decide) (by decide) ?_
  refine mj_iconst (pc := 116) (v := 0) d_Tw_become_116 (by decide) ?_
  refine mj_aload_n (pc := 117) (i := 0) d_Tw_become_117 rfl rfl (by decide) ?_
  refine mj_getR (pc := 118) d_Tw_become_118 fl_Tw_28 sh_56 rfl rfl (by decide) (by decide) (by decide) ?_
  refine mj_iconst (pc := 121) (v := 0) d_Tw_become_121 (by decide) ?_
  refine mj_aload_n (pc := 122) (i := 0) d_Tw_become_122 rfl rfl (by decide) ?_
  refine mj_getR (pc := 123) d_Tw_become_123 fl_Tw_28 sh_56 rfl rfl (by decide) (by decide) (by decide) ?_
  refine mj_alen (pc := 126) (v := 720) d_Tw_become_126 sh_61 (by decide) (by decide) ?_
  refine cj_copy (pc := 127) d_Tw_become_127 cp_Tw_98 sh_6 sh_61 (by decide) (by decide) (by decide) (by decide) (Nat.le_of_ble_eq_true rfl) ?_
  show mj_R M_Tw_become 130 [some (.ref 56), some (.ref 1)] [] (SH, jn (mj_cp (mj_cp (mj_cp (mj_cp (mj_cp (mj_wr (mj_wr (mj_wr (mj_wr (mj_wr C0 56 0 (C0 1 0)) 56 1 (mj_wr C0 56 0 (C0 1 0) 1 1)) 56 2 (mj_wr (mj_wr C0 56 0 (C0 1 0)) 56 1 (mj_wr C0 56 0 (C0 1 0) 1 1) 1 2)) 56 3 (mj_wr (mj_wr (mj_wr C0 56 0 (C0 1 0)) 56 1 (mj_wr C0 56 0 (C0 1 0) 1 1)) 56 2 (mj_wr (mj_wr C0 56 0 (C0 1 0)) 56 1 (mj_wr C0 56 0 (C0 1 0) 1 1) 1 2) 1 3)) 56 4 (mj_wr (mj_wr (mj_wr (mj_wr C0 56 0 (C0 1 0)) 56 1 (mj_wr C0 56 0 (C0 1 0) 1 1)) 56 2 (mj_wr (mj_wr C0 56 0 (C0 1 0)) 56 1 (mj_wr C0 56 0 (C0 1 0) 1 1) 1 2)) 56 3 (mj_wr (mj_wr (mj_wr C0 56 0 (C0 1 0)) 56 1 (mj_wr C0 56 0 (C0 1 0) 1 1)) 56 2 (mj_wr (mj_wr C0 56 0 (C0 1 0)) 56 1 (mj_wr C0 56 0 (C0 1 0) 1 1) 1 2) 1 3) 1 4)) 2 57 0 0 12) 3 58 0 0 12) 4 59 0 0 12) 5 60 0 0 12) 6 61 0 0 720) D) none (SH, jn (C') D)
  refine mj_aload_n (pc := 130) (i := 0) d_Tw_become_130 rfl rfl (by decide) ?_
  refine mj_getR (pc := 131) d_Tw_become_131 fl_Tw_34 sh_56 rfl rfl (by decide) (by decide) (by decide) ?_
  refine mj_aload_n (pc := 134) (i := 1) d_Tw_become_134 rfl rfl (by decide) ?_
  refine mj_getR (pc := 135) d_Tw_become_135 fl_Tw_34 sh_1 rfl rfl (by decide) (by decide) (by decide) ?_
  obtain ⟨C1, hb2, h⟩ := bd1_some h
  refine mj_callV (pc := 138) (b := 62) (vs := [.ref 7]) (st := []) d_Tw_become_138 bB_Tw_become_Sk_become lk_Tw_104 iv_Sk_become rc_62 rfl (Nat.le_of_ble_eq_true rfl) (Nat.le_of_ble_eq_true rfl) (r_Sk_become_1 hb2) ?_
  show mj_R M_Tw_become 141 [some (.ref 56), some (.ref 1)] [] (SH, jn C1 D) none (SH, jn (C') D)
  refine mj_aload_n (pc := 141) (i := 0) d_Tw_become_141 rfl rfl (by decide) ?_
  refine mj_getR (pc := 142) d_Tw_become_142 fl_Tw_41 sh_56 rfl rfl (by decide) (by decide) (by decide) ?_
  refine mj_aload_n (pc := 145) (i := 1) d_Tw_become_145 rfl rfl (by decide) ?_
  refine mj_getR (pc := 146) d_Tw_become_146 fl_Tw_41 sh_1 rfl rfl (by decide) (by decide) (by decide) ?_
  obtain ⟨C3, hb4, h⟩ := bd1_some h
  refine mj_callV (pc := 149) (b := 65) (vs := [.ref 10]) (st := []) d_Tw_become_149 bB_Tw_become_Wr_become lk_Tw_108 iv_Wr_become rc_65 rfl (Nat.le_of_ble_eq_true rfl) (Nat.le_of_ble_eq_true rfl) (r_Wr_become_1 hb4) ?_
  show mj_R M_Tw_become 152 [some (.ref 56), some (.ref 1)] [] (SH, jn C3 D) none (SH, jn (C') D)
  refine mj_aload_n (pc := 152) (i := 0) d_Tw_become_152 rfl rfl (by decide) ?_
  refine mj_getR (pc := 153) d_Tw_become_153 fl_Tw_48 sh_56 rfl rfl (by decide) (by decide) (by decide) ?_
  refine mj_aload_n (pc := 156) (i := 1) d_Tw_become_156 rfl rfl (by decide) ?_
  refine mj_getR (pc := 157) d_Tw_become_157 fl_Tw_48 sh_1 rfl rfl (by decide) (by decide) (by decide) ?_
  obtain ⟨C5, hb6, h⟩ := bd1_some h
  refine mj_callV (pc := 160) (b := 67) (vs := [.ref 12]) (st := []) d_Tw_become_160 bB_Tw_become_Rl_become lk_Tw_111 iv_Rl_become rc_67 rfl (Nat.le_of_ble_eq_true rfl) (Nat.le_of_ble_eq_true rfl) (r_Rl_become_1 hb6) ?_
  show mj_R M_Tw_become 163 [some (.ref 56), some (.ref 1)] [] (SH, jn C5 D) none (SH, jn (C') D)
  refine mj_aload_n (pc := 163) (i := 0) d_Tw_become_163 rfl rfl (by decide) ?_
  refine mj_getR (pc := 164) d_Tw_become_164 fl_Tw_55 sh_56 rfl rfl (by decide) (by decide) (by decide) ?_
  refine mj_aload_n (pc := 167) (i := 1) d_Tw_become_167 rfl rfl (by decide) ?_
  refine mj_getR (pc := 168) d_Tw_become_168 fl_Tw_55 sh_1 rfl rfl (by decide) (by decide) (by decide) ?_
  obtain ⟨C7, hb8, h⟩ := bd1_some h
  refine mj_callV (pc := 171) (b := 70) (vs := [.ref 15]) (st := []) d_Tw_become_171 bB_Tw_become_Ln_become lk_Tw_114 iv_Ln_become rc_70 rfl (Nat.le_of_ble_eq_true rfl) (Nat.le_of_ble_eq_true rfl) (r_Ln_become_1 hb8) ?_
  show mj_R M_Tw_become 174 [some (.ref 56), some (.ref 1)] [] (SH, jn C7 D) none (SH, jn (C') D)
  obtain e_1 := inj1 h
  subst e_1
  exact mj_vret (pc := 174) d_Tw_become_174 rfl
set_option maxRecDepth 20000 in
theorem r_Sk_become_2  {C0 D : St} {C' : St} (h : f_Sk_become_2 C0 = some (C')) : mj_R M_Sk_become 0 (mj_lv M_Sk_become.2.2.1 [.ref 78, .ref 7]) [] (SH, jn C0 D) none (SH, jn (C') D) := by
  show mj_R M_Sk_become 0 [some (.ref 78), some (.ref 7)] [] _ _ _
  unfold f_Sk_become_2 at h
  refine mj_aload_n (pc := 0) (i := 1) d_Sk_become_0 rfl rfl (by decide) ?_
  refine mj_getR (pc := 1) d_Sk_become_1 fl_Sk_9 sh_7 rfl rfl (by decide) (by decide) (by decide) ?_
  refine mj_iconst (pc := 4) (v := 0) d_Sk_become_4 (by decide) ?_
  refine mj_aload_n (pc := 5) (i := 0) d_Sk_become_5 rfl rfl (by decide) ?_
  refine mj_getR (pc := 6) d_Sk_become_6 fl_Sk_9 sh_78 rfl rfl (by decide) (by decide) (by decide) ?_
  refine mj_iconst (pc := 9) (v := 0) d_Sk_become_9 (by decide) ?_
  refine mj_aload_n (pc := 10) (i := 0) d_Sk_become_10 rfl rfl (by decide) ?_
  refine mj_getR (pc := 11) d_Sk_become_11 fl_Sk_9 sh_78 rfl rfl (by decide) (by decide) (by decide) ?_
  refine mj_alen (pc := 14) (v := 600) d_Sk_become_14 sh_79 (by decide) (by decide) ?_
  refine cj_copy (pc := 15) d_Sk_become_15 cp_Sk_34 sh_8 sh_79 (by decide) (by decide) (by decide) (by decide) (Nat.le_of_ble_eq_true rfl) ?_
  show mj_R M_Sk_become 18 [some (.ref 78), some (.ref 7)] [] (SH, jn (mj_cp C0 8 79 0 0 600) D) none (SH, jn (C') D)
  refine mj_aload_n (pc := 18) (i := 1) d_Sk_become_18 rfl rfl (by decide) ?_
  refine mj_getR (pc := 19) d_Sk_become_19 fl_Sk_15 sh_7 rfl rfl (by decide) (by decide) (by decide) ?_
  refine mj_iconst (pc := 22) (v := 0) d_Sk_become_22 (by decide) ?_
  refine mj_aload_n (pc := 23) (i := 0) d_Sk_become_23 rfl rfl (by decide) ?_
  refine mj_getR (pc := 24) d_Sk_become_24 fl_Sk_15 sh_78 rfl rfl (by decide) (by decide) (by decide) ?_
  refine mj_iconst (pc := 27) (v := 0) d_Sk_become_27 (by decide) ?_
  refine mj_aload_n (pc := 28) (i := 0) d_Sk_become_28 rfl rfl (by decide) ?_
  refine mj_getR (pc := 29) d_Sk_become_29 fl_Sk_15 sh_78 rfl rfl (by decide) (by decide) (by decide) ?_
  refine mj_alen (pc := 32) (v := 60) d_Sk_become_32 sh_80 (by decide) (by decide) ?_
  refine cj_copy (pc := 33) d_Sk_become_33 cp_Sk_34 sh_9 sh_80 (by decide) (by decide) (by decide) (by decide) (Nat.le_of_ble_eq_true rfl) ?_
  show mj_R M_Sk_become 36 [some (.ref 78), some (.ref 7)] [] (SH, jn (mj_cp (mj_cp C0 8 79 0 0 600) 9 80 0 0 60) D) none (SH, jn (C') D)
  obtain e_1 := inj1 h
  subst e_1
  exact mj_vret (pc := 36) d_Sk_become_36 rfl
set_option maxRecDepth 20000 in
theorem r_Wr_become_2  {C0 D : St} {C' : St} (h : f_Wr_become_2 C0 = some (C')) : mj_R M_Wr_become 0 (mj_lv M_Wr_become.2.2.1 [.ref 81, .ref 10]) [] (SH, jn C0 D) none (SH, jn (C') D) := by
  show mj_R M_Wr_become 0 [some (.ref 81), some (.ref 10)] [] _ _ _
  unfold f_Wr_become_2 at h
  refine mj_aload_n (pc := 0) (i := 1) d_Wr_become_0 rfl rfl (by decide) ?_
  refine mj_getR (pc := 1) d_Wr_become_1 fl_Wr_11 sh_10 rfl rfl (by decide) (by decide) (by decide) ?_
  refine mj_iconst (pc := 4) (v := 0) d_Wr_become_4 (by decide) ?_
  refine mj_aload_n (pc := 5) (i := 0) d_Wr_become_5 rfl rfl (by decide) ?_
  refine mj_getR (pc := 6) d_Wr_become_6 fl_Wr_11 sh_81 rfl rfl (by decide) (by decide) (by decide) ?_
  refine mj_iconst (pc := 9) (v := 0) d_Wr_become_9 (by decide) ?_
  refine mj_aload_n (pc := 10) (i := 0) d_Wr_become_10 rfl rfl (by decide) ?_
  refine mj_getR (pc := 11) d_Wr_become_11 fl_Wr_11 sh_81 rfl rfl (by decide) (by decide) (by decide) ?_
  refine mj_alen (pc := 14) (v := 55) d_Wr_become_14 sh_82 (by decide) (by decide) ?_
  refine cj_copy (pc := 15) d_Wr_become_15 cp_Wr_15 sh_11 sh_82 (by decide) (by decide) (by decide) (by decide) (Nat.le_of_ble_eq_true rfl) ?_
  show mj_R M_Wr_become 18 [some (.ref 81), some (.ref 10)] [] (SH, jn (mj_cp C0 11 82 0 0 55) D) none (SH, jn (C') D)
  obtain e_1 := inj1 h
  subst e_1
  exact mj_vret (pc := 18) d_Wr_become_18 rfl
set_option maxRecDepth 20000 in
theorem r_Rl_become_2  {C0 D : St} {C' : St} (h : f_Rl_become_2 C0 = some (C')) : mj_R M_Rl_become 0 (mj_lv M_Rl_become.2.2.1 [.ref 83, .ref 12]) [] (SH, jn C0 D) none (SH, jn (C') D) := by
  show mj_R M_Rl_become 0 [some (.ref 83), some (.ref 12)] [] _ _ _
  unfold f_Rl_become_2 at h
  refine mj_aload_n (pc := 0) (i := 1) d_Rl_become_0 rfl rfl (by decide) ?_
  refine mj_getR (pc := 1) d_Rl_become_1 fl_Rl_9 sh_12 rfl rfl (by decide) (by decide) (by decide) ?_
  refine mj_iconst (pc := 4) (v := 0) d_Rl_become_4 (by decide) ?_
  refine mj_aload_n (pc := 5) (i := 0) d_Rl_become_5 rfl rfl (by decide) ?_
  refine mj_getR (pc := 6) d_Rl_become_6 fl_Rl_9 sh_83 rfl rfl (by decide) (by decide) (by decide) ?_
  refine mj_iconst (pc := 9) (v := 0) d_Rl_become_9 (by decide) ?_
  refine mj_aload_n (pc := 10) (i := 0) d_Rl_become_10 rfl rfl (by decide) ?_
  refine mj_getR (pc := 11) d_Rl_become_11 fl_Rl_9 sh_83 rfl rfl (by decide) (by decide) (by decide) ?_
  refine mj_alen (pc := 14) (v := 12) d_Rl_become_14 sh_84 (by decide) (by decide) ?_
  refine cj_copy (pc := 15) d_Rl_become_15 cp_Rl_23 sh_13 sh_84 (by decide) (by decide) (by decide) (by decide) (Nat.le_of_ble_eq_true rfl) ?_
  show mj_R M_Rl_become 18 [some (.ref 83), some (.ref 12)] [] (SH, jn (mj_cp C0 13 84 0 0 12) D) none (SH, jn (C') D)
  refine mj_aload_n (pc := 18) (i := 1) d_Rl_become_18 rfl rfl (by decide) ?_
  refine mj_getR (pc := 19) d_Rl_become_19 fl_Rl_15 sh_12 rfl rfl (by decide) (by decide) (by decide) ?_
  refine mj_iconst (pc := 22) (v := 0) d_Rl_become_22 (by decide) ?_
  refine mj_aload_n (pc := 23) (i := 0) d_Rl_become_23 rfl rfl (by decide) ?_
  refine mj_getR (pc := 24) d_Rl_become_24 fl_Rl_15 sh_83 rfl rfl (by decide) (by decide) (by decide) ?_
  refine mj_iconst (pc := 27) (v := 0) d_Rl_become_27 (by decide) ?_
  refine mj_aload_n (pc := 28) (i := 0) d_Rl_become_28 rfl rfl (by decide) ?_
  refine mj_getR (pc := 29) d_Rl_become_29 fl_Rl_15 sh_83 rfl rfl (by decide) (by decide) (by decide) ?_
  refine mj_alen (pc := 32) (v := 648) d_Rl_become_32 sh_85 (by decide) (by decide) ?_
  refine cj_copy (pc := 33) d_Rl_become_33 cp_Rl_23 sh_14 sh_85 (by decide) (by decide) (by decide) (by decide) (Nat.le_of_ble_eq_true rfl) ?_
  show mj_R M_Rl_become 36 [some (.ref 83), some (.ref 12)] [] (SH, jn (mj_cp (mj_cp C0 13 84 0 0 12) 14 85 0 0 648) D) none (SH, jn (C') D)
  obtain e_1 := inj1 h
  subst e_1
  exact mj_vret (pc := 36) d_Rl_become_36 rfl
set_option maxRecDepth 20000 in
theorem r_Ln_become_2  {C0 D : St} {C' : St} (h : f_Ln_become_2 C0 = some (C')) : mj_R M_Ln_become 0 (mj_lv M_Ln_become.2.2.1 [.ref 86, .ref 15]) [] (SH, jn C0 D) none (SH, jn (C') D) := by
  show mj_R M_Ln_become 0 [some (.ref 86), some (.ref 15)] [] _ _ _
  unfold f_Ln_become_2 at h
  refine mj_aload_n (pc := 0) (i := 0) d_Ln_become_0 rfl rfl (by decide) ?_
  refine mj_aload_n (pc := 1) (i := 1) d_Ln_become_1 rfl rfl (by decide) ?_
  refine cj_getI (pc := 2) d_Ln_become_2 fl_Ln_15 sh_15 rfl (by decide) (by decide) (by decide) ?_
  refine cj_putI (pc := 5) d_Ln_become_5 fl_Ln_15 sh_86 rfl (fun _ _ _ h => by cases h; rfl) (by decide) (by decide) (by decide) ?_
  refine mj_aload_n (pc := 8) (i := 1) d_Ln_become_8 rfl rfl (by decide) ?_
  refine mj_getR (pc := 9) d_Ln_become_9 fl_Ln_11 sh_15 rfl rfl (by decide) (by decide) (by decide) ?_
  refine mj_iconst (pc := 12) (v := 0) d_Ln_become_12 (by decide) ?_
  refine mj_aload_n (pc := 13) (i := 0) d_Ln_become_13 rfl rfl (by decide) ?_
  refine mj_getR (pc := 14) d_Ln_become_14 fl_Ln_11 sh_86 rfl rfl (by decide) (by decide) (by decide) ?_
  refine mj_iconst (pc := 17) (v := 0) d_Ln_become_17 (by decide) ?_
  refine mj_aload_n (pc := 18) (i := 0) d_Ln_become_18 rfl rfl (by decide) ?_
  refine mj_getR (pc := 19) d_Ln_become_19 fl_Ln_11 sh_86 rfl rfl (by decide) (by decide) (by decide) ?_
  refine mj_alen (pc := 22) (v := 80) d_Ln_become_22 sh_87 (by decide) (by decide) ?_
  refine cj_copy (pc := 23) d_Ln_become_23 cp_Ln_69 sh_16 sh_87 (by decide) (by decide) (by decide) (by decide) (Nat.le_of_ble_eq_true rfl) ?_
  show mj_R M_Ln_become 26 [some (.ref 86), some (.ref 15)] [] (SH, jn (mj_cp (mj_wr C0 86 0 (C0 15 0)) 16 87 0 0 80) D) none (SH, jn (C') D)
  obtain e_1 := inj1 h
  subst e_1
  exact mj_vret (pc := 26) d_Ln_become_26 rfl
set_option maxRecDepth 20000 in
theorem r_Tw_become_2  {C0 D : St} {C' : St} (h : f_Tw_become_2 C0 = some (C')) : mj_R M_Tw_become 0 (mj_lv M_Tw_become.2.2.1 [.ref 72, .ref 1]) [] (SH, jn C0 D) none (SH, jn (C') D) := by
  show mj_R M_Tw_become 0 [some (.ref 72), some (.ref 1)] [] _ _ _
  unfold f_Tw_become_2 at h
  refine mj_aload_n (pc := 0) (i := 0) d_Tw_become_0 rfl rfl (by decide) ?_
  refine mj_aload_n (pc := 1) (i := 1) d_Tw_become_1 rfl rfl (by decide) ?_
  refine cj_getI (pc := 2) d_Tw_become_2 fl_Tw_59 sh_1 rfl (by decide) (by decide) (by decide) ?_
  refine cj_putI (pc := 5) d_Tw_become_5 fl_Tw_59 sh_72 rfl (fun _ _ _ h => by cases h; rfl) (by decide) (by decide) (by decide) ?_
  refine mj_aload_n (pc := 8) (i := 0) d_Tw_become_8 rfl rfl (by decide) ?_
  refine mj_aload_n (pc := 9) (i := 1) d_Tw_become_9 rfl rfl (by decide) ?_
  refine cj_getI (pc := 10) d_Tw_become_10 fl_Tw_89 sh_1 rfl (by decide) (by decide) (by decide) ?_
  refine cj_putI (pc := 13) d_Tw_become_13 fl_Tw_89 sh_72 rfl (fun _ _ _ h => by cases h; rfl) (by decide) (by decide) (by decide) ?_
  refine mj_aload_n (pc := 16) (i := 0) d_Tw_become_16 rfl rfl (by decide) ?_
  refine mj_aload_n (pc := 17) (i := 1) d_Tw_become_17 rfl rfl (by decide) ?_
  refine cj_getI (pc := 18) d_Tw_become_18 fl_Tw_9 sh_1 rfl (by decide) (by decide) (by decide) ?_
  refine cj_putI (pc := 21) d_Tw_become_21 fl_Tw_9 sh_72 rfl (fun _ _ _ h => by cases h; rfl) (by decide) (by decide) (by decide) ?_
  refine mj_aload_n (pc := 24) (i := 0) d_Tw_become_24 rfl rfl (by decide) ?_
  refine mj_aload_n (pc := 25) (i := 1) d_Tw_become_25 rfl rfl (by decide) ?_
  refine cj_getI (pc := 26) d_Tw_become_26 fl_Tw_92 sh_1 rfl (by decide) (by decide) (by decide) ?_
  refine cj_putI (pc := 29) d_Tw_become_29 fl_Tw_92 sh_72 rfl (fun _ _ _ h => by cases h; rfl) (by decide) (by decide) (by decide) ?_
  refine mj_aload_n (pc := 32) (i := 0) d_Tw_become_32 rfl rfl (by decide) ?_
  refine mj_aload_n (pc := 33) (i := 1) d_Tw_become_33 rfl rfl (by decide) ?_
  refine cj_getI (pc := 34) d_Tw_become_34 fl_Tw_95 sh_1 rfl (by decide) (by decide) (by decide) ?_
  refine cj_putI (pc := 37) d_Tw_become_37 fl_Tw_95 sh_72 rfl (fun _ _ _ h => by cases h; rfl) (by decide) (by decide) (by decide) ?_
  refine mj_aload_n (pc := 40) (i := 1) d_Tw_become_40 rfl rfl (by decide) ?_
  refine mj_getR (pc := 41) d_Tw_become_41 fl_Tw_15 sh_1 rfl rfl (by decide) (by decide) (by decide) ?_
  refine mj_iconst (pc := 44) (v := 0) d_Tw_become_44 (by decide) ?_
  refine mj_aload_n (pc := 45) (i := 0) d_Tw_become_45 rfl rfl (by decide) ?_
  refine mj_getR (pc := 46) d_Tw_become_46 fl_Tw_15 sh_72 rfl rfl (by decide) (by decide) (by decide) ?_
  refine mj_iconst (pc := 49) (v := 0) d_Tw_become_49 (by decide) ?_
  refine mj_aload_n (pc := 50) (i := 0) d_Tw_become_50 rfl rfl (by decide) ?_
  refine mj_getR (pc := 51) d_Tw_become_51 fl_Tw_15 sh_72 rfl rfl (by decide) (by decide) (by decide) ?_
  refine mj_alen (pc := 54) (v := 12) d_Tw_become_54 sh_73 (by decide) (by decide) ?_
  refine cj_copy (pc := 55) d_Tw_become_55 cp_Tw_98 sh_2 sh_73 (by decide) (by decide) (by decide) (by decide) (Nat.le_of_ble_eq_true rfl) ?_
  show mj_R M_Tw_become 58 [some (.ref 72), some (.ref 1)] [] (SH, jn (mj_cp (mj_wr (mj_wr (mj_wr (mj_wr (mj_wr C0 72 0 (C0 1 0)) 72 1 (mj_wr C0 72 0 (C0 1 0) 1 1)) 72 2 (mj_wr (mj_wr C0 72 0 (C0 1 0)) 72 1 (mj_wr C0 72 0 (C0 1 0) 1 1) 1 2)) 72 3 (mj_wr (mj_wr (mj_wr C0 72 0 (C0 1 0)) 72 1 (mj_wr C0 72 0 (C0 1 0) 1 1)) 72 2 (mj_wr (mj_wr C0 72 0 (C0 1 0)) 72 1 (mj_wr C0 72 0 (C0 1 0) 1 1) 1 2) 1 3)) 72 4 (mj_wr (mj_wr (mj_wr (mj_wr C0 72 0 (C0 1 0)) 72 1 (mj_wr C0 72 0 (C0 1 0) 1 1)) 72 2 (mj_wr (mj_wr C0 72 0 (C0 1 0)) 72 1 (mj_wr C0 72 0 (C0 1 0) 1 1) 1 2)) 72 3 (mj_wr (mj_wr (mj_wr C0 72 0 (C0 1 0)) 72 1 (mj_wr C0 72 0 (C0 1 0) 1 1)) 72 2 (mj_wr (mj_wr C0 72 0 (C0 1 0)) 72 1 (mj_wr C0 72 0 (C0 1 0) 1 1) 1 2) 1 3) 1 4)) 2 73 0 0 12) D) none (SH, jn (C') D)
  refine mj_aload_n (pc := 58) (i := 1) d_Tw_become_58 rfl rfl (by decide) ?_
  refine mj_getR (pc := 59) d_Tw_become_59 fl_Tw_19 sh_1 rfl rfl (by decide) (by decide) (by decide) ?_
  refine mj_iconst (pc := 62) (v := 0) d_Tw_become_62 (by decide) ?_
  refine mj_aload_n (pc := 63) (i := 0) d_Tw_become_63 rfl rfl (by decide) ?_
  refine mj_getR (pc := 64) d_Tw_become_64 fl_Tw_19 sh_72 rfl rfl (by decide) (by decide) (by decide) ?_
  refine mj_iconst (pc := 67) (v := 0) d_Tw_become_67 (by decide) ?_
  refine mj_aload_n (pc := 68) (i := 0) d_Tw_become_68 rfl rfl (by decide) ?_
  refine mj_getR (pc := 69) d_Tw_become_69 fl_Tw_19 sh_72 rfl rfl (by decide) (by decide) (by decide) ?_
  refine mj_alen (pc := 72) (v := 12) d_Tw_become_72 sh_74 (by decide) (by decide) ?_
  refine cj_copy (pc := 73) d_Tw_become_73 cp_Tw_98 sh_3 sh_74 (by decide) (by decide) (by decide) (by decide) (Nat.le_of_ble_eq_true rfl) ?_
  show mj_R M_Tw_become 76 [some (.ref 72), some (.ref 1)] [] (SH, jn (mj_cp (mj_cp (mj_wr (mj_wr (mj_wr (mj_wr (mj_wr C0 72 0 (C0 1 0)) 72 1 (mj_wr C0 72 0 (C0 1 0) 1 1)) 72 2 (mj_wr (mj_wr C0 72 0 (C0 1 0)) 72 1 (mj_wr C0 72 0 (C0 1 0) 1 1) 1 2)) 72 3 (mj_wr (mj_wr (mj_wr C0 72 0 (C0 1 0)) 72 1 (mj_wr C0 72 0 (C0 1 0) 1 1)) 72 2 (mj_wr (mj_wr C0 72 0 (C0 1 0)) 72 1 (mj_wr C0 72 0 (C0 1 0) 1 1) 1 2) 1 3)) 72 4 (mj_wr (mj_wr (mj_wr (mj_wr C0 72 0 (C0 1 0)) 72 1 (mj_wr C0 72 0 (C0 1 0) 1 1)) 72 2 (mj_wr (mj_wr C0 72 0 (C0 1 0)) 72 1 (mj_wr C0 72 0 (C0 1 0) 1 1) 1 2)) 72 3 (mj_wr (mj_wr (mj_wr C0 72 0 (C0 1 0)) 72 1 (mj_wr C0 72 0 (C0 1 0) 1 1)) 72 2 (mj_wr (mj_wr C0 72 0 (C0 1 0)) 72 1 (mj_wr C0 72 0 (C0 1 0) 1 1) 1 2) 1 3) 1 4)) 2 73 0 0 12) 3 74 0 0 12) D) none (SH, jn (C') D)
  refine mj_aload_n (pc := 76) (i := 1) d_Tw_become_76 rfl rfl (by decide) ?_
  refine mj_getR (pc := 77) d_Tw_become_77 fl_Tw_22 sh_1 rfl rfl (by decide) (by decide) (by decide) ?_
  refine mj_iconst (pc := 80) (v := 0) d_Tw_become_80 (by decide) ?_
  refine mj_aload_n (pc := 81) (i := 0) d_Tw_become_81 rfl rfl (by decide) ?_
  refine mj_getR (pc := 82) d_Tw_become_82 fl_Tw_22 sh_72 rfl rfl (by decide) (by decide) (by decide) ?_
  refine mj_iconst (pc := 85) (v := 0) d_Tw_become_85 (by decide) ?_
  refine mj_aload_n (pc := 86) (i := 0) d_Tw_become_86 rfl rfl (by decide) ?_
  refine mj_getR (pc := 87) d_Tw_become_87 fl_Tw_22 sh_72 rfl rfl (by decide) (by decide) (by decide) ?_
  refine mj_alen (pc := 90) (v := 12) d_Tw_become_90 sh_75 (by decide) (by decide) ?_
  refine cj_copy (pc := 91) d_Tw_become_91 cp_Tw_98 sh_4 sh_75 (by decide) (by decide) (by decide) (by decide) (Nat.le_of_ble_eq_true rfl) ?_
  show mj_R M_Tw_become 94 [some (.ref 72), some (.ref 1)] [] (SH, jn (mj_cp (mj_cp (mj_cp (mj_wr (mj_wr (mj_wr (mj_wr (mj_wr C0 72 0 (C0 1 0)) 72 1 (mj_wr C0 72 0 (C0 1 0) 1 1)) 72 2 (mj_wr (mj_wr C0 72 0 (C0 1 0)) 72 1 (mj_wr C0 72 0 (C0 1 0) 1 1) 1 2)) 72 3 (mj_wr (mj_wr (mj_wr C0 72 0 (C0 1 0)) 72 1 (mj_wr C0 72 0 (C0 1 0) 1 1)) 72 2 (mj_wr (mj_wr C0 72 0 (C0 1 0)) 72 1 (mj_wr C0 72 0 (C0 1 0) 1 1) 1 2) 1 3)) 72 4 (mj_wr (mj_wr (mj_wr (mj_wr C0 72 0 (C0 1 0)) 72 1 (mj_wr C0 72 0 (C0 1 0) 1 1)) 72 2 (mj_wr (mj_wr C0 72 0 (C0 1 0)) 72 1 (mj_wr C0 72 0 (C0 1 0) 1 1) 1 2)) 72 3 (mj_wr (mj_wr (mj_wr C0 72 0 (C0 1 0)) 72 1 (mj_wr C0 72 0 (C0 1 0) 1 1)) 72 2 (mj_wr (mj_wr C0 72 0 (C0 1 0)) 72 1 (mj_wr C0 72 0 (C0 1 0) 1 1) 1 2) 1 3) 1 4)) 2 73 0 0 12) 3 74 0 0 12) 4 75 0 0 12) D) none (SH, jn (C') D)
  refine mj_aload_n (pc := 94) (i := 1) d_Tw_become_94 rfl rfl (by decide) ?_
  refine mj_getR (pc := 95) d_Tw_become_95 fl_Tw_25 sh_1 rfl rfl (by decide) (by decide) (by decide) ?_
  refine mj_iconst (pc := 98) (v := 0) d_Tw_become_98 (by decide) ?_
  refine mj_aload_n (pc := 99) (i := 0) d_Tw_become_99 rfl rfl (by decide) ?_
  refine mj_getR (pc := 100) d_Tw_become_100 fl_Tw_25 sh_72 rfl rfl (by decide) (by decide) (by decide) ?_
  refine mj_iconst (pc := 103) (v := 0) d_Tw_become_103 (by decide) ?_
  refine mj_aload_n (pc := 104) (i := 0) d_Tw_become_104 rfl rfl (by decide) ?_
  refine mj_getR (pc := 105) d_Tw_become_105 fl_Tw_25 sh_72 rfl rfl (by decide) (by decide) (by decide) ?_
  refine mj_alen (pc := 108) (v := 12) d_Tw_become_108 sh_76 (by decide) (by decide) ?_
  refine cj_copy (pc := 109) d_Tw_become_109 cp_Tw_98 sh_5 sh_76 (by decide) (by decide) (by decide) (by decide) (Nat.le_of_ble_eq_true rfl) ?_
  show mj_R M_Tw_become 112 [some (.ref 72), some (.ref 1)] [] (SH, jn (mj_cp (mj_cp (mj_cp (mj_cp (mj_wr (mj_wr (mj_wr (mj_wr (mj_wr C0 72 0 (C0 1 0)) 72 1 (mj_wr C0 72 0 (C0 1 0) 1 1)) 72 2 (mj_wr (mj_wr C0 72 0 (C0 1 0)) 72 1 (mj_wr C0 72 0 (C0 1 0) 1 1) 1 2)) 72 3 (mj_wr (mj_wr (mj_wr C0 72 0 (C0 1 0)) 72 1 (mj_wr C0 72 0 (C0 1 0) 1 1)) 72 2 (mj_wr (mj_wr C0 72 0 (C0 1 0)) 72 1 (mj_wr C0 72 0 (C0 1 0) 1 1) 1 2) 1 3)) 72 4 (mj_wr (mj_wr (mj_wr (mj_wr C0 72 0 (C0 1 0)) 72 1 (mj_wr C0 72 0 (C0 1 0) 1 1)) 72 2 (mj_wr (mj_wr C0 72 0 (C0 1 0)) 72 1 (mj_wr C0 72 0 (C0 1 0) 1 1) 1 2)) 72 3 (mj_wr (mj_wr (mj_wr C0 72 0 (C0 1 0)) 72 1 (mj_wr C0 72 0 (C0 1 0) 1 1)) 72 2 (mj_wr (mj_wr C0 72 0 (C0 1 0)) 72 1 (mj_wr C0 72 0 (C0 1 0) 1 1) 1 2) 1 3) 1 4)) 2 73 0 0 12) 3 74 0 0 12) 4 75 0 0 12) 5 76 0 0 12) D) none (SH, jn (C') D)
  refine mj_aload_n (pc := 112) (i := 1) d_Tw_become_112 rfl rfl (by decide) ?_
  refine mj_getR (pc := 113) d_Tw_become_113 fl_Tw_28 sh_1 rfl rfl (by decide) (by decide) (by decide) ?_
  refine mj_iconst (pc := 116) (v := 0) d_Tw_become_116 (by decide) ?_
  refine mj_aload_n (pc := 117) (i := 0) d_Tw_become_117 rfl rfl (by decide) ?_
  refine mj_getR (pc := 118) d_Tw_become_118 fl_Tw_28 sh_72 rfl rfl (by decide) (by decide) (by decide) ?_
  refine mj_iconst (pc := 121) (v := 0) d_Tw_become_121 (by decide) ?_
  refine mj_aload_n (pc := 122) (i := 0) d_Tw_become_122 rfl rfl (by decide) ?_
  refine mj_getR (pc := 123) d_Tw_become_123 fl_Tw_28 sh_72 rfl rfl (by decide) (by decide) (by decide) ?_
  refine mj_alen (pc := 126) (v := 720) d_Tw_become_126 sh_77 (by decide) (by decide) ?_
  refine cj_copy (pc := 127) d_Tw_become_127 cp_Tw_98 sh_6 sh_77 (by decide) (by decide) (by decide) (by decide) (Nat.le_of_ble_eq_true rfl) ?_
  show mj_R M_Tw_become 130 [some (.ref 72), some (.ref 1)] [] (SH, jn (mj_cp (mj_cp (mj_cp (mj_cp (mj_cp (mj_wr (mj_wr (mj_wr (mj_wr (mj_wr C0 72 0 (C0 1 0)) 72 1 (mj_wr C0 72 0 (C0 1 0) 1 1)) 72 2 (mj_wr (mj_wr C0 72 0 (C0 1 0)) 72 1 (mj_wr C0 72 0 (C0 1 0) 1 1) 1 2)) 72 3 (mj_wr (mj_wr (mj_wr C0 72 0 (C0 1 0)) 72 1 (mj_wr C0 72 0 (C0 1 0) 1 1)) 72 2 (mj_wr (mj_wr C0 72 0 (C0 1 0)) 72 1 (mj_wr C0 72 0 (C0 1 0) 1 1) 1 2) 1 3)) 72 4 (mj_wr (mj_wr (mj_wr (mj_wr C0 72 0 (C0 1 0)) 72 1 (mj_wr C0 72 0 (C0 1 0) 1 1)) 72 2 (mj_wr (mj_wr C0 72 0 (C0 1 0)) 72 1 (mj_wr C0 72 0 (C0 1 0) 1 1) 1 2)) 72 3 (mj_wr (mj_wr (mj_wr C0 72 0 (C0 1 0)) 72 1 (mj_wr C0 72 0 (C0 1 0) 1 1)) 72 2 (mj_wr (mj_wr C0 72 0 (C0 1 0)) 72 1 (mj_wr C0 72 0 (C0 1 0) 1 1) 1 2) 1 3) 1 4)) 2 73 0 0 12) 3 74 0 0 12) 4 75 0 0 12) 5 76 0 0 12) 6 77 0 0 720) D) none (SH, jn (C') D)
  refine mj_aload_n (pc := 130) (i := 0) d_Tw_become_130 rfl rfl (by decide) ?_
  refine mj_getR (pc := 131) d_Tw_become_131 fl_Tw_34 sh_72 rfl rfl (by decide) (by decide) (by decide) ?_
  refine mj_aload_n (pc := 134) (i := 1) d_Tw_become_134 rfl rfl (by decide) ?_
  refine mj_getR (pc := 135) d_Tw_become_135 fl_Tw_34 sh_1 rfl rfl (by decide) (by decide) (by decide) ?_
  obtain ⟨C1, hb2, h⟩ := bd1_some h
  refine mj_callV (pc := 138) (b := 78) (vs := [.ref 7]) (st := []) d_Tw_become_138 bB_Tw_become_Sk_become lk_Tw_104 iv_Sk_become rc_78 rfl (Nat.le_of_ble_eq_true rfl) (Nat.le_of_ble_eq_true rfl) (r_Sk_become_2 hb2) ?_
  show mj_R M_Tw_become 141 [some (.ref 72), some (.ref 1)] [] (SH, jn C1 D) none (SH, jn (C') D)
  refine mj_aload_n (pc := 141) (i := 0) d_Tw_become_141 rfl rfl (by decide) ?_
  refine mj_getR (pc := 142) d_Tw_become_142 fl_Tw_41 sh_72 rfl rfl (by decide) (by decide) (by decide) ?_
  refine mj_aload_n (pc := 145) (i := 1) d_Tw_become_145 rfl rfl (by decide) ?_
  refine mj_getR (pc := 146) d_Tw_become_146 fl_Tw_41 sh_1 rfl rfl (by decide) (by decide) (by decide) ?_
  obtain ⟨C3, hb4, h⟩ := bd1_some h
  refine mj_callV (pc := 149) (b := 81) (vs := [.ref 10]) (st := []) d_Tw_become_149 bB_Tw_become_Wr_become lk_Tw_108 iv_Wr_become rc_81 rfl (Nat.le_of_ble_eq_true rfl) (Nat.le_of_ble_eq_true rfl) (r_Wr_become_2 hb4) ?_
  show mj_R M_Tw_become 152 [some (.ref 72), some (.ref 1)] [] (SH, jn C3 D) none (SH, jn (C') D)
  refine mj_aload_n (pc := 152) (i := 0) d_Tw_become_152 rfl rfl (by decide) ?_
  refine mj_getR (pc := 153) d_Tw_become_153 fl_Tw_48 sh_72 rfl rfl (by decide) (by decide) (by decide) ?_
  refine mj_aload_n (pc := 156) (i := 1) d_Tw_become_156 rfl rfl (by decide) ?_
  refine mj_getR (pc := 157) d_Tw_become_157 fl_Tw_48 sh_1 rfl rfl (by decide) (by decide) (by decide) ?_
  obtain ⟨C5, hb6, h⟩ := bd1_some h
  refine mj_callV (pc := 160) (b := 83) (vs := [.ref 12]) (st := []) d_Tw_become_160 bB_Tw_become_Rl_become lk_Tw_111 iv_Rl_become rc_83 rfl (Nat.le_of_ble_eq_true rfl) (Nat.le_of_ble_eq_true rfl) (r_Rl_become_2 hb6) ?_
  show mj_R M_Tw_become 163 [some (.ref 72), some (.ref 1)] [] (SH, jn C5 D) none (SH, jn (C') D)
  refine mj_aload_n (pc := 163) (i := 0) d_Tw_become_163 rfl rfl (by decide) ?_
  refine mj_getR (pc := 164) d_Tw_become_164 fl_Tw_55 sh_72 rfl rfl (by decide) (by decide) (by decide) ?_
  refine mj_aload_n (pc := 167) (i := 1) d_Tw_become_167 rfl rfl (by decide) ?_
  refine mj_getR (pc := 168) d_Tw_become_168 fl_Tw_55 sh_1 rfl rfl (by decide) (by decide) (by decide) ?_
  obtain ⟨C7, hb8, h⟩ := bd1_some h
  refine mj_callV (pc := 171) (b := 86) (vs := [.ref 15]) (st := []) d_Tw_become_171 bB_Tw_become_Ln_become lk_Tw_114 iv_Ln_become rc_86 rfl (Nat.le_of_ble_eq_true rfl) (Nat.le_of_ble_eq_true rfl) (r_Ln_become_2 hb8) ?_
  show mj_R M_Tw_become 174 [some (.ref 72), some (.ref 1)] [] (SH, jn C7 D) none (SH, jn (C') D)
  obtain e_1 := inj1 h
  subst e_1
  exact mj_vret (pc := 174) d_Tw_become_174 rfl
set_option maxRecDepth 20000 in
theorem r_Mk_save {x1 : Int32} {C0 D : St} {v : Int32} {C' : St} (h : f_Mk_save x1 C0 = some (v, C')) : mj_R M_Mk_save 0 (mj_lv M_Mk_save.2.2.1 [.ref 0, .int x1]) [] (SH, jn C0 D) (some (.int v)) (SH, jn (C') D) := by
  show mj_R M_Mk_save 0 [some (.ref 0), some (.int x1)] [] _ _ _
  unfold f_Mk_save at h
  refine mj_iload_n (pc := 0) (i := 1) d_Mk_save_0 rfl rfl ?_
  refine mj_iconst (pc := 1) (v := 0) d_Mk_save_1 (by decide) ?_
  refine mj_iconst (pc := 2) (v := 2) d_Mk_save_2 (by decide) ?_
  obtain ⟨v1, hb2, h⟩ := bd1_some h
  refine mj_callS (pc := 3) (vs := [.int x1, .int 0, .int 2]) (st := []) d_Mk_save_3 bB_Mk_save_Mk_isWithin lk_Mk_50 st_Mk_isWithin rfl (Nat.le_of_ble_eq_true rfl) (Nat.le_of_ble_eq_true rfl) (r_Mk_isWithin hb2) ?_
  show mj_R M_Mk_save 6 [some (.ref 0), some (.int x1)] [.int v1] (SH, jn C0 D) (some (.int v)) (SH, jn (C') D)
  refine mj_if_ne (y := 0) (pc := 6) (tgt := 12) d_Mk_save_6 (by decide) mj_hs (fun hc3 => ?_) (fun hc3 => ?_)
  · rw [if_neg hc3] at h
    refine mj_aload_n (pc := 12) (i := 0) d_Mk_save_12 rfl rfl (by decide) ?_
    refine mj_getR (pc := 13) d_Mk_save_13 fl_Mk_16 sh_0 rfl rfl (by decide) (by decide) (by decide) ?_
    refine mj_iload_n (pc := 16) (i := 1) d_Mk_save_16 rfl rfl ?_
    by_cases hc7 : x1 = 0
    · rw [if_pos hc7] at h
      refine mj_aaldE (pc := 17) 0 d_Mk_save_17 hc7 sh_17 (by decide) (by decide) rfl (by decide) ?_
      refine mj_aload_n (pc := 18) (i := 0) d_Mk_save_18 rfl rfl (by decide) ?_
      refine mj_getR (pc := 19) d_Mk_save_19 fl_Mk_12 sh_0 rfl rfl (by decide) (by decide) (by decide) ?_
      obtain ⟨C4, hb5, h⟩ := bd1_some h
      refine mj_callV (pc := 22) (b := 40) (vs := [.ref 1]) (st := []) d_Mk_save_22 bB_Mk_save_Tw_become lk_Mk_202 iv_Tw_become rc_40 rfl (Nat.le_of_ble_eq_true rfl) (Nat.le_of_ble_eq_true rfl) (r_Tw_become hb5) ?_
      show mj_R M_Mk_save 25 [some (.ref 0), some (.int x1)] [] (SH, jn C4 D) (some (.int v)) (SH, jn (C') D)
      refine mj_aload_n (pc := 25) (i := 0) d_Mk_save_25 rfl rfl (by decide) ?_
      refine mj_getR (pc := 26) d_Mk_save_26 fl_Mk_20 sh_0 rfl rfl (by decide) (by decide) (by decide) ?_
      refine mj_iload_n (pc := 29) (i := 1) d_Mk_save_29 rfl rfl ?_
      refine mj_iconst (pc := 30) (v := 1) d_Mk_save_30 (by decide) ?_
      obtain ⟨hg6, h⟩ := mj_gd h
      refine cj_zast (pc := 31) d_Mk_save_31 sh_18 (by decide) hg6 (by decide) ?_
      refine mj_aload_n (pc := 32) (i := 0) d_Mk_save_32 rfl rfl (by decide) ?_
      refine mj_getR (pc := 33) d_Mk_save_33 fl_Mk_12 sh_0 rfl rfl (by decide) (by decide) (by decide) ?_
      refine cj_getI (pc := 36) d_Mk_save_36 fl_Mk_139 sh_1 rfl (by decide) (by decide) (by decide) ?_
      obtain ⟨e_1, e_2⟩ := inj2 h
      subst e_1
      subst e_2
      exact mj_iret (pc := 39) d_Mk_save_39 rfl
    · rw [if_neg hc7] at h
      by_cases hc11 : x1 = 1
      · rw [if_pos hc11] at h
        refine mj_aaldE (pc := 17) 1 d_Mk_save_17 hc11 sh_17 (by decide) (by decide) rfl (by decide) ?_
        refine mj_aload_n (pc := 18) (i := 0) d_Mk_save_18 rfl rfl (by decide) ?_
        refine mj_getR (pc := 19) d_Mk_save_19 fl_Mk_12 sh_0 rfl rfl (by decide) (by decide) (by decide) ?_
        obtain ⟨C8, hb9, h⟩ := bd1_some h
        refine mj_callV (pc := 22) (b := 56) (vs := [.ref 1]) (st := []) d_Mk_save_22 bB_Mk_save_Tw_become lk_Mk_202 iv_Tw_become rc_56 rfl (Nat.le_of_ble_eq_true rfl) (Nat.le_of_ble_eq_true rfl) (r_Tw_become_1 hb9) ?_
        show mj_R M_Mk_save 25 [some (.ref 0), some (.int x1)] [] (SH, jn C8 D) (some (.int v)) (SH, jn (C') D)
        refine mj_aload_n (pc := 25) (i := 0) d_Mk_save_25 rfl rfl (by decide) ?_
        refine mj_getR (pc := 26) d_Mk_save_26 fl_Mk_20 sh_0 rfl rfl (by decide) (by decide) (by decide) ?_
        refine mj_iload_n (pc := 29) (i := 1) d_Mk_save_29 rfl rfl ?_
        refine mj_iconst (pc := 30) (v := 1) d_Mk_save_30 (by decide) ?_
        obtain ⟨hg10, h⟩ := mj_gd h
        refine cj_zast (pc := 31) d_Mk_save_31 sh_18 (by decide) hg10 (by decide) ?_
        refine mj_aload_n (pc := 32) (i := 0) d_Mk_save_32 rfl rfl (by decide) ?_
        refine mj_getR (pc := 33) d_Mk_save_33 fl_Mk_12 sh_0 rfl rfl (by decide) (by decide) (by decide) ?_
        refine cj_getI (pc := 36) d_Mk_save_36 fl_Mk_139 sh_1 rfl (by decide) (by decide) (by decide) ?_
        obtain ⟨e_1, e_2⟩ := inj2 h
        subst e_1
        subst e_2
        exact mj_iret (pc := 39) d_Mk_save_39 rfl
      · rw [if_neg hc11] at h
        by_cases hc15 : x1 = 2
        · rw [if_pos hc15] at h
          refine mj_aaldE (pc := 17) 2 d_Mk_save_17 hc15 sh_17 (by decide) (by decide) rfl (by decide) ?_
          refine mj_aload_n (pc := 18) (i := 0) d_Mk_save_18 rfl rfl (by decide) ?_
          refine mj_getR (pc := 19) d_Mk_save_19 fl_Mk_12 sh_0 rfl rfl (by decide) (by decide) (by decide) ?_
          obtain ⟨C12, hb13, h⟩ := bd1_some h
          refine mj_callV (pc := 22) (b := 72) (vs := [.ref 1]) (st := []) d_Mk_save_22 bB_Mk_save_Tw_become lk_Mk_202 iv_Tw_become rc_72 rfl (Nat.le_of_ble_eq_true rfl) (Nat.le_of_ble_eq_true rfl) (r_Tw_become_2 hb13) ?_
          show mj_R M_Mk_save 25 [some (.ref 0), some (.int x1)] [] (SH, jn C12 D) (some (.int v)) (SH, jn (C') D)
          refine mj_aload_n (pc := 25) (i := 0) d_Mk_save_25 rfl rfl (by decide) ?_
          refine mj_getR (pc := 26) d_Mk_save_26 fl_Mk_20 sh_0 rfl rfl (by decide) (by decide) (by decide) ?_
          refine mj_iload_n (pc := 29) (i := 1) d_Mk_save_29 rfl rfl ?_
          refine mj_iconst (pc := 30) (v := 1) d_Mk_save_30 (by decide) ?_
          obtain ⟨hg14, h⟩ := mj_gd h
          refine cj_zast (pc := 31) d_Mk_save_31 sh_18 (by decide) hg14 (by decide) ?_
          refine mj_aload_n (pc := 32) (i := 0) d_Mk_save_32 rfl rfl (by decide) ?_
          refine mj_getR (pc := 33) d_Mk_save_33 fl_Mk_12 sh_0 rfl rfl (by decide) (by decide) (by decide) ?_
          refine cj_getI (pc := 36) d_Mk_save_36 fl_Mk_139 sh_1 rfl (by decide) (by decide) (by decide) ?_
          obtain ⟨e_1, e_2⟩ := inj2 h
          subst e_1
          subst e_2
          exact mj_iret (pc := 39) d_Mk_save_39 rfl
        · rw [if_neg hc15] at h
          cases h
  · rw [if_pos hc3] at h
    refine mj_ldc (pc := 9) (v := -1000000001) d_Mk_save_9 k_Mk_54 ?_
    obtain ⟨e_1, e_2⟩ := inj2 h
    subst e_1
    subst e_2
    exact mj_iret (pc := 11) d_Mk_save_11 rfl
set_option maxRecDepth 20000 in
theorem r_Sk_become_3  {C0 D : St} {C' : St} (h : f_Sk_become_3 C0 = some (C')) : mj_R M_Sk_become 0 (mj_lv M_Sk_become.2.2.1 [.ref 7, .ref 46]) [] (SH, jn C0 D) none (SH, jn (C') D) := by
  show mj_R M_Sk_become 0 [some (.ref 7), some (.ref 46)] [] _ _ _
  unfold f_Sk_become_3 at h
  refine mj_aload_n (pc := 0) (i := 1) d_Sk_become_0 rfl rfl (by decide) ?_
  refine mj_getR (pc := 1) d_Sk_become_1 fl_Sk_9 sh_46 rfl rfl (by decide) (by decide) (by decide) ?_
  refine mj_iconst (pc := 4) (v := 0) d_Sk_become_4 (by decide) ?_
  refine mj_aload_n (pc := 5) (i := 0) d_Sk_become_5 rfl rfl (by decide) ?_
  refine mj_getR (pc := 6) d_Sk_become_6 fl_Sk_9 sh_7 rfl rfl (by decide) (by decide) (by decide) ?_
  refine mj_iconst (pc := 9) (v := 0) d_Sk_become_9 (by decide) ?_
  refine mj_aload_n (pc := 10) (i := 0) d_Sk_become_10 rfl rfl (by decide) ?_
  refine mj_getR (pc := 11) d_Sk_become_11 fl_Sk_9 sh_7 rfl rfl (by decide) (by decide) (by decide) ?_
  refine mj_alen (pc := 14) (v := 600) d_Sk_become_14 sh_8 (by decide) (by decide) ?_
  refine cj_copy (pc := 15) d_Sk_become_15 cp_Sk_34 sh_47 sh_8 (by decide) (by decide) (by decide) (by decide) (Nat.le_of_ble_eq_true rfl) ?_
  show mj_R M_Sk_become 18 [some (.ref 7), some (.ref 46)] [] (SH, jn (mj_cp C0 47 8 0 0 600) D) none (SH, jn (C') D)
  refine mj_aload_n (pc := 18) (i := 1) d_Sk_become_18 rfl rfl (by decide) ?_
  refine mj_getR (pc := 19) d_Sk_become_19 fl_Sk_15 sh_46 rfl rfl (by decide) (by decide) (by decide) ?_
  refine mj_iconst (pc := 22) (v := 0) d_Sk_become_22 (by decide) ?_
  refine mj_aload_n (pc := 23) (i := 0) d_Sk_become_23 rfl rfl (by decide) ?_
  refine mj_getR (pc := 24) d_Sk_become_24 fl_Sk_15 sh_7 rfl rfl (by decide) (by decide) (by decide) ?_
  refine mj_iconst (pc := 27) (v := 0) d_Sk_become_27 (by decide) ?_
  refine mj_aload_n (pc := 28) (i := 0) d_Sk_become_28 rfl rfl (by decide) ?_
  refine mj_getR (pc := 29) d_Sk_become_29 fl_Sk_15 sh_7 rfl rfl (by decide) (by decide) (by decide) ?_
  refine mj_alen (pc := 32) (v := 60) d_Sk_become_32 sh_9 (by decide) (by decide) ?_
  refine cj_copy (pc := 33) d_Sk_become_33 cp_Sk_34 sh_48 sh_9 (by decide) (by decide) (by decide) (by decide) (Nat.le_of_ble_eq_true rfl) ?_
  show mj_R M_Sk_become 36 [some (.ref 7), some (.ref 46)] [] (SH, jn (mj_cp (mj_cp C0 47 8 0 0 600) 48 9 0 0 60) D) none (SH, jn (C') D)
  obtain e_1 := inj1 h
  subst e_1
  exact mj_vret (pc := 36) d_Sk_become_36 rfl
set_option maxRecDepth 20000 in
theorem r_Wr_become_3  {C0 D : St} {C' : St} (h : f_Wr_become_3 C0 = some (C')) : mj_R M_Wr_become 0 (mj_lv M_Wr_become.2.2.1 [.ref 10, .ref 49]) [] (SH, jn C0 D) none (SH, jn (C') D) := by
  show mj_R M_Wr_become 0 [some (.ref 10), some (.ref 49)] [] _ _ _
  unfold f_Wr_become_3 at h
  refine mj_aload_n (pc := 0) (i := 1) d_Wr_become_0 rfl rfl (by decide) ?_
  refine mj_getR (pc := 1) d_Wr_become_1 fl_Wr_11 sh_49 rfl rfl (by decide) (by decide) (by decide) ?_
  refine mj_iconst (pc := 4) (v := 0) d_Wr_become_4 (by decide) ?_
  refine mj_aload_n (pc := 5) (i := 0) d_Wr_become_5 rfl rfl (by decide) ?_
  refine mj_getR (pc := 6) d_Wr_become_6 fl_Wr_11 sh_10 rfl rfl (by decide) (by decide) (by decide) ?_
  refine mj_iconst (pc := 9) (v := 0) d_Wr_become_9 (by decide) ?_
  refine mj_aload_n (pc := 10) (i := 0) d_Wr_become_10 rfl rfl (by decide) ?_
  refine mj_getR (pc := 11) d_Wr_become_11 fl_Wr_11 sh_10 rfl rfl (by decide) (by decide) (by decide) ?_
  refine mj_alen (pc := 14) (v := 55) d_Wr_become_14 sh_11 (by decide) (by decide) ?_
  refine cj_copy (pc := 15) d_Wr_become_15 cp_Wr_15 sh_50 sh_11 (by decide) (by decide) (by decide) (by decide) (Nat.le_of_ble_eq_true rfl) ?_
  show mj_R M_Wr_become 18 [some (.ref 10), some (.ref 49)] [] (SH, jn (mj_cp C0 50 11 0 0 55) D) none (SH, jn (C') D)
  obtain e_1 := inj1 h
  subst e_1
  exact mj_vret (pc := 18) d_Wr_become_18 rfl
set_option maxRecDepth 20000 in
theorem r_Rl_become_3  {C0 D : St} {C' : St} (h : f_Rl_become_3 C0 = some (C')) : mj_R M_Rl_become 0 (mj_lv M_Rl_become.2.2.1 [.ref 12, .ref 51]) [] (SH, jn C0 D) none (SH, jn (C') D) := by
  show mj_R M_Rl_become 0 [some (.ref 12), some (.ref 51)] [] _ _ _
  unfold f_Rl_become_3 at h
  refine mj_aload_n (pc := 0) (i := 1) d_Rl_become_0 rfl rfl (by decide) ?_
  refine mj_getR (pc := 1) d_Rl_become_1 fl_Rl_9 sh_51 rfl rfl (by decide) (by decide) (by decide) ?_
  refine mj_iconst (pc := 4) (v := 0) d_Rl_become_4 (by decide) ?_
  refine mj_aload_n (pc := 5) (i := 0) d_Rl_become_5 rfl rfl (by decide) ?_
  refine mj_getR (pc := 6) d_Rl_become_6 fl_Rl_9 sh_12 rfl rfl (by decide) (by decide) (by decide) ?_
  refine mj_iconst (pc := 9) (v := 0) d_Rl_become_9 (by decide) ?_
  refine mj_aload_n (pc := 10) (i := 0) d_Rl_become_10 rfl rfl (by decide) ?_
  refine mj_getR (pc := 11) d_Rl_become_11 fl_Rl_9 sh_12 rfl rfl (by decide) (by decide) (by decide) ?_
  refine mj_alen (pc := 14) (v := 12) d_Rl_become_14 sh_13 (by decide) (by decide) ?_
  refine cj_copy (pc := 15) d_Rl_become_15 cp_Rl_23 sh_52 sh_13 (by decide) (by decide) (by decide) (by decide) (Nat.le_of_ble_eq_true rfl) ?_
  show mj_R M_Rl_become 18 [some (.ref 12), some (.ref 51)] [] (SH, jn (mj_cp C0 52 13 0 0 12) D) none (SH, jn (C') D)
  refine mj_aload_n (pc := 18) (i := 1) d_Rl_become_18 rfl rfl (by decide) ?_
  refine mj_getR (pc := 19) d_Rl_become_19 fl_Rl_15 sh_51 rfl rfl (by decide) (by decide) (by decide) ?_
  refine mj_iconst (pc := 22) (v := 0) d_Rl_become_22 (by decide) ?_
  refine mj_aload_n (pc := 23) (i := 0) d_Rl_become_23 rfl rfl (by decide) ?_
  refine mj_getR (pc := 24) d_Rl_become_24 fl_Rl_15 sh_12 rfl rfl (by decide) (by decide) (by decide) ?_
  refine mj_iconst (pc := 27) (v := 0) d_Rl_become_27 (by decide) ?_
  refine mj_aload_n (pc := 28) (i := 0) d_Rl_become_28 rfl rfl (by decide) ?_
  refine mj_getR (pc := 29) d_Rl_become_29 fl_Rl_15 sh_12 rfl rfl (by decide) (by decide) (by decide) ?_
  refine mj_alen (pc := 32) (v := 648) d_Rl_become_32 sh_14 (by decide) (by decide) ?_
  refine cj_copy (pc := 33) d_Rl_become_33 cp_Rl_23 sh_53 sh_14 (by decide) (by decide) (by decide) (by decide) (Nat.le_of_ble_eq_true rfl) ?_
  show mj_R M_Rl_become 36 [some (.ref 12), some (.ref 51)] [] (SH, jn (mj_cp (mj_cp C0 52 13 0 0 12) 53 14 0 0 648) D) none (SH, jn (C') D)
  obtain e_1 := inj1 h
  subst e_1
  exact mj_vret (pc := 36) d_Rl_become_36 rfl
set_option maxRecDepth 20000 in
theorem r_Ln_become_3  {C0 D : St} {C' : St} (h : f_Ln_become_3 C0 = some (C')) : mj_R M_Ln_become 0 (mj_lv M_Ln_become.2.2.1 [.ref 15, .ref 54]) [] (SH, jn C0 D) none (SH, jn (C') D) := by
  show mj_R M_Ln_become 0 [some (.ref 15), some (.ref 54)] [] _ _ _
  unfold f_Ln_become_3 at h
  refine mj_aload_n (pc := 0) (i := 0) d_Ln_become_0 rfl rfl (by decide) ?_
  refine mj_aload_n (pc := 1) (i := 1) d_Ln_become_1 rfl rfl (by decide) ?_
  refine cj_getI (pc := 2) d_Ln_become_2 fl_Ln_15 sh_54 rfl (by decide) (by decide) (by decide) ?_
  refine cj_putI (pc := 5) d_Ln_become_5 fl_Ln_15 sh_15 rfl (fun _ _ _ h => by cases h; rfl) (by decide) (by decide) (by decide) ?_
  refine mj_aload_n (pc := 8) (i := 1) d_Ln_become_8 rfl rfl (by decide) ?_
  refine mj_getR (pc := 9) d_Ln_become_9 fl_Ln_11 sh_54 rfl rfl (by decide) (by decide) (by decide) ?_
  refine mj_iconst (pc := 12) (v := 0) d_Ln_become_12 (by decide) ?_
  refine mj_aload_n (pc := 13) (i := 0) d_Ln_become_13 rfl rfl (by decide) ?_
  refine mj_getR (pc := 14) d_Ln_become_14 fl_Ln_11 sh_15 rfl rfl (by decide) (by decide) (by decide) ?_
  refine mj_iconst (pc := 17) (v := 0) d_Ln_become_17 (by decide) ?_
  refine mj_aload_n (pc := 18) (i := 0) d_Ln_become_18 rfl rfl (by decide) ?_
  refine mj_getR (pc := 19) d_Ln_become_19 fl_Ln_11 sh_15 rfl rfl (by decide) (by decide) (by decide) ?_
  refine mj_alen (pc := 22) (v := 80) d_Ln_become_22 sh_16 (by decide) (by decide) ?_
  refine cj_copy (pc := 23) d_Ln_become_23 cp_Ln_69 sh_55 sh_16 (by decide) (by decide) (by decide) (by decide) (Nat.le_of_ble_eq_true rfl) ?_
  show mj_R M_Ln_become 26 [some (.ref 15), some (.ref 54)] [] (SH, jn (mj_cp (mj_wr C0 15 0 (C0 54 0)) 55 16 0 0 80) D) none (SH, jn (C') D)
  obtain e_1 := inj1 h
  subst e_1
  exact mj_vret (pc := 26) d_Ln_become_26 rfl
set_option maxRecDepth 20000 in
theorem r_Tw_become_3  {C0 D : St} {C' : St} (h : f_Tw_become_3 C0 = some (C')) : mj_R M_Tw_become 0 (mj_lv M_Tw_become.2.2.1 [.ref 1, .ref 40]) [] (SH, jn C0 D) none (SH, jn (C') D) := by
  show mj_R M_Tw_become 0 [some (.ref 1), some (.ref 40)] [] _ _ _
  unfold f_Tw_become_3 at h
  refine mj_aload_n (pc := 0) (i := 0) d_Tw_become_0 rfl rfl (by decide) ?_
  refine mj_aload_n (pc := 1) (i := 1) d_Tw_become_1 rfl rfl (by decide) ?_
  refine cj_getI (pc := 2) d_Tw_become_2 fl_Tw_59 sh_40 rfl (by decide) (by decide) (by decide) ?_
  refine cj_putI (pc := 5) d_Tw_become_5 fl_Tw_59 sh_1 rfl (fun _ _ _ h => by cases h; rfl) (by decide) (by decide) (by decide) ?_
  refine mj_aload_n (pc := 8) (i := 0) d_Tw_become_8 rfl rfl (by decide) ?_
  refine mj_aload_n (pc := 9) (i := 1) d_Tw_become_9 rfl rfl (by decide) ?_
  refine cj_getI (pc := 10) d_Tw_become_10 fl_Tw_89 sh_40 rfl (by decide) (by decide) (by decide) ?_
  refine cj_putI (pc := 13) d_Tw_become_13 fl_Tw_89 sh_1 rfl (fun _ _ _ h => by cases h; rfl) (by decide) (by decide) (by decide) ?_
  refine mj_aload_n (pc := 16) (i := 0) d_Tw_become_16 rfl rfl (by decide) ?_
  refine mj_aload_n (pc := 17) (i := 1) d_Tw_become_17 rfl rfl (by decide) ?_
  refine cj_getI (pc := 18) d_Tw_become_18 fl_Tw_9 sh_40 rfl (by decide) (by decide) (by decide) ?_
  refine cj_putI (pc := 21) d_Tw_become_21 fl_Tw_9 sh_1 rfl (fun _ _ _ h => by cases h; rfl) (by decide) (by decide) (by decide) ?_
  refine mj_aload_n (pc := 24) (i := 0) d_Tw_become_24 rfl rfl (by decide) ?_
  refine mj_aload_n (pc := 25) (i := 1) d_Tw_become_25 rfl rfl (by decide) ?_
  refine cj_getI (pc := 26) d_Tw_become_26 fl_Tw_92 sh_40 rfl (by decide) (by decide) (by decide) ?_
  refine cj_putI (pc := 29) d_Tw_become_29 fl_Tw_92 sh_1 rfl (fun _ _ _ h => by cases h; rfl) (by decide) (by decide) (by decide) ?_
  refine mj_aload_n (pc := 32) (i := 0) d_Tw_become_32 rfl rfl (by decide) ?_
  refine mj_aload_n (pc := 33) (i := 1) d_Tw_become_33 rfl rfl (by decide) ?_
  refine cj_getI (pc := 34) d_Tw_become_34 fl_Tw_95 sh_40 rfl (by decide) (by decide) (by decide) ?_
  refine cj_putI (pc := 37) d_Tw_become_37 fl_Tw_95 sh_1 rfl (fun _ _ _ h => by cases h; rfl) (by decide) (by decide) (by decide) ?_
  refine mj_aload_n (pc := 40) (i := 1) d_Tw_become_40 rfl rfl (by decide) ?_
  refine mj_getR (pc := 41) d_Tw_become_41 fl_Tw_15 sh_40 rfl rfl (by decide) (by decide) (by decide) ?_
  refine mj_iconst (pc := 44) (v := 0) d_Tw_become_44 (by decide) ?_
  refine mj_aload_n (pc := 45) (i := 0) d_Tw_become_45 rfl rfl (by decide) ?_
  refine mj_getR (pc := 46) d_Tw_become_46 fl_Tw_15 sh_1 rfl rfl (by decide) (by decide) (by decide) ?_
  refine mj_iconst (pc := 49) (v := 0) d_Tw_become_49 (by decide) ?_
  refine mj_aload_n (pc := 50) (i := 0) d_Tw_become_50 rfl rfl (by decide) ?_
  refine mj_getR (pc := 51) d_Tw_become_51 fl_Tw_15 sh_1 rfl rfl (by decide) (by decide) (by decide) ?_
  refine mj_alen (pc := 54) (v := 12) d_Tw_become_54 sh_2 (by decide) (by decide) ?_
  refine cj_copy (pc := 55) d_Tw_become_55 cp_Tw_98 sh_41 sh_2 (by decide) (by decide) (by decide) (by decide) (Nat.le_of_ble_eq_true rfl) ?_
  show mj_R M_Tw_become 58 [some (.ref 1), some (.ref 40)] [] (SH, jn (mj_cp (mj_wr (mj_wr (mj_wr (mj_wr (mj_wr C0 1 0 (C0 40 0)) 1 1 (mj_wr C0 1 0 (C0 40 0) 40 1)) 1 2 (mj_wr (mj_wr C0 1 0 (C0 40 0)) 1 1 (mj_wr C0 1 0 (C0 40 0) 40 1) 40 2)) 1 3 (mj_wr (mj_wr (mj_wr C0 1 0 (C0 40 0)) 1 1 (mj_wr C0 1 0 (C0 40 0) 40 1)) 1 2 (mj_wr (mj_wr C0 1 0 (C0 40 0)) 1 1 (mj_wr C0 1 0 (C0 40 0) 40 1) 40 2) 40 3)) 1 4 (mj_wr (mj_wr (mj_wr (mj_wr C0 1 0 (C0 40 0)) 1 1 (mj_wr C0 1 0 (C0 40 0) 40 1)) 1 2 (mj_wr (mj_wr C0 1 0 (C0 40 0)) 1 1 (mj_wr C0 1 0 (C0 40 0) 40 1) 40 2)) 1 3 (mj_wr (mj_wr (mj_wr C0 1 0 (C0 40 0)) 1 1 (mj_wr C0 1 0 (C0 40 0) 40 1)) 1 2 (mj_wr (mj_wr C0 1 0 (C0 40 0)) 1 1 (mj_wr C0 1 0 (C0 40 0) 40 1) 40 2) 40 3) 40 4)) 41 2 0 0 12) D) none (SH, jn (C') D)
  refine mj_aload_n (pc := 58) (i := 1) d_Tw_become_58 rfl rfl (by decide) ?_
  refine mj_getR (pc := 59) d_Tw_become_59 fl_Tw_19 sh_40 rfl rfl (by decide) (by decide) (by decide) ?_
  refine mj_iconst (pc := 62) (v := 0) d_Tw_become_62 (by decide) ?_
  refine mj_aload_n (pc := 63) (i := 0) d_Tw_become_63 rfl rfl (by decide) ?_
  refine mj_getR (pc := 64) d_Tw_become_64 fl_Tw_19 sh_1 rfl rfl (by decide) (by decide) (by decide) ?_
  refine mj_iconst (pc := 67) (v := 0) d_Tw_become_67 (by decide) ?_
  refine mj_aload_n (pc := 68) (i := 0) d_Tw_become_68 rfl rfl (by decide) ?_
  refine mj_getR (pc := 69) d_Tw_become_69 fl_Tw_19 sh_1 rfl rfl (by decide) (by decide) (by decide) ?_
  refine mj_alen (pc := 72) (v := 12) d_Tw_become_72 sh_3 (by decide) (by decide) ?_
  refine cj_copy (pc := 73) d_Tw_become_73 cp_Tw_98 sh_42 sh_3 (by decide) (by decide) (by decide) (by decide) (Nat.le_of_ble_eq_true rfl) ?_
  show mj_R M_Tw_become 76 [some (.ref 1), some (.ref 40)] [] (SH, jn (mj_cp (mj_cp (mj_wr (mj_wr (mj_wr (mj_wr (mj_wr C0 1 0 (C0 40 0)) 1 1 (mj_wr C0 1 0 (C0 40 0) 40 1)) 1 2 (mj_wr (mj_wr C0 1 0 (C0 40 0)) 1 1 (mj_wr C0 1 0 (C0 40 0) 40 1) 40 2)) 1 3 (mj_wr (mj_wr (mj_wr C0 1 0 (C0 40 0)) 1 1 (mj_wr C0 1 0 (C0 40 0) 40 1)) 1 2 (mj_wr (mj_wr C0 1 0 (C0 40 0)) 1 1 (mj_wr C0 1 0 (C0 40 0) 40 1) 40 2) 40 3)) 1 4 (mj_wr (mj_wr (mj_wr (mj_wr C0 1 0 (C0 40 0)) 1 1 (mj_wr C0 1 0 (C0 40 0) 40 1)) 1 2 (mj_wr (mj_wr C0 1 0 (C0 40 0)) 1 1 (mj_wr C0 1 0 (C0 40 0) 40 1) 40 2)) 1 3 (mj_wr (mj_wr (mj_wr C0 1 0 (C0 40 0)) 1 1 (mj_wr C0 1 0 (C0 40 0) 40 1)) 1 2 (mj_wr (mj_wr C0 1 0 (C0 40 0)) 1 1 (mj_wr C0 1 0 (C0 40 0) 40 1) 40 2) 40 3) 40 4)) 41 2 0 0 12) 42 3 0 0 12) D) none (SH, jn (C') D)
  refine mj_aload_n (pc := 76) (i := 1) d_Tw_become_76 rfl rfl (by decide) ?_
  refine mj_getR (pc := 77) d_Tw_become_77 fl_Tw_22 sh_40 rfl rfl (by decide) (by decide) (by decide) ?_
  refine mj_iconst (pc := 80) (v := 0) d_Tw_become_80 (by decide) ?_
  refine mj_aload_n (pc := 81) (i := 0) d_Tw_become_81 rfl rfl (by decide) ?_
  refine mj_getR (pc := 82) d_Tw_become_82 fl_Tw_22 sh_1 rfl rfl (by decide) (by decide) (by decide) ?_
  refine mj_iconst (pc := 85) (v := 0) d_Tw_become_85 (by decide) ?_
  refine mj_aload_n (pc := 86) (i := 0) d_Tw_become_86 rfl rfl (by decide) ?_
  refine mj_getR (pc := 87) d_Tw_become_87 fl_Tw_22 sh_1 rfl rfl (by decide) (by decide) (by decide) ?_
  refine mj_alen (pc := 90) (v := 12) d_Tw_become_90 sh_4 (by decide) (by decide) ?_
  refine cj_copy (pc := 91) d_Tw_become_91 cp_Tw_98 sh_43 sh_4 (by decide) (by decide) (by decide) (by decide) (Nat.le_of_ble_eq_true rfl) ?_
  show mj_R M_Tw_become 94 [some (.ref 1), some (.ref 40)] [] (SH, jn (mj_cp (mj_cp (mj_cp (mj_wr (mj_wr (mj_wr (mj_wr (mj_wr C0 1 0 (C0 40 0)) 1 1 (mj_wr C0 1 0 (C0 40 0) 40 1)) 1 2 (mj_wr (mj_wr C0 1 0 (C0 40 0)) 1 1 (mj_wr C0 1 0 (C0 40 0) 40 1) 40 2)) 1 3 (mj_wr (mj_wr (mj_wr C0 1 0 (C0 40 0)) 1 1 (mj_wr C0 1 0 (C0 40 0) 40 1)) 1 2 (mj_wr (mj_wr C0 1 0 (C0 40 0)) 1 1 (mj_wr C0 1 0 (C0 40 0) 40 1) 40 2) 40 3)) 1 4 (mj_wr (mj_wr (mj_wr (mj_wr C0 1 0 (C0 40 0)) 1 1 (mj_wr C0 1 0 (C0 40 0) 40 1)) 1 2 (mj_wr (mj_wr C0 1 0 (C0 40 0)) 1 1 (mj_wr C0 1 0 (C0 40 0) 40 1) 40 2)) 1 3 (mj_wr (mj_wr (mj_wr C0 1 0 (C0 40 0)) 1 1 (mj_wr C0 1 0 (C0 40 0) 40 1)) 1 2 (mj_wr (mj_wr C0 1 0 (C0 40 0)) 1 1 (mj_wr C0 1 0 (C0 40 0) 40 1) 40 2) 40 3) 40 4)) 41 2 0 0 12) 42 3 0 0 12) 43 4 0 0 12) D) none (SH, jn (C') D)
  refine mj_aload_n (pc := 94) (i := 1) d_Tw_become_94 rfl rfl (by decide) ?_
  refine mj_getR (pc := 95) d_Tw_become_95 fl_Tw_25 sh_40 rfl rfl (by decide) (by decide) (by decide) ?_
  refine mj_iconst (pc := 98) (v := 0) d_Tw_become_98 (by decide) ?_
  refine mj_aload_n (pc := 99) (i := 0) d_Tw_become_99 rfl rfl (by decide) ?_
  refine mj_getR (pc := 100) d_Tw_become_100 fl_Tw_25 sh_1 rfl rfl (by decide) (by decide) (by decide) ?_
  refine mj_iconst (pc := 103) (v := 0) d_Tw_become_103 (by decide) ?_
  refine mj_aload_n (pc := 104) (i := 0) d_Tw_become_104 rfl rfl (by decide) ?_
  refine mj_getR (pc := 105) d_Tw_become_105 fl_Tw_25 sh_1 rfl rfl (by decide) (by decide) (by decide) ?_
  refine mj_alen (pc := 108) (v := 12) d_Tw_become_108 sh_5 (by decide) (by decide) ?_
  refine cj_copy (pc := 109) d_Tw_become_109 cp_Tw_98 sh_44 sh_5 (by decide) (by decide) (by decide) (by decide) (Nat.le_of_ble_eq_true rfl) ?_
  show mj_R M_Tw_become 112 [some (.ref 1), some (.ref 40)] [] (SH, jn (mj_cp (mj_cp (mj_cp (mj_cp (mj_wr (mj_wr (mj_wr (mj_wr (mj_wr C0 1 0 (C0 40 0)) 1 1 (mj_wr C0 1 0 (C0 40 0) 40 1)) 1 2 (mj_wr (mj_wr C0 1 0 (C0 40 0)) 1 1 (mj_wr C0 1 0 (C0 40 0) 40 1) 40 2)) 1 3 (mj_wr (mj_wr (mj_wr C0 1 0 (C0 40 0)) 1 1 (mj_wr C0 1 0 (C0 40 0) 40 1)) 1 2 (mj_wr (mj_wr C0 1 0 (C0 40 0)) 1 1 (mj_wr C0 1 0 (C0 40 0) 40 1) 40 2) 40 3)) 1 4 (mj_wr (mj_wr (mj_wr (mj_wr C0 1 0 (C0 40 0)) 1 1 (mj_wr C0 1 0 (C0 40 0) 40 1)) 1 2 (mj_wr (mj_wr C0 1 0 (C0 40 0)) 1 1 (mj_wr C0 1 0 (C0 40 0) 40 1) 40 2)) 1 3 (mj_wr (mj_wr (mj_wr C0 1 0 (C0 40 0)) 1 1 (mj_wr C0 1 0 (C0 40 0) 40 1)) 1 2 (mj_wr (mj_wr C0 1 0 (C0 40 0)) 1 1 (mj_wr C0 1 0 (C0 40 0) 40 1) 40 2) 40 3) 40 4)) 41 2 0 0 12) 42 3 0 0 12) 43 4 0 0 12) 44 5 0 0 12) D) none (SH, jn (C') D)
  refine mj_aload_n (pc := 112) (i := 1) d_Tw_become_112 rfl rfl (by decide) ?_
  refine mj_getR (pc := 113) d_Tw_become_113 fl_Tw_28 sh_40 rfl rfl (by decide) (by decide) (by decide) ?_
  refine mj_iconst (pc := 116) (v := 0) d_Tw_become_116 (by decide) ?_
  refine mj_aload_n (pc := 117) (i := 0) d_Tw_become_117 rfl rfl (by decide) ?_
  refine mj_getR (pc := 118) d_Tw_become_118 fl_Tw_28 sh_1 rfl rfl (by decide) (by decide) (by decide) ?_
  refine mj_iconst (pc := 121) (v := 0) d_Tw_become_121 (by decide) ?_
  refine mj_aload_n (pc := 122) (i := 0) d_Tw_become_122 rfl rfl (by decide) ?_
  refine mj_getR (pc := 123) d_Tw_become_123 fl_Tw_28 sh_1 rfl rfl (by decide) (by decide) (by decide) ?_
  refine mj_alen (pc := 126) (v := 720) d_Tw_become_126 sh_6 (by decide) (by decide) ?_
  refine cj_copy (pc := 127) d_Tw_become_127 cp_Tw_98 sh_45 sh_6 (by decide) (by decide) (by decide) (by decide) (Nat.le_of_ble_eq_true rfl) ?_
  show mj_R M_Tw_become 130 [some (.ref 1), some (.ref 40)] [] (SH, jn (mj_cp (mj_cp (mj_cp (mj_cp (mj_cp (mj_wr (mj_wr (mj_wr (mj_wr (mj_wr C0 1 0 (C0 40 0)) 1 1 (mj_wr C0 1 0 (C0 40 0) 40 1)) 1 2 (mj_wr (mj_wr C0 1 0 (C0 40 0)) 1 1 (mj_wr C0 1 0 (C0 40 0) 40 1) 40 2)) 1 3 (mj_wr (mj_wr (mj_wr C0 1 0 (C0 40 0)) 1 1 (mj_wr C0 1 0 (C0 40 0) 40 1)) 1 2 (mj_wr (mj_wr C0 1 0 (C0 40 0)) 1 1 (mj_wr C0 1 0 (C0 40 0) 40 1) 40 2) 40 3)) 1 4 (mj_wr (mj_wr (mj_wr (mj_wr C0 1 0 (C0 40 0)) 1 1 (mj_wr C0 1 0 (C0 40 0) 40 1)) 1 2 (mj_wr (mj_wr C0 1 0 (C0 40 0)) 1 1 (mj_wr C0 1 0 (C0 40 0) 40 1) 40 2)) 1 3 (mj_wr (mj_wr (mj_wr C0 1 0 (C0 40 0)) 1 1 (mj_wr C0 1 0 (C0 40 0) 40 1)) 1 2 (mj_wr (mj_wr C0 1 0 (C0 40 0)) 1 1 (mj_wr C0 1 0 (C0 40 0) 40 1) 40 2) 40 3) 40 4)) 41 2 0 0 12) 42 3 0 0 12) 43 4 0 0 12) 44 5 0 0 12) 45 6 0 0 720) D) none (SH, jn (C') D)
  refine mj_aload_n (pc := 130) (i := 0) d_Tw_become_130 rfl rfl (by decide) ?_
  refine mj_getR (pc := 131) d_Tw_become_131 fl_Tw_34 sh_1 rfl rfl (by decide) (by decide) (by decide) ?_
  refine mj_aload_n (pc := 134) (i := 1) d_Tw_become_134 rfl rfl (by decide) ?_
  refine mj_getR (pc := 135) d_Tw_become_135 fl_Tw_34 sh_40 rfl rfl (by decide) (by decide) (by decide) ?_
  obtain ⟨C1, hb2, h⟩ := bd1_some h
  refine mj_callV (pc := 138) (b := 7) (vs := [.ref 46]) (st := []) d_Tw_become_138 bB_Tw_become_Sk_become lk_Tw_104 iv_Sk_become rc_7 rfl (Nat.le_of_ble_eq_true rfl) (Nat.le_of_ble_eq_true rfl) (r_Sk_become_3 hb2) ?_
  show mj_R M_Tw_become 141 [some (.ref 1), some (.ref 40)] [] (SH, jn C1 D) none (SH, jn (C') D)
  refine mj_aload_n (pc := 141) (i := 0) d_Tw_become_141 rfl rfl (by decide) ?_
  refine mj_getR (pc := 142) d_Tw_become_142 fl_Tw_41 sh_1 rfl rfl (by decide) (by decide) (by decide) ?_
  refine mj_aload_n (pc := 145) (i := 1) d_Tw_become_145 rfl rfl (by decide) ?_
  refine mj_getR (pc := 146) d_Tw_become_146 fl_Tw_41 sh_40 rfl rfl (by decide) (by decide) (by decide) ?_
  obtain ⟨C3, hb4, h⟩ := bd1_some h
  refine mj_callV (pc := 149) (b := 10) (vs := [.ref 49]) (st := []) d_Tw_become_149 bB_Tw_become_Wr_become lk_Tw_108 iv_Wr_become rc_10 rfl (Nat.le_of_ble_eq_true rfl) (Nat.le_of_ble_eq_true rfl) (r_Wr_become_3 hb4) ?_
  show mj_R M_Tw_become 152 [some (.ref 1), some (.ref 40)] [] (SH, jn C3 D) none (SH, jn (C') D)
  refine mj_aload_n (pc := 152) (i := 0) d_Tw_become_152 rfl rfl (by decide) ?_
  refine mj_getR (pc := 153) d_Tw_become_153 fl_Tw_48 sh_1 rfl rfl (by decide) (by decide) (by decide) ?_
  refine mj_aload_n (pc := 156) (i := 1) d_Tw_become_156 rfl rfl (by decide) ?_
  refine mj_getR (pc := 157) d_Tw_become_157 fl_Tw_48 sh_40 rfl rfl (by decide) (by decide) (by decide) ?_
  obtain ⟨C5, hb6, h⟩ := bd1_some h
  refine mj_callV (pc := 160) (b := 12) (vs := [.ref 51]) (st := []) d_Tw_become_160 bB_Tw_become_Rl_become lk_Tw_111 iv_Rl_become rc_12 rfl (Nat.le_of_ble_eq_true rfl) (Nat.le_of_ble_eq_true rfl) (r_Rl_become_3 hb6) ?_
  show mj_R M_Tw_become 163 [some (.ref 1), some (.ref 40)] [] (SH, jn C5 D) none (SH, jn (C') D)
  refine mj_aload_n (pc := 163) (i := 0) d_Tw_become_163 rfl rfl (by decide) ?_
  refine mj_getR (pc := 164) d_Tw_become_164 fl_Tw_55 sh_1 rfl rfl (by decide) (by decide) (by decide) ?_
  refine mj_aload_n (pc := 167) (i := 1) d_Tw_become_167 rfl rfl (by decide) ?_
  refine mj_getR (pc := 168) d_Tw_become_168 fl_Tw_55 sh_40 rfl rfl (by decide) (by decide) (by decide) ?_
  obtain ⟨C7, hb8, h⟩ := bd1_some h
  refine mj_callV (pc := 171) (b := 15) (vs := [.ref 54]) (st := []) d_Tw_become_171 bB_Tw_become_Ln_become lk_Tw_114 iv_Ln_become rc_15 rfl (Nat.le_of_ble_eq_true rfl) (Nat.le_of_ble_eq_true rfl) (r_Ln_become_3 hb8) ?_
  show mj_R M_Tw_become 174 [some (.ref 1), some (.ref 40)] [] (SH, jn C7 D) none (SH, jn (C') D)
  obtain e_1 := inj1 h
  subst e_1
  exact mj_vret (pc := 174) d_Tw_become_174 rfl
